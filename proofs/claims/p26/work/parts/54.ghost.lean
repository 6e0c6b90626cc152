/-! GHOSTS: pure functions alone (whole's model and wrappers), no machine -/
def f_X7_bestInn_L22 : Nat → GS → Int → Int → Int → (GS → Int → Int → Int → Option (GS × Int)) → Option (GS × Int)
  | 0, _, _, _, _, _ => none
  | n + 1, G, x1, x2, x3, k => gd x3 (gd (G 3 0 4) (if x3 < (G 3 0 4) then bn1 (f_X3_copyFrom G 1 0) (fun G6 => bnd (f_X3_placeTeam G6 1 x3 0) (fun G8 r9 => bnd (f_X3_hoursUntilDelivered G8 1 (-1)) (fun G11 r12 => gd r12 (if r12 = (-1) then f_X7_bestInn_L22 n G11 x1 x2 (x3 + 1) k else gd x2 (if r12 < x2 then f_X7_bestInn_L22 n G11 x3 r12 (x3 + 1) k else f_X7_bestInn_L22 n G11 x1 x2 (x3 + 1) k))))) else k G x1 x2 x3))
def f_X7_bestInn (G : GS) : Option (GS × Int) :=
  gd (G 3 0 5) (if (G 3 0 5) < 10 then f_X7_bestInn_L22 gFuel G (-1) 501 0 (fun G19 y1_18 y2_18 y3_18 => some (G19, y1_18)) else some (G, (-1)))
def f_X7_clearText (G : GS) : Option (GS × Int) :=
  some ((gup G 4 0 1 0), G 4 0 1)
def f_X7_digestOfRoad_L22 (G : GS) (p1 : Int) : Nat → Int → Int → Int → (Int → Int → Int → Option (Int)) → Option (Int)
  | 0, _, _, _, _ => none
  | n + 1, x3, x5, x6, k => gd x6 (if 5 < x6 then k x3 x5 x6 else bn1 (f_X3_aboutStage G 0 x5 x6) (fun r6 => f_X7_digestOfRoad_L22 G p1 n ((31 * x3) + (bm r6)) x5 (x6 + 1) k))
def f_X7_digestOfRoad_L5 (G : GS) (p1 : Int) : Nat → Int → Int → (Int → Int → Option (Int)) → Option (Int)
  | 0, _, _, _ => none
  | n + 1, x3, x5, k => gd x5 (gd ((G 3 0 4) - 1) (if x5 < ((G 3 0 4) - 1) then f_X7_digestOfRoad_L22 G p1 gFuel x3 x5 0 (fun y3_8 y5_8 y6_8 => f_X7_digestOfRoad_L5 G p1 n y3_8 (y5_8 + 1) k) else k x3 x5))
def f_X7_digestOfRoad_L77 (G : GS) (p1 : Int) : Nat → Int → Int → Int → (Int → Int → Int → Option (Int)) → Option (Int)
  | 0, _, _, _, _ => none
  | n + 1, x3, x5, x6, k => gd x6 (if 6 < x6 then k x3 x5 x6 else bn1 (f_X3_aboutInn G 0 x5 x6) (fun r17 => f_X7_digestOfRoad_L77 G p1 n ((31 * x3) + (bm r17)) x5 (x6 + 1) k))
def f_X7_digestOfRoad_L62 (G : GS) (p1 : Int) : Nat → Int → Int → (Int → Int → Option (Int)) → Option (Int)
  | 0, _, _, _ => none
  | n + 1, x3, x5, k => gd x5 (gd (G 3 0 4) (if x5 < (G 3 0 4) then f_X7_digestOfRoad_L77 G p1 gFuel x3 x5 0 (fun y3_19 y5_19 y6_19 => f_X7_digestOfRoad_L62 G p1 n y3_19 (y5_19 + 1) k) else k x3 x5))
def f_X7_digestOfRoad (G : GS) (p1 : Int) : Option (Int) :=
  f_X7_digestOfRoad_L5 G p1 gFuel p1 0 (fun y3_10 y5_10 => f_X7_digestOfRoad_L62 G p1 gFuel y3_10 0 (fun y3_21 y5_21 => some y3_21))
def f_X7_digestOfTeams_L20 (G : GS) (p1 : Int) : Nat → Int → Int → Int → (Int → Int → Int → Option (Int)) → Option (Int)
  | 0, _, _, _, _ => none
  | n + 1, x3, x5, x6, k => gd x6 (if 9 < x6 then k x3 x5 x6 else ga x5 10 (bn1 (f_X6_about G (10 * 0 + x5) x6) (fun r8 => f_X7_digestOfTeams_L20 G p1 n ((31 * x3) + (bm r8)) x5 (x6 + 1) k)))
def f_X7_digestOfTeams_L5 (G : GS) (p1 : Int) : Nat → Int → Int → (Int → Int → Option (Int)) → Option (Int)
  | 0, _, _, _ => none
  | n + 1, x3, x5, k => gd x5 (gd (G 3 0 5) (if x5 < (G 3 0 5) then f_X7_digestOfTeams_L20 G p1 gFuel x3 x5 0 (fun y3_10 y5_10 y6_10 => f_X7_digestOfTeams_L5 G p1 n y3_10 (y5_10 + 1) k) else k x3 x5))
def f_X7_digestOfTeams (G : GS) (p1 : Int) : Option (Int) :=
  f_X7_digestOfTeams_L5 G p1 gFuel p1 0 (fun y3_12 y5_12 => some y3_12)
def f_X7_digestOfLetters_L20 (G : GS) (p1 : Int) : Nat → Int → Int → Int → (Int → Int → Int → Option (Int)) → Option (Int)
  | 0, _, _, _, _ => none
  | n + 1, x3, x5, x6, k => gd x6 (if 7 < x6 then k x3 x5 x6 else ga x5 12 (bn1 (f_X2_about G (12 * 0 + x5) x6) (fun r8 => f_X7_digestOfLetters_L20 G p1 n ((31 * x3) + (bm r8)) x5 (x6 + 1) k)))
def f_X7_digestOfLetters_L5 (G : GS) (p1 : Int) : Nat → Int → Int → (Int → Int → Option (Int)) → Option (Int)
  | 0, _, _, _ => none
  | n + 1, x3, x5, k => gd x5 (gd (G 3 0 6) (if x5 < (G 3 0 6) then f_X7_digestOfLetters_L20 G p1 gFuel x3 x5 0 (fun y3_10 y5_10 y6_10 => bn1 (f_X3_hindrance G 0 y5_10) (fun r12 => f_X7_digestOfLetters_L5 G p1 n ((31 * y3_10) + (bm r12)) (y5_10 + 1) k)) else k x3 x5))
def f_X7_digestOfLetters (G : GS) (p1 : Int) : Option (Int) :=
  f_X7_digestOfLetters_L5 G p1 gFuel p1 0 (fun y3_14 y5_14 => some y3_14)
def f_X7_digest_L21 : Nat → GS → Int → Int → (GS → Int → Int → Option (GS × Int)) → Option (GS × Int)
  | 0, _, _, _, _ => none
  | n + 1, G, x1, x3, k => gd x3 (if 10 < x3 then k G x1 x3 else bn1 (f_X3_number G 0 x3) (fun r3 => f_X7_digest_L21 n G ((31 * x1) + (bm r3)) (x3 + 1) k))
def f_X7_digest (G : GS) : Option (GS × Int) :=
  f_X7_digest_L21 gFuel G ((31 * 3491) + (bm (G 4 0 1))) 0 (fun G6 y1_5 y3_5 => bn1 (f_X7_digestOfRoad G6 y1_5) (fun r7 => bn1 (f_X7_digestOfTeams G6 r7) (fun r9 => bn1 (f_X7_digestOfLetters G6 r9) (fun r11 => bn1 (f_X3_copyFrom G6 1 0) (fun G13 => bnd (f_X3_hoursUntilDelivered G13 1 (-1)) (fun G15 r16 => some (G15, (31 * ((31 * r11) + (bm r16))) + (bm (G15 0 0 1)))))))))
def f_X3_hoursBetween_L5 (G : GS) (o : Int) (p1 : Int) (p2 : Int) : Nat → Int → Int → (Int → Int → Option (Int)) → Option (Int)
  | 0, _, _, _ => none
  | n + 1, x3, x4, k => gd x4 (gd p2 (if x4 < p2 then ga x4 7 (f_X3_hoursBetween_L5 G o p1 p2 n (x3 + (G 5 (7 * o + x4) 0)) (x4 + 1) k) else k x3 x4))
def f_X3_hoursBetween (G : GS) (o : Int) (p1 : Int) (p2 : Int) : Option (Int) :=
  f_X3_hoursBetween_L5 G o p1 p2 gFuel 0 p1 (fun y3_6 y4_6 => some y3_6)
def f_X8_begins_L2 (p1 : Int) : Nat → GS → Int → (GS → Int → Option (GS)) → Option (GS)
  | 0, _, _, _ => none
  | n + 1, G, x2, k => gd x2 (if x2 < 260 then ga x2 260 (f_X8_begins_L2 p1 n (gup G 10 0 x2 0) (x2 + 1) k) else k G x2)
def f_X8_begins_L31 (p1 : Int) : Nat → GS → Int → (GS → Int → Option (GS)) → Option (GS)
  | 0, _, _, _ => none
  | n + 1, G, x2, k => gd x2 (gd p1 (if x2 < p1 then ga (30 + (3 * x2)) 260 (ga ((30 + (3 * x2)) + 1) 260 (f_X8_begins_L31 p1 n (gup (gup G 10 0 (30 + (3 * x2)) 2) 10 0 ((30 + (3 * x2)) + 1) 100) (x2 + 1) k)) else k G x2))
def f_X8_begins (G : GS) (p1 : Int) : Option (GS) :=
  f_X8_begins_L2 p1 gFuel G 0 (fun G5 y2_4 => f_X8_begins_L31 p1 gFuel (gup G5 10 0 0 p1) 0 (fun G12 y2_11 => some G12))
def f_X8_thrown (G : GS) : Option (Int) :=
  some (G 8 0 4)
def f_X8_in (G : GS) (p1 : Int) (p2 : Int) (p3 : Int) : Option (Int) :=
  gj p1 (gj p2 (if p1 < p2 then some 0 else gj p3 (if p3 < p1 then some 0 else some 1)))
def f_X8_isStage (G : GS) (p1 : Int) : Option (Int) :=
  bn1 (f_X8_in G (bm p1) 0 ((bm (G 10 0 0)) - 2)) (fun r1 => gb r1 (some r1))
def f_X8_throwing (G : GS) (p1 : Int) : Option (GS × Int) :=
  some ((gup G 8 0 4 p1), 0)
def f_X8_save_L10 : Nat → GS → Int → (GS → Int → Option (GS)) → Option (GS)
  | 0, _, _, _ => none
  | n + 1, G, x1, k => gd x1 (if x1 < 780 then ga (x1 + 260) 1040 (ga x1 1040 (f_X8_save_L10 n (gup G 10 1 x1 (G 10 1 (x1 + 260))) (x1 + 1) k)) else k G x1)
def f_X8_save_L51 : Nat → GS → Int → (GS → Int → Option (GS)) → Option (GS)
  | 0, _, _, _ => none
  | n + 1, G, x1, k => gd x1 (if x1 < 260 then ga x1 260 (ga ((260 * (G 8 0 3)) + x1) 1040 (f_X8_save_L51 n (gup G 10 1 ((260 * (G 8 0 3)) + x1) (G 10 0 x1)) (x1 + 1) k)) else k G x1)
def f_X8_save (G : GS) : Option (GS) :=
  gd (G 8 0 3) (if (G 8 0 3) = 4 then f_X8_save_L10 gFuel G 0 (fun G8 y1_7 => f_X8_save_L51 gFuel (gup G8 8 0 3 ((G8 8 0 3) - 1)) 0 (fun G14 y1_13 => some (gup G14 8 0 3 ((G14 8 0 3) + 1)))) else f_X8_save_L51 gFuel G 0 (fun G16 y1_15 => some (gup G16 8 0 3 ((G16 8 0 3) + 1))))
def f_X8_hoursOf (G : GS) (p1 : Int) : Option (Int) :=
  ga (9 + (3 * p1)) 260 (some (G 10 0 (9 + (3 * p1))))
def f_X8_fine (G : GS) (p1 : Int) : Option (GS × Int) :=
  some ((gup G 8 0 4 0), p1)
def f_X8_setStage (G : GS) (p1 : Int) (p2 : Int) (p3 : Int) (p4 : Int) : Option (GS × Int) :=
  bn1 (f_X8_isStage G p1) (fun r1 => gd r1 (if r1 = 0 then bnd (f_X8_throwing G 1) (fun G5 r6 => some (G5, r6)) else bn1 (f_X8_in G (bm p2) 1 9) (fun r8 => gd r8 (if r8 = 0 then bnd (f_X8_throwing G 2) (fun G12 r13 => some (G12, r13)) else bn1 (f_X8_in G (bm p3) (-5) 5) (fun r15 => gd r15 (if r15 = 0 then bnd (f_X8_throwing G 2) (fun G19 r20 => some (G19, r20)) else bn1 (f_X8_save G) (fun G22 => bn1 (f_X8_hoursOf G22 p1) (fun r24 => ga (9 + (3 * p1)) 260 (ga ((9 + (3 * p1)) + 1) 260 (gd p4 (if p4 = 0 then ga ((9 + (3 * p1)) + 2) 260 (bnd (f_X8_fine (gup (gup (gup G22 10 0 (9 + (3 * p1)) p2) 10 0 ((9 + (3 * p1)) + 1) p3) 10 0 ((9 + (3 * p1)) + 2) 0) r24) (fun G31 r32 => some (G31, r32))) else ga ((9 + (3 * p1)) + 2) 260 (bnd (f_X8_fine (gup (gup (gup G22 10 0 (9 + (3 * p1)) p2) 10 0 ((9 + (3 * p1)) + 1) p3) 10 0 ((9 + (3 * p1)) + 2) 1) r24) (fun G35 r36 => some (G35, r36))))))))))))))
def f_X8_isInn (G : GS) (p1 : Int) : Option (Int) :=
  bn1 (f_X8_in G (bm p1) 0 ((bm (G 10 0 0)) - 1)) (fun r1 => gb r1 (some r1))
def f_X8_setInn (G : GS) (p1 : Int) (p2 : Int) (p3 : Int) (p4 : Int) : Option (GS × Int) :=
  bn1 (f_X8_isInn G p1) (fun r1 => gd r1 (if r1 = 0 then bnd (f_X8_throwing G 1) (fun G5 r6 => some (G5, r6)) else bn1 (f_X8_in G (bm p2) 0 6) (fun r8 => gd r8 (if r8 = 0 then bnd (f_X8_throwing G 2) (fun G12 r13 => some (G12, r13)) else bn1 (f_X8_in G (bm p3) 0 999) (fun r15 => gd r15 (if r15 = 0 then bnd (f_X8_throwing G 2) (fun G19 r20 => some (G19, r20)) else bn1 (f_X8_save G) (fun G22 => ga ((30 + (3 * p1)) + 1) 260 (ga (30 + (3 * p1)) 260 (gd p4 (if p4 = 0 then ga ((30 + (3 * p1)) + 2) 260 (bnd (f_X8_fine (gup (gup (gup G22 10 0 (30 + (3 * p1)) p2) 10 0 ((30 + (3 * p1)) + 1) p3) 10 0 ((30 + (3 * p1)) + 2) 0) (G22 10 0 ((30 + (3 * p1)) + 1))) (fun G29 r30 => some (G29, r30))) else ga ((30 + (3 * p1)) + 2) 260 (bnd (f_X8_fine (gup (gup (gup G22 10 0 (30 + (3 * p1)) p2) 10 0 ((30 + (3 * p1)) + 1) p3) 10 0 ((30 + (3 * p1)) + 2) 1) (G22 10 0 ((30 + (3 * p1)) + 1))) (fun G33 r34 => some (G33, r34)))))))))))))
def f_X8_teamAt (G : GS) (p1 : Int) (p2 : Int) : Option (Int) :=
  some ((54 + (11 * p1)) + p2)
def f_X8_adds_L11 (p1 : Int) (p2 : Int) : Nat → GS → Int → Int → (GS → Int → Int → Option (GS)) → Option (GS)
  | 0, _, _, _, _ => none
  | n + 1, G, x3, x4, k => gd x4 (if x4 < 11 then bn1 (f_X8_teamAt G x3 x4) (fun r3 => ga r3 260 (f_X8_adds_L11 p1 p2 n (gup G 10 0 r3 0) x3 (x4 + 1) k)) else k G x3 x4)
def f_X8_adds (G : GS) (p1 : Int) (p2 : Int) : Option (GS) :=
  f_X8_adds_L11 p1 p2 gFuel G (G 10 0 7) 0 (fun G7 y3_6 y4_6 => bn1 (f_X8_teamAt G7 y3_6 0) (fun r8 => ga r8 260 (bn1 (f_X8_teamAt (gup G7 10 0 r8 p1) y3_6 1) (fun r11 => ga r11 260 (bn1 (f_X8_teamAt (gup (gup G7 10 0 r8 p1) 10 0 r11 p2) y3_6 2) (fun r14 => ga r14 260 (bn1 (f_X8_teamAt (gup (gup (gup G7 10 0 r8 p1) 10 0 r11 p2) 10 0 r14 p1) y3_6 4) (fun r17 => ga r17 260 (nm (gup (gup (gup (gup (gup G7 10 0 r8 p1) 10 0 r11 p2) 10 0 r14 p1) 10 0 r17 (-1)) 10 0 7 (((gup (gup (gup (gup G7 10 0 r8 p1) 10 0 r11 p2) 10 0 r14 p1) 10 0 r17 (-1)) 10 0 7) + 1)) (fun G20 => some G20))))))))))
def f_X8_addTeam (G : GS) (p1 : Int) (p2 : Int) : Option (GS × Int) :=
  bn1 (f_X8_isInn G p1) (fun r1 => gd r1 (if r1 = 0 then bnd (f_X8_throwing G 1) (fun G5 r6 => some (G5, r6)) else bn1 (f_X8_in G (bm p2) 0 100) (fun r8 => gd r8 (if r8 = 0 then bnd (f_X8_throwing G 2) (fun G12 r13 => some (G12, r13)) else gd (G 10 0 7) (if (G 10 0 7) = 10 then bnd (f_X8_throwing G 3) (fun G17 r18 => some (G17, r18)) else bn1 (f_X8_save G) (fun G20 => bn1 (f_X8_adds G20 p1 p2) (fun G22 => bnd (f_X8_fine G22 ((G22 10 0 7) - 1)) (fun G24 r25 => some (G24, r25)))))))))
def f_X8_letterAt (G : GS) (p1 : Int) (p2 : Int) : Option (Int) :=
  some ((164 + (8 * p1)) + p2)
def f_X8_give (G : GS) (p1 : Int) (p2 : Int) (p3 : Int) : Option (GS × Int) :=
  bn1 (f_X8_isInn G p1) (fun r1 => gd r1 (if r1 = 0 then bnd (f_X8_throwing G 1) (fun G5 r6 => some (G5, r6)) else bn1 (f_X8_isInn G p2) (fun r8 => gd r8 (if r8 = 0 then bnd (f_X8_throwing G 1) (fun G12 r13 => some (G12, r13)) else gd p1 (gd p2 (if p1 = p2 then bnd (f_X8_throwing G 2) (fun G18 r19 => some (G18, r19)) else gd (G 10 0 8) (if (G 10 0 8) = 12 then bnd (f_X8_throwing G 3) (fun G23 r24 => some (G23, r24)) else bn1 (f_X8_save G) (fun G26 => bn1 (f_X8_letterAt G26 (G26 10 0 8) 0) (fun r28 => ga r28 260 (bn1 (f_X8_letterAt (gup G26 10 0 r28 p1) (G26 10 0 8) 1) (fun r31 => ga r31 260 (bn1 (f_X8_letterAt (gup (gup G26 10 0 r28 p1) 10 0 r31 p2) (G26 10 0 8) 2) (fun r34 => gd p3 (if p3 = 0 then ga r34 260 (bn1 (f_X8_letterAt (gup (gup (gup G26 10 0 r28 p1) 10 0 r31 p2) 10 0 r34 0) (G26 10 0 8) 3) (fun r39 => ga r39 260 (bn1 (f_X8_letterAt (gup (gup (gup (gup G26 10 0 r28 p1) 10 0 r31 p2) 10 0 r34 0) 10 0 r39 ((gup (gup (gup G26 10 0 r28 p1) 10 0 r31 p2) 10 0 r34 0) 10 0 1)) (G26 10 0 8) 4) (fun r42 => ga r42 260 (nm (gup (gup (gup (gup (gup G26 10 0 r28 p1) 10 0 r31 p2) 10 0 r34 0) 10 0 r39 ((gup (gup (gup G26 10 0 r28 p1) 10 0 r31 p2) 10 0 r34 0) 10 0 1)) 10 0 r42 p1) (fun G45 => bn1 (f_X8_letterAt G45 (G26 10 0 8) 5) (fun r47 => ga r47 260 (bn1 (f_X8_letterAt (gup G45 10 0 r47 (-1)) (G26 10 0 8) 6) (fun r50 => ga r50 260 (bn1 (f_X8_letterAt (gup (gup G45 10 0 r47 (-1)) 10 0 r50 (-1)) (G26 10 0 8) 7) (fun r53 => ga r53 260 (nm (gup (gup (gup (gup G45 10 0 r47 (-1)) 10 0 r50 (-1)) 10 0 r53 0) 10 0 8 (((gup (gup (gup G45 10 0 r47 (-1)) 10 0 r50 (-1)) 10 0 r53 0) 10 0 8) + 1)) (fun G56 => bnd (f_X8_fine G56 (G26 10 0 8)) (fun G58 r59 => some (G58, r59))))))))))))))) else ga r34 260 (bn1 (f_X8_letterAt (gup (gup (gup G26 10 0 r28 p1) 10 0 r31 p2) 10 0 r34 1) (G26 10 0 8) 3) (fun r62 => ga r62 260 (bn1 (f_X8_letterAt (gup (gup (gup (gup G26 10 0 r28 p1) 10 0 r31 p2) 10 0 r34 1) 10 0 r62 ((gup (gup (gup G26 10 0 r28 p1) 10 0 r31 p2) 10 0 r34 1) 10 0 1)) (G26 10 0 8) 4) (fun r65 => ga r65 260 (nm (gup (gup (gup (gup (gup G26 10 0 r28 p1) 10 0 r31 p2) 10 0 r34 1) 10 0 r62 ((gup (gup (gup G26 10 0 r28 p1) 10 0 r31 p2) 10 0 r34 1) 10 0 1)) 10 0 r65 p1) (fun G68 => bn1 (f_X8_letterAt G68 (G26 10 0 8) 5) (fun r70 => ga r70 260 (bn1 (f_X8_letterAt (gup G68 10 0 r70 (-1)) (G26 10 0 8) 6) (fun r73 => ga r73 260 (bn1 (f_X8_letterAt (gup (gup G68 10 0 r70 (-1)) 10 0 r73 (-1)) (G26 10 0 8) 7) (fun r76 => ga r76 260 (nm (gup (gup (gup (gup G68 10 0 r70 (-1)) 10 0 r73 (-1)) 10 0 r76 0) 10 0 8 (((gup (gup (gup G68 10 0 r70 (-1)) 10 0 r73 (-1)) 10 0 r76 0) 10 0 8) + 1)) (fun G79 => bnd (f_X8_fine G79 (G26 10 0 8)) (fun G81 r82 => some (G81, r82)))))))))))))))))))))))))))))
def f_X8_ofLetter (G : GS) (p1 : Int) (p2 : Int) : Option (Int) :=
  bn1 (f_X8_letterAt G p1 p2) (fun r1 => ga r1 260 (some (G 10 0 r1)))
def f_X8_isDelivered (G : GS) (p1 : Int) : Option (Int) :=
  bn1 (f_X8_ofLetter G p1 6) (fun r1 => gd r1 (if r1 = (-1) then some 0 else some 1))
def f_X8_collect_L40 : Nat → GS → Int → Int → Int → Int → Int → (GS → Int → Int → Int → Int → Int → Option (GS × Int)) → Option (GS × Int)
  | 0, _, _, _, _, _, _, _ => none
  | n + 1, G, x1, x2, x3, x4, x5, k => gd x5 (if x5 < 8 then bn1 (f_X8_letterAt G x1 x5) (fun r14 => bn1 (f_X8_ofLetter G x3 x5) (fun r16 => ga r14 260 (f_X8_collect_L40 n (gup G 10 0 r14 r16) x1 x2 x3 x4 (x5 + 1) k))) else k G x1 x2 x3 x4 x5)
def f_X8_collect_L16 : Nat → GS → Int → Int → Int → (GS → Int → Int → Int → Option (GS × Int)) → Option (GS × Int)
  | 0, _, _, _, _, _ => none
  | n + 1, G, x1, x2, x3, k => gd x3 (gd x2 (if x3 < x2 then bn1 (f_X8_isDelivered G x3) (fun r6 => gd r6 (if r6 = 0 then bn1 (f_X8_ofLetter G x3 5) (fun r10 => f_X8_collect_L40 gFuel G x1 x2 x3 r10 0 (fun G20 y1_19 y2_19 y3_19 y4_19 y5_19 => gd y4_19 (if y4_19 = (-1) then f_X8_collect_L16 n G20 (y1_19 + 1) y2_19 (y3_19 + 1) k else bn1 (f_X8_teamAt G20 y4_19 4) (fun r23 => ga r23 260 (f_X8_collect_L16 n (gup G20 10 0 r23 y1_19) (y1_19 + 1) y2_19 (y3_19 + 1) k))))) else f_X8_collect_L16 n G x1 x2 (x3 + 1) k)) else k G x1 x2 x3))
def f_X8_collect_L108 : Nat → GS → Int → Int → Int → Int → (GS → Int → Int → Int → Int → Option (GS × Int)) → Option (GS × Int)
  | 0, _, _, _, _, _, _ => none
  | n + 1, G, x1, x2, x3, x4, k => gd x4 (if x4 < 8 then bn1 (f_X8_letterAt G x3 x4) (fun r33 => ga r33 260 (f_X8_collect_L108 n (gup G 10 0 r33 0) x1 x2 x3 (x4 + 1) k)) else k G x1 x2 x3 x4)
def f_X8_collect_L100 : Nat → GS → Int → Int → Int → (GS → Int → Int → Int → Option (GS × Int)) → Option (GS × Int)
  | 0, _, _, _, _, _ => none
  | n + 1, G, x1, x2, x3, k => gd x3 (gd x2 (if x3 < x2 then f_X8_collect_L108 gFuel G x1 x2 x3 0 (fun G37 y1_36 y2_36 y3_36 y4_36 => f_X8_collect_L100 n G37 y1_36 y2_36 (y3_36 + 1) k) else k G x1 x2 x3))
def f_X8_collect (G : GS) : Option (GS × Int) :=
  bn1 (f_X8_save G) (fun G1 => f_X8_collect_L16 gFuel G1 0 (G1 10 0 8) 0 (fun G27 y1_26 y2_26 y3_26 => f_X8_collect_L100 gFuel G27 y1_26 y2_26 y1_26 (fun G39 y1_38 y2_38 y3_38 => bnd (f_X8_fine (gup G39 10 0 8 y1_38) (y2_38 - y1_38)) (fun G40 r41 => some (G40, r41)))))
def f_X8_of (G : GS) (p1 : Int) (p2 : Int) : Option (Int) :=
  bn1 (f_X8_teamAt G p1 p2) (fun r1 => ga r1 260 (some (G 10 0 r1)))
def f_X8_rests_L2 : Nat → GS → Int → (GS → Int → Option (GS)) → Option (GS)
  | 0, _, _, _ => none
  | n + 1, G, x1, k => gd x1 (gd (G 10 0 7) (if x1 < (G 10 0 7) then bn1 (f_X8_of G x1 3) (fun r4 => gd r4 (if r4 = 0 then bn1 (f_X8_of G x1 2) (fun r8 => bn1 (f_X8_of G x1 1) (fun r10 => gd r10 (if 0 < r10 then ga ((30 + (3 * r8)) + 1) 260 (gd (G 10 0 ((30 + (3 * r8)) + 1)) (if 0 < (G 10 0 ((30 + (3 * r8)) + 1)) then bn1 (f_X8_of G x1 1) (fun r17 => nm (gup (gup G 10 0 ((30 + (3 * r8)) + 1) ((G 10 0 ((30 + (3 * r8)) + 1)) - 1)) 10 0 6 (((gup G 10 0 ((30 + (3 * r8)) + 1) ((G 10 0 ((30 + (3 * r8)) + 1)) - 1)) 10 0 6) + 1)) (fun G22 => bn1 (f_X8_teamAt G22 x1 9) (fun r24 => ga r24 260 (bn1 (f_X8_teamAt (gup G22 10 0 r24 ((G22 10 0 r24) + 1)) x1 1) (fun r28 => gd (r17 - 6) (if (r17 - 6) < 0 then ga r28 260 (f_X8_rests_L2 n (gup (gup G22 10 0 r24 ((G22 10 0 r24) + 1)) 10 0 r28 0) (x1 + 1) k) else ga r28 260 (f_X8_rests_L2 n (gup (gup G22 10 0 r24 ((G22 10 0 r24) + 1)) 10 0 r28 (r17 - 6)) (x1 + 1) k))))))) else bn1 (f_X8_of G x1 1) (fun r34 => nm (gup (gup G 10 0 ((30 + (3 * r8)) + 1) ((G 10 0 ((30 + (3 * r8)) + 1)) - 0)) 10 0 6 (((gup G 10 0 ((30 + (3 * r8)) + 1) ((G 10 0 ((30 + (3 * r8)) + 1)) - 0)) 10 0 6) + 0)) (fun G39 => bn1 (f_X8_teamAt G39 x1 9) (fun r41 => ga r41 260 (bn1 (f_X8_teamAt (gup G39 10 0 r41 ((G39 10 0 r41) + 0)) x1 1) (fun r45 => gd (r34 - 1) (if (r34 - 1) < 0 then ga r45 260 (f_X8_rests_L2 n (gup (gup G39 10 0 r41 ((G39 10 0 r41) + 0)) 10 0 r45 0) (x1 + 1) k) else ga r45 260 (f_X8_rests_L2 n (gup (gup G39 10 0 r41 ((G39 10 0 r41) + 0)) 10 0 r45 (r34 - 1)) (x1 + 1) k))))))))) else bn1 (f_X8_of G x1 1) (fun r51 => ga ((30 + (3 * r8)) + 1) 260 (nm (gup (gup G 10 0 ((30 + (3 * r8)) + 1) ((G 10 0 ((30 + (3 * r8)) + 1)) - 0)) 10 0 6 (((gup G 10 0 ((30 + (3 * r8)) + 1) ((G 10 0 ((30 + (3 * r8)) + 1)) - 0)) 10 0 6) + 0)) (fun G57 => bn1 (f_X8_teamAt G57 x1 9) (fun r59 => ga r59 260 (bn1 (f_X8_teamAt (gup G57 10 0 r59 ((G57 10 0 r59) + 0)) x1 1) (fun r63 => gd (r51 - 1) (if (r51 - 1) < 0 then ga r63 260 (f_X8_rests_L2 n (gup (gup G57 10 0 r59 ((G57 10 0 r59) + 0)) 10 0 r63 0) (x1 + 1) k) else ga r63 260 (f_X8_rests_L2 n (gup (gup G57 10 0 r59 ((G57 10 0 r59) + 0)) 10 0 r63 (r51 - 1)) (x1 + 1) k))))))))))) else f_X8_rests_L2 n G (x1 + 1) k)) else k G x1))
def f_X8_rests (G : GS) : Option (GS) :=
  f_X8_rests_L2 gFuel G 0 (fun G70 y1_69 => some G70)
def f_X8_between (G : GS) (p1 : Int) (p2 : Int) : Option (Int) :=
  gd p1 (gd p2 (if p1 < p2 then some p1 else some p2))
def f_X8_effort (G : GS) (p1 : Int) (p2 : Int) : Option (Int) :=
  bn1 (f_X8_between G p1 p2) (fun r1 => ga ((9 + (3 * r1)) + 1) 260 (bn1 (f_X8_hoursOf G r1) (fun r4 => gd p1 (gd p2 (if p1 < p2 then gd ((5 * r4) + (4 * (G 10 0 ((9 + (3 * r1)) + 1)))) (if ((5 * r4) + (4 * (G 10 0 ((9 + (3 * r1)) + 1)))) < 5 then some 5 else some ((5 * r4) + (4 * (G 10 0 ((9 + (3 * r1)) + 1))))) else gd ((5 * r4) + (-(4 * (G 10 0 ((9 + (3 * r1)) + 1))))) (if ((5 * r4) + (-(4 * (G 10 0 ((9 + (3 * r1)) + 1))))) < 5 then some 5 else some ((5 * r4) + (-(4 * (G 10 0 ((9 + (3 * r1)) + 1)))))))))))
def f_X8_comes (G : GS) (p1 : Int) (p2 : Int) : Option (GS) :=
  bn1 (f_X8_letterAt G p1 5) (fun r1 => ga r1 260 (bn1 (f_X8_ofLetter (gup G 10 0 r1 (-1)) p1 1) (fun r4 => gd p2 (gd r4 (if p2 = r4 then bn1 (f_X8_ofLetter (gup G 10 0 r1 (-1)) p1 3) (fun r9 => bn1 (f_X8_letterAt (gup G 10 0 r1 (-1)) p1 6) (fun r11 => ga r11 260 (nm (gup (gup (gup G 10 0 r1 (-1)) 10 0 r11 (((gup G 10 0 r1 (-1)) 10 0 1) + 1)) 10 0 2 (((gup (gup G 10 0 r1 (-1)) 10 0 r11 (((gup G 10 0 r1 (-1)) 10 0 1) + 1)) 10 0 2) + 1)) (fun G14 => bn1 (f_X8_ofLetter (gup G14 10 0 3 ((G14 10 0 3) + ((((gup G 10 0 r1 (-1)) 10 0 1) + 1) - r9))) p1 2) (fun r16 => nm (gup (gup G14 10 0 3 ((G14 10 0 3) + ((((gup G 10 0 r1 (-1)) 10 0 1) + 1) - r9))) 10 0 4 (((gup G14 10 0 3 ((G14 10 0 3) + ((((gup G 10 0 r1 (-1)) 10 0 1) + 1) - r9))) 10 0 4) + r16)) (fun G18 => bn1 (f_X8_ofLetter G18 p1 2) (fun r20 => gd r20 (if r20 = 1 then some (gup G18 10 0 5 ((G18 10 0 5) + ((((gup G 10 0 r1 (-1)) 10 0 1) + 1) - r9))) else some (gup G18 10 0 5 ((G18 10 0 5) + 0)))))))))) else some (gup G 10 0 r1 (-1)))))))
def f_X8_arrives (G : GS) (p1 : Int) : Option (GS) :=
  bn1 (f_X8_of G p1 2) (fun r1 => bn1 (f_X8_of G p1 5) (fun r3 => gd r3 (if r3 = 1 then bn1 (f_X8_teamAt G p1 8) (fun r7 => ga r7 260 (bn1 (f_X8_teamAt (gup G 10 0 r7 ((G 10 0 r7) + 1)) p1 5) (fun r10 => ga r10 260 (some (gup (gup G 10 0 r7 ((G 10 0 r7) + 1)) 10 0 r10 0))))) else bn1 (f_X8_of G p1 10) (fun r13 => bn1 (f_X8_effort G r13 r1) (fun r15 => bn1 (f_X8_of G p1 1) (fun r17 => bn1 (f_X8_teamAt G p1 1) (fun r19 => gd (r17 + r15) (if 100 < (r17 + r15) then ga r19 260 (bn1 (f_X8_teamAt (gup G 10 0 r19 100) p1 6) (fun r24 => ga r24 260 (bn1 (f_X8_teamAt (gup (gup G 10 0 r19 100) 10 0 r24 (((gup G 10 0 r19 100) 10 0 r24) + 1)) p1 7) (fun r27 => ga r27 260 (nm (gup (gup (gup G 10 0 r19 100) 10 0 r24 (((gup G 10 0 r19 100) 10 0 r24) + 1)) 10 0 r27 (((gup (gup G 10 0 r19 100) 10 0 r24 (((gup G 10 0 r19 100) 10 0 r24) + 1)) 10 0 r27) + r15)) (fun G30 => bn1 (f_X8_of G30 p1 4) (fun r32 => bn1 (f_X8_comes G30 r32 r1) (fun G34 => bn1 (f_X8_teamAt G34 p1 4) (fun r36 => ga r36 260 (some (gup G34 10 0 r36 (-1)))))))))))) else ga r19 260 (bn1 (f_X8_teamAt (gup G 10 0 r19 (r17 + r15)) p1 6) (fun r40 => ga r40 260 (bn1 (f_X8_teamAt (gup (gup G 10 0 r19 (r17 + r15)) 10 0 r40 (((gup G 10 0 r19 (r17 + r15)) 10 0 r40) + 1)) p1 7) (fun r43 => ga r43 260 (nm (gup (gup (gup G 10 0 r19 (r17 + r15)) 10 0 r40 (((gup G 10 0 r19 (r17 + r15)) 10 0 r40) + 1)) 10 0 r43 (((gup (gup G 10 0 r19 (r17 + r15)) 10 0 r40 (((gup G 10 0 r19 (r17 + r15)) 10 0 r40) + 1)) 10 0 r43) + r15)) (fun G46 => bn1 (f_X8_of G46 p1 4) (fun r48 => bn1 (f_X8_comes G46 r48 r1) (fun G50 => bn1 (f_X8_teamAt G50 p1 4) (fun r52 => ga r52 260 (some (gup G50 10 0 r52 (-1))))))))))))))))))))
def f_X8_roads_L2 : Nat → GS → Int → (GS → Int → Option (GS)) → Option (GS)
  | 0, _, _, _ => none
  | n + 1, G, x1, k => gd x1 (gd (G 10 0 7) (if x1 < (G 10 0 7) then bn1 (f_X8_of G x1 3) (fun r4 => gd r4 (if 0 < r4 then bn1 (f_X8_teamAt G x1 3) (fun r8 => ga r8 260 (bn1 (f_X8_of (gup G 10 0 r8 ((G 10 0 r8) - 1)) x1 3) (fun r11 => gd r11 (if r11 = 0 then bn1 (f_X8_arrives (gup G 10 0 r8 ((G 10 0 r8) - 1)) x1) (fun G15 => f_X8_roads_L2 n G15 (x1 + 1) k) else f_X8_roads_L2 n (gup G 10 0 r8 ((G 10 0 r8) - 1)) (x1 + 1) k)))) else f_X8_roads_L2 n G (x1 + 1) k)) else k G x1))
def f_X8_roads (G : GS) : Option (GS) :=
  f_X8_roads_L2 gFuel G 0 (fun G18 y1_17 => some G18)
def f_X8_lies (G : GS) (p1 : Int) : Option (Int) :=
  bn1 (f_X8_isDelivered G p1) (fun r1 => gd r1 (if r1 = 0 then bn1 (f_X8_ofLetter G p1 5) (fun r5 => gd r5 (if r5 = (-1) then some 1 else some 0)) else some 0))
def f_X8_isAhead (G : GS) (p1 : Int) (p2 : Int) : Option (Int) :=
  bn1 (f_X8_ofLetter G p2 2) (fun r1 => bn1 (f_X8_ofLetter G p1 2) (fun r3 => gd (r1 - r3) (if (r1 - r3) = 0 then bn1 (f_X8_ofLetter G p1 3) (fun r7 => bn1 (f_X8_ofLetter G p2 3) (fun r9 => gd (r7 - r9) (if (r7 - r9) < 0 then some 1 else if (r7 - r9) = 0 then gd p1 (gd p2 (if p1 < p2 then some 1 else some 0)) else some 0))) else if (r1 - r3) < 0 then some 1 else some 0)))
def f_X8_toward (G : GS) (p1 : Int) (p2 : Int) : Option (Int) :=
  gd p1 (gd p2 (if p1 < p2 then some (p1 + 1) else some (p1 - 1)))
def f_X8_isBlocked (G : GS) (p1 : Int) : Option (Int) :=
  ga ((9 + (3 * p1)) + 2) 260 (gd (G 10 0 ((9 + (3 * p1)) + 2)) (if (G 10 0 ((9 + (3 * p1)) + 2)) = 1 then some 1 else some 0))
def f_X8_isShut (G : GS) (p1 : Int) : Option (Int) :=
  ga ((30 + (3 * p1)) + 2) 260 (gd (G 10 0 ((30 + (3 * p1)) + 2)) (if (G 10 0 ((30 + (3 * p1)) + 2)) = 1 then some 1 else some 0))
def f_X8_teamsOf_L5 (G : GS) (p1 : Int) (p2 : Int) : Nat → Int → Int → (Int → Int → Option (Int)) → Option (Int)
  | 0, _, _, _ => none
  | n + 1, x3, x4, k => gd x4 (gd (G 10 0 7) (if x4 < (G 10 0 7) then bn1 (f_X8_of G x4 2) (fun r4 => gd r4 (gd p1 (if r4 = p1 then gd p2 (if p2 = 2 then f_X8_teamsOf_L5 G p1 p2 n (x3 + 1) (x4 + 1) k else bn1 (f_X8_of G x4 3) (fun r12 => gd r12 (if 0 < r12 then if p2 = 1 then f_X8_teamsOf_L5 G p1 p2 n (x3 + 1) (x4 + 1) k else f_X8_teamsOf_L5 G p1 p2 n (x3 + 0) (x4 + 1) k else if p2 = 1 then f_X8_teamsOf_L5 G p1 p2 n (x3 + 0) (x4 + 1) k else f_X8_teamsOf_L5 G p1 p2 n (x3 + 1) (x4 + 1) k))) else f_X8_teamsOf_L5 G p1 p2 n (x3 + 0) (x4 + 1) k))) else k x3 x4))
def f_X8_teamsOf (G : GS) (p1 : Int) (p2 : Int) : Option (Int) :=
  f_X8_teamsOf_L5 G p1 p2 gFuel 0 0 (fun y3_27 y4_27 => some y3_27)
def f_X8_freeBeds (G : GS) (p1 : Int) : Option (Int) :=
  ga (30 + (3 * p1)) 260 (bn1 (f_X8_teamsOf G p1 2) (fun r2 => gd ((G 10 0 (30 + (3 * p1))) - r2) (if ((G 10 0 (30 + (3 * p1))) - r2) < 0 then some 0 else some ((G 10 0 (30 + (3 * p1))) - r2))))
def f_X8_teamFor_L29 (G : GS) (p1 : Int) : Nat → Int → Int → Int → Int → (Int → Int → Int → Int → Option (Int)) → Option (Int)
  | 0, _, _, _, _, _ => none
  | n + 1, x2, x3, x4, x5, k => gd x5 (gd (G 10 0 7) (if x5 < (G 10 0 7) then bn1 (f_X8_of G x5 2) (fun r12 => gd r12 (gd x2 (if r12 = x2 then bn1 (f_X8_of G x5 3) (fun r17 => gd r17 (if r17 = 0 then bn1 (f_X8_of G x5 1) (fun r21 => gd (r21 + x3) (if 100 < (r21 + x3) then f_X8_teamFor_L29 G p1 n x2 x3 x4 (x5 + 1) k else gd x4 (if x4 = (-1) then f_X8_teamFor_L29 G p1 n x2 x3 x5 (x5 + 1) k else bn1 (f_X8_of G x5 1) (fun r29 => bn1 (f_X8_of G x4 1) (fun r31 => gd r29 (gd r31 (if r29 < r31 then f_X8_teamFor_L29 G p1 n x2 x3 x5 (x5 + 1) k else f_X8_teamFor_L29 G p1 n x2 x3 x4 (x5 + 1) k))))))) else f_X8_teamFor_L29 G p1 n x2 x3 x4 (x5 + 1) k)) else f_X8_teamFor_L29 G p1 n x2 x3 x4 (x5 + 1) k))) else k x2 x3 x4 x5))
def f_X8_teamFor (G : GS) (p1 : Int) : Option (Int) :=
  bn1 (f_X8_ofLetter G p1 4) (fun r1 => bn1 (f_X8_ofLetter G p1 1) (fun r3 => bn1 (f_X8_toward G r1 r3) (fun r5 => bn1 (f_X8_effort G r1 r5) (fun r7 => f_X8_teamFor_L29 G p1 gFuel r1 r7 (-1) 0 (fun y2_38 y3_38 y4_38 y5_38 => some y4_38)))))
def f_X8_whyNot (G : GS) (p1 : Int) : Option (Int) :=
  bn1 (f_X8_isDelivered G p1) (fun r1 => gd r1 (if r1 = 0 then bn1 (f_X8_ofLetter G p1 5) (fun r5 => gd r5 (if r5 = (-1) then bn1 (f_X8_ofLetter G p1 4) (fun r9 => bn1 (f_X8_ofLetter G p1 1) (fun r11 => bn1 (f_X8_toward G r9 r11) (fun r13 => bn1 (f_X8_between G r9 r13) (fun r15 => bn1 (f_X8_isBlocked G r15) (fun r17 => gd r17 (if r17 = 0 then bn1 (f_X8_isShut G r9) (fun r21 => gd r21 (if r21 = 0 then bn1 (f_X8_isShut G r13) (fun r25 => gd r25 (if r25 = 0 then bn1 (f_X8_freeBeds G r13) (fun r29 => gd r29 (if r29 = 0 then some 5 else bn1 (f_X8_teamFor G p1) (fun r33 => gd r33 (if r33 = (-1) then bn1 (f_X8_teamsOf G r9 0) (fun r37 => gd r37 (if r37 = 0 then some 6 else some 7)) else some 0)))) else some 4)) else some 4)) else some 3)))))) else some 2)) else some 1))
def f_X8_leaves (G : GS) (p1 : Int) (p2 : Int) (p3 : Int) : Option (GS) :=
  bn1 (f_X8_teamAt G p1 10) (fun r1 => bn1 (f_X8_of G p1 2) (fun r3 => ga r1 260 (bn1 (f_X8_teamAt (gup G 10 0 r1 r3) p1 2) (fun r6 => ga r6 260 (bn1 (f_X8_teamAt (gup (gup G 10 0 r1 r3) 10 0 r6 p2) p1 3) (fun r9 => ga r9 260 (some (gup (gup (gup G 10 0 r1 r3) 10 0 r6 p2) 10 0 r9 p3))))))))
def f_X8_goesOn (G : GS) (p1 : Int) : Option (GS) :=
  bn1 (f_X8_whyNot G p1) (fun r1 => gd r1 (if r1 = 0 then bn1 (f_X8_ofLetter G p1 4) (fun r5 => bn1 (f_X8_ofLetter G p1 1) (fun r7 => bn1 (f_X8_toward G r5 r7) (fun r9 => bn1 (f_X8_teamFor G p1) (fun r11 => bn1 (f_X8_between G r5 r9) (fun r13 => bn1 (f_X8_hoursOf G r13) (fun r15 => bn1 (f_X8_leaves G r11 r9 r15) (fun G17 => bn1 (f_X8_teamAt G17 r11 4) (fun r19 => ga r19 260 (bn1 (f_X8_letterAt (gup G17 10 0 r19 p1) p1 4) (fun r22 => ga r22 260 (bn1 (f_X8_letterAt (gup (gup G17 10 0 r19 p1) 10 0 r22 r9) p1 5) (fun r25 => ga r25 260 (bn1 (f_X8_letterAt (gup (gup (gup G17 10 0 r19 p1) 10 0 r22 r9) 10 0 r25 r11) p1 7) (fun r28 => ga r28 260 (nm (gup (gup (gup (gup G17 10 0 r19 p1) 10 0 r22 r9) 10 0 r25 r11) 10 0 r28 (((gup (gup (gup G17 10 0 r19 p1) 10 0 r22 r9) 10 0 r25 r11) 10 0 r28) + 1)) (fun G31 => some G31)))))))))))))))) else some G))
def f_X8_goOn_L2 : Nat → GS → Int → (GS → Int → Option (GS)) → Option (GS)
  | 0, _, _, _ => none
  | n + 1, G, x1, k => gd x1 (if x1 < 12 then gd (G 10 0 8) (if x1 < (G 10 0 8) then bn1 (f_X8_lies G x1) (fun r5 => gd r5 (if r5 = 0 then ga x1 12 (f_X8_goOn_L2 n (gup G 11 0 x1 1) (x1 + 1) k) else ga x1 12 (f_X8_goOn_L2 n (gup G 11 0 x1 0) (x1 + 1) k))) else ga x1 12 (f_X8_goOn_L2 n (gup G 11 0 x1 1) (x1 + 1) k)) else k G x1)
def f_X8_goOn_L55 : Nat → GS → Int → Int → (GS → Int → Int → Option (GS)) → Option (GS)
  | 0, _, _, _, _ => none
  | n + 1, G, x1, x2, k => gd x2 (gd (G 10 0 8) (if x2 < (G 10 0 8) then ga x2 12 (gd (G 11 0 x2) (if (G 11 0 x2) = 0 then gd x1 (if x1 = (-1) then f_X8_goOn_L55 n G x2 (x2 + 1) k else bn1 (f_X8_isAhead G x2 x1) (fun r24 => gd r24 (if r24 = 0 then f_X8_goOn_L55 n G x1 (x2 + 1) k else f_X8_goOn_L55 n G x2 (x2 + 1) k))) else f_X8_goOn_L55 n G x1 (x2 + 1) k)) else k G x1 x2))
def f_X8_goOn_L46 : Nat → GS → Int → (GS → Int → Option (GS)) → Option (GS)
  | 0, _, _, _ => none
  | n + 1, G, x1, k => gd x1 (if x1 = (-1) then k G x1 else f_X8_goOn_L55 gFuel G (-1) 0 (fun G29 y1_28 y2_28 => gd y1_28 (if y1_28 = (-1) then f_X8_goOn_L46 n G29 y1_28 k else ga y1_28 12 (bn1 (f_X8_goesOn (gup G29 11 0 y1_28 1) y1_28) (fun G33 => f_X8_goOn_L46 n G33 y1_28 k)))))
def f_X8_goOn (G : GS) : Option (GS) :=
  f_X8_goOn_L2 gFuel G 0 (fun G13 y1_12 => f_X8_goOn_L46 gFuel G13 0 (fun G36 y1_35 => some G36))
def f_X8_lettersAt_L4 (G : GS) (p1 : Int) : Nat → Int → Int → (Int → Int → Option (Int)) → Option (Int)
  | 0, _, _, _ => none
  | n + 1, x2, x3, k => gd x3 (gd (G 10 0 8) (if x3 < (G 10 0 8) then bn1 (f_X8_lies G x3) (fun r4 => gd r4 (if r4 = 0 then f_X8_lettersAt_L4 G p1 n (x2 + 0) (x3 + 1) k else bn1 (f_X8_ofLetter G x3 4) (fun r8 => gd r8 (gd p1 (if r8 = p1 then f_X8_lettersAt_L4 G p1 n (x2 + 1) (x3 + 1) k else f_X8_lettersAt_L4 G p1 n (x2 + 0) (x3 + 1) k))))) else k x2 x3))
def f_X8_lettersAt (G : GS) (p1 : Int) : Option (Int) :=
  f_X8_lettersAt_L4 G p1 gFuel 0 0 (fun y2_13 y3_13 => some y2_13)
def f_X8_walkBack_L2 : Nat → GS → Int → (GS → Int → Option (GS)) → Option (GS)
  | 0, _, _, _ => none
  | n + 1, G, x1, k => gd x1 (gd (G 10 0 7) (if x1 < (G 10 0 7) then bn1 (f_X8_of G x1 2) (fun r4 => bn1 (f_X8_of G x1 3) (fun r6 => gd r6 (if r6 = 0 then bn1 (f_X8_of G x1 0) (fun r10 => gd r4 (gd r10 (if r4 = r10 then f_X8_walkBack_L2 n G (x1 + 1) k else bn1 (f_X8_of G x1 1) (fun r15 => gd r15 (if r15 = 0 then bn1 (f_X8_lettersAt G r4) (fun r19 => gd r19 (if r19 = 0 then bn1 (f_X8_of G x1 0) (fun r23 => bn1 (f_X8_toward G r4 r23) (fun r25 => bn1 (f_X8_between G r4 r25) (fun r27 => bn1 (f_X8_isBlocked G r27) (fun r29 => gd r29 (if r29 = 0 then bn1 (f_X8_freeBeds G r25) (fun r33 => gd r33 (if 0 < r33 then bn1 (f_X8_hoursOf G r27) (fun r37 => bn1 (f_X8_leaves G x1 r25 (2 * r37)) (fun G39 => bn1 (f_X8_teamAt G39 x1 5) (fun r41 => ga r41 260 (f_X8_walkBack_L2 n (gup G39 10 0 r41 1) (x1 + 1) k)))) else f_X8_walkBack_L2 n G (x1 + 1) k)) else f_X8_walkBack_L2 n G (x1 + 1) k))))) else f_X8_walkBack_L2 n G (x1 + 1) k)) else f_X8_walkBack_L2 n G (x1 + 1) k))))) else f_X8_walkBack_L2 n G (x1 + 1) k))) else k G x1))
def f_X8_walkBack (G : GS) : Option (GS) :=
  f_X8_walkBack_L2 gFuel G 0 (fun G45 y1_44 => some G45)
def f_X8_hour (G : GS) : Option (GS) :=
  bn1 (f_X8_rests G) (fun G1 => bn1 (f_X8_roads G1) (fun G3 => bn1 (f_X8_goOn G3) (fun G5 => bn1 (f_X8_walkBack G5) (fun G7 => some (gup G7 10 0 1 ((G7 10 0 1) + 1))))))
def f_X8_pass_L51 (p1 : Int) : Nat → GS → Int → Int → (GS → Int → Int → Option (GS × Int)) → Option (GS × Int)
  | 0, _, _, _, _ => none
  | n + 1, G, x2, x3, k => gd x3 (gd p1 (if x3 < p1 then bn1 (f_X8_hour G) (fun G18 => f_X8_pass_L51 p1 n G18 x2 (x3 + 1) k) else k G x2 x3))
def f_X8_pass (G : GS) (p1 : Int) : Option (GS × Int) :=
  bn1 (f_X8_in G (bm p1) 1 200) (fun r1 => gd r1 (if r1 = 0 then bnd (f_X8_throwing G 1) (fun G5 r6 => some (G5, r6)) else gd ((G 10 0 1) + p1) (if 10000 < ((G 10 0 1) + p1) then bnd (f_X8_throwing G 2) (fun G10 r11 => some (G10, r11)) else bn1 (f_X8_save G) (fun G13 => f_X8_pass_L51 p1 gFuel G13 (G13 10 0 2) 0 (fun G21 y2_20 y3_20 => bnd (f_X8_fine G21 ((G21 10 0 2) - y2_20)) (fun G22 r23 => some (G22, r23)))))))
def f_X8_teamsOn_L4 (G : GS) (p1 : Int) : Nat → Int → Int → (Int → Int → Option (Int)) → Option (Int)
  | 0, _, _, _ => none
  | n + 1, x2, x3, k => gd x3 (gd (G 10 0 7) (if x3 < (G 10 0 7) then bn1 (f_X8_of G x3 3) (fun r4 => gd r4 (if 0 < r4 then bn1 (f_X8_of G x3 2) (fun r8 => bn1 (f_X8_of G x3 10) (fun r10 => bn1 (f_X8_between G r8 r10) (fun r12 => gd r12 (gd p1 (if r12 = p1 then f_X8_teamsOn_L4 G p1 n (x2 + 1) (x3 + 1) k else f_X8_teamsOn_L4 G p1 n (x2 + 0) (x3 + 1) k))))) else f_X8_teamsOn_L4 G p1 n (x2 + 0) (x3 + 1) k)) else k x2 x3))
def f_X8_teamsOn (G : GS) (p1 : Int) : Option (Int) :=
  f_X8_teamsOn_L4 G p1 gFuel 0 0 (fun y2_17 y3_17 => some y2_17)
def f_X8_stageOf (G : GS) (p1 : Int) (p2 : Int) : Option (Int) :=
  gd p2 (if p2 < 3 then ga ((9 + (3 * p1)) + p2) 260 (some (G 10 0 ((9 + (3 * p1)) + p2))) else if p2 = 3 then bn1 (f_X8_effort G p1 (p1 + 1)) (fun r5 => some r5) else if p2 = 4 then bn1 (f_X8_effort G (p1 + 1) p1) (fun r8 => some r8) else bn1 (f_X8_teamsOn G p1) (fun r10 => some r10))
def f_X8_stage (G : GS) (p1 : Int) (p2 : Int) : Option (GS × Int) :=
  bn1 (f_X8_isStage G p1) (fun r1 => gd r1 (if r1 = 0 then bnd (f_X8_throwing G 1) (fun G5 r6 => some (G5, r6)) else bn1 (f_X8_in G (bm p2) 0 5) (fun r8 => gd r8 (if r8 = 0 then bnd (f_X8_throwing G 2) (fun G12 r13 => some (G12, r13)) else bn1 (f_X8_stageOf G p1 p2) (fun r15 => bnd (f_X8_fine G r15) (fun G17 r18 => some (G17, r18)))))))
def f_X8_innOf (G : GS) (p1 : Int) (p2 : Int) : Option (Int) :=
  gd p2 (if p2 < 3 then ga ((30 + (3 * p1)) + p2) 260 (some (G 10 0 ((30 + (3 * p1)) + p2))) else if p2 < 5 then bn1 (f_X8_teamsOf G p1 (p2 - 3)) (fun r5 => some r5) else if p2 = 5 then bn1 (f_X8_lettersAt G p1) (fun r8 => some r8) else bn1 (f_X8_freeBeds G p1) (fun r10 => some r10))
def f_X8_inn (G : GS) (p1 : Int) (p2 : Int) : Option (GS × Int) :=
  bn1 (f_X8_isInn G p1) (fun r1 => gd r1 (if r1 = 0 then bnd (f_X8_throwing G 1) (fun G5 r6 => some (G5, r6)) else bn1 (f_X8_in G (bm p2) 0 6) (fun r8 => gd r8 (if r8 = 0 then bnd (f_X8_throwing G 2) (fun G12 r13 => some (G12, r13)) else bn1 (f_X8_innOf G p1 p2) (fun r15 => bnd (f_X8_fine G r15) (fun G17 r18 => some (G17, r18)))))))
def f_X8_isTeam (G : GS) (p1 : Int) : Option (Int) :=
  bn1 (f_X8_in G (bm p1) 0 ((bm (G 10 0 7)) - 1)) (fun r1 => gb r1 (some r1))
def f_X8_team (G : GS) (p1 : Int) (p2 : Int) : Option (GS × Int) :=
  bn1 (f_X8_isTeam G p1) (fun r1 => gd r1 (if r1 = 0 then bnd (f_X8_throwing G 1) (fun G5 r6 => some (G5, r6)) else bn1 (f_X8_in G (bm p2) 0 9) (fun r8 => gd r8 (if r8 = 0 then bnd (f_X8_throwing G 2) (fun G12 r13 => some (G12, r13)) else bn1 (f_X8_of G p1 p2) (fun r15 => bnd (f_X8_fine G r15) (fun G17 r18 => some (G17, r18)))))))
def f_X8_isLetter (G : GS) (p1 : Int) : Option (Int) :=
  bn1 (f_X8_in G (bm p1) 0 ((bm (G 10 0 8)) - 1)) (fun r1 => gb r1 (some r1))
def f_X8_letter (G : GS) (p1 : Int) (p2 : Int) : Option (GS × Int) :=
  bn1 (f_X8_isLetter G p1) (fun r1 => gd r1 (if r1 = 0 then bnd (f_X8_throwing G 1) (fun G5 r6 => some (G5, r6)) else bn1 (f_X8_in G (bm p2) 0 7) (fun r8 => gd r8 (if r8 = 0 then bnd (f_X8_throwing G 2) (fun G12 r13 => some (G12, r13)) else bn1 (f_X8_ofLetter G p1 p2) (fun r15 => bnd (f_X8_fine G r15) (fun G17 r18 => some (G17, r18)))))))
def f_X8_lettersBy_L4 (G : GS) (p1 : Int) : Nat → Int → Int → (Int → Int → Option (Int)) → Option (Int)
  | 0, _, _, _ => none
  | n + 1, x2, x3, k => gd x3 (gd (G 10 0 8) (if x3 < (G 10 0 8) then gd p1 (if p1 = 0 then bn1 (f_X8_lies G x3) (fun r6 => gd r6 (if r6 = 0 then f_X8_lettersBy_L4 G p1 n (x2 + 0) (x3 + 1) k else f_X8_lettersBy_L4 G p1 n (x2 + 1) (x3 + 1) k)) else bn1 (f_X8_ofLetter G x3 5) (fun r10 => gd r10 (if r10 = (-1) then f_X8_lettersBy_L4 G p1 n (x2 + 0) (x3 + 1) k else f_X8_lettersBy_L4 G p1 n (x2 + 1) (x3 + 1) k))) else k x2 x3))
def f_X8_lettersBy (G : GS) (p1 : Int) : Option (Int) :=
  f_X8_lettersBy_L4 G p1 gFuel 0 0 (fun y2_14 y3_14 => some y2_14)
def f_X8_valueOf (G : GS) (p1 : Int) : Option (Int) :=
  gd p1 (if p1 = 0 then some (G 10 0 0) else if p1 = 1 then some (G 10 0 7) else if p1 = 2 then some (G 10 0 8) else if p1 = 3 then some (G 10 0 1) else if p1 = 4 then ga ((2 + p1) - 4) 260 (some (G 10 0 ((2 + p1) - 4))) else if p1 = 5 then ga ((2 + p1) - 4) 260 (some (G 10 0 ((2 + p1) - 4))) else if p1 = 6 then ga ((2 + p1) - 4) 260 (some (G 10 0 ((2 + p1) - 4))) else if p1 = 7 then ga ((2 + p1) - 4) 260 (some (G 10 0 ((2 + p1) - 4))) else if p1 = 8 then ga ((2 + p1) - 4) 260 (some (G 10 0 ((2 + p1) - 4))) else if p1 = 9 then if p1 = 10 then bn1 (f_X8_lettersBy G 1) (fun r18 => some r18) else bn1 (f_X8_lettersBy G 0) (fun r20 => some r20) else if p1 = 10 then bn1 (f_X8_lettersBy G 1) (fun r23 => some r23) else ga ((2 + p1) - 4) 260 (some (G 10 0 ((2 + p1) - 4))))
def f_X8_value (G : GS) (p1 : Int) : Option (GS × Int) :=
  bn1 (f_X8_in G (bm p1) 0 10) (fun r1 => gd r1 (if r1 = 0 then bnd (f_X8_throwing G 1) (fun G5 r6 => some (G5, r6)) else bn1 (f_X8_valueOf G p1) (fun r8 => bnd (f_X8_fine G r8) (fun G10 r11 => some (G10, r11)))))
def f_X8_why (G : GS) (p1 : Int) : Option (GS × Int) :=
  bn1 (f_X8_isLetter G p1) (fun r1 => gd r1 (if r1 = 0 then bnd (f_X8_throwing G 1) (fun G5 r6 => some (G5, r6)) else bn1 (f_X8_whyNot G p1) (fun r8 => bnd (f_X8_fine G r8) (fun G10 r11 => some (G10, r11)))))
def f_X8_laysAside_L2 : Nat → GS → Int → (GS → Int → Option (GS)) → Option (GS)
  | 0, _, _, _ => none
  | n + 1, G, x1, k => gd x1 (if x1 < 260 then ga x1 260 (f_X8_laysAside_L2 n (gup G 10 2 x1 (G 10 0 x1)) (x1 + 1) k) else k G x1)
def f_X8_laysAside (G : GS) : Option (GS) :=
  f_X8_laysAside_L2 gFuel G 0 (fun G5 y1_4 => some G5)
def f_X8_takesBack_L2 : Nat → GS → Int → (GS → Int → Option (GS)) → Option (GS)
  | 0, _, _, _ => none
  | n + 1, G, x1, k => gd x1 (if x1 < 260 then ga x1 260 (f_X8_takesBack_L2 n (gup G 10 0 x1 (G 10 2 x1)) (x1 + 1) k) else k G x1)
def f_X8_takesBack (G : GS) : Option (GS) :=
  f_X8_takesBack_L2 gFuel G 0 (fun G5 y1_4 => some G5)
def f_X8_hoursTo_L20 (p1 : Int) : Nat → GS → Int → (GS → Int → Option (GS × Int)) → Option (GS × Int)
  | 0, _, _, _ => none
  | n + 1, G, x2, k => gd x2 (if x2 < 500 then bn1 (f_X8_isDelivered G p1) (fun r12 => gd r12 (if r12 = 0 then bn1 (f_X8_hour G) (fun G16 => f_X8_hoursTo_L20 p1 n G16 (x2 + 1) k) else k G x2)) else k G x2)
def f_X8_hoursTo (G : GS) (p1 : Int) : Option (GS × Int) :=
  bn1 (f_X8_isLetter G p1) (fun r1 => gd r1 (if r1 = 0 then bnd (f_X8_throwing G 1) (fun G5 r6 => some (G5, r6)) else bn1 (f_X8_laysAside G) (fun G8 => f_X8_hoursTo_L20 p1 gFuel G8 0 (fun G19 y2_18 => bn1 (f_X8_isDelivered G19 p1) (fun r20 => gd r20 (if r20 = 0 then bn1 (f_X8_takesBack G19) (fun G24 => bnd (f_X8_fine G24 (-1)) (fun G26 r27 => some (G26, r27))) else bn1 (f_X8_takesBack G19) (fun G29 => bnd (f_X8_fine G29 y2_18) (fun G31 r32 => some (G31, r32)))))))))
def f_X8_areDelivered (G : GS) : Option (Int) :=
  bn1 (f_X8_lettersBy G 0) (fun r1 => bn1 (f_X8_lettersBy G 1) (fun r3 => gd (r1 + r3) (if (r1 + r3) = 0 then some 1 else some 0)))
def f_X8_toAll_L2 : Nat → GS → Int → (GS → Int → Option (GS × Int)) → Option (GS × Int)
  | 0, _, _, _ => none
  | n + 1, G, x1, k => gd x1 (if x1 < 500 then bn1 (f_X8_areDelivered G) (fun r3 => gd r3 (if r3 = 0 then bn1 (f_X8_hour G) (fun G7 => f_X8_toAll_L2 n G7 (x1 + 1) k) else k G x1)) else k G x1)
def f_X8_toAll (G : GS) : Option (GS × Int) :=
  f_X8_toAll_L2 gFuel G 0 (fun G10 y1_9 => bn1 (f_X8_areDelivered G10) (fun r11 => gd r11 (if r11 = 0 then some (G10, (-1)) else some (G10, y1_9))))
def f_X8_forAll (G : GS) : Option (GS × Int) :=
  bn1 (f_X8_laysAside G) (fun G1 => bnd (f_X8_toAll G1) (fun G3 r4 => bn1 (f_X8_takesBack G3) (fun G6 => some (G6, r4))))
def f_X8_hoursToAll (G : GS) : Option (GS × Int) :=
  bnd (f_X8_forAll G) (fun G1 r2 => bnd (f_X8_fine G1 r2) (fun G4 r5 => some (G4, r5)))
def f_X8_bestInn_L8 : Nat → GS → Int → Int → Int → (GS → Int → Int → Int → Option (GS × Int)) → Option (GS × Int)
  | 0, _, _, _, _, _ => none
  | n + 1, G, x1, x2, x3, k => gd x3 (gd (G 10 0 0) (if x3 < (G 10 0 0) then gd (G 10 0 7) (if (G 10 0 7) < 10 then bn1 (f_X8_laysAside G) (fun G6 => bn1 (f_X8_adds G6 x3 0) (fun G8 => bnd (f_X8_toAll G8) (fun G10 r11 => bn1 (f_X8_takesBack G10) (fun G13 => gd r11 (if r11 = (-1) then f_X8_bestInn_L8 n G13 x1 x2 (x3 + 1) k else gd x2 (if r11 < x2 then f_X8_bestInn_L8 n G13 x3 r11 (x3 + 1) k else f_X8_bestInn_L8 n G13 x1 x2 (x3 + 1) k)))))) else k G x1 x2 x3) else k G x1 x2 x3))
def f_X8_bestInn (G : GS) : Option (GS × Int) :=
  f_X8_bestInn_L8 gFuel G (-1) 501 0 (fun G20 y1_19 y2_19 y3_19 => bnd (f_X8_fine G20 y1_19) (fun G21 r22 => some (G21, r22)))
def f_X8_way_L27 (p1 : Int) (p2 : Int) : Nat → GS → Int → Int → (GS → Int → Int → Option (GS × Int)) → Option (GS × Int)
  | 0, _, _, _, _ => none
  | n + 1, G, x3, x4, k => gd x4 (gd p2 (if x4 = p2 then k G x3 x4 else bn1 (f_X8_toward G x4 p2) (fun r18 => bn1 (f_X8_between G x4 r18) (fun r20 => bn1 (f_X8_hoursOf G r20) (fun r22 => bn1 (f_X8_toward G x4 p2) (fun r24 => f_X8_way_L27 p1 p2 n G (x3 + r22) r24 k))))))
def f_X8_way (G : GS) (p1 : Int) (p2 : Int) : Option (GS × Int) :=
  bn1 (f_X8_isInn G p1) (fun r1 => gd r1 (if r1 = 0 then bnd (f_X8_throwing G 1) (fun G5 r6 => some (G5, r6)) else bn1 (f_X8_isInn G p2) (fun r8 => gd r8 (if r8 = 0 then bnd (f_X8_throwing G 1) (fun G12 r13 => some (G12, r13)) else f_X8_way_L27 p1 p2 gFuel G 0 p1 (fun G27 y3_26 y4_26 => bnd (f_X8_fine G27 y3_26) (fun G28 r29 => some (G28, r29)))))))
def f_X8_effortHome_L31 (p1 : Int) : Nat → GS → Int → Int → Int → (GS → Int → Int → Int → Option (GS × Int)) → Option (GS × Int)
  | 0, _, _, _, _, _ => none
  | n + 1, G, x2, x3, x4, k => gd x4 (gd x3 (if x4 = x3 then k G x2 x3 x4 else bn1 (f_X8_toward G x4 x3) (fun r15 => bn1 (f_X8_effort G x4 r15) (fun r17 => bn1 (f_X8_toward G x4 x3) (fun r19 => f_X8_effortHome_L31 p1 n G (x2 + r17) x3 r19 k)))))
def f_X8_effortHome (G : GS) (p1 : Int) : Option (GS × Int) :=
  bn1 (f_X8_isTeam G p1) (fun r1 => gd r1 (if r1 = 0 then bnd (f_X8_throwing G 1) (fun G5 r6 => some (G5, r6)) else bn1 (f_X8_of G p1 0) (fun r8 => bn1 (f_X8_of G p1 2) (fun r10 => f_X8_effortHome_L31 p1 gFuel G 0 r8 r10 (fun G22 y2_21 y3_21 y4_21 => bnd (f_X8_fine G22 y2_21) (fun G23 r24 => some (G23, r24)))))))
def f_X8_meanTiredness_L9 : Nat → GS → UInt64 → Int → (GS → UInt64 → Int → Option (GS × UInt64)) → Option (GS × UInt64)
  | 0, _, _, _, _ => none
  | n + 1, G, x1, x3, k => gd x3 (gd (G 10 0 7) (if x3 < (G 10 0 7) then bn1 (f_X8_of G x3 1) (fun r4 => gn (FP.dadd x1 (FP.i2d (Int32.ofInt r4))) (f_X8_meanTiredness_L9 n G (FP.dadd x1 (FP.i2d (Int32.ofInt r4))) (x3 + 1) k)) else k G x1 x3))
def f_X8_meanTiredness (G : GS) : Option (GS × UInt64) :=
  f_X8_meanTiredness_L9 gFuel (gup G 8 0 4 0) 0 0 (fun G8 y1_7 y3_7 => gd (G8 10 0 7) (if (G8 10 0 7) = 0 then some (G8, 0) else gn (FP.ddiv y1_7 (FP.i2d (Int32.ofInt (G8 10 0 7)))) (some (G8, FP.ddiv y1_7 (FP.i2d (Int32.ofInt (G8 10 0 7)))))))
def f_X8_append (G : GS) (p1 : Int) : Option (GS × Int) :=
  bn1 (f_X8_in G (bm p1) 0 127) (fun r1 => gd r1 (if r1 = 0 then bnd (f_X8_throwing G 1) (fun G5 r6 => some (G5, r6)) else gd (G 8 0 7) (if (G 8 0 7) = 90 then bnd (f_X8_throwing G 2) (fun G10 r11 => some (G10, r11)) else ga (G 8 0 7) 90 (bnd (f_X8_fine (gup (gup G 10 3 (G 8 0 7) p1) 8 0 7 (((gup G 10 3 (G 8 0 7) p1) 8 0 7) + 1)) ((gup (gup G 10 3 (G 8 0 7) p1) 8 0 7 (((gup G 10 3 (G 8 0 7) p1) 8 0 7) + 1)) 8 0 7)) (fun G14 r15 => some (G14, r15))))))
def f_X8_clearText (G : GS) : Option (GS × Int) :=
  bnd (f_X8_fine (gup G 8 0 7 0) (G 8 0 7)) (fun G1 r2 => some (G1, r2))
def f_X8_here (G : GS) : Option (Int) :=
  gd (G 8 0 8) (gd (G 8 0 7) (if (G 8 0 8) < (G 8 0 7) then ga (G 8 0 8) 90 (some (G 10 3 (G 8 0 8))) else some (-1)))
def f_X8_readsStage (G : GS) : Option (GS × Int) :=
  gd (G 8 0 10) (if (G 8 0 10) = 7 then some (G, 0) else bn1 (f_X8_here G) (fun r3 => bn1 (f_X8_in G (bm r3) 49 57) (fun r5 => gd r5 (if r5 = 0 then some (G, 0) else bn1 (f_X8_here G) (fun r9 => ga (2 * (G 8 0 10)) 14 (ga ((2 * ((gup G 10 4 (2 * (G 8 0 10)) (r9 - 48)) 8 0 10)) + 1) 14 (nm (gup (gup (gup G 10 4 (2 * (G 8 0 10)) (r9 - 48)) 10 4 ((2 * ((gup G 10 4 (2 * (G 8 0 10)) (r9 - 48)) 8 0 10)) + 1) 0) 8 0 8 (((gup (gup G 10 4 (2 * (G 8 0 10)) (r9 - 48)) 10 4 ((2 * ((gup G 10 4 (2 * (G 8 0 10)) (r9 - 48)) 8 0 10)) + 1) 0) 8 0 8) + 1)) (fun G13 => bn1 (f_X8_here G13) (fun r15 => gd r15 (if r15 = 43 then bn1 (f_X8_here G13) (fun r19 => gd r19 (if r19 = 43 then bn1 (f_X8_here (gup G13 8 0 8 ((G13 8 0 8) + 1))) (fun r23 => bn1 (f_X8_in (gup G13 8 0 8 ((G13 8 0 8) + 1)) (bm r23) 49 53) (fun r25 => gd r25 (if r25 = 0 then some ((gup G13 8 0 8 ((G13 8 0 8) + 1)), 0) else bn1 (f_X8_here (gup G13 8 0 8 ((G13 8 0 8) + 1))) (fun r29 => ga ((2 * ((gup G13 8 0 8 ((G13 8 0 8) + 1)) 8 0 10)) + 1) 14 (nm (gup (gup (gup G13 8 0 8 ((G13 8 0 8) + 1)) 10 4 ((2 * ((gup G13 8 0 8 ((G13 8 0 8) + 1)) 8 0 10)) + 1) (1 * (r29 - 48))) 8 0 8 (((gup (gup G13 8 0 8 ((G13 8 0 8) + 1)) 10 4 ((2 * ((gup G13 8 0 8 ((G13 8 0 8) + 1)) 8 0 10)) + 1) (1 * (r29 - 48))) 8 0 8) + 1)) (fun G32 => bn1 (f_X8_here G32) (fun r34 => gd r34 (if r34 = 59 then some ((gup (gup G32 8 0 8 ((G32 8 0 8) + 1)) 8 0 10 (((gup G32 8 0 8 ((G32 8 0 8) + 1)) 8 0 10) + 1)), 1) else some ((gup (gup G32 8 0 8 ((G32 8 0 8) + 0)) 8 0 10 (((gup G32 8 0 8 ((G32 8 0 8) + 0)) 8 0 10) + 0)), 0))))))))) else bn1 (f_X8_here (gup G13 8 0 8 ((G13 8 0 8) + 1))) (fun r42 => bn1 (f_X8_in (gup G13 8 0 8 ((G13 8 0 8) + 1)) (bm r42) 49 53) (fun r44 => gd r44 (if r44 = 0 then some ((gup G13 8 0 8 ((G13 8 0 8) + 1)), 0) else bn1 (f_X8_here (gup G13 8 0 8 ((G13 8 0 8) + 1))) (fun r48 => ga ((2 * ((gup G13 8 0 8 ((G13 8 0 8) + 1)) 8 0 10)) + 1) 14 (nm (gup (gup (gup G13 8 0 8 ((G13 8 0 8) + 1)) 10 4 ((2 * ((gup G13 8 0 8 ((G13 8 0 8) + 1)) 8 0 10)) + 1) ((-1) * (r48 - 48))) 8 0 8 (((gup (gup G13 8 0 8 ((G13 8 0 8) + 1)) 10 4 ((2 * ((gup G13 8 0 8 ((G13 8 0 8) + 1)) 8 0 10)) + 1) ((-1) * (r48 - 48))) 8 0 8) + 1)) (fun G51 => bn1 (f_X8_here G51) (fun r53 => gd r53 (if r53 = 59 then some ((gup (gup G51 8 0 8 ((G51 8 0 8) + 1)) 8 0 10 (((gup G51 8 0 8 ((G51 8 0 8) + 1)) 8 0 10) + 1)), 1) else some ((gup (gup G51 8 0 8 ((G51 8 0 8) + 0)) 8 0 10 (((gup G51 8 0 8 ((G51 8 0 8) + 0)) 8 0 10) + 0)), 0))))))))))) else bn1 (f_X8_here G13) (fun r61 => gd r61 (if r61 = 45 then bn1 (f_X8_here G13) (fun r65 => gd r65 (if r65 = 43 then bn1 (f_X8_here (gup G13 8 0 8 ((G13 8 0 8) + 1))) (fun r69 => bn1 (f_X8_in (gup G13 8 0 8 ((G13 8 0 8) + 1)) (bm r69) 49 53) (fun r71 => gd r71 (if r71 = 0 then some ((gup G13 8 0 8 ((G13 8 0 8) + 1)), 0) else bn1 (f_X8_here (gup G13 8 0 8 ((G13 8 0 8) + 1))) (fun r75 => ga ((2 * ((gup G13 8 0 8 ((G13 8 0 8) + 1)) 8 0 10)) + 1) 14 (nm (gup (gup (gup G13 8 0 8 ((G13 8 0 8) + 1)) 10 4 ((2 * ((gup G13 8 0 8 ((G13 8 0 8) + 1)) 8 0 10)) + 1) (1 * (r75 - 48))) 8 0 8 (((gup (gup G13 8 0 8 ((G13 8 0 8) + 1)) 10 4 ((2 * ((gup G13 8 0 8 ((G13 8 0 8) + 1)) 8 0 10)) + 1) (1 * (r75 - 48))) 8 0 8) + 1)) (fun G78 => bn1 (f_X8_here G78) (fun r80 => gd r80 (if r80 = 59 then some ((gup (gup G78 8 0 8 ((G78 8 0 8) + 1)) 8 0 10 (((gup G78 8 0 8 ((G78 8 0 8) + 1)) 8 0 10) + 1)), 1) else some ((gup (gup G78 8 0 8 ((G78 8 0 8) + 0)) 8 0 10 (((gup G78 8 0 8 ((G78 8 0 8) + 0)) 8 0 10) + 0)), 0))))))))) else bn1 (f_X8_here (gup G13 8 0 8 ((G13 8 0 8) + 1))) (fun r88 => bn1 (f_X8_in (gup G13 8 0 8 ((G13 8 0 8) + 1)) (bm r88) 49 53) (fun r90 => gd r90 (if r90 = 0 then some ((gup G13 8 0 8 ((G13 8 0 8) + 1)), 0) else bn1 (f_X8_here (gup G13 8 0 8 ((G13 8 0 8) + 1))) (fun r94 => ga ((2 * ((gup G13 8 0 8 ((G13 8 0 8) + 1)) 8 0 10)) + 1) 14 (nm (gup (gup (gup G13 8 0 8 ((G13 8 0 8) + 1)) 10 4 ((2 * ((gup G13 8 0 8 ((G13 8 0 8) + 1)) 8 0 10)) + 1) ((-1) * (r94 - 48))) 8 0 8 (((gup (gup G13 8 0 8 ((G13 8 0 8) + 1)) 10 4 ((2 * ((gup G13 8 0 8 ((G13 8 0 8) + 1)) 8 0 10)) + 1) ((-1) * (r94 - 48))) 8 0 8) + 1)) (fun G97 => bn1 (f_X8_here G97) (fun r99 => gd r99 (if r99 = 59 then some ((gup (gup G97 8 0 8 ((G97 8 0 8) + 1)) 8 0 10 (((gup G97 8 0 8 ((G97 8 0 8) + 1)) 8 0 10) + 1)), 1) else some ((gup (gup G97 8 0 8 ((G97 8 0 8) + 0)) 8 0 10 (((gup G97 8 0 8 ((G97 8 0 8) + 0)) 8 0 10) + 0)), 0))))))))))) else bn1 (f_X8_here G13) (fun r107 => gd r107 (if r107 = 59 then some ((gup (gup G13 8 0 8 ((G13 8 0 8) + 1)) 8 0 10 (((gup G13 8 0 8 ((G13 8 0 8) + 1)) 8 0 10) + 1)), 1) else some ((gup (gup G13 8 0 8 ((G13 8 0 8) + 0)) 8 0 10 (((gup G13 8 0 8 ((G13 8 0 8) + 0)) 8 0 10) + 0)), 0)))))))))))))))
def f_X8_readsText_L15 : Nat → GS → Int → (GS → Int → Option (GS × Int)) → Option (GS × Int)
  | 0, _, _, _ => none
  | n + 1, G, x1, k => gd x1 (if x1 = 0 then k G x1 else gd (G 8 0 8) (gd (G 8 0 7) (if (G 8 0 8) < (G 8 0 7) then bnd (f_X8_readsStage G) (fun G9 r10 => f_X8_readsText_L15 n G9 r10 k) else k G x1)))
def f_X8_readsText (G : GS) : Option (GS × Int) :=
  bnd (f_X8_readsStage (gup (gup G 8 0 8 0) 8 0 10 0)) (fun G1 r2 => f_X8_readsText_L15 gFuel G1 r2 (fun G13 y1_12 => gb y1_12 (some (G13, y1_12))))
def f_X8_parse_L35 : Nat → GS → Int → (GS → Int → Option (GS × Int)) → Option (GS × Int)
  | 0, _, _, _ => none
  | n + 1, G, x1, k => gd x1 (gd (G 8 0 10) (if x1 < (G 8 0 10) then ga (2 * x1) 14 (ga (9 + (3 * x1)) 260 (ga ((2 * x1) + 1) 14 (ga ((9 + (3 * x1)) + 1) 260 (nm (gup (gup G 10 0 (9 + (3 * x1)) (G 10 4 (2 * x1))) 10 0 ((9 + (3 * x1)) + 1) ((gup G 10 0 (9 + (3 * x1)) (G 10 4 (2 * x1))) 10 4 ((2 * x1) + 1))) (fun G20 => f_X8_parse_L35 n G20 (x1 + 1) k))))) else k G x1))
def f_X8_parse (G : GS) : Option (GS × Int) :=
  bnd (f_X8_readsText G) (fun G1 r2 => gd r2 (if r2 = 0 then bnd (f_X8_fine G1 ((-10) - (G1 8 0 8))) (fun G6 r7 => some (G6, r7)) else bn1 (f_X8_save G1) (fun G9 => bn1 (f_X8_begins G9 ((G9 8 0 10) + 1)) (fun G11 => f_X8_parse_L35 gFuel G11 0 (fun G23 y1_22 => bnd (f_X8_fine G23 (G23 10 0 0)) (fun G24 r25 => some (G24, r25)))))))
def f_X8_undo_L25 : Nat → GS → Int → (GS → Int → Option (GS × Int)) → Option (GS × Int)
  | 0, _, _, _ => none
  | n + 1, G, x1, k => gd x1 (if x1 < 260 then ga ((260 * (G 8 0 3)) + x1) 1040 (ga x1 260 (f_X8_undo_L25 n (gup G 10 0 x1 (G 10 1 ((260 * (G 8 0 3)) + x1))) (x1 + 1) k)) else k G x1)
def f_X8_undo (G : GS) : Option (GS × Int) :=
  gd (G 8 0 3) (if (G 8 0 3) = 0 then bnd (f_X8_throwing G 1) (fun G3 r4 => some (G3, r4)) else f_X8_undo_L25 gFuel (gup G 8 0 3 ((G 8 0 3) - 1)) 0 (fun G11 y1_10 => bnd (f_X8_fine G11 (G11 8 0 3)) (fun G12 r13 => some (G12, r13))))
def f_X8_digest_L17 : Nat → GS → Int → Int → (GS → Int → Int → Option (GS × Int)) → Option (GS × Int)
  | 0, _, _, _, _ => none
  | n + 1, G, x1, x3, k => gd x3 (if x3 < 11 then bn1 (f_X8_valueOf G x3) (fun r3 => f_X8_digest_L17 n G ((31 * x1) + (bm r3)) (x3 + 1) k) else k G x1 x3)
def f_X8_digest_L44 : Nat → GS → Int → Int → (GS → Int → Int → Option (GS × Int)) → Option (GS × Int)
  | 0, _, _, _, _ => none
  | n + 1, G, x1, x3, k => gd x3 (gd (6 * ((G 10 0 0) - 1)) (if x3 < (6 * ((G 10 0 0) - 1)) then ga x3 2147483648 (bn1 (f_X8_stageOf G (x3 / 6) (x3 % 6)) (fun r11 => f_X8_digest_L44 n G ((31 * x1) + (bm r11)) (x3 + 1) k)) else k G x1 x3))
def f_X8_digest_L87 : Nat → GS → Int → Int → (GS → Int → Int → Option (GS × Int)) → Option (GS × Int)
  | 0, _, _, _, _ => none
  | n + 1, G, x1, x3, k => gd x3 (gd (7 * (G 10 0 0)) (if x3 < (7 * (G 10 0 0)) then ga x3 2147483648 (bn1 (f_X8_innOf G (x3 / 7) (x3 % 7)) (fun r19 => f_X8_digest_L87 n G ((31 * x1) + (bm r19)) (x3 + 1) k)) else k G x1 x3))
def f_X8_digest_L128 : Nat → GS → Int → Int → (GS → Int → Int → Option (GS × Int)) → Option (GS × Int)
  | 0, _, _, _, _ => none
  | n + 1, G, x1, x3, k => gd x3 (gd (10 * (G 10 0 7)) (if x3 < (10 * (G 10 0 7)) then ga x3 2147483648 (bn1 (f_X8_of G (x3 / 10) (x3 % 10)) (fun r27 => f_X8_digest_L128 n G ((31 * x1) + (bm r27)) (x3 + 1) k)) else k G x1 x3))
def f_X8_digest_L184 : Nat → GS → Int → Int → Int → (GS → Int → Int → Int → Option (GS × Int)) → Option (GS × Int)
  | 0, _, _, _, _, _ => none
  | n + 1, G, x1, x3, x4, k => gd x4 (if x4 < 8 then bn1 (f_X8_ofLetter G x3 x4) (fun r36 => f_X8_digest_L184 n G ((31 * x1) + (bm r36)) x3 (x4 + 1) k) else k G x1 x3 x4)
def f_X8_digest_L170 : Nat → GS → Int → Int → (GS → Int → Int → Option (GS × Int)) → Option (GS × Int)
  | 0, _, _, _, _ => none
  | n + 1, G, x1, x3, k => gd x3 (gd (G 10 0 8) (if x3 < (G 10 0 8) then f_X8_digest_L184 gFuel G x1 x3 0 (fun G39 y1_38 y3_38 y4_38 => bn1 (f_X8_whyNot G39 y3_38) (fun r40 => f_X8_digest_L170 n G39 ((31 * y1_38) + (bm r40)) (y3_38 + 1) k)) else k G x1 x3))
def f_X8_digest (G : GS) : Option (GS × Int) :=
  f_X8_digest_L17 gFuel (gup G 8 0 4 0) (108221 + (bm ((gup G 8 0 4 0) 8 0 7))) 0 (fun G6 y1_5 y3_5 => f_X8_digest_L44 gFuel G6 y1_5 0 (fun G14 y1_13 y3_13 => f_X8_digest_L87 gFuel G14 y1_13 0 (fun G22 y1_21 y3_21 => f_X8_digest_L128 gFuel G22 y1_21 0 (fun G30 y1_29 y3_29 => f_X8_digest_L170 gFuel G30 y1_29 0 (fun G43 y1_42 y3_42 => bnd (f_X8_forAll G43) (fun G44 r45 => some (G44, (31 * ((31 * y1_42) + (bm r45))) + (bm (G44 8 0 3)))))))))
def f_X7_hoursTo (G : GS) (p1 : Int) : Option (GS × (Int × Int)) :=
  bn1 (f_X7_checkNumber G p1 (G 3 0 6)) (fun x1 => if x1 = 0 then bn1 (f_X3_copyFrom G 1 0) (fun G3 => bnd (f_X3_hoursUntilDelivered G3 1 p1) (fun G5 r6 => some (G5, (0, r6)))) else some (G, (x1, 0)))
def f_X7_way (G : GS) (p1 : Int) (p2 : Int) : Option (Int × Int) :=
  bn1 (f_X7_checkNumber G p1 (G 3 0 4)) (fun x1 => if x1 = 0 then bn1 (f_X7_checkNumber G p2 (G 3 0 4)) (fun x3 => if x3 = 0 then gd p1 (gd p2 (bn1 (f_X3_hoursBetween G 0 (if p2 < p1 then p2 else p1) (if p1 < p2 then p2 else p1)) (fun r7 => some (0, r7)))) else some (x3, 0)) else some (x1, 0))
def lwB {β : Type} (o : Option (GS × (Int × Int))) (k : GS → Int → Int → Option β) : Option β := match o with
  | none => none
  | some q => k q.1 q.2.1 q.2.2
def lwP {β : Type} (o : Option (Int × Int)) (k : Int → Int → Option β) : Option β := match o with
  | none => none
  | some q => k q.1 q.2
def f_L_setStage (G : GS) (p1 : Int) (p2 : Int) (p3 : Int) (p4 : Int) : Option (GS × Int) := lwB (f_X7_setStage G p1 p2 p3 p4) (fun G1 x r => if x = 0 then some (gup G1 13 0 0 (bm r), 0) else if x = 1 then some (G1, 1) else if x = 2 then some (G1, 2) else none)
def f_L_setInn (G : GS) (p1 : Int) (p2 : Int) (p3 : Int) (p4 : Int) : Option (GS × Int) := lwB (f_X7_setInn G p1 p2 p3 p4) (fun G1 x r => if x = 0 then some (gup G1 13 0 0 (bm r), 0) else if x = 1 then some (G1, 1) else if x = 2 then some (G1, 2) else none)
def f_L_addTeam (G : GS) (p1 : Int) (p2 : Int) : Option (GS × Int) := lwB (f_X7_addTeam G p1 p2) (fun G1 x r => if x = 0 then some (gup G1 13 0 0 (bm r), 0) else if x = 1 then some (G1, 1) else if x = 2 then some (G1, 2) else if x = 3 then some (G1, 3) else none)
def f_L_give (G : GS) (p1 : Int) (p2 : Int) (p3 : Int) : Option (GS × Int) := lwB (f_X7_give G p1 p2 p3) (fun G1 x r => if x = 0 then some (gup G1 13 0 0 (bm r), 0) else if x = 1 then some (G1, 1) else if x = 2 then some (G1, 2) else if x = 3 then some (G1, 3) else none)
def f_L_pass (G : GS) (p1 : Int) : Option (GS × Int) := lwB (f_X7_pass G p1) (fun G1 x r => if x = 0 then some (gup G1 13 0 0 (bm r), 0) else if x = 2 then some (G1, 1) else if x = 3 then some (G1, 2) else none)
def f_L_stage (G : GS) (p1 : Int) (p2 : Int) : Option (GS × Int) := lwP (f_X7_stage G p1 p2) (fun x r => if x = 0 then some (gup G 13 0 0 (bm r), 0) else if x = 1 then some (G, 1) else if x = 2 then some (G, 2) else none)
def f_L_inn (G : GS) (p1 : Int) (p2 : Int) : Option (GS × Int) := lwP (f_X7_inn G p1 p2) (fun x r => if x = 0 then some (gup G 13 0 0 (bm r), 0) else if x = 1 then some (G, 1) else if x = 2 then some (G, 2) else none)
def f_L_team (G : GS) (p1 : Int) (p2 : Int) : Option (GS × Int) := lwP (f_X7_team G p1 p2) (fun x r => if x = 0 then some (gup G 13 0 0 (bm r), 0) else if x = 1 then some (G, 1) else if x = 2 then some (G, 2) else none)
def f_L_letter (G : GS) (p1 : Int) (p2 : Int) : Option (GS × Int) := lwP (f_X7_letter G p1 p2) (fun x r => if x = 0 then some (gup G 13 0 0 (bm r), 0) else if x = 1 then some (G, 1) else if x = 2 then some (G, 2) else none)
def f_L_value (G : GS) (p1 : Int) : Option (GS × Int) := lwP (f_X7_value G p1) (fun x r => if x = 0 then some (gup G 13 0 0 (bm r), 0) else if x = 2 then some (G, 1) else none)
def f_L_why (G : GS) (p1 : Int) : Option (GS × Int) := lwP (f_X7_why G p1) (fun x r => if x = 0 then some (gup G 13 0 0 (bm r), 0) else if x = 1 then some (G, 1) else none)
def f_L_hoursTo (G : GS) (p1 : Int) : Option (GS × Int) := lwB (f_X7_hoursTo G p1) (fun G1 x r => if x = 0 then some (gup G1 13 0 0 (bm r), 0) else if x = 1 then some (G1, 1) else none)
def f_L_way (G : GS) (p1 : Int) (p2 : Int) : Option (GS × Int) := lwP (f_X7_way G p1 p2) (fun x r => if x = 0 then some (gup G 13 0 0 (bm r), 0) else if x = 1 then some (G, 1) else none)
def f_L_effortHome (G : GS) (p1 : Int) : Option (GS × Int) := lwP (f_X7_effortHome G p1) (fun x r => if x = 0 then some (gup G 13 0 0 (bm r), 0) else if x = 1 then some (G, 1) else none)
def f_L_append (G : GS) (p1 : Int) : Option (GS × Int) := lwB (f_X7_append G p1) (fun G1 x r => if x = 0 then some (gup G1 13 0 0 (bm r), 0) else if x = 2 then some (G1, 1) else if x = 3 then some (G1, 2) else none)
def f_L_undo (G : GS) : Option (GS × Int) := lwB (f_X7_undo G) (fun G1 x r => if x = 0 then some (gup G1 13 0 0 (bm r), 0) else if x = 3 then some (G1, 1) else none)
def nz (z : Int) : Int := if z = 0 then 0 else 1
def lwT (o : Option (GS × Int)) (mf : GS → Option (GS × Int)) : Option GS := bnd o (fun G1 k => bnd (mf G1) (fun G2 b => bn1 (f_X8_thrown G2) (fun t => gd t (gd k (if t = k then (if k = 0 then gj (G2 13 0 0) (gj (bm b) (if G2 13 0 0 = bm b then some G2 else none)) else some G2) else none)))))
def lwU (o : Option (GS × Int)) (mf : GS → Option (GS × Int)) : Option GS := bnd o (fun G1 a => bnd (mf G1) (fun G2 b => gd a (gd b (if a = b then some G2 else none))))
def lwJ (o : Option (GS × Int)) (mf : GS → Option (GS × Int)) : Option GS := bnd o (fun G1 a => bnd (mf G1) (fun G2 b => if a = b then some G2 else none))
def lwD (o : Option UInt64) (mf : Option (GS × UInt64)) : Option GS := bn1 o (fun a => bnd mf (fun G2 b => if FP.dcmp a b = some .eq then some G2 else none))

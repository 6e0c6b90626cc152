def f_X3_sendLetters_L2 (o : Int) (p1 : Int) : Nat → GS → Int → (GS → Int → Option (GS)) → Option (GS)
  | 0, _, _, _ => none
  | n + 1, G, x2, k => gd x2 (gd (G 3 o 6) (if x2 < (G 3 o 6) then ga x2 12 (gd (G 2 (12 * o + x2) 2) (gd p1 (if (G 2 (12 * o + x2) 2) = p1 then bn1 (f_X3_hindrance G o x2) (fun r9 => gd r9 (if r9 = 0 then bn1 (f_X3_sendLetter G o x2) (fun G13 => f_X3_sendLetters_L2 o p1 n G13 (x2 + 1) k) else f_X3_sendLetters_L2 o p1 n G (x2 + 1) k)) else f_X3_sendLetters_L2 o p1 n G (x2 + 1) k))) else k G x2))
def f_X3_sendLetters (G : GS) (o : Int) (p1 : Int) : Option (GS) :=
  f_X3_sendLetters_L2 o p1 gFuel G 0 (fun G16 y2_15 => some G16)
set_option maxHeartbeats 4000000 in
set_option maxRecDepth 100000 in
theorem c_X3_sendLetters (l : Launch) (E : gEnv) (G : GS) (o : Int) (p1 : Int) (ho : gOk E 3 o) (Gz : GS) (hf : f_X3_sendLetters G o p1 = some Gz) : gMet l yX3_sendLetters cX3_sendLetters 3 none 3 71 0 0 [.ref (eA E 3 o), vI p1] E G (gQv E Gz) := by
  refine g_met (by decide +kernel) (Nat.le_of_ble_eq_true rfl) ?_
  intro p e s m below meth c C H locs h ls hl
  have C : gC p s m _ meth c RX3 cX3_sendLetters 3 none E := C
  have hl : lv_has ls 3 [(0, .ref (eA E 3 o)), (1, vI p1)] := hl
  have L2 : ∀ (n : Nat) (G : GS) (x2 : Int) (k : (GS → Int → Option (GS))) (hK : ∀ (G : GS) (x2 : Int), k G x2 = some Gz → ∀ (H : Heap) (locs : List Loc), gH E s G H locs → ∀ ls, lv_has ls 3 [(0, .ref (eA E 3 o)), (1, vI p1), (2, vI x2)] → W p l e (gRm 3 71 0 0) s m ([.ref (eA E 3 o), vI p1] : List Value).toArray below meth c H locs 0 0 (MQ below (gQv E Gz) ([.ref (eA E 3 o), vI p1] : List Value).toArray s 0 0 (eF E)) (F0 m 41 ls [])), ∀ (H : Heap) (locs : List Loc), gH E s G H locs → ∀ ls, lv_has ls 3 [(0, .ref (eA E 3 o)), (1, vI p1), (2, vI x2)] → f_X3_sendLetters_L2 o p1 n G x2 k = some Gz → W p l e (gRm 3 71 0 0) s m ([.ref (eA E 3 o), vI p1] : List Value).toArray below meth c H locs 0 0 (MQ below (gQv E Gz) ([.ref (eA E 3 o), vI p1] : List Value).toArray s 0 0 (eF E)) (F0 m 2 ls []) := by
    intro n
    induction n with
    | zero =>
      intro G x2 k hK H locs h ls hl hf
      exact absurd hf (by simp [f_X3_sendLetters_L2])
    | succ n ih =>
      intro G x2 k hK H locs h ls hl hf
      unfold f_X3_sendLetters_L2 at hf
      refine g_iload_n C hl 2 rfl rfl (gdec kX3_sendLetters 2 rfl) ?_
      refine g_aload_n C hl 0 rfl rfl (gdec kX3_sendLetters 3 rfl) ?_
      refine gf_X3_54 C h ho (gdec kX3_sendLetters 4 rfl) ?_
      obtain ⟨h1, hf⟩ := gd_s hf
      obtain ⟨h2, hf⟩ := gd_s hf
      refine g_icmp_ge C (tgt := 41) h1 h2 (by decide) (gdec kX3_sendLetters 5 rfl) (fun c3 => ?_) (fun c3 => ?_)
      · replace hf := ifp c3 hf
        refine g_aload_n C hl 0 rfl rfl (gdec kX3_sendLetters 6 rfl) ?_
        refine g_iload_n C hl 2 rfl rfl (gdec kX3_sendLetters 7 rfl) ?_
        obtain ⟨h4, hf⟩ := ga_s hf
        refine g_cr h (g_runV C h ho (by decide) rfl (c_X3_letterRow l E _ _ _ ho _ (e_X3_letterRow _ _ _ h4)) wM_X3_89 wI_X3_letterRow wS_X3_letterRow wN_X3 wC_X3_letterRow rfl ny_X3_letterRow rfl ⟨Nat.le_of_ble_eq_true rfl, Nat.le_of_ble_eq_true rfl⟩ hl.1 rfl (Nat.le_of_ble_eq_true rfl) (gdec kX3_sendLetters 8 rfl) ⟨Nat.zero_le _, Nat.zero_le _⟩) (fun H locs h => ?_)
        have k5 : gOk E 2 (12 * o + x2) := gok2 C (gcl_3_3 C ho) h4
        refine gf_X3_202 C h k5 (gdec kX3_sendLetters 9 rfl) ?_
        refine g_iload_n C hl 1 rfl rfl (gdec kX3_sendLetters 10 rfl) ?_
        obtain ⟨h6, hf⟩ := gd_s hf
        obtain ⟨h7, hf⟩ := gd_s hf
        refine g_icmp_ne C (tgt := 35) h6 h7 (by decide) (gdec kX3_sendLetters 11 rfl) (fun c8 => ?_) (fun c8 => ?_)
        · replace hf := ifp c8 hf
          refine g_aload_n C hl 0 rfl rfl (gdec kX3_sendLetters 12 rfl) ?_
          refine g_iload_n C hl 2 rfl rfl (gdec kX3_sendLetters 13 rfl) ?_
          obtain ⟨r9, q10, hf⟩ := bn1_s hf
          refine g_ci h (g_runV C h ho (by decide) rfl (c_X3_hindrance l E _ _ _ ho _ q10) wM_X3_205 wI_X3_hindrance wS_X3_hindrance wN_X3 wC_X3_hindrance rfl ny_X3_hindrance rfl ⟨Nat.le_of_ble_eq_true rfl, Nat.le_of_ble_eq_true rfl⟩ hl.1 rfl (Nat.le_of_ble_eq_true rfl) (gdec kX3_sendLetters 14 rfl) ⟨Nat.zero_le _, Nat.zero_le _⟩) (fun H locs h => ?_)
          obtain ⟨h11, hf⟩ := gd_s hf
          refine g_if_ne C (tgt := 35) h11 (by decide) (gdec kX3_sendLetters 15 rfl) (fun c12 => ?_) (fun c12 => ?_)
          · replace hf := ifp c12 hf
            refine g_aload_n C hl 0 rfl rfl (gdec kX3_sendLetters 16 rfl) ?_
            refine g_iload_n C hl 2 rfl rfl (gdec kX3_sendLetters 17 rfl) ?_
            obtain ⟨G13, q14, hf⟩ := bn1_s hf
            refine g_cv h (g_runV C h ho (by decide) rfl (c_X3_sendLetter l E _ _ _ ho _ q14) wM_X3_209 wI_X3_sendLetter wS_X3_sendLetter wN_X3 wC_X3_sendLetter rfl ny_X3_sendLetter rfl ⟨Nat.le_of_ble_eq_true rfl, Nat.le_of_ble_eq_true rfl⟩ hl.1 rfl (Nat.le_of_ble_eq_true rfl) (gdec kX3_sendLetters 18 rfl) ⟨Nat.zero_le _, Nat.zero_le _⟩) (fun H locs h => ?_)
            refine g_iinc C (k := 2) [(2, vI (x2 + 1)), (0, .ref (eA E 3 o)), (1, vI p1)] hl rfl (by decide) rfl (gdec kX3_sendLetters 19 rfl) (fun ls hl => ?_)
            refine g_goto C (tgt := 2) (by decide) (gdec kX3_sendLetters 20 rfl) ?_
            exact ih _ _ k hK H locs h ls (lv_sub hl [1, 2, 0] rfl) hf
          · replace hf := ifn c12 hf
            refine g_iinc C (k := 2) [(2, vI (x2 + 1)), (0, .ref (eA E 3 o)), (1, vI p1)] hl rfl (by decide) rfl (gdec kX3_sendLetters 19 rfl) (fun ls hl => ?_)
            refine g_goto C (tgt := 2) (by decide) (gdec kX3_sendLetters 20 rfl) ?_
            exact ih _ _ k hK H locs h ls (lv_sub hl [1, 2, 0] rfl) hf
        · replace hf := ifn c8 hf
          refine g_iinc C (k := 2) [(2, vI (x2 + 1)), (0, .ref (eA E 3 o)), (1, vI p1)] hl rfl (by decide) rfl (gdec kX3_sendLetters 19 rfl) (fun ls hl => ?_)
          refine g_goto C (tgt := 2) (by decide) (gdec kX3_sendLetters 20 rfl) ?_
          exact ih _ _ k hK H locs h ls (lv_sub hl [1, 2, 0] rfl) hf
      · replace hf := ifn c3 hf
        exact hK _ _ hf H locs h ls (lv_sub hl [0, 1, 2] rfl)
  unfold f_X3_sendLetters at hf
  refine g_iconst C (gdec kX3_sendLetters 0 rfl) ?_
  refine g_istore_n C [(2, vI 0), (0, .ref (eA E 3 o)), (1, vI p1)] hl rfl (by decide) rfl (gdec kX3_sendLetters 1 rfl) (fun ls hl => ?_)
  refine L2 gFuel _ _ _ (fun G16 y2_15 hf H locs h ls hl => ?_) H locs h ls (lv_sub hl [1, 2, 0] rfl) hf
  exact g_vret C h hf (gdec kX3_sendLetters 21 rfl)
def f_X3_lettersAt_L4 (G : GS) (o : Int) (p1 : Int) : Nat → Int → Int → (Int → Int → Option (Int)) → Option (Int)
  | 0, _, _, _ => none
  | n + 1, x2, x3, k => gd x3 (gd (G 3 o 6) (if x3 < (G 3 o 6) then ga x3 12 (bn1 (f_X2_liesAtAnInn G (12 * o + x3)) (fun r6 => gd r6 (if r6 = 0 then f_X3_lettersAt_L4 G o p1 n x2 (x3 + 1) k else gd (G 2 (12 * o + x3) 4) (gd p1 (if (G 2 (12 * o + x3) 4) = p1 then f_X3_lettersAt_L4 G o p1 n (x2 + 1) (x3 + 1) k else f_X3_lettersAt_L4 G o p1 n x2 (x3 + 1) k))))) else k x2 x3))
def f_X3_lettersAt (G : GS) (o : Int) (p1 : Int) : Option (Int) :=
  f_X3_lettersAt_L4 G o p1 gFuel 0 0 (fun y2_14 y3_14 => some y2_14)
set_option maxHeartbeats 4000000 in
set_option maxRecDepth 100000 in
theorem c_X3_lettersAt (l : Launch) (E : gEnv) (G : GS) (o : Int) (p1 : Int) (ho : gOk E 3 o) (rz : Int) (hf : f_X3_lettersAt G o p1 = some rz) : gMet l yX3_lettersAt cX3_lettersAt 4 (some .int) 2 40 0 0 [.ref (eA E 3 o), vI p1] E G (gQi E G rz) := by
  refine g_met (by decide +kernel) (Nat.le_of_ble_eq_true rfl) ?_
  intro p e s m below meth c C H locs h ls hl
  have C : gC p s m _ meth c RX3 cX3_lettersAt 4 (some .int) E := C
  have hl : lv_has ls 4 [(0, .ref (eA E 3 o)), (1, vI p1)] := hl
  have L4 : ∀ (n : Nat) (x2 : Int) (x3 : Int) (k : (Int → Int → Option (Int))) (hK : ∀ (x2 : Int) (x3 : Int), k x2 x3 = some rz → ∀ (H : Heap) (locs : List Loc), gH E s G H locs → ∀ ls, lv_has ls 4 [(0, .ref (eA E 3 o)), (1, vI p1), (2, vI x2), (3, vI x3)] → W p l e (gRm 2 40 0 0) s m ([.ref (eA E 3 o), vI p1] : List Value).toArray below meth c H locs 0 0 (MQ below (gQi E G rz) ([.ref (eA E 3 o), vI p1] : List Value).toArray s 0 0 (eF E)) (F0 m 44 ls [])), ∀ (H : Heap) (locs : List Loc), gH E s G H locs → ∀ ls, lv_has ls 4 [(0, .ref (eA E 3 o)), (1, vI p1), (2, vI x2), (3, vI x3)] → f_X3_lettersAt_L4 G o p1 n x2 x3 k = some rz → W p l e (gRm 2 40 0 0) s m ([.ref (eA E 3 o), vI p1] : List Value).toArray below meth c H locs 0 0 (MQ below (gQi E G rz) ([.ref (eA E 3 o), vI p1] : List Value).toArray s 0 0 (eF E)) (F0 m 4 ls []) := by
    intro n
    induction n with
    | zero =>
      intro x2 x3 k hK H locs h ls hl hf
      exact absurd hf (by simp [f_X3_lettersAt_L4])
    | succ n ih =>
      intro x2 x3 k hK H locs h ls hl hf
      unfold f_X3_lettersAt_L4 at hf
      refine g_iload_n C hl 3 rfl rfl (gdec kX3_lettersAt 4 rfl) ?_
      refine g_aload_n C hl 0 rfl rfl (gdec kX3_lettersAt 5 rfl) ?_
      refine gf_X3_54 C h ho (gdec kX3_lettersAt 6 rfl) ?_
      obtain ⟨h1, hf⟩ := gd_s hf
      obtain ⟨h2, hf⟩ := gd_s hf
      refine g_icmp_ge C (tgt := 44) h1 h2 (by decide) (gdec kX3_lettersAt 7 rfl) (fun c3 => ?_) (fun c3 => ?_)
      · replace hf := ifp c3 hf
        refine g_aload_n C hl 0 rfl rfl (gdec kX3_lettersAt 8 rfl) ?_
        refine g_iload_n C hl 3 rfl rfl (gdec kX3_lettersAt 9 rfl) ?_
        obtain ⟨h4, hf⟩ := ga_s hf
        refine g_cr h (g_runV C h ho (by decide) rfl (c_X3_letterRow l E _ _ _ ho _ (e_X3_letterRow _ _ _ h4)) wM_X3_89 wI_X3_letterRow wS_X3_letterRow wN_X3 wC_X3_letterRow rfl ny_X3_letterRow rfl ⟨Nat.le_of_ble_eq_true rfl, Nat.le_of_ble_eq_true rfl⟩ hl.1 rfl (Nat.le_of_ble_eq_true rfl) (gdec kX3_lettersAt 10 rfl) ⟨Nat.zero_le _, Nat.zero_le _⟩) (fun H locs h => ?_)
        have k5 : gOk E 2 (12 * o + x3) := gok2 C (gcl_3_3 C ho) h4
        obtain ⟨r6, q7, hf⟩ := bn1_s hf
        refine g_ci h (g_runV C h k5 (by decide) rfl (c_X2_liesAtAnInn l E _ _ k5 _ q7) wM_X3_280 wI_X2_liesAtAnInn wS_X2_liesAtAnInn wN_X2 wC_X2_liesAtAnInn rfl ny_X2_liesAtAnInn rfl ⟨Nat.le_of_ble_eq_true rfl, Nat.le_of_ble_eq_true rfl⟩ hl.1 rfl (Nat.le_of_ble_eq_true rfl) (gdec kX3_lettersAt 11 rfl) ⟨Nat.zero_le _, Nat.zero_le _⟩) (fun H locs h => ?_)
        obtain ⟨h8, hf⟩ := gd_s hf
        refine g_if_eq C (tgt := 38) h8 (by decide) (gdec kX3_lettersAt 12 rfl) (fun c9 => ?_) (fun c9 => ?_)
        · replace hf := ifp c9 hf
          refine g_iinc C (k := 3) [(3, vI (x3 + 1)), (0, .ref (eA E 3 o)), (1, vI p1), (2, vI x2)] hl rfl (by decide) rfl (gdec kX3_lettersAt 20 rfl) (fun ls hl => ?_)
          refine g_goto C (tgt := 4) (by decide) (gdec kX3_lettersAt 21 rfl) ?_
          exact ih _ _ k hK H locs h ls (lv_sub hl [1, 2, 3, 0] rfl) hf
        · replace hf := ifn c9 hf
          refine g_aload_n C hl 0 rfl rfl (gdec kX3_lettersAt 13 rfl) ?_
          refine g_iload_n C hl 3 rfl rfl (gdec kX3_lettersAt 14 rfl) ?_
          refine g_cr h (g_runV C h ho (by decide) rfl (c_X3_letterRow l E _ _ _ ho _ (e_X3_letterRow _ _ _ h4)) wM_X3_89 wI_X3_letterRow wS_X3_letterRow wN_X3 wC_X3_letterRow rfl ny_X3_letterRow rfl ⟨Nat.le_of_ble_eq_true rfl, Nat.le_of_ble_eq_true rfl⟩ hl.1 rfl (Nat.le_of_ble_eq_true rfl) (gdec kX3_lettersAt 15 rfl) ⟨Nat.zero_le _, Nat.zero_le _⟩) (fun H locs h => ?_)
          have k10 : gOk E 2 (12 * o + x3) := gok2 C (gcl_3_3 C ho) h4
          refine gf_X3_189 C h k10 (gdec kX3_lettersAt 16 rfl) ?_
          refine g_iload_n C hl 1 rfl rfl (gdec kX3_lettersAt 17 rfl) ?_
          obtain ⟨h11, hf⟩ := gd_s hf
          obtain ⟨h12, hf⟩ := gd_s hf
          refine g_icmp_ne C (tgt := 38) h11 h12 (by decide) (gdec kX3_lettersAt 18 rfl) (fun c13 => ?_) (fun c13 => ?_)
          · replace hf := ifp c13 hf
            refine g_iinc C (k := 2) [(2, vI (x2 + 1)), (0, .ref (eA E 3 o)), (1, vI p1), (3, vI x3)] hl rfl (by decide) rfl (gdec kX3_lettersAt 19 rfl) (fun ls hl => ?_)
            refine g_iinc C (k := 3) [(3, vI (x3 + 1)), (2, vI (x2 + 1)), (0, .ref (eA E 3 o)), (1, vI p1)] hl rfl (by decide) rfl (gdec kX3_lettersAt 20 rfl) (fun ls hl => ?_)
            refine g_goto C (tgt := 4) (by decide) (gdec kX3_lettersAt 21 rfl) ?_
            exact ih _ _ k hK H locs h ls (lv_sub hl [2, 3, 1, 0] rfl) hf
          · replace hf := ifn c13 hf
            refine g_iinc C (k := 3) [(3, vI (x3 + 1)), (0, .ref (eA E 3 o)), (1, vI p1), (2, vI x2)] hl rfl (by decide) rfl (gdec kX3_lettersAt 20 rfl) (fun ls hl => ?_)
            refine g_goto C (tgt := 4) (by decide) (gdec kX3_lettersAt 21 rfl) ?_
            exact ih _ _ k hK H locs h ls (lv_sub hl [1, 2, 3, 0] rfl) hf
      · replace hf := ifn c3 hf
        exact hK _ _ hf H locs h ls (lv_sub hl [0, 1, 2, 3] rfl)
  unfold f_X3_lettersAt at hf
  refine g_iconst C (gdec kX3_lettersAt 0 rfl) ?_
  refine g_istore_n C [(2, vI 0), (0, .ref (eA E 3 o)), (1, vI p1)] hl rfl (by decide) rfl (gdec kX3_lettersAt 1 rfl) (fun ls hl => ?_)
  refine g_iconst C (gdec kX3_lettersAt 2 rfl) ?_
  refine g_istore_n C [(3, vI 0), (2, vI 0), (0, .ref (eA E 3 o)), (1, vI p1)] hl rfl (by decide) rfl (gdec kX3_lettersAt 3 rfl) (fun ls hl => ?_)
  refine L4 gFuel _ _ _ (fun y2_14 y3_14 hf H locs h ls hl => ?_) H locs h ls (lv_sub hl [2, 3, 1, 0] rfl) hf
  refine g_iload_n C hl 2 rfl rfl (gdec kX3_lettersAt 22 rfl) ?_
  exact g_iret C h (congrArg (Option.map (Prod.mk _)) hf) (gdec kX3_lettersAt 23 rfl)
def f_X3_sendBack (G : GS) (o : Int) (p1 : Int) : Option (GS) :=
  bn1 (f_X7_nextInn G (G 6 p1 2) (G 6 p1 0)) (fun r1 => bn1 (f_X7_stageBetween G (G 6 p1 2) r1) (fun r3 => ga r3 7 (gd (G 5 (7 * o + r3) 2) (if (G 5 (7 * o + r3) 2) = 0 then bn1 (f_X3_bedsTaken G o r1) (fun r9 => ga r1 8 (gd r9 (gd (G 1 (8 * o + r1) 0) (if r9 < (G 1 (8 * o + r1) 0) then bn1 (f_X6_setOut G p1 r1 (2 * (G 5 (7 * o + r3) 0))) (fun G16 => some (gup G16 6 p1 7 1)) else some G)))) else some G))))
set_option maxHeartbeats 4000000 in
set_option maxRecDepth 100000 in
theorem c_X3_sendBack (l : Launch) (E : gEnv) (G : GS) (o : Int) (p1 : Int) (ho : gOk E 3 o) (hp1 : gOk E 6 p1) (Gz : GS) (hf : f_X3_sendBack G o p1 = some Gz) : gMet l yX3_sendBack cX3_sendBack 4 none 2 44 0 0 [.ref (eA E 3 o), .ref (eA E 6 p1)] E G (gQv E Gz) := by
  refine g_met (by decide +kernel) (Nat.le_of_ble_eq_true rfl) ?_
  intro p e s m below meth c C H locs h ls hl
  have C : gC p s m _ meth c RX3 cX3_sendBack 4 none E := C
  have hl : lv_has ls 4 [(0, .ref (eA E 3 o)), (1, .ref (eA E 6 p1))] := hl
  unfold f_X3_sendBack at hf
  refine g_aload_n C hl 1 rfl rfl (gdec kX3_sendBack 0 rfl) ?_
  refine gf_X3_135 C h hp1 (gdec kX3_sendBack 1 rfl) ?_
  refine g_aload_n C hl 1 rfl rfl (gdec kX3_sendBack 2 rfl) ?_
  refine gf_X3_247 C h hp1 (gdec kX3_sendBack 3 rfl) ?_
  obtain ⟨r1, q2, hf⟩ := bn1_s hf
  refine g_ci h (g_runSN C h (c_X7_nextInn l E _ _ _ _ q2) wNest_X3_212 wT_X7_nextInn wN_X7 wC_X7_nextInn ny_X7_nextInn rfl ⟨Nat.le_of_ble_eq_true rfl, Nat.le_of_ble_eq_true rfl⟩ hl.1 rfl (Nat.le_of_ble_eq_true rfl) (gdec kX3_sendBack 4 rfl) ⟨Nat.zero_le _, Nat.zero_le _⟩) (fun H locs h => ?_)
  refine g_istore_n C [(2, vI r1), (0, .ref (eA E 3 o)), (1, .ref (eA E 6 p1))] hl rfl (by decide) rfl (gdec kX3_sendBack 5 rfl) (fun ls hl => ?_)
  refine g_aload_n C hl 1 rfl rfl (gdec kX3_sendBack 6 rfl) ?_
  refine g_aload_n C hl 2 rfl rfl (gdec kX3_sendBack 7 rfl) ?_
  refine gf_X3_135 C h hp1 (gdec kX3_sendBack 8 rfl) ?_
  refine g_iload_n C hl 0 rfl rfl (gdec kX3_sendBack 9 rfl) ?_
  obtain ⟨r3, q4, hf⟩ := bn1_s hf
  refine g_ci h (g_runSN C h (c_X7_stageBetween l E _ _ _ _ q4) wNest_X3_219 wT_X7_stageBetween wN_X7 wC_X7_stageBetween ny_X7_stageBetween rfl ⟨Nat.le_of_ble_eq_true rfl, Nat.le_of_ble_eq_true rfl⟩ hl.1 rfl (Nat.le_of_ble_eq_true rfl) (gdec kX3_sendBack 10 rfl) ⟨Nat.zero_le _, Nat.zero_le _⟩) (fun H locs h => ?_)
  obtain ⟨h5, hf⟩ := ga_s hf
  refine g_cr h (g_runV C h ho (by decide) rfl (c_X3_stageRow l E _ _ _ ho _ (e_X3_stageRow _ _ _ h5)) wM_X3_169 wI_X3_stageRow wS_X3_stageRow wN_X3 wC_X3_stageRow rfl ny_X3_stageRow rfl ⟨Nat.le_of_ble_eq_true rfl, Nat.le_of_ble_eq_true rfl⟩ hl.1 rfl (Nat.le_of_ble_eq_true rfl) (gdec kX3_sendBack 11 rfl) ⟨Nat.zero_le _, Nat.zero_le _⟩) (fun H locs h => ?_)
  have k6 : gOk E 5 (7 * o + r3) := gok5 C (gcl_3_0 C ho) h5
  refine g_astore_n C [(3, .ref (eA E 5 (7 * o + r3))), (2, vI r1), (0, .ref (eA E 3 o)), (1, .ref (eA E 6 p1))] hl rfl (by decide) rfl (gdec kX3_sendBack 12 rfl) (fun ls hl => ?_)
  refine g_aload_n C hl 0 rfl rfl (gdec kX3_sendBack 13 rfl) ?_
  refine gf_X3_231 C h k6 (gdec kX3_sendBack 14 rfl) ?_
  obtain ⟨h7, hf⟩ := gd_s hf
  refine g_if_ne C (tgt := 64) h7 (by decide) (gdec kX3_sendBack 15 rfl) (fun c8 => ?_) (fun c8 => ?_)
  · replace hf := ifp c8 hf
    refine g_aload_n C hl 2 rfl rfl (gdec kX3_sendBack 16 rfl) ?_
    refine g_iload_n C hl 1 rfl rfl (gdec kX3_sendBack 17 rfl) ?_
    obtain ⟨r9, q10, hf⟩ := bn1_s hf
    refine g_ci h (g_runV C h ho (by decide) rfl (c_X3_bedsTaken l E _ _ _ ho _ q10) wM_X3_237 wI_X3_bedsTaken wS_X3_bedsTaken wN_X3 wC_X3_bedsTaken rfl ny_X3_bedsTaken rfl ⟨Nat.le_of_ble_eq_true rfl, Nat.le_of_ble_eq_true rfl⟩ hl.1 rfl (Nat.le_of_ble_eq_true rfl) (gdec kX3_sendBack 18 rfl) ⟨Nat.zero_le _, Nat.zero_le _⟩) (fun H locs h => ?_)
    refine g_aload_n C hl 2 rfl rfl (gdec kX3_sendBack 19 rfl) ?_
    refine g_iload_n C hl 1 rfl rfl (gdec kX3_sendBack 20 rfl) ?_
    obtain ⟨h11, hf⟩ := ga_s hf
    refine g_cr h (g_runV C h ho (by decide) rfl (c_X3_innRow l E _ _ _ ho _ (e_X3_innRow _ _ _ h11)) wM_X3_138 wI_X3_innRow wS_X3_innRow wN_X3 wC_X3_innRow rfl ny_X3_innRow rfl ⟨Nat.le_of_ble_eq_true rfl, Nat.le_of_ble_eq_true rfl⟩ hl.1 rfl (Nat.le_of_ble_eq_true rfl) (gdec kX3_sendBack 21 rfl) ⟨Nat.zero_le _, Nat.zero_le _⟩) (fun H locs h => ?_)
    have k12 : gOk E 1 (8 * o + r1) := gok1 C (gcl_3_1 C ho) h11
    refine gf_X3_240 C h k12 (gdec kX3_sendBack 22 rfl) ?_
    obtain ⟨h13, hf⟩ := gd_s hf
    obtain ⟨h14, hf⟩ := gd_s hf
    refine g_icmp_ge C (tgt := 64) h13 h14 (by decide) (gdec kX3_sendBack 23 rfl) (fun c15 => ?_) (fun c15 => ?_)
    · replace hf := ifp c15 hf
      refine g_aload_n C hl 3 rfl rfl (gdec kX3_sendBack 24 rfl) ?_
      refine g_iload_n C hl 1 rfl rfl (gdec kX3_sendBack 25 rfl) ?_
      refine g_iconst C (gdec kX3_sendBack 26 rfl) ?_
      refine g_aload_n C hl 0 rfl rfl (gdec kX3_sendBack 27 rfl) ?_
      refine gf_X3_222 C h k6 (gdec kX3_sendBack 28 rfl) ?_
      refine g_imul C (gdec kX3_sendBack 29 rfl) ?_
      obtain ⟨G16, q17, hf⟩ := bn1_s hf
      refine g_cv h (g_runV C h hp1 (by decide) rfl (c_X6_setOut l E _ _ _ _ hp1 _ q17) wM_X3_225 wI_X6_setOut wS_X6_setOut wN_X6 wC_X6_setOut rfl ny_X6_setOut rfl ⟨Nat.le_of_ble_eq_true rfl, Nat.le_of_ble_eq_true rfl⟩ hl.1 rfl (Nat.le_of_ble_eq_true rfl) (gdec kX3_sendBack 30 rfl) ⟨Nat.zero_le _, Nat.zero_le _⟩) (fun H locs h => ?_)
      refine g_aload_n C hl 3 rfl rfl (gdec kX3_sendBack 31 rfl) ?_
      refine g_iconst C (gdec kX3_sendBack 32 rfl) ?_
      refine gp_X3_159 C h hp1 (Or.inr rfl) (gdec kX3_sendBack 33 rfl) (fun H locs h => ?_)
      exact g_vret C h hf (gdec kX3_sendBack 34 rfl)
    · replace hf := ifn c15 hf
      exact g_vret C h hf (gdec kX3_sendBack 34 rfl)
  · replace hf := ifn c8 hf
    exact g_vret C h hf (gdec kX3_sendBack 34 rfl)
def f_X3_sendTeamsBack_L2 (o : Int) : Nat → GS → Int → (GS → Int → Option (GS)) → Option (GS)
  | 0, _, _, _ => none
  | n + 1, G, x1, k => gd x1 (gd (G 3 o 5) (if x1 < (G 3 o 5) then ga x1 10 (bn1 (f_X6_stands G (10 * o + x1)) (fun r6 => gd r6 (if r6 = 0 then f_X3_sendTeamsBack_L2 o n G (x1 + 1) k else gd (G 6 (10 * o + x1) 2) (gd (G 6 (10 * o + x1) 0) (if (G 6 (10 * o + x1) 2) = (G 6 (10 * o + x1) 0) then f_X3_sendTeamsBack_L2 o n G (x1 + 1) k else gd (G 6 (10 * o + x1) 1) (if (G 6 (10 * o + x1) 1) = 0 then bn1 (f_X3_lettersAt G o (G 6 (10 * o + x1) 2)) (fun r15 => gd r15 (if r15 = 0 then bn1 (f_X3_sendBack G o (10 * o + x1)) (fun G19 => f_X3_sendTeamsBack_L2 o n G19 (x1 + 1) k) else f_X3_sendTeamsBack_L2 o n G (x1 + 1) k)) else f_X3_sendTeamsBack_L2 o n G (x1 + 1) k)))))) else k G x1))
def f_X3_sendTeamsBack (G : GS) (o : Int) : Option (GS) :=
  f_X3_sendTeamsBack_L2 o gFuel G 0 (fun G22 y1_21 => some G22)
set_option maxHeartbeats 4000000 in
set_option maxRecDepth 100000 in
theorem c_X3_sendTeamsBack (l : Launch) (E : gEnv) (G : GS) (o : Int) (ho : gOk E 3 o) (Gz : GS) (hf : f_X3_sendTeamsBack G o = some Gz) : gMet l yX3_sendTeamsBack cX3_sendTeamsBack 3 none 3 67 0 0 [.ref (eA E 3 o)] E G (gQv E Gz) := by
  refine g_met (by decide +kernel) (Nat.le_of_ble_eq_true rfl) ?_
  intro p e s m below meth c C H locs h ls hl
  have C : gC p s m _ meth c RX3 cX3_sendTeamsBack 3 none E := C
  have hl : lv_has ls 3 [(0, .ref (eA E 3 o))] := hl
  have L2 : ∀ (n : Nat) (G : GS) (x1 : Int) (k : (GS → Int → Option (GS))) (hK : ∀ (G : GS) (x1 : Int), k G x1 = some Gz → ∀ (H : Heap) (locs : List Loc), gH E s G H locs → ∀ ls, lv_has ls 3 [(0, .ref (eA E 3 o)), (1, vI x1)] → W p l e (gRm 3 67 0 0) s m ([.ref (eA E 3 o)] : List Value).toArray below meth c H locs 0 0 (MQ below (gQv E Gz) ([.ref (eA E 3 o)] : List Value).toArray s 0 0 (eF E)) (F0 m 63 ls [])), ∀ (H : Heap) (locs : List Loc), gH E s G H locs → ∀ ls, lv_has ls 3 [(0, .ref (eA E 3 o)), (1, vI x1)] → f_X3_sendTeamsBack_L2 o n G x1 k = some Gz → W p l e (gRm 3 67 0 0) s m ([.ref (eA E 3 o)] : List Value).toArray below meth c H locs 0 0 (MQ below (gQv E Gz) ([.ref (eA E 3 o)] : List Value).toArray s 0 0 (eF E)) (F0 m 2 ls []) := by
    intro n
    induction n with
    | zero =>
      intro G x1 k hK H locs h ls hl hf
      exact absurd hf (by simp [f_X3_sendTeamsBack_L2])
    | succ n ih =>
      intro G x1 k hK H locs h ls hl hf
      unfold f_X3_sendTeamsBack_L2 at hf
      refine g_iload_n C hl 1 rfl rfl (gdec kX3_sendTeamsBack 2 rfl) ?_
      refine g_aload_n C hl 0 rfl rfl (gdec kX3_sendTeamsBack 3 rfl) ?_
      refine gf_X3_51 C h ho (gdec kX3_sendTeamsBack 4 rfl) ?_
      obtain ⟨h1, hf⟩ := gd_s hf
      obtain ⟨h2, hf⟩ := gd_s hf
      refine g_icmp_ge C (tgt := 63) h1 h2 (by decide) (gdec kX3_sendTeamsBack 5 rfl) (fun c3 => ?_) (fun c3 => ?_)
      · replace hf := ifp c3 hf
        refine g_aload_n C hl 0 rfl rfl (gdec kX3_sendTeamsBack 6 rfl) ?_
        refine g_iload_n C hl 1 rfl rfl (gdec kX3_sendTeamsBack 7 rfl) ?_
        obtain ⟨h4, hf⟩ := ga_s hf
        refine g_cr h (g_runV C h ho (by decide) rfl (c_X3_teamRow l E _ _ _ ho _ (e_X3_teamRow _ _ _ h4)) wM_X3_82 wI_X3_teamRow wS_X3_teamRow wN_X3 wC_X3_teamRow rfl ny_X3_teamRow rfl ⟨Nat.le_of_ble_eq_true rfl, Nat.le_of_ble_eq_true rfl⟩ hl.1 rfl (Nat.le_of_ble_eq_true rfl) (gdec kX3_sendTeamsBack 8 rfl) ⟨Nat.zero_le _, Nat.zero_le _⟩) (fun H locs h => ?_)
        have k5 : gOk E 6 (10 * o + x1) := gok6 C (gcl_3_2 C ho) h4
        refine g_astore_n C [(2, .ref (eA E 6 (10 * o + x1))), (0, .ref (eA E 3 o)), (1, vI x1)] hl rfl (by decide) rfl (gdec kX3_sendTeamsBack 9 rfl) (fun ls hl => ?_)
        refine g_aload_n C hl 0 rfl rfl (gdec kX3_sendTeamsBack 10 rfl) ?_
        obtain ⟨r6, q7, hf⟩ := bn1_s hf
        refine g_ci h (g_runV C h k5 (by decide) rfl (c_X6_stands l E _ _ k5 _ q7) wM_X3_129 wI_X6_stands wS_X6_stands wN_X6 wC_X6_stands rfl ny_X6_stands rfl ⟨Nat.le_of_ble_eq_true rfl, Nat.le_of_ble_eq_true rfl⟩ hl.1 rfl (Nat.le_of_ble_eq_true rfl) (gdec kX3_sendTeamsBack 11 rfl) ⟨Nat.zero_le _, Nat.zero_le _⟩) (fun H locs h => ?_)
        obtain ⟨h8, hf⟩ := gd_s hf
        refine g_if_eq C (tgt := 57) h8 (by decide) (gdec kX3_sendTeamsBack 12 rfl) (fun c9 => ?_) (fun c9 => ?_)
        · replace hf := ifp c9 hf
          refine g_iinc C (k := 2) [(1, vI (x1 + 1)), (2, .ref (eA E 6 (10 * o + x1))), (0, .ref (eA E 3 o))] hl rfl (by decide) rfl (gdec kX3_sendTeamsBack 29 rfl) (fun ls hl => ?_)
          refine g_goto C (tgt := 2) (by decide) (gdec kX3_sendTeamsBack 30 rfl) ?_
          exact ih _ _ k hK H locs h ls (lv_sub hl [2, 0] rfl) hf
        · replace hf := ifn c9 hf
          refine g_aload_n C hl 0 rfl rfl (gdec kX3_sendTeamsBack 13 rfl) ?_
          refine gf_X3_135 C h k5 (gdec kX3_sendTeamsBack 14 rfl) ?_
          refine g_aload_n C hl 0 rfl rfl (gdec kX3_sendTeamsBack 15 rfl) ?_
          refine gf_X3_247 C h k5 (gdec kX3_sendTeamsBack 16 rfl) ?_
          obtain ⟨h10, hf⟩ := gd_s hf
          obtain ⟨h11, hf⟩ := gd_s hf
          refine g_icmp_eq C (tgt := 57) h10 h11 (by decide) (gdec kX3_sendTeamsBack 17 rfl) (fun c12 => ?_) (fun c12 => ?_)
          · replace hf := ifp c12 hf
            refine g_iinc C (k := 2) [(1, vI (x1 + 1)), (2, .ref (eA E 6 (10 * o + x1))), (0, .ref (eA E 3 o))] hl rfl (by decide) rfl (gdec kX3_sendTeamsBack 29 rfl) (fun ls hl => ?_)
            refine g_goto C (tgt := 2) (by decide) (gdec kX3_sendTeamsBack 30 rfl) ?_
            exact ih _ _ k hK H locs h ls (lv_sub hl [2, 0] rfl) hf
          · replace hf := ifn c12 hf
            refine g_aload_n C hl 0 rfl rfl (gdec kX3_sendTeamsBack 18 rfl) ?_
            refine gf_X3_142 C h k5 (gdec kX3_sendTeamsBack 19 rfl) ?_
            obtain ⟨h13, hf⟩ := gd_s hf
            refine g_if_ne C (tgt := 57) h13 (by decide) (gdec kX3_sendTeamsBack 20 rfl) (fun c14 => ?_) (fun c14 => ?_)
            · replace hf := ifp c14 hf
              refine g_aload_n C hl 1 rfl rfl (gdec kX3_sendTeamsBack 21 rfl) ?_
              refine g_aload_n C hl 0 rfl rfl (gdec kX3_sendTeamsBack 22 rfl) ?_
              refine gf_X3_135 C h k5 (gdec kX3_sendTeamsBack 23 rfl) ?_
              obtain ⟨r15, q16, hf⟩ := bn1_s hf
              refine g_ci h (g_runV C h ho (by decide) rfl (c_X3_lettersAt l E _ _ _ ho _ q16) wM_X3_250 wI_X3_lettersAt wS_X3_lettersAt wN_X3 wC_X3_lettersAt rfl ny_X3_lettersAt rfl ⟨Nat.le_of_ble_eq_true rfl, Nat.le_of_ble_eq_true rfl⟩ hl.1 rfl (Nat.le_of_ble_eq_true rfl) (gdec kX3_sendTeamsBack 24 rfl) ⟨Nat.zero_le _, Nat.zero_le _⟩) (fun H locs h => ?_)
              obtain ⟨h17, hf⟩ := gd_s hf
              refine g_if_ne C (tgt := 57) h17 (by decide) (gdec kX3_sendTeamsBack 25 rfl) (fun c18 => ?_) (fun c18 => ?_)
              · replace hf := ifp c18 hf
                refine g_aload_n C hl 1 rfl rfl (gdec kX3_sendTeamsBack 26 rfl) ?_
                refine g_aload_n C hl 0 rfl rfl (gdec kX3_sendTeamsBack 27 rfl) ?_
                obtain ⟨G19, q20, hf⟩ := bn1_s hf
                refine g_cv h (g_runV C h ho (by decide) rfl (c_X3_sendBack l E _ _ _ ho k5 _ q20) wM_X3_253 wI_X3_sendBack wS_X3_sendBack wN_X3 wC_X3_sendBack rfl ny_X3_sendBack rfl ⟨Nat.le_of_ble_eq_true rfl, Nat.le_of_ble_eq_true rfl⟩ hl.1 rfl (Nat.le_of_ble_eq_true rfl) (gdec kX3_sendTeamsBack 28 rfl) ⟨Nat.zero_le _, Nat.zero_le _⟩) (fun H locs h => ?_)
                refine g_iinc C (k := 2) [(1, vI (x1 + 1)), (2, .ref (eA E 6 (10 * o + x1))), (0, .ref (eA E 3 o))] hl rfl (by decide) rfl (gdec kX3_sendTeamsBack 29 rfl) (fun ls hl => ?_)
                refine g_goto C (tgt := 2) (by decide) (gdec kX3_sendTeamsBack 30 rfl) ?_
                exact ih _ _ k hK H locs h ls (lv_sub hl [2, 0] rfl) hf
              · replace hf := ifn c18 hf
                refine g_iinc C (k := 2) [(1, vI (x1 + 1)), (2, .ref (eA E 6 (10 * o + x1))), (0, .ref (eA E 3 o))] hl rfl (by decide) rfl (gdec kX3_sendTeamsBack 29 rfl) (fun ls hl => ?_)
                refine g_goto C (tgt := 2) (by decide) (gdec kX3_sendTeamsBack 30 rfl) ?_
                exact ih _ _ k hK H locs h ls (lv_sub hl [2, 0] rfl) hf
            · replace hf := ifn c14 hf
              refine g_iinc C (k := 2) [(1, vI (x1 + 1)), (2, .ref (eA E 6 (10 * o + x1))), (0, .ref (eA E 3 o))] hl rfl (by decide) rfl (gdec kX3_sendTeamsBack 29 rfl) (fun ls hl => ?_)
              refine g_goto C (tgt := 2) (by decide) (gdec kX3_sendTeamsBack 30 rfl) ?_
              exact ih _ _ k hK H locs h ls (lv_sub hl [2, 0] rfl) hf
      · replace hf := ifn c3 hf
        exact hK _ _ hf H locs h ls (lv_sub hl [0, 1] rfl)
  unfold f_X3_sendTeamsBack at hf
  refine g_iconst C (gdec kX3_sendTeamsBack 0 rfl) ?_
  refine g_istore_n C [(1, vI 0), (0, .ref (eA E 3 o))] hl rfl (by decide) rfl (gdec kX3_sendTeamsBack 1 rfl) (fun ls hl => ?_)
  refine L2 gFuel _ _ _ (fun G22 y1_21 hf H locs h ls hl => ?_) H locs h ls (lv_sub hl [1, 0] rfl) hf
  exact g_vret C h hf (gdec kX3_sendTeamsBack 31 rfl)
def f_X3_passHour (G : GS) (o : Int) : Option (GS) :=
  bn1 (f_X3_restTeams G o) (fun G1 => bn1 (f_X3_moveTeams G1 o) (fun G3 => bn1 (f_X3_sendLetters G3 o 1) (fun G5 => bn1 (f_X3_sendLetters G5 o 0) (fun G7 => bn1 (f_X3_sendTeamsBack G7 o) (fun G9 => some (gup G9 3 o 7 ((G9 3 o 7) + 1)))))))
set_option maxHeartbeats 4000000 in
set_option maxRecDepth 100000 in
theorem c_X3_passHour (l : Launch) (E : gEnv) (G : GS) (o : Int) (ho : gOk E 3 o) (Gz : GS) (hf : f_X3_passHour G o = some Gz) : gMet l yX3_passHour cX3_passHour 1 none 4 93 0 0 [.ref (eA E 3 o)] E G (gQv E Gz) := by
  refine g_met (by decide +kernel) (Nat.le_of_ble_eq_true rfl) ?_
  intro p e s m below meth c C H locs h ls hl
  have C : gC p s m _ meth c RX3 cX3_passHour 1 none E := C
  have hl : lv_has ls 1 [(0, .ref (eA E 3 o))] := hl
  unfold f_X3_passHour at hf
  refine g_aload_n C hl 0 rfl rfl (gdec kX3_passHour 0 rfl) ?_
  obtain ⟨G1, q2, hf⟩ := bn1_s hf
  refine g_cv h (g_runV C h ho (by decide) rfl (c_X3_restTeams l E _ _ ho _ q2) wM_X3_116 wI_X3_restTeams wS_X3_restTeams wN_X3 wC_X3_restTeams rfl ny_X3_restTeams rfl ⟨Nat.le_of_ble_eq_true rfl, Nat.le_of_ble_eq_true rfl⟩ hl.1 rfl (Nat.le_of_ble_eq_true rfl) (gdec kX3_passHour 1 rfl) ⟨Nat.zero_le _, Nat.zero_le _⟩) (fun H locs h => ?_)
  refine g_aload_n C hl 0 rfl rfl (gdec kX3_passHour 2 rfl) ?_
  obtain ⟨G3, q4, hf⟩ := bn1_s hf
  refine g_cv h (g_runV C h ho (by decide) rfl (c_X3_moveTeams l E _ _ ho _ q4) wM_X3_119 wI_X3_moveTeams wS_X3_moveTeams wN_X3 wC_X3_moveTeams rfl ny_X3_moveTeams rfl ⟨Nat.le_of_ble_eq_true rfl, Nat.le_of_ble_eq_true rfl⟩ hl.1 rfl (Nat.le_of_ble_eq_true rfl) (gdec kX3_passHour 3 rfl) ⟨Nat.zero_le _, Nat.zero_le _⟩) (fun H locs h => ?_)
  refine g_aload_n C hl 0 rfl rfl (gdec kX3_passHour 4 rfl) ?_
  refine g_iconst C (gdec kX3_passHour 5 rfl) ?_
  obtain ⟨G5, q6, hf⟩ := bn1_s hf
  refine g_cv h (g_runV C h ho (by decide) rfl (c_X3_sendLetters l E _ _ _ ho _ q6) wM_X3_122 wI_X3_sendLetters wS_X3_sendLetters wN_X3 wC_X3_sendLetters rfl ny_X3_sendLetters rfl ⟨Nat.le_of_ble_eq_true rfl, Nat.le_of_ble_eq_true rfl⟩ hl.1 rfl (Nat.le_of_ble_eq_true rfl) (gdec kX3_passHour 6 rfl) ⟨Nat.zero_le _, Nat.zero_le _⟩) (fun H locs h => ?_)
  refine g_aload_n C hl 0 rfl rfl (gdec kX3_passHour 7 rfl) ?_
  refine g_iconst C (gdec kX3_passHour 8 rfl) ?_
  obtain ⟨G7, q8, hf⟩ := bn1_s hf
  refine g_cv h (g_runV C h ho (by decide) rfl (c_X3_sendLetters l E _ _ _ ho _ q8) wM_X3_122 wI_X3_sendLetters wS_X3_sendLetters wN_X3 wC_X3_sendLetters rfl ny_X3_sendLetters rfl ⟨Nat.le_of_ble_eq_true rfl, Nat.le_of_ble_eq_true rfl⟩ hl.1 rfl (Nat.le_of_ble_eq_true rfl) (gdec kX3_passHour 9 rfl) ⟨Nat.zero_le _, Nat.zero_le _⟩) (fun H locs h => ?_)
  refine g_aload_n C hl 0 rfl rfl (gdec kX3_passHour 10 rfl) ?_
  obtain ⟨G9, q10, hf⟩ := bn1_s hf
  refine g_cv h (g_runV C h ho (by decide) rfl (c_X3_sendTeamsBack l E _ _ ho _ q10) wM_X3_126 wI_X3_sendTeamsBack wS_X3_sendTeamsBack wN_X3 wC_X3_sendTeamsBack rfl ny_X3_sendTeamsBack rfl ⟨Nat.le_of_ble_eq_true rfl, Nat.le_of_ble_eq_true rfl⟩ hl.1 rfl (Nat.le_of_ble_eq_true rfl) (gdec kX3_passHour 11 rfl) ⟨Nat.zero_le _, Nat.zero_le _⟩) (fun H locs h => ?_)
  refine g_aload_n C hl 0 rfl rfl (gdec kX3_passHour 12 rfl) ?_
  refine g_dup C rfl (gdec kX3_passHour 13 rfl) ?_
  refine gf_X3_57 C h ho (gdec kX3_passHour 14 rfl) ?_
  refine g_iconst C (gdec kX3_passHour 15 rfl) ?_
  refine g_iadd C (gdec kX3_passHour 16 rfl) ?_
  refine gp_X3_57 C h ho (gdec kX3_passHour 17 rfl) (fun H locs h => ?_)
  exact g_vret C h hf (gdec kX3_passHour 18 rfl)
def f_X3_hoursUntilDelivered_L4 (o : Int) (p1 : Int) : Nat → GS → Int → Int → (GS → Int → Int → Option (GS × Int)) → Option (GS × Int)
  | 0, _, _, _, _ => none
  | n + 1, G, x2, x3, k => gd x2 (if x2 < 500 then gd x3 (if x3 = 0 then bn1 (f_X3_hasCome G o p1) (fun r5 => gd r5 (if r5 = 0 then bn1 (f_X3_allTeamsIdle G o) (fun r9 => bn1 (f_X3_passHour G o) (fun G11 => gd r9 (if r9 = 0 then f_X3_hoursUntilDelivered_L4 o p1 n G11 (x2 + 1) 0 k else bn1 (f_X3_allTeamsIdle G11 o) (fun r15 => gd r15 (if r15 = 0 then f_X3_hoursUntilDelivered_L4 o p1 n G11 (x2 + 1) 0 k else f_X3_hoursUntilDelivered_L4 o p1 n G11 (x2 + 1) 1 k))))) else k G x2 x3)) else k G x2 x3) else k G x2 x3)
def f_X3_hoursUntilDelivered (G : GS) (o : Int) (p1 : Int) : Option (GS × Int) :=
  f_X3_hoursUntilDelivered_L4 o p1 gFuel G 0 0 (fun G20 y2_19 y3_19 => bn1 (f_X3_hasCome G20 o p1) (fun r21 => gd r21 (if r21 = 0 then some (G20, (-1)) else some (G20, y2_19))))
set_option maxHeartbeats 4000000 in
set_option maxRecDepth 100000 in
theorem c_X3_hoursUntilDelivered (l : Launch) (E : gEnv) (G : GS) (o : Int) (p1 : Int) (ho : gOk E 3 o) (Gz : GS) (rz : Int) (hf : f_X3_hoursUntilDelivered G o p1 = some (Gz, rz)) : gMet l yX3_hoursUntilDelivered cX3_hoursUntilDelivered 5 (some .int) 5 113 0 0 [.ref (eA E 3 o), vI p1] E G (gQi E Gz rz) := by
  refine g_met (by decide +kernel) (Nat.le_of_ble_eq_true rfl) ?_
  intro p e s m below meth c C H locs h ls hl
  have C : gC p s m _ meth c RX3 cX3_hoursUntilDelivered 5 (some .int) E := C
  have hl : lv_has ls 5 [(0, .ref (eA E 3 o)), (1, vI p1)] := hl
  have L4 : ∀ (n : Nat) (G : GS) (x2 : Int) (x3 : Int) (k : (GS → Int → Int → Option (GS × Int))) (hK : ∀ (G : GS) (x2 : Int) (x3 : Int), k G x2 x3 = some (Gz, rz) → ∀ (H : Heap) (locs : List Loc), gH E s G H locs → ∀ ls, lv_has ls 5 [(0, .ref (eA E 3 o)), (1, vI p1), (2, vI x2), (3, vI x3)] → W p l e (gRm 5 113 0 0) s m ([.ref (eA E 3 o), vI p1] : List Value).toArray below meth c H locs 0 0 (MQ below (gQi E Gz rz) ([.ref (eA E 3 o), vI p1] : List Value).toArray s 0 0 (eF E)) (F0 m 57 ls [])), ∀ (H : Heap) (locs : List Loc), gH E s G H locs → ∀ ls, lv_has ls 5 [(0, .ref (eA E 3 o)), (1, vI p1), (2, vI x2), (3, vI x3)] → f_X3_hoursUntilDelivered_L4 o p1 n G x2 x3 k = some (Gz, rz) → W p l e (gRm 5 113 0 0) s m ([.ref (eA E 3 o), vI p1] : List Value).toArray below meth c H locs 0 0 (MQ below (gQi E Gz rz) ([.ref (eA E 3 o), vI p1] : List Value).toArray s 0 0 (eF E)) (F0 m 4 ls []) := by
    intro n
    induction n with
    | zero =>
      intro G x2 x3 k hK H locs h ls hl hf
      exact absurd hf (by simp [f_X3_hoursUntilDelivered_L4])
    | succ n ih =>
      intro G x2 x3 k hK H locs h ls hl hf
      unfold f_X3_hoursUntilDelivered_L4 at hf
      refine g_iload_n C hl 2 rfl rfl (gdec kX3_hoursUntilDelivered 4 rfl) ?_
      refine g_sipush C (gdec kX3_hoursUntilDelivered 5 rfl) rfl ?_
      obtain ⟨h1, hf⟩ := gd_s hf
      refine g_icmp_ge C (tgt := 57) h1 (by decide) (by decide) (gdec kX3_hoursUntilDelivered 6 rfl) (fun c2 => ?_) (fun c2 => ?_)
      · replace hf := ifp c2 hf
        refine g_iload_n C hl 3 rfl rfl (gdec kX3_hoursUntilDelivered 7 rfl) ?_
        obtain ⟨h3, hf⟩ := gd_s hf
        refine g_if_ne C (tgt := 57) h3 (by decide) (gdec kX3_hoursUntilDelivered 8 rfl) (fun c4 => ?_) (fun c4 => ?_)
        · replace hf := ifp c4 hf
          refine g_aload_n C hl 0 rfl rfl (gdec kX3_hoursUntilDelivered 9 rfl) ?_
          refine g_iload_n C hl 1 rfl rfl (gdec kX3_hoursUntilDelivered 10 rfl) ?_
          obtain ⟨r5, q6, hf⟩ := bn1_s hf
          refine g_ci h (g_runV C h ho (by decide) rfl (c_X3_hasCome l E _ _ _ ho _ q6) wM_X3_256 wI_X3_hasCome wS_X3_hasCome wN_X3 wC_X3_hasCome rfl ny_X3_hasCome rfl ⟨Nat.le_of_ble_eq_true rfl, Nat.le_of_ble_eq_true rfl⟩ hl.1 rfl (Nat.le_of_ble_eq_true rfl) (gdec kX3_hoursUntilDelivered 11 rfl) ⟨Nat.zero_le _, Nat.zero_le _⟩) (fun H locs h => ?_)
          obtain ⟨h7, hf⟩ := gd_s hf
          refine g_if_ne C (tgt := 57) h7 (by decide) (gdec kX3_hoursUntilDelivered 12 rfl) (fun c8 => ?_) (fun c8 => ?_)
          · replace hf := ifp c8 hf
            refine g_aload_n C hl 0 rfl rfl (gdec kX3_hoursUntilDelivered 13 rfl) ?_
            obtain ⟨r9, q10, hf⟩ := bn1_s hf
            refine g_ci h (g_runV C h ho (by decide) rfl (c_X3_allTeamsIdle l E _ _ ho _ q10) wM_X3_259 wI_X3_allTeamsIdle wS_X3_allTeamsIdle wN_X3 wC_X3_allTeamsIdle rfl ny_X3_allTeamsIdle rfl ⟨Nat.le_of_ble_eq_true rfl, Nat.le_of_ble_eq_true rfl⟩ hl.1 rfl (Nat.le_of_ble_eq_true rfl) (gdec kX3_hoursUntilDelivered 14 rfl) ⟨Nat.zero_le _, Nat.zero_le _⟩) (fun H locs h => ?_)
            refine g_istore C [(4, vI r9), (0, .ref (eA E 3 o)), (1, vI p1), (2, vI x2), (3, vI x3)] hl (by decide) rfl (gdec kX3_hoursUntilDelivered 15 rfl) (fun ls hl => ?_)
            refine g_aload_n C hl 1 rfl rfl (gdec kX3_hoursUntilDelivered 16 rfl) ?_
            obtain ⟨G11, q12, hf⟩ := bn1_s hf
            refine g_cv h (g_runV C h ho (by decide) rfl (c_X3_passHour l E _ _ ho _ q12) wM_X3_262 wI_X3_passHour wS_X3_passHour wN_X3 wC_X3_passHour rfl ny_X3_passHour rfl ⟨Nat.le_of_ble_eq_true rfl, Nat.le_of_ble_eq_true rfl⟩ hl.1 rfl (Nat.le_of_ble_eq_true rfl) (gdec kX3_hoursUntilDelivered 17 rfl) ⟨Nat.zero_le _, Nat.zero_le _⟩) (fun H locs h => ?_)
            refine g_iinc C (k := 3) [(2, vI (x2 + 1)), (4, vI r9), (0, .ref (eA E 3 o)), (1, vI p1), (3, vI x3)] hl rfl (by decide) rfl (gdec kX3_hoursUntilDelivered 18 rfl) (fun ls hl => ?_)
            refine g_iload C hl 1 rfl (gdec kX3_hoursUntilDelivered 19 rfl) ?_
            obtain ⟨h13, hf⟩ := gd_s hf
            refine g_if_eq C (tgt := 52) h13 (by decide) (gdec kX3_hoursUntilDelivered 20 rfl) (fun c14 => ?_) (fun c14 => ?_)
            · replace hf := ifp c14 hf
              refine g_iconst C (gdec kX3_hoursUntilDelivered 26 rfl) ?_
              refine g_istore_n C [(3, vI 0), (2, vI (x2 + 1)), (4, vI r9), (0, .ref (eA E 3 o)), (1, vI p1)] hl rfl (by decide) rfl (gdec kX3_hoursUntilDelivered 27 rfl) (fun ls hl => ?_)
              refine g_goto C (tgt := 4) (by decide) (gdec kX3_hoursUntilDelivered 28 rfl) ?_
              exact ih _ _ _ k hK H locs h ls (lv_sub hl [3, 4, 1, 0] rfl) hf
            · replace hf := ifn c14 hf
              refine g_aload_n C hl 2 rfl rfl (gdec kX3_hoursUntilDelivered 21 rfl) ?_
              obtain ⟨r15, q16, hf⟩ := bn1_s hf
              refine g_ci h (g_runV C h ho (by decide) rfl (c_X3_allTeamsIdle l E _ _ ho _ q16) wM_X3_259 wI_X3_allTeamsIdle wS_X3_allTeamsIdle wN_X3 wC_X3_allTeamsIdle rfl ny_X3_allTeamsIdle rfl ⟨Nat.le_of_ble_eq_true rfl, Nat.le_of_ble_eq_true rfl⟩ hl.1 rfl (Nat.le_of_ble_eq_true rfl) (gdec kX3_hoursUntilDelivered 22 rfl) ⟨Nat.zero_le _, Nat.zero_le _⟩) (fun H locs h => ?_)
              obtain ⟨h17, hf⟩ := gd_s hf
              refine g_if_eq C (tgt := 52) h17 (by decide) (gdec kX3_hoursUntilDelivered 23 rfl) (fun c18 => ?_) (fun c18 => ?_)
              · replace hf := ifp c18 hf
                refine g_iconst C (gdec kX3_hoursUntilDelivered 26 rfl) ?_
                refine g_istore_n C [(3, vI 0), (2, vI (x2 + 1)), (4, vI r9), (0, .ref (eA E 3 o)), (1, vI p1)] hl rfl (by decide) rfl (gdec kX3_hoursUntilDelivered 27 rfl) (fun ls hl => ?_)
                refine g_goto C (tgt := 4) (by decide) (gdec kX3_hoursUntilDelivered 28 rfl) ?_
                exact ih _ _ _ k hK H locs h ls (lv_sub hl [3, 4, 1, 0] rfl) hf
              · replace hf := ifn c18 hf
                refine g_iconst C (gdec kX3_hoursUntilDelivered 24 rfl) ?_
                refine g_goto C (tgt := 53) (by decide) (gdec kX3_hoursUntilDelivered 25 rfl) ?_
                refine g_istore_n C [(3, vI 1), (2, vI (x2 + 1)), (4, vI r9), (0, .ref (eA E 3 o)), (1, vI p1)] hl rfl (by decide) rfl (gdec kX3_hoursUntilDelivered 27 rfl) (fun ls hl => ?_)
                refine g_goto C (tgt := 4) (by decide) (gdec kX3_hoursUntilDelivered 28 rfl) ?_
                exact ih _ _ _ k hK H locs h ls (lv_sub hl [3, 4, 1, 0] rfl) hf
          · replace hf := ifn c8 hf
            exact hK _ _ _ hf H locs h ls (lv_sub hl [0, 1, 2, 3] rfl)
        · replace hf := ifn c4 hf
          exact hK _ _ _ hf H locs h ls (lv_sub hl [0, 1, 2, 3] rfl)
      · replace hf := ifn c2 hf
        exact hK _ _ _ hf H locs h ls (lv_sub hl [0, 1, 2, 3] rfl)
  unfold f_X3_hoursUntilDelivered at hf
  refine g_iconst C (gdec kX3_hoursUntilDelivered 0 rfl) ?_
  refine g_istore_n C [(2, vI 0), (0, .ref (eA E 3 o)), (1, vI p1)] hl rfl (by decide) rfl (gdec kX3_hoursUntilDelivered 1 rfl) (fun ls hl => ?_)
  refine g_iconst C (gdec kX3_hoursUntilDelivered 2 rfl) ?_
  refine g_istore_n C [(3, vI 0), (2, vI 0), (0, .ref (eA E 3 o)), (1, vI p1)] hl rfl (by decide) rfl (gdec kX3_hoursUntilDelivered 3 rfl) (fun ls hl => ?_)
  refine L4 gFuel _ _ _ _ (fun G20 y2_19 y3_19 hf H locs h ls hl => ?_) H locs h ls (lv_sub hl [2, 3, 1, 0] rfl) hf
  refine g_aload_n C hl 0 rfl rfl (gdec kX3_hoursUntilDelivered 29 rfl) ?_
  refine g_iload_n C hl 1 rfl rfl (gdec kX3_hoursUntilDelivered 30 rfl) ?_
  obtain ⟨r21, q22, hf⟩ := bn1_s hf
  refine g_ci h (g_runV C h ho (by decide) rfl (c_X3_hasCome l E _ _ _ ho _ q22) wM_X3_256 wI_X3_hasCome wS_X3_hasCome wN_X3 wC_X3_hasCome rfl ny_X3_hasCome rfl ⟨Nat.le_of_ble_eq_true rfl, Nat.le_of_ble_eq_true rfl⟩ hl.1 rfl (Nat.le_of_ble_eq_true rfl) (gdec kX3_hoursUntilDelivered 31 rfl) ⟨Nat.zero_le _, Nat.zero_le _⟩) (fun H locs h => ?_)
  obtain ⟨h23, hf⟩ := gd_s hf
  refine g_if_eq C (tgt := 69) h23 (by decide) (gdec kX3_hoursUntilDelivered 32 rfl) (fun c24 => ?_) (fun c24 => ?_)
  · replace hf := ifp c24 hf
    refine g_iconst C (gdec kX3_hoursUntilDelivered 35 rfl) ?_
    exact g_iret C h hf (gdec kX3_hoursUntilDelivered 36 rfl)
  · replace hf := ifn c24 hf
    refine g_iload_n C hl 2 rfl rfl (gdec kX3_hoursUntilDelivered 33 rfl) ?_
    refine g_goto C (tgt := 70) (by decide) (gdec kX3_hoursUntilDelivered 34 rfl) ?_
    exact g_iret C h hf (gdec kX3_hoursUntilDelivered 36 rfl)
def f_X7_hoursToAll (G : GS) : Option (GS × Int) :=
  bn1 (f_X3_copyFrom G 1 0) (fun G1 => bnd (f_X3_hoursUntilDelivered G1 1 (-1)) (fun G3 r4 => some (G3, r4)))
set_option maxHeartbeats 4000000 in
set_option maxRecDepth 100000 in
theorem c_X7_hoursToAll (l : Launch) (E : gEnv) (G : GS) (ho : gOk E 7 0) (Gz : GS) (rz : Int) (hf : f_X7_hoursToAll G = some (Gz, rz)) : gMet l yX7_hoursToAll cX7_hoursToAll 1 (some .int) 6 137 0 0 [.ref (eA E 7 0)] E G (gQi E Gz rz) := by
  refine g_met (by decide +kernel) (Nat.le_of_ble_eq_true rfl) ?_
  intro p e s m below meth c C H locs h ls hl
  have C : gC p s m _ meth c RX7 cX7_hoursToAll 1 (some .int) E := C
  have hl : lv_has ls 1 [(0, .ref (eA E 7 0))] := hl
  unfold f_X7_hoursToAll at hf
  refine g_aload_n C hl 0 rfl rfl (gdec kX7_hoursToAll 0 rfl) ?_
  refine gf_X7_16 C h ho (gdec kX7_hoursToAll 1 rfl) ?_
  refine g_aload_n C hl 0 rfl rfl (gdec kX7_hoursToAll 2 rfl) ?_
  refine gf_X7_12 C h ho (gdec kX7_hoursToAll 3 rfl) ?_
  obtain ⟨G1, q2, hf⟩ := bn1_s hf
  refine g_cv h (g_runV C h (gcl_7_1 C ho) (by decide) rfl (c_X3_copyFrom l E _ _ _ (gcl_7_1 C ho) (gcl_7_0 C ho) _ q2) wM_X7_143 wI_X3_copyFrom wS_X3_copyFrom wN_X3 wC_X3_copyFrom rfl ny_X3_copyFrom rfl ⟨Nat.le_of_ble_eq_true rfl, Nat.le_of_ble_eq_true rfl⟩ hl.1 rfl (Nat.le_of_ble_eq_true rfl) (gdec kX7_hoursToAll 4 rfl) ⟨Nat.zero_le _, Nat.zero_le _⟩) (fun H locs h => ?_)
  refine g_aload_n C hl 0 rfl rfl (gdec kX7_hoursToAll 5 rfl) ?_
  refine gf_X7_16 C h ho (gdec kX7_hoursToAll 6 rfl) ?_
  refine g_iconst C (gdec kX7_hoursToAll 7 rfl) ?_
  obtain ⟨G3, r4, q5, hf⟩ := bnd_s hf
  refine g_ci h (g_runV C h (gcl_7_1 C ho) (by decide) rfl (c_X3_hoursUntilDelivered l E _ _ _ (gcl_7_1 C ho) _ _ q5) wM_X7_146 wI_X3_hoursUntilDelivered wS_X3_hoursUntilDelivered wN_X3 wC_X3_hoursUntilDelivered rfl ny_X3_hoursUntilDelivered rfl ⟨Nat.le_of_ble_eq_true rfl, Nat.le_of_ble_eq_true rfl⟩ hl.1 rfl (Nat.le_of_ble_eq_true rfl) (gdec kX7_hoursToAll 8 rfl) ⟨Nat.zero_le _, Nat.zero_le _⟩) (fun H locs h => ?_)
  exact g_iret C h hf (gdec kX7_hoursToAll 9 rfl)
def f_X6_begin (G : GS) (o : Int) (p1 : Int) (p2 : Int) : Option (GS) :=
  bn1 (f_X6_stand (gup (gup G 6 o 0 p1) 6 o 1 p2) o p1) (fun G1 => some (gup (gup (gup (gup (gup G1 6 o 4 0) 6 o 8 0) 6 o 9 0) 6 o 10 0) 6 o 11 0))
set_option maxHeartbeats 4000000 in
set_option maxRecDepth 100000 in
theorem c_X6_begin (l : Launch) (E : gEnv) (G : GS) (o : Int) (p1 : Int) (p2 : Int) (ho : gOk E 6 o) (Gz : GS) (hf : f_X6_begin G o p1 p2 = some Gz) : gMet l yX6_begin cX6_begin 3 none 1 21 0 0 [.ref (eA E 6 o), vI p1, vI p2] E G (gQv E Gz) := by
  refine g_met (by decide +kernel) (Nat.le_of_ble_eq_true rfl) ?_
  intro p e s m below meth c C H locs h ls hl
  have C : gC p s m _ meth c RX6 cX6_begin 3 none E := C
  have hl : lv_has ls 3 [(0, .ref (eA E 6 o)), (1, vI p1), (2, vI p2)] := hl
  unfold f_X6_begin at hf
  refine g_aload_n C hl 0 rfl rfl (gdec kX6_begin 0 rfl) ?_
  refine g_iload_n C hl 1 rfl rfl (gdec kX6_begin 1 rfl) ?_
  refine gp_X6_9 C h ho (gdec kX6_begin 2 rfl) (fun H locs h => ?_)
  refine g_aload_n C hl 0 rfl rfl (gdec kX6_begin 3 rfl) ?_
  refine g_iload_n C hl 2 rfl rfl (gdec kX6_begin 4 rfl) ?_
  refine gp_X6_15 C h ho (gdec kX6_begin 5 rfl) (fun H locs h => ?_)
  refine g_aload_n C hl 0 rfl rfl (gdec kX6_begin 6 rfl) ?_
  refine g_iload_n C hl 1 rfl rfl (gdec kX6_begin 7 rfl) ?_
  obtain ⟨G1, q2, hf⟩ := bn1_s hf
  refine g_cv h (g_runV C h ho (by decide) rfl (c_X6_stand l E _ _ _ ho _ q2) wM_X6_18 wI_X6_stand wS_X6_stand wN_X6 wC_X6_stand rfl ny_X6_stand rfl ⟨Nat.le_of_ble_eq_true rfl, Nat.le_of_ble_eq_true rfl⟩ hl.1 rfl (Nat.le_of_ble_eq_true rfl) (gdec kX6_begin 8 rfl) ⟨Nat.zero_le _, Nat.zero_le _⟩) (fun H locs h => ?_)
  refine g_aload_n C hl 0 rfl rfl (gdec kX6_begin 9 rfl) ?_
  refine g_iconst C (gdec kX6_begin 10 rfl) ?_
  refine gp_X6_22 C h ho (Or.inl rfl) (gdec kX6_begin 11 rfl) (fun H locs h => ?_)
  refine g_aload_n C hl 0 rfl rfl (gdec kX6_begin 12 rfl) ?_
  refine g_iconst C (gdec kX6_begin 13 rfl) ?_
  refine gp_X6_26 C h ho (gdec kX6_begin 14 rfl) (fun H locs h => ?_)
  refine g_aload_n C hl 0 rfl rfl (gdec kX6_begin 15 rfl) ?_
  refine g_iconst C (gdec kX6_begin 16 rfl) ?_
  refine gp_X6_29 C h ho (gdec kX6_begin 17 rfl) (fun H locs h => ?_)
  refine g_aload_n C hl 0 rfl rfl (gdec kX6_begin 18 rfl) ?_
  refine g_iconst C (gdec kX6_begin 19 rfl) ?_
  refine gp_X6_32 C h ho (gdec kX6_begin 20 rfl) (fun H locs h => ?_)
  refine g_aload_n C hl 0 rfl rfl (gdec kX6_begin 21 rfl) ?_
  refine g_iconst C (gdec kX6_begin 22 rfl) ?_
  refine gp_X6_35 C h ho (gdec kX6_begin 23 rfl) (fun H locs h => ?_)
  exact g_vret C h hf (gdec kX6_begin 24 rfl)
def f_X3_placeTeam (G : GS) (o : Int) (p1 : Int) (p2 : Int) : Option (GS × Int) :=
  ga (G 3 o 5) 10 (bn1 (f_X6_begin G (10 * o + (G 3 o 5)) p1 p2) (fun G3 => some ((gup G3 3 o 5 ((G3 3 o 5) + 1)), ((gup G3 3 o 5 ((G3 3 o 5) + 1)) 3 o 5) - 1)))
set_option maxHeartbeats 4000000 in
set_option maxRecDepth 100000 in
theorem c_X3_placeTeam (l : Launch) (E : gEnv) (G : GS) (o : Int) (p1 : Int) (p2 : Int) (ho : gOk E 3 o) (Gz : GS) (rz : Int) (hf : f_X3_placeTeam G o p1 p2 = some (Gz, rz)) : gMet l yX3_placeTeam cX3_placeTeam 3 (some .int) 2 43 0 0 [.ref (eA E 3 o), vI p1, vI p2] E G (gQi E Gz rz) := by
  refine g_met (by decide +kernel) (Nat.le_of_ble_eq_true rfl) ?_
  intro p e s m below meth c C H locs h ls hl
  have C : gC p s m _ meth c RX3 cX3_placeTeam 3 (some .int) E := C
  have hl : lv_has ls 3 [(0, .ref (eA E 3 o)), (1, vI p1), (2, vI p2)] := hl
  unfold f_X3_placeTeam at hf
  refine g_aload_n C hl 0 rfl rfl (gdec kX3_placeTeam 0 rfl) ?_
  refine g_aload_n C hl 0 rfl rfl (gdec kX3_placeTeam 1 rfl) ?_
  refine gf_X3_51 C h ho (gdec kX3_placeTeam 2 rfl) ?_
  obtain ⟨h1, hf⟩ := ga_s hf
  refine g_cr h (g_runV C h ho (by decide) rfl (c_X3_teamRow l E _ _ _ ho _ (e_X3_teamRow _ _ _ h1)) wM_X3_82 wI_X3_teamRow wS_X3_teamRow wN_X3 wC_X3_teamRow rfl ny_X3_teamRow rfl ⟨Nat.le_of_ble_eq_true rfl, Nat.le_of_ble_eq_true rfl⟩ hl.1 rfl (Nat.le_of_ble_eq_true rfl) (gdec kX3_placeTeam 3 rfl) ⟨Nat.zero_le _, Nat.zero_le _⟩) (fun H locs h => ?_)
  have k2 : gOk E 6 (10 * o + (G 3 o 5)) := gok6 C (gcl_3_2 C ho) h1
  refine g_iload_n C hl 1 rfl rfl (gdec kX3_placeTeam 4 rfl) ?_
  refine g_iload_n C hl 2 rfl rfl (gdec kX3_placeTeam 5 rfl) ?_
  obtain ⟨G3, q4, hf⟩ := bn1_s hf
  refine g_cv h (g_runV C h k2 (by decide) rfl (c_X6_begin l E _ _ _ _ k2 _ q4) wM_X3_96 wI_X6_begin wS_X6_begin wN_X6 wC_X6_begin rfl ny_X6_begin rfl ⟨Nat.le_of_ble_eq_true rfl, Nat.le_of_ble_eq_true rfl⟩ hl.1 rfl (Nat.le_of_ble_eq_true rfl) (gdec kX3_placeTeam 6 rfl) ⟨Nat.zero_le _, Nat.zero_le _⟩) (fun H locs h => ?_)
  refine g_aload_n C hl 0 rfl rfl (gdec kX3_placeTeam 7 rfl) ?_
  refine g_dup C rfl (gdec kX3_placeTeam 8 rfl) ?_
  refine gf_X3_51 C h ho (gdec kX3_placeTeam 9 rfl) ?_
  refine g_iconst C (gdec kX3_placeTeam 10 rfl) ?_
  refine g_iadd C (gdec kX3_placeTeam 11 rfl) ?_
  refine gp_X3_51 C h ho (gdec kX3_placeTeam 12 rfl) (fun H locs h => ?_)
  refine g_aload_n C hl 0 rfl rfl (gdec kX3_placeTeam 13 rfl) ?_
  refine gf_X3_51 C h ho (gdec kX3_placeTeam 14 rfl) ?_
  refine g_iconst C (gdec kX3_placeTeam 15 rfl) ?_
  refine g_isub C (gdec kX3_placeTeam 16 rfl) ?_
  exact g_iret C h hf (gdec kX3_placeTeam 17 rfl)
def f_X7_bestInn_L22 : Nat → GS → Int → Int → Int → (GS → Int → Int → Int → Option (GS × Int)) → Option (GS × Int)
  | 0, _, _, _, _, _ => none
  | n + 1, G, x1, x2, x3, k => gd x3 (gd (G 3 0 4) (if x3 < (G 3 0 4) then bn1 (f_X3_copyFrom G 1 0) (fun G6 => bnd (f_X3_placeTeam G6 1 x3 0) (fun G8 r9 => bnd (f_X3_hoursUntilDelivered G8 1 (-1)) (fun G11 r12 => gd r12 (if r12 = (-1) then f_X7_bestInn_L22 n G11 x1 x2 (x3 + 1) k else gd x2 (if r12 < x2 then f_X7_bestInn_L22 n G11 x3 r12 (x3 + 1) k else f_X7_bestInn_L22 n G11 x1 x2 (x3 + 1) k))))) else k G x1 x2 x3))
def f_X7_bestInn (G : GS) : Option (GS × Int) :=
  gd (G 3 0 5) (if (G 3 0 5) < 10 then f_X7_bestInn_L22 gFuel G (-1) 501 0 (fun G19 y1_18 y2_18 y3_18 => some (G19, y1_18)) else some (G, (-1)))
set_option maxHeartbeats 4000000 in
set_option maxRecDepth 100000 in
theorem c_X7_bestInn (l : Launch) (E : gEnv) (G : GS) (ho : gOk E 7 0) (Gz : GS) (rz : Int) (hf : f_X7_bestInn G = some (Gz, rz)) : gMet l yX7_bestInn cX7_bestInn 5 (some .int) 6 137 0 0 [.ref (eA E 7 0)] E G (gQi E Gz rz) := by
  refine g_met (by decide +kernel) (Nat.le_of_ble_eq_true rfl) ?_
  intro p e s m below meth c C H locs h ls hl
  have C : gC p s m _ meth c RX7 cX7_bestInn 5 (some .int) E := C
  have hl : lv_has ls 5 [(0, .ref (eA E 7 0))] := hl
  have L22 : ∀ (n : Nat) (G : GS) (x1 : Int) (x2 : Int) (x3 : Int) (k : (GS → Int → Int → Int → Option (GS × Int))) (hK : ∀ (G : GS) (x1 : Int) (x2 : Int) (x3 : Int), k G x1 x2 x3 = some (Gz, rz) → ∀ (H : Heap) (locs : List Loc), gH E s G H locs → ∀ ls, lv_has ls 5 [(0, .ref (eA E 7 0)), (1, vI x1), (2, vI x2), (3, vI x3)] → W p l e (gRm 6 137 0 0) s m ([.ref (eA E 7 0)] : List Value).toArray below meth c H locs 0 0 (MQ below (gQi E Gz rz) ([.ref (eA E 7 0)] : List Value).toArray s 0 0 (eF E)) (F0 m 87 ls [])), ∀ (H : Heap) (locs : List Loc), gH E s G H locs → ∀ ls, lv_has ls 5 [(0, .ref (eA E 7 0)), (1, vI x1), (2, vI x2), (3, vI x3)] → f_X7_bestInn_L22 n G x1 x2 x3 k = some (Gz, rz) → W p l e (gRm 6 137 0 0) s m ([.ref (eA E 7 0)] : List Value).toArray below meth c H locs 0 0 (MQ below (gQi E Gz rz) ([.ref (eA E 7 0)] : List Value).toArray s 0 0 (eF E)) (F0 m 22 ls []) := by
    intro n
    induction n with
    | zero =>
      intro G x1 x2 x3 k hK H locs h ls hl hf
      exact absurd hf (by simp [f_X7_bestInn_L22])
    | succ n ih =>
      intro G x1 x2 x3 k hK H locs h ls hl hf
      unfold f_X7_bestInn_L22 at hf
      refine g_iload_n C hl 3 rfl rfl (gdec kX7_bestInn 13 rfl) ?_
      refine g_aload_n C hl 0 rfl rfl (gdec kX7_bestInn 14 rfl) ?_
      refine gf_X7_12 C h ho (gdec kX7_bestInn 15 rfl) ?_
      refine gf_X7_33 C h (gcl_7_0 C ho) (gdec kX7_bestInn 16 rfl) ?_
      obtain ⟨h3, hf⟩ := gd_s hf
      obtain ⟨h4, hf⟩ := gd_s hf
      refine g_icmp_ge C (tgt := 87) h3 h4 (by decide) (gdec kX7_bestInn 17 rfl) (fun c5 => ?_) (fun c5 => ?_)
      · replace hf := ifp c5 hf
        refine g_aload_n C hl 0 rfl rfl (gdec kX7_bestInn 18 rfl) ?_
        refine gf_X7_16 C h ho (gdec kX7_bestInn 19 rfl) ?_
        refine g_aload_n C hl 0 rfl rfl (gdec kX7_bestInn 20 rfl) ?_
        refine gf_X7_12 C h ho (gdec kX7_bestInn 21 rfl) ?_
        obtain ⟨G6, q7, hf⟩ := bn1_s hf
        refine g_cv h (g_runV C h (gcl_7_1 C ho) (by decide) rfl (c_X3_copyFrom l E _ _ _ (gcl_7_1 C ho) (gcl_7_0 C ho) _ q7) wM_X7_143 wI_X3_copyFrom wS_X3_copyFrom wN_X3 wC_X3_copyFrom rfl ny_X3_copyFrom rfl ⟨Nat.le_of_ble_eq_true rfl, Nat.le_of_ble_eq_true rfl⟩ hl.1 rfl (Nat.le_of_ble_eq_true rfl) (gdec kX7_bestInn 22 rfl) ⟨Nat.zero_le _, Nat.zero_le _⟩) (fun H locs h => ?_)
        refine g_aload_n C hl 0 rfl rfl (gdec kX7_bestInn 23 rfl) ?_
        refine gf_X7_16 C h ho (gdec kX7_bestInn 24 rfl) ?_
        refine g_iload_n C hl 3 rfl rfl (gdec kX7_bestInn 25 rfl) ?_
        refine g_iconst C (gdec kX7_bestInn 26 rfl) ?_
        obtain ⟨G8, r9, q10, hf⟩ := bnd_s hf
        refine g_ci h (g_runV C h (gcl_7_1 C ho) (by decide) rfl (c_X3_placeTeam l E _ _ _ _ (gcl_7_1 C ho) _ _ q10) wM_X7_78 wI_X3_placeTeam wS_X3_placeTeam wN_X3 wC_X3_placeTeam rfl ny_X3_placeTeam rfl ⟨Nat.le_of_ble_eq_true rfl, Nat.le_of_ble_eq_true rfl⟩ hl.1 rfl (Nat.le_of_ble_eq_true rfl) (gdec kX7_bestInn 27 rfl) ⟨Nat.zero_le _, Nat.zero_le _⟩) (fun H locs h => ?_)
        refine g_pop C rfl (gdec kX7_bestInn 28 rfl) ?_
        refine g_aload_n C hl 0 rfl rfl (gdec kX7_bestInn 29 rfl) ?_
        refine gf_X7_16 C h ho (gdec kX7_bestInn 30 rfl) ?_
        refine g_iconst C (gdec kX7_bestInn 31 rfl) ?_
        obtain ⟨G11, r12, q13, hf⟩ := bnd_s hf
        refine g_ci h (g_runV C h (gcl_7_1 C ho) (by decide) rfl (c_X3_hoursUntilDelivered l E _ _ _ (gcl_7_1 C ho) _ _ q13) wM_X7_146 wI_X3_hoursUntilDelivered wS_X3_hoursUntilDelivered wN_X3 wC_X3_hoursUntilDelivered rfl ny_X3_hoursUntilDelivered rfl ⟨Nat.le_of_ble_eq_true rfl, Nat.le_of_ble_eq_true rfl⟩ hl.1 rfl (Nat.le_of_ble_eq_true rfl) (gdec kX7_bestInn 32 rfl) ⟨Nat.zero_le _, Nat.zero_le _⟩) (fun H locs h => ?_)
        refine g_istore C [(4, vI r12), (0, .ref (eA E 7 0)), (1, vI x1), (2, vI x2), (3, vI x3)] hl (by decide) rfl (gdec kX7_bestInn 33 rfl) (fun ls hl => ?_)
        refine g_iload C hl 0 rfl (gdec kX7_bestInn 34 rfl) ?_
        refine g_iconst C (gdec kX7_bestInn 35 rfl) ?_
        obtain ⟨h14, hf⟩ := gd_s hf
        refine g_icmp_eq C (tgt := 81) h14 (by decide) (by decide) (gdec kX7_bestInn 36 rfl) (fun c15 => ?_) (fun c15 => ?_)
        · replace hf := ifp c15 hf
          refine g_iinc C (k := 4) [(3, vI (x3 + 1)), (4, vI r12), (0, .ref (eA E 7 0)), (1, vI x1), (2, vI x2)] hl rfl (by decide) rfl (gdec kX7_bestInn 44 rfl) (fun ls hl => ?_)
          refine g_goto C (tgt := 22) (by decide) (gdec kX7_bestInn 45 rfl) ?_
          exact ih _ _ _ _ k hK H locs h ls (lv_sub hl [2, 3, 4, 0] rfl) hf
        · replace hf := ifn c15 hf
          refine g_iload C hl 0 rfl (gdec kX7_bestInn 37 rfl) ?_
          refine g_iload_n C hl 3 rfl rfl (gdec kX7_bestInn 38 rfl) ?_
          obtain ⟨h16, hf⟩ := gd_s hf
          refine g_icmp_ge C (tgt := 81) h14 h16 (by decide) (gdec kX7_bestInn 39 rfl) (fun c17 => ?_) (fun c17 => ?_)
          · replace hf := ifp c17 hf
            refine g_iload_n C hl 4 rfl rfl (gdec kX7_bestInn 40 rfl) ?_
            refine g_istore_n C [(1, vI x3), (4, vI r12), (0, .ref (eA E 7 0)), (2, vI x2), (3, vI x3)] hl rfl (by decide) rfl (gdec kX7_bestInn 41 rfl) (fun ls hl => ?_)
            refine g_iload C hl 1 rfl (gdec kX7_bestInn 42 rfl) ?_
            refine g_istore_n C [(2, vI r12), (1, vI x3), (4, vI r12), (0, .ref (eA E 7 0)), (3, vI x3)] hl rfl (by decide) rfl (gdec kX7_bestInn 43 rfl) (fun ls hl => ?_)
            refine g_iinc C (k := 4) [(3, vI (x3 + 1)), (2, vI r12), (1, vI x3), (4, vI r12), (0, .ref (eA E 7 0))] hl rfl (by decide) rfl (gdec kX7_bestInn 44 rfl) (fun ls hl => ?_)
            refine g_goto C (tgt := 22) (by decide) (gdec kX7_bestInn 45 rfl) ?_
            exact ih _ _ _ _ k hK H locs h ls (lv_sub hl [4, 2, 1, 0] rfl) hf
          · replace hf := ifn c17 hf
            refine g_iinc C (k := 4) [(3, vI (x3 + 1)), (4, vI r12), (0, .ref (eA E 7 0)), (1, vI x1), (2, vI x2)] hl rfl (by decide) rfl (gdec kX7_bestInn 44 rfl) (fun ls hl => ?_)
            refine g_goto C (tgt := 22) (by decide) (gdec kX7_bestInn 45 rfl) ?_
            exact ih _ _ _ _ k hK H locs h ls (lv_sub hl [2, 3, 4, 0] rfl) hf
      · replace hf := ifn c5 hf
        exact hK _ _ _ _ hf H locs h ls (lv_sub hl [0, 1, 2, 3] rfl)
  unfold f_X7_bestInn at hf
  refine g_aload_n C hl 0 rfl rfl (gdec kX7_bestInn 0 rfl) ?_
  refine gf_X7_12 C h ho (gdec kX7_bestInn 1 rfl) ?_
  refine gf_X7_72 C h (gcl_7_0 C ho) (gdec kX7_bestInn 2 rfl) ?_
  refine g_bipush C (gdec kX7_bestInn 3 rfl) rfl ?_
  obtain ⟨h1, hf⟩ := gd_s hf
  refine g_icmp_lt C (tgt := 14) h1 (by decide) (by decide) (gdec kX7_bestInn 4 rfl) (fun c2 => ?_) (fun c2 => ?_)
  · replace hf := ifp c2 hf
    refine g_iconst C (gdec kX7_bestInn 7 rfl) ?_
    refine g_istore_n C [(1, vI (-1)), (0, .ref (eA E 7 0))] hl rfl (by decide) rfl (gdec kX7_bestInn 8 rfl) (fun ls hl => ?_)
    refine g_sipush C (gdec kX7_bestInn 9 rfl) rfl ?_
    refine g_istore_n C [(2, vI 501), (1, vI (-1)), (0, .ref (eA E 7 0))] hl rfl (by decide) rfl (gdec kX7_bestInn 10 rfl) (fun ls hl => ?_)
    refine g_iconst C (gdec kX7_bestInn 11 rfl) ?_
    refine g_istore_n C [(3, vI 0), (2, vI 501), (1, vI (-1)), (0, .ref (eA E 7 0))] hl rfl (by decide) rfl (gdec kX7_bestInn 12 rfl) (fun ls hl => ?_)
    refine L22 gFuel _ _ _ _ _ (fun G19 y1_18 y2_18 y3_18 hf H locs h ls hl => ?_) H locs h ls (lv_sub hl [3, 2, 1, 0] rfl) hf
    refine g_iload_n C hl 1 rfl rfl (gdec kX7_bestInn 46 rfl) ?_
    exact g_iret C h hf (gdec kX7_bestInn 47 rfl)
  · replace hf := ifn c2 hf
    refine g_iconst C (gdec kX7_bestInn 5 rfl) ?_
    exact g_iret C h hf (gdec kX7_bestInn 6 rfl)
def f_X7_meanTiredness_L16 (G : GS) : Nat → Int → Int → (Int → Int → Option (UInt64)) → Option (UInt64)
  | 0, _, _, _ => none
  | n + 1, x1, x2, k => gd x2 (gd (G 3 0 5) (if x2 < (G 3 0 5) then ga x2 10 (f_X7_meanTiredness_L16 G n (x1 + (G 6 (10 * 0 + x2) 1)) (x2 + 1) k) else k x1 x2))
def f_X7_meanTiredness (G : GS) : Option (UInt64) :=
  gd (G 3 0 5) (if (G 3 0 5) = 0 then some 0 else f_X7_meanTiredness_L16 G gFuel 0 0 (fun y1_8 y2_8 => gn (FP.ddiv (FP.i2d (Int32.ofInt y1_8)) (FP.i2d (Int32.ofInt (G 3 0 5)))) (some (FP.ddiv (FP.i2d (Int32.ofInt y1_8)) (FP.i2d (Int32.ofInt (G 3 0 5)))))))
set_option maxHeartbeats 4000000 in
set_option maxRecDepth 100000 in
theorem c_X7_meanTiredness (l : Launch) (E : gEnv) (G : GS) (ho : gOk E 7 0) (rz : UInt64) (hf : f_X7_meanTiredness G = some rz) : gMet l yX7_meanTiredness cX7_meanTiredness 3 (some .double) 1 21 0 0 [.ref (eA E 7 0)] E G (gQd E G rz) := by
  refine g_met (by decide +kernel) (Nat.le_of_ble_eq_true rfl) ?_
  intro p e s m below meth c C H locs h ls hl
  have C : gC p s m _ meth c RX7 cX7_meanTiredness 3 (some .double) E := C
  have hl : lv_has ls 3 [(0, .ref (eA E 7 0))] := hl
  have L16 : ∀ (n : Nat) (x1 : Int) (x2 : Int) (k : (Int → Int → Option (UInt64))) (hK : ∀ (x1 : Int) (x2 : Int), k x1 x2 = some rz → ∀ (H : Heap) (locs : List Loc), gH E s G H locs → ∀ ls, lv_has ls 3 [(0, .ref (eA E 7 0)), (1, vI x1), (2, vI x2)] → W p l e (gRm 1 21 0 0) s m ([.ref (eA E 7 0)] : List Value).toArray below meth c H locs 0 0 (MQ below (gQd E G rz) ([.ref (eA E 7 0)] : List Value).toArray s 0 0 (eF E)) (F0 m 47 ls [])), ∀ (H : Heap) (locs : List Loc), gH E s G H locs → ∀ ls, lv_has ls 3 [(0, .ref (eA E 7 0)), (1, vI x1), (2, vI x2)] → f_X7_meanTiredness_L16 G n x1 x2 k = some rz → W p l e (gRm 1 21 0 0) s m ([.ref (eA E 7 0)] : List Value).toArray below meth c H locs 0 0 (MQ below (gQd E G rz) ([.ref (eA E 7 0)] : List Value).toArray s 0 0 (eF E)) (F0 m 16 ls []) := by
    intro n
    induction n with
    | zero =>
      intro x1 x2 k hK H locs h ls hl hf
      exact absurd hf (by simp [f_X7_meanTiredness_L16])
    | succ n ih =>
      intro x1 x2 k hK H locs h ls hl hf
      unfold f_X7_meanTiredness_L16 at hf
      refine g_iload_n C hl 2 rfl rfl (gdec kX7_meanTiredness 10 rfl) ?_
      refine g_aload_n C hl 0 rfl rfl (gdec kX7_meanTiredness 11 rfl) ?_
      refine gf_X7_12 C h ho (gdec kX7_meanTiredness 12 rfl) ?_
      refine gf_X7_72 C h (gcl_7_0 C ho) (gdec kX7_meanTiredness 13 rfl) ?_
      obtain ⟨h3, hf⟩ := gd_s hf
      obtain ⟨h4, hf⟩ := gd_s hf
      refine g_icmp_ge C (tgt := 47) h3 h4 (by decide) (gdec kX7_meanTiredness 14 rfl) (fun c5 => ?_) (fun c5 => ?_)
      · replace hf := ifp c5 hf
        refine g_iload_n C hl 1 rfl rfl (gdec kX7_meanTiredness 15 rfl) ?_
        refine g_aload_n C hl 0 rfl rfl (gdec kX7_meanTiredness 16 rfl) ?_
        refine gf_X7_12 C h ho (gdec kX7_meanTiredness 17 rfl) ?_
        refine g_iload_n C hl 2 rfl rfl (gdec kX7_meanTiredness 18 rfl) ?_
        obtain ⟨h6, hf⟩ := ga_s hf
        refine g_cr h (g_runV C h (gcl_7_0 C ho) (by decide) rfl (c_X3_teamRow l E _ _ _ (gcl_7_0 C ho) _ (e_X3_teamRow _ _ _ h6)) wM_X7_120 wI_X3_teamRow wS_X3_teamRow wN_X3 wC_X3_teamRow rfl ny_X3_teamRow rfl ⟨Nat.le_of_ble_eq_true rfl, Nat.le_of_ble_eq_true rfl⟩ hl.1 rfl (Nat.le_of_ble_eq_true rfl) (gdec kX7_meanTiredness 19 rfl) ⟨Nat.zero_le _, Nat.zero_le _⟩) (fun H locs h => ?_)
        have k7 : gOk E 6 (10 * 0 + x2) := gok6 C (gcl_3_2 C (gcl_7_0 C ho)) h6
        refine gf_X7_169 C h k7 (gdec kX7_meanTiredness 20 rfl) ?_
        refine g_iadd C (gdec kX7_meanTiredness 21 rfl) ?_
        refine g_istore_n C [(1, vI (x1 + (G 6 (10 * 0 + x2) 1))), (0, .ref (eA E 7 0)), (2, vI x2)] hl rfl (by decide) rfl (gdec kX7_meanTiredness 22 rfl) (fun ls hl => ?_)
        refine g_iinc C (k := 2) [(2, vI (x2 + 1)), (1, vI (x1 + (G 6 (10 * 0 + x2) 1))), (0, .ref (eA E 7 0))] hl rfl (by decide) rfl (gdec kX7_meanTiredness 23 rfl) (fun ls hl => ?_)
        refine g_goto C (tgt := 16) (by decide) (gdec kX7_meanTiredness 24 rfl) ?_
        exact ih _ _ k hK H locs h ls (lv_sub hl [2, 1, 0] rfl) hf
      · replace hf := ifn c5 hf
        exact hK _ _ hf H locs h ls (lv_sub hl [0, 1, 2] rfl)
  unfold f_X7_meanTiredness at hf
  refine g_aload_n C hl 0 rfl rfl (gdec kX7_meanTiredness 0 rfl) ?_
  refine gf_X7_12 C h ho (gdec kX7_meanTiredness 1 rfl) ?_
  refine gf_X7_72 C h (gcl_7_0 C ho) (gdec kX7_meanTiredness 2 rfl) ?_
  obtain ⟨h1, hf⟩ := gd_s hf
  refine g_if_ne C (tgt := 12) h1 (by decide) (gdec kX7_meanTiredness 3 rfl) (fun c2 => ?_) (fun c2 => ?_)
  · replace hf := ifp c2 hf
    refine lv_dconst0 C.1 C.2.1 (gdec kX7_meanTiredness 4 rfl) ?_
    exact g_dret C h (congrArg (Option.map (Prod.mk _)) hf) (gdec kX7_meanTiredness 5 rfl)
  · replace hf := ifn c2 hf
    refine g_iconst C (gdec kX7_meanTiredness 6 rfl) ?_
    refine g_istore_n C [(1, vI 0), (0, .ref (eA E 7 0))] hl rfl (by decide) rfl (gdec kX7_meanTiredness 7 rfl) (fun ls hl => ?_)
    refine g_iconst C (gdec kX7_meanTiredness 8 rfl) ?_
    refine g_istore_n C [(2, vI 0), (1, vI 0), (0, .ref (eA E 7 0))] hl rfl (by decide) rfl (gdec kX7_meanTiredness 9 rfl) (fun ls hl => ?_)
    refine L16 gFuel _ _ _ (fun y1_8 y2_8 hf H locs h ls hl => ?_) H locs h ls (lv_sub hl [2, 1, 0] rfl) hf
    refine g_iload_n C hl 1 rfl rfl (gdec kX7_meanTiredness 25 rfl) ?_
    refine lv_i2d C.1 C.2.1 (gdec kX7_meanTiredness 26 rfl) ?_
    refine g_aload_n C hl 0 rfl rfl (gdec kX7_meanTiredness 27 rfl) ?_
    refine gf_X7_12 C h ho (gdec kX7_meanTiredness 28 rfl) ?_
    refine gf_X7_72 C h (gcl_7_0 C ho) (gdec kX7_meanTiredness 29 rfl) ?_
    refine lv_i2d C.1 C.2.1 (gdec kX7_meanTiredness 30 rfl) ?_
    obtain ⟨h10, hf⟩ := gn_s hf
    refine lv_ddiv C.1 C.2.1 (gdec kX7_meanTiredness 31 rfl) h10 ?_
    exact g_dret C h (congrArg (Option.map (Prod.mk _)) hf) (gdec kX7_meanTiredness 32 rfl)
def f_X7_clearText (G : GS) : Option (GS × Int) :=
  some ((gup G 4 0 1 0), G 4 0 1)
set_option maxHeartbeats 4000000 in
set_option maxRecDepth 100000 in
theorem c_X7_clearText (l : Launch) (E : gEnv) (G : GS) (ho : gOk E 7 0) (Gz : GS) (rz : Int) (hf : f_X7_clearText G = some (Gz, rz)) : gMet l yX7_clearText cX7_clearText 2 (some .int) 0 0 0 0 [.ref (eA E 7 0)] E G (gQi E Gz rz) := by
  refine g_met (by decide +kernel) (Nat.le_of_ble_eq_true rfl) ?_
  intro p e s m below meth c C H locs h ls hl
  have C : gC p s m _ meth c RX7 cX7_clearText 2 (some .int) E := C
  have hl : lv_has ls 2 [(0, .ref (eA E 7 0))] := hl
  unfold f_X7_clearText at hf
  refine g_aload_n C hl 0 rfl rfl (gdec kX7_clearText 0 rfl) ?_
  refine gf_X7_29 C h ho (gdec kX7_clearText 1 rfl) ?_
  refine gf_X7_178 C h (gcl_7_3 C ho) (gdec kX7_clearText 2 rfl) ?_
  refine g_istore_n C [(1, vI (G 4 0 1)), (0, .ref (eA E 7 0))] hl rfl (by decide) rfl (gdec kX7_clearText 3 rfl) (fun ls hl => ?_)
  refine g_aload_n C hl 1 rfl rfl (gdec kX7_clearText 4 rfl) ?_
  refine gf_X7_29 C h ho (gdec kX7_clearText 5 rfl) ?_
  refine g_iconst C (gdec kX7_clearText 6 rfl) ?_
  refine gp_X7_178 C h (gcl_7_3 C ho) (gdec kX7_clearText 7 rfl) (fun H locs h => ?_)
  refine g_iload_n C hl 0 rfl rfl (gdec kX7_clearText 8 rfl) ?_
  exact g_iret C h hf (gdec kX7_clearText 9 rfl)
def f_X4_here (G : GS) : Option (Int) :=
  gd (G 4 0 2) (gd (G 4 0 1) (if (G 4 0 2) < (G 4 0 1) then ga (G 4 0 2) 90 (some (G 9 0 (G 4 0 2))) else some (-1)))
set_option maxHeartbeats 4000000 in
set_option maxRecDepth 100000 in
theorem c_X4_here (l : Launch) (E : gEnv) (G : GS) (ho : gOk E 4 0) (rz : Int) (hf : f_X4_here G = some rz) : gMet l yX4_here cX4_here 1 (some .int) 0 0 0 0 [.ref (eA E 4 0)] E G (gQi E G rz) := by
  refine g_met (by decide +kernel) (Nat.le_of_ble_eq_true rfl) ?_
  intro p e s m below meth c C H locs h ls hl
  have C : gC p s m _ meth c RX4 cX4_here 1 (some .int) E := C
  have hl : lv_has ls 1 [(0, .ref (eA E 4 0))] := hl
  unfold f_X4_here at hf
  refine g_aload_n C hl 0 rfl rfl (gdec kX4_here 0 rfl) ?_
  refine gf_X4_19 C h ho (gdec kX4_here 1 rfl) ?_
  refine g_aload_n C hl 0 rfl rfl (gdec kX4_here 2 rfl) ?_
  refine gf_X4_15 C h ho (gdec kX4_here 3 rfl) ?_
  obtain ⟨h1, hf⟩ := gd_s hf
  obtain ⟨h2, hf⟩ := gd_s hf
  refine g_icmp_ge C (tgt := 23) h1 h2 (by decide) (gdec kX4_here 4 rfl) (fun c3 => ?_) (fun c3 => ?_)
  · replace hf := ifp c3 hf
    refine g_aload_n C hl 0 rfl rfl (gdec kX4_here 5 rfl) ?_
    refine gf_X4_9 C h ho (gdec kX4_here 6 rfl) ?_
    refine g_aload_n C hl 0 rfl rfl (gdec kX4_here 7 rfl) ?_
    refine gf_X4_19 C h ho (gdec kX4_here 8 rfl) ?_
    obtain ⟨h4, hf⟩ := ga_s hf
    refine g_bald C h (gcl_4_0 C ho) (n := 90) rfl (by decide) h4 (gdec kX4_here 9 rfl) ?_
    refine g_goto C (tgt := 24) (by decide) (gdec kX4_here 10 rfl) ?_
    exact g_iret C h (congrArg (Option.map (Prod.mk _)) hf) (gdec kX4_here 12 rfl)
  · replace hf := ifn c3 hf
    refine g_iconst C (gdec kX4_here 11 rfl) ?_
    exact g_iret C h (congrArg (Option.map (Prod.mk _)) hf) (gdec kX4_here 12 rfl)
def f_X4_digitStands (G : GS) (p1 : Int) : Option (Int) :=
  bn1 (f_X4_here G) (fun r1 => gd r1 (if r1 < 49 then some 0 else bn1 (f_X4_here G) (fun r5 => gd r5 (gd (48 + p1) (if (48 + p1) < r5 then some 0 else some 1)))))
set_option maxHeartbeats 4000000 in
set_option maxRecDepth 100000 in
theorem c_X4_digitStands (l : Launch) (E : gEnv) (G : GS) (p1 : Int) (ho : gOk E 4 0) (rz : Int) (hf : f_X4_digitStands G p1 = some rz) : gMet l yX4_digitStands cX4_digitStands 2 (some .boolean) 1 20 0 0 [.ref (eA E 4 0), vI p1] E G (gQi E G rz) := by
  refine g_met (by decide +kernel) (Nat.le_of_ble_eq_true rfl) ?_
  intro p e s m below meth c C H locs h ls hl
  have C : gC p s m _ meth c RX4 cX4_digitStands 2 (some .boolean) E := C
  have hl : lv_has ls 2 [(0, .ref (eA E 4 0)), (1, vI p1)] := hl
  unfold f_X4_digitStands at hf
  refine g_aload_n C hl 0 rfl rfl (gdec kX4_digitStands 0 rfl) ?_
  obtain ⟨r1, q2, hf⟩ := bn1_s hf
  refine g_ci h (g_runV C h ho (by decide) rfl (c_X4_here l E _ ho _ q2) wM_X4_53 wI_X4_here wS_X4_here wN_X4 wC_X4_here rfl ny_X4_here rfl ⟨Nat.le_of_ble_eq_true rfl, Nat.le_of_ble_eq_true rfl⟩ hl.1 rfl (Nat.le_of_ble_eq_true rfl) (gdec kX4_digitStands 1 rfl) ⟨Nat.zero_le _, Nat.zero_le _⟩) (fun H locs h => ?_)
  refine g_bipush C (gdec kX4_digitStands 2 rfl) rfl ?_
  obtain ⟨h3, hf⟩ := gd_s hf
  refine g_icmp_lt C (tgt := 24) h3 (by decide) (by decide) (gdec kX4_digitStands 3 rfl) (fun c4 => ?_) (fun c4 => ?_)
  · replace hf := ifp c4 hf
    refine g_iconst C (gdec kX4_digitStands 12 rfl) ?_
    exact g_zret C h (Or.inl rfl) (congrArg (Option.map (Prod.mk _)) hf) (gdec kX4_digitStands 13 rfl)
  · replace hf := ifn c4 hf
    refine g_aload_n C hl 0 rfl rfl (gdec kX4_digitStands 4 rfl) ?_
    obtain ⟨r5, q6, hf⟩ := bn1_s hf
    refine g_ci h (g_runV C h ho (by decide) rfl (c_X4_here l E _ ho _ q6) wM_X4_53 wI_X4_here wS_X4_here wN_X4 wC_X4_here rfl ny_X4_here rfl ⟨Nat.le_of_ble_eq_true rfl, Nat.le_of_ble_eq_true rfl⟩ hl.1 rfl (Nat.le_of_ble_eq_true rfl) (gdec kX4_digitStands 5 rfl) ⟨Nat.zero_le _, Nat.zero_le _⟩) (fun H locs h => ?_)
    refine g_bipush C (gdec kX4_digitStands 6 rfl) rfl ?_
    refine g_iload_n C hl 1 rfl rfl (gdec kX4_digitStands 7 rfl) ?_
    refine g_iadd C (gdec kX4_digitStands 8 rfl) ?_
    obtain ⟨h7, hf⟩ := gd_s hf
    obtain ⟨h8, hf⟩ := gd_s hf
    refine g_icmp_gt C (tgt := 24) h7 h8 (by decide) (gdec kX4_digitStands 9 rfl) (fun c9 => ?_) (fun c9 => ?_)
    · replace hf := ifp c9 hf
      refine g_iconst C (gdec kX4_digitStands 12 rfl) ?_
      exact g_zret C h (Or.inl rfl) (congrArg (Option.map (Prod.mk _)) hf) (gdec kX4_digitStands 13 rfl)
    · replace hf := ifn c9 hf
      refine g_iconst C (gdec kX4_digitStands 10 rfl) ?_
      refine g_goto C (tgt := 25) (by decide) (gdec kX4_digitStands 11 rfl) ?_
      exact g_zret C h (Or.inr rfl) (congrArg (Option.map (Prod.mk _)) hf) (gdec kX4_digitStands 13 rfl)
def f_X4_takeDigit (G : GS) : Option (GS × Int) :=
  bn1 (f_X4_here G) (fun r1 => some ((gup G 4 0 2 ((G 4 0 2) + 1)), r1 - 48))
set_option maxHeartbeats 4000000 in
set_option maxRecDepth 100000 in
theorem c_X4_takeDigit (l : Launch) (E : gEnv) (G : GS) (ho : gOk E 4 0) (Gz : GS) (rz : Int) (hf : f_X4_takeDigit G = some (Gz, rz)) : gMet l yX4_takeDigit cX4_takeDigit 2 (some .int) 1 20 0 0 [.ref (eA E 4 0)] E G (gQi E Gz rz) := by
  refine g_met (by decide +kernel) (Nat.le_of_ble_eq_true rfl) ?_
  intro p e s m below meth c C H locs h ls hl
  have C : gC p s m _ meth c RX4 cX4_takeDigit 2 (some .int) E := C
  have hl : lv_has ls 2 [(0, .ref (eA E 4 0))] := hl
  unfold f_X4_takeDigit at hf
  refine g_aload_n C hl 0 rfl rfl (gdec kX4_takeDigit 0 rfl) ?_
  obtain ⟨r1, q2, hf⟩ := bn1_s hf
  refine g_ci h (g_runV C h ho (by decide) rfl (c_X4_here l E _ ho _ q2) wM_X4_53 wI_X4_here wS_X4_here wN_X4 wC_X4_here rfl ny_X4_here rfl ⟨Nat.le_of_ble_eq_true rfl, Nat.le_of_ble_eq_true rfl⟩ hl.1 rfl (Nat.le_of_ble_eq_true rfl) (gdec kX4_takeDigit 1 rfl) ⟨Nat.zero_le _, Nat.zero_le _⟩) (fun H locs h => ?_)
  refine g_bipush C (gdec kX4_takeDigit 2 rfl) rfl ?_
  refine g_isub C (gdec kX4_takeDigit 3 rfl) ?_
  refine g_istore_n C [(1, vI (r1 - 48)), (0, .ref (eA E 4 0))] hl rfl (by decide) rfl (gdec kX4_takeDigit 4 rfl) (fun ls hl => ?_)
  refine g_aload_n C hl 1 rfl rfl (gdec kX4_takeDigit 5 rfl) ?_
  refine g_dup C rfl (gdec kX4_takeDigit 6 rfl) ?_
  refine gf_X4_19 C h ho (gdec kX4_takeDigit 7 rfl) ?_
  refine g_iconst C (gdec kX4_takeDigit 8 rfl) ?_
  refine g_iadd C (gdec kX4_takeDigit 9 rfl) ?_
  refine gp_X4_19 C h ho (gdec kX4_takeDigit 10 rfl) (fun H locs h => ?_)
  refine g_iload_n C hl 0 rfl rfl (gdec kX4_takeDigit 11 rfl) ?_
  exact g_iret C h hf (gdec kX4_takeDigit 12 rfl)
def f_X4_signStands (G : GS) (p1 : Int) : Option (Int) :=
  bn1 (f_X4_here G) (fun r1 => gd r1 (gd p1 (if r1 = p1 then some 1 else some 0)))
set_option maxHeartbeats 4000000 in
set_option maxRecDepth 100000 in
theorem c_X4_signStands (l : Launch) (E : gEnv) (G : GS) (p1 : Int) (ho : gOk E 4 0) (rz : Int) (hf : f_X4_signStands G p1 = some rz) : gMet l yX4_signStands cX4_signStands 2 (some .boolean) 1 20 0 0 [.ref (eA E 4 0), vI p1] E G (gQi E G rz) := by
  refine g_met (by decide +kernel) (Nat.le_of_ble_eq_true rfl) ?_
  intro p e s m below meth c C H locs h ls hl
  have C : gC p s m _ meth c RX4 cX4_signStands 2 (some .boolean) E := C
  have hl : lv_has ls 2 [(0, .ref (eA E 4 0)), (1, vI p1)] := hl
  unfold f_X4_signStands at hf
  refine g_aload_n C hl 0 rfl rfl (gdec kX4_signStands 0 rfl) ?_
  obtain ⟨r1, q2, hf⟩ := bn1_s hf
  refine g_ci h (g_runV C h ho (by decide) rfl (c_X4_here l E _ ho _ q2) wM_X4_53 wI_X4_here wS_X4_here wN_X4 wC_X4_here rfl ny_X4_here rfl ⟨Nat.le_of_ble_eq_true rfl, Nat.le_of_ble_eq_true rfl⟩ hl.1 rfl (Nat.le_of_ble_eq_true rfl) (gdec kX4_signStands 1 rfl) ⟨Nat.zero_le _, Nat.zero_le _⟩) (fun H locs h => ?_)
  refine g_iload_n C hl 1 rfl rfl (gdec kX4_signStands 2 rfl) ?_
  obtain ⟨h3, hf⟩ := gd_s hf
  obtain ⟨h4, hf⟩ := gd_s hf
  refine g_icmp_ne C (tgt := 12) h3 h4 (by decide) (gdec kX4_signStands 3 rfl) (fun c5 => ?_) (fun c5 => ?_)
  · replace hf := ifp c5 hf
    refine g_iconst C (gdec kX4_signStands 4 rfl) ?_
    refine g_goto C (tgt := 13) (by decide) (gdec kX4_signStands 5 rfl) ?_
    exact g_zret C h (Or.inr rfl) (congrArg (Option.map (Prod.mk _)) hf) (gdec kX4_signStands 7 rfl)
  · replace hf := ifn c5 hf
    refine g_iconst C (gdec kX4_signStands 6 rfl) ?_
    exact g_zret C h (Or.inl rfl) (congrArg (Option.map (Prod.mk _)) hf) (gdec kX4_signStands 7 rfl)
def f_X4_readStage (G : GS) (p1 : Int) : Option (GS × Int) :=
  bn1 (f_X4_digitStands G 9) (fun r1 => gd r1 (if r1 = 0 then some (G, 0) else bnd (f_X4_takeDigit G) (fun G5 r6 => bn1 (f_X4_signStands G5 43) (fun r8 => gd r8 (if r8 = 0 then bn1 (f_X4_signStands G5 45) (fun r12 => gd r12 (if r12 = 0 then bn1 (f_X4_signStands G5 59) (fun r16 => gd r16 (if r16 = 0 then some (G5, 0) else bn1 (f_X5_set (gup G5 4 0 2 ((G5 4 0 2) + 1)) p1 r6 0 0) (fun G20 => some (G20, 1)))) else bn1 (f_X4_signStands G5 43) (fun r22 => gd r22 (if r22 = 0 then bn1 (f_X4_digitStands (gup G5 4 0 2 ((G5 4 0 2) + 1)) 5) (fun r26 => gd r26 (if r26 = 0 then some ((gup G5 4 0 2 ((G5 4 0 2) + 1)), 0) else bnd (f_X4_takeDigit (gup G5 4 0 2 ((G5 4 0 2) + 1))) (fun G30 r31 => bn1 (f_X4_signStands G30 59) (fun r33 => gd r33 (if r33 = 0 then some (G30, 0) else bn1 (f_X5_set (gup G30 4 0 2 ((G30 4 0 2) + 1)) p1 r6 ((-1) * r31) 0) (fun G37 => some (G37, 1))))))) else bn1 (f_X4_digitStands (gup G5 4 0 2 ((G5 4 0 2) + 1)) 5) (fun r39 => gd r39 (if r39 = 0 then some ((gup G5 4 0 2 ((G5 4 0 2) + 1)), 0) else bnd (f_X4_takeDigit (gup G5 4 0 2 ((G5 4 0 2) + 1))) (fun G43 r44 => bn1 (f_X4_signStands G43 59) (fun r46 => gd r46 (if r46 = 0 then some (G43, 0) else bn1 (f_X5_set (gup G43 4 0 2 ((G43 4 0 2) + 1)) p1 r6 (1 * r44) 0) (fun G50 => some (G50, 1))))))))))) else bn1 (f_X4_signStands G5 43) (fun r52 => gd r52 (if r52 = 0 then bn1 (f_X4_digitStands (gup G5 4 0 2 ((G5 4 0 2) + 1)) 5) (fun r56 => gd r56 (if r56 = 0 then some ((gup G5 4 0 2 ((G5 4 0 2) + 1)), 0) else bnd (f_X4_takeDigit (gup G5 4 0 2 ((G5 4 0 2) + 1))) (fun G60 r61 => bn1 (f_X4_signStands G60 59) (fun r63 => gd r63 (if r63 = 0 then some (G60, 0) else bn1 (f_X5_set (gup G60 4 0 2 ((G60 4 0 2) + 1)) p1 r6 ((-1) * r61) 0) (fun G67 => some (G67, 1))))))) else bn1 (f_X4_digitStands (gup G5 4 0 2 ((G5 4 0 2) + 1)) 5) (fun r69 => gd r69 (if r69 = 0 then some ((gup G5 4 0 2 ((G5 4 0 2) + 1)), 0) else bnd (f_X4_takeDigit (gup G5 4 0 2 ((G5 4 0 2) + 1))) (fun G73 r74 => bn1 (f_X4_signStands G73 59) (fun r76 => gd r76 (if r76 = 0 then some (G73, 0) else bn1 (f_X5_set (gup G73 4 0 2 ((G73 4 0 2) + 1)) p1 r6 (1 * r74) 0) (fun G80 => some (G80, 1))))))))))))))
set_option maxHeartbeats 4000000 in
set_option maxRecDepth 100000 in
theorem c_X4_readStage (l : Launch) (E : gEnv) (G : GS) (p1 : Int) (ho : gOk E 4 0) (hp1 : gOk E 5 p1) (Gz : GS) (rz : Int) (hf : f_X4_readStage G p1 = some (Gz, rz)) : gMet l yX4_readStage cX4_readStage 5 (some .boolean) 2 41 0 0 [.ref (eA E 4 0), .ref (eA E 5 p1)] E G (gQi E Gz rz) := by
  refine g_met (by decide +kernel) (Nat.le_of_ble_eq_true rfl) ?_
  intro p e s m below meth c C H locs h ls hl
  have C : gC p s m _ meth c RX4 cX4_readStage 5 (some .boolean) E := C
  have hl : lv_has ls 5 [(0, .ref (eA E 4 0)), (1, .ref (eA E 5 p1))] := hl
  unfold f_X4_readStage at hf
  refine g_aload_n C hl 0 rfl rfl (gdec kX4_readStage 0 rfl) ?_
  refine g_bipush C (gdec kX4_readStage 1 rfl) rfl ?_
  obtain ⟨r1, q2, hf⟩ := bn1_s hf
  refine g_ci h (g_runV C h ho (by decide) rfl (c_X4_digitStands l E _ _ ho _ q2) wM_X4_35 wI_X4_digitStands wS_X4_digitStands wN_X4 wC_X4_digitStands rfl ny_X4_digitStands rfl ⟨Nat.le_of_ble_eq_true rfl, Nat.le_of_ble_eq_true rfl⟩ hl.1 rfl (Nat.le_of_ble_eq_true rfl) (gdec kX4_readStage 2 rfl) ⟨Nat.zero_le _, Nat.zero_le _⟩) (fun H locs h => ?_)
  obtain ⟨h3, hf⟩ := gd_s hf
  refine g_if_ne C (tgt := 11) h3 (by decide) (gdec kX4_readStage 3 rfl) (fun c4 => ?_) (fun c4 => ?_)
  · replace hf := ifp c4 hf
    refine g_iconst C (gdec kX4_readStage 4 rfl) ?_
    exact g_zret C h (Or.inl rfl) hf (gdec kX4_readStage 5 rfl)
  · replace hf := ifn c4 hf
    refine g_aload_n C hl 0 rfl rfl (gdec kX4_readStage 6 rfl) ?_
    obtain ⟨G5, r6, q7, hf⟩ := bnd_s hf
    refine g_ci h (g_runV C h ho (by decide) rfl (c_X4_takeDigit l E _ ho _ _ q7) wM_X4_39 wI_X4_takeDigit wS_X4_takeDigit wN_X4 wC_X4_takeDigit rfl ny_X4_takeDigit rfl ⟨Nat.le_of_ble_eq_true rfl, Nat.le_of_ble_eq_true rfl⟩ hl.1 rfl (Nat.le_of_ble_eq_true rfl) (gdec kX4_readStage 7 rfl) ⟨Nat.zero_le _, Nat.zero_le _⟩) (fun H locs h => ?_)
    refine g_istore_n C [(2, vI r6), (0, .ref (eA E 4 0)), (1, .ref (eA E 5 p1))] hl rfl (by decide) rfl (gdec kX4_readStage 8 rfl) (fun ls hl => ?_)
    refine g_iconst C (gdec kX4_readStage 9 rfl) ?_
    refine g_istore_n C [(3, vI 0), (2, vI r6), (0, .ref (eA E 4 0)), (1, .ref (eA E 5 p1))] hl rfl (by decide) rfl (gdec kX4_readStage 10 rfl) (fun ls hl => ?_)
    refine g_aload_n C hl 2 rfl rfl (gdec kX4_readStage 11 rfl) ?_
    refine g_bipush C (gdec kX4_readStage 12 rfl) rfl ?_
    obtain ⟨r8, q9, hf⟩ := bn1_s hf
    refine g_ci h (g_runV C h ho (by decide) rfl (c_X4_signStands l E _ _ ho _ q9) wM_X4_43 wI_X4_signStands wS_X4_signStands wN_X4 wC_X4_signStands rfl ny_X4_signStands rfl ⟨Nat.le_of_ble_eq_true rfl, Nat.le_of_ble_eq_true rfl⟩ hl.1 rfl (Nat.le_of_ble_eq_true rfl) (gdec kX4_readStage 13 rfl) ⟨Nat.zero_le _, Nat.zero_le _⟩) (fun H locs h => ?_)
    obtain ⟨h10, hf⟩ := gd_s hf
    refine g_if_ne C (tgt := 36) h10 (by decide) (gdec kX4_readStage 14 rfl) (fun c11 => ?_) (fun c11 => ?_)
    · replace hf := ifp c11 hf
      refine g_aload_n C hl 2 rfl rfl (gdec kX4_readStage 15 rfl) ?_
      refine g_bipush C (gdec kX4_readStage 16 rfl) rfl ?_
      obtain ⟨r12, q13, hf⟩ := bn1_s hf
      refine g_ci h (g_runV C h ho (by decide) rfl (c_X4_signStands l E _ _ ho _ q13) wM_X4_43 wI_X4_signStands wS_X4_signStands wN_X4 wC_X4_signStands rfl ny_X4_signStands rfl ⟨Nat.le_of_ble_eq_true rfl, Nat.le_of_ble_eq_true rfl⟩ hl.1 rfl (Nat.le_of_ble_eq_true rfl) (gdec kX4_readStage 17 rfl) ⟨Nat.zero_le _, Nat.zero_le _⟩) (fun H locs h => ?_)
      obtain ⟨h14, hf⟩ := gd_s hf
      refine g_if_eq C (tgt := 80) h14 (by decide) (gdec kX4_readStage 18 rfl) (fun c15 => ?_) (fun c15 => ?_)
      · replace hf := ifp c15 hf
        refine g_aload_n C hl 2 rfl rfl (gdec kX4_readStage 44 rfl) ?_
        refine g_bipush C (gdec kX4_readStage 45 rfl) rfl ?_
        obtain ⟨r16, q17, hf⟩ := bn1_s hf
        refine g_ci h (g_runV C h ho (by decide) rfl (c_X4_signStands l E _ _ ho _ q17) wM_X4_43 wI_X4_signStands wS_X4_signStands wN_X4 wC_X4_signStands rfl ny_X4_signStands rfl ⟨Nat.le_of_ble_eq_true rfl, Nat.le_of_ble_eq_true rfl⟩ hl.1 rfl (Nat.le_of_ble_eq_true rfl) (gdec kX4_readStage 46 rfl) ⟨Nat.zero_le _, Nat.zero_le _⟩) (fun H locs h => ?_)
        obtain ⟨h18, hf⟩ := gd_s hf
        refine g_if_ne C (tgt := 91) h18 (by decide) (gdec kX4_readStage 47 rfl) (fun c19 => ?_) (fun c19 => ?_)
        · replace hf := ifp c19 hf
          refine g_iconst C (gdec kX4_readStage 48 rfl) ?_
          exact g_zret C h (Or.inl rfl) hf (gdec kX4_readStage 49 rfl)
        · replace hf := ifn c19 hf
          refine g_aload_n C hl 2 rfl rfl (gdec kX4_readStage 50 rfl) ?_
          refine g_dup C rfl (gdec kX4_readStage 51 rfl) ?_
          refine gf_X4_19 C h ho (gdec kX4_readStage 52 rfl) ?_
          refine g_iconst C (gdec kX4_readStage 53 rfl) ?_
          refine g_iadd C (gdec kX4_readStage 54 rfl) ?_
          refine gp_X4_19 C h ho (gdec kX4_readStage 55 rfl) (fun H locs h => ?_)
          refine g_aload_n C hl 3 rfl rfl (gdec kX4_readStage 56 rfl) ?_
          refine g_iload_n C hl 1 rfl rfl (gdec kX4_readStage 57 rfl) ?_
          refine g_iload_n C hl 0 rfl rfl (gdec kX4_readStage 58 rfl) ?_
          refine g_iconst C (gdec kX4_readStage 59 rfl) ?_
          obtain ⟨G20, q21, hf⟩ := bn1_s hf
          refine g_cv h (g_runV C h hp1 (by decide) rfl (c_X5_set l E _ _ _ _ _ hp1 _ q21) wM_X4_47 wI_X5_set wS_X5_set wN_X5 wC_X5_set rfl ny_X5_set rfl ⟨Nat.le_of_ble_eq_true rfl, Nat.le_of_ble_eq_true rfl⟩ hl.1 rfl (Nat.le_of_ble_eq_true rfl) (gdec kX4_readStage_1 0 rfl) ⟨Nat.zero_le _, Nat.zero_le _⟩) (fun H locs h => ?_)
          refine g_iconst C (gdec kX4_readStage_1 1 rfl) ?_
          exact g_zret C h (Or.inr rfl) hf (gdec kX4_readStage_1 2 rfl)
      · replace hf := ifn c15 hf
        refine g_aload_n C hl 2 rfl rfl (gdec kX4_readStage 19 rfl) ?_
        refine g_bipush C (gdec kX4_readStage 20 rfl) rfl ?_
        obtain ⟨r22, q23, hf⟩ := bn1_s hf
        refine g_ci h (g_runV C h ho (by decide) rfl (c_X4_signStands l E _ _ ho _ q23) wM_X4_43 wI_X4_signStands wS_X4_signStands wN_X4 wC_X4_signStands rfl ny_X4_signStands rfl ⟨Nat.le_of_ble_eq_true rfl, Nat.le_of_ble_eq_true rfl⟩ hl.1 rfl (Nat.le_of_ble_eq_true rfl) (gdec kX4_readStage 21 rfl) ⟨Nat.zero_le _, Nat.zero_le _⟩) (fun H locs h => ?_)
        obtain ⟨h24, hf⟩ := gd_s hf
        refine g_if_eq C (tgt := 49) h24 (by decide) (gdec kX4_readStage 22 rfl) (fun c25 => ?_) (fun c25 => ?_)
        · replace hf := ifp c25 hf
          refine g_iconst C (gdec kX4_readStage 25 rfl) ?_
          refine g_istore C [(4, vI (-1)), (3, vI 0), (2, vI r6), (0, .ref (eA E 4 0)), (1, .ref (eA E 5 p1))] hl (by decide) rfl (gdec kX4_readStage 26 rfl) (fun ls hl => ?_)
          refine g_aload_n C hl 3 rfl rfl (gdec kX4_readStage 27 rfl) ?_
          refine g_dup C rfl (gdec kX4_readStage 28 rfl) ?_
          refine gf_X4_19 C h ho (gdec kX4_readStage 29 rfl) ?_
          refine g_iconst C (gdec kX4_readStage 30 rfl) ?_
          refine g_iadd C (gdec kX4_readStage 31 rfl) ?_
          refine gp_X4_19 C h ho (gdec kX4_readStage 32 rfl) (fun H locs h => ?_)
          refine g_aload_n C hl 3 rfl rfl (gdec kX4_readStage 33 rfl) ?_
          refine g_iconst C (gdec kX4_readStage 34 rfl) ?_
          obtain ⟨r26, q27, hf⟩ := bn1_s hf
          refine g_ci h (g_runV C h ho (by decide) rfl (c_X4_digitStands l E _ _ ho _ q27) wM_X4_35 wI_X4_digitStands wS_X4_digitStands wN_X4 wC_X4_digitStands rfl ny_X4_digitStands rfl ⟨Nat.le_of_ble_eq_true rfl, Nat.le_of_ble_eq_true rfl⟩ hl.1 rfl (Nat.le_of_ble_eq_true rfl) (gdec kX4_readStage 35 rfl) ⟨Nat.zero_le _, Nat.zero_le _⟩) (fun H locs h => ?_)
          obtain ⟨h28, hf⟩ := gd_s hf
          refine g_if_ne C (tgt := 72) h28 (by decide) (gdec kX4_readStage 36 rfl) (fun c29 => ?_) (fun c29 => ?_)
          · replace hf := ifp c29 hf
            refine g_iconst C (gdec kX4_readStage 37 rfl) ?_
            exact g_zret C h (Or.inl rfl) hf (gdec kX4_readStage 38 rfl)
          · replace hf := ifn c29 hf
            refine g_iload C hl 0 rfl (gdec kX4_readStage 39 rfl) ?_
            refine g_aload_n C hl 3 rfl rfl (gdec kX4_readStage 40 rfl) ?_
            obtain ⟨G30, r31, q32, hf⟩ := bnd_s hf
            refine g_ci h (g_runV C h ho (by decide) rfl (c_X4_takeDigit l E _ ho _ _ q32) wM_X4_39 wI_X4_takeDigit wS_X4_takeDigit wN_X4 wC_X4_takeDigit rfl ny_X4_takeDigit rfl ⟨Nat.le_of_ble_eq_true rfl, Nat.le_of_ble_eq_true rfl⟩ hl.1 rfl (Nat.le_of_ble_eq_true rfl) (gdec kX4_readStage 41 rfl) ⟨Nat.zero_le _, Nat.zero_le _⟩) (fun H locs h => ?_)
            refine g_imul C (gdec kX4_readStage 42 rfl) ?_
            refine g_istore_n C [(3, vI ((-1) * r31)), (4, vI (-1)), (2, vI r6), (0, .ref (eA E 4 0)), (1, .ref (eA E 5 p1))] hl rfl (by decide) rfl (gdec kX4_readStage 43 rfl) (fun ls hl => ?_)
            refine g_aload_n C hl 3 rfl rfl (gdec kX4_readStage 44 rfl) ?_
            refine g_bipush C (gdec kX4_readStage 45 rfl) rfl ?_
            obtain ⟨r33, q34, hf⟩ := bn1_s hf
            refine g_ci h (g_runV C h ho (by decide) rfl (c_X4_signStands l E _ _ ho _ q34) wM_X4_43 wI_X4_signStands wS_X4_signStands wN_X4 wC_X4_signStands rfl ny_X4_signStands rfl ⟨Nat.le_of_ble_eq_true rfl, Nat.le_of_ble_eq_true rfl⟩ hl.1 rfl (Nat.le_of_ble_eq_true rfl) (gdec kX4_readStage 46 rfl) ⟨Nat.zero_le _, Nat.zero_le _⟩) (fun H locs h => ?_)
            obtain ⟨h35, hf⟩ := gd_s hf
            refine g_if_ne C (tgt := 91) h35 (by decide) (gdec kX4_readStage 47 rfl) (fun c36 => ?_) (fun c36 => ?_)
            · replace hf := ifp c36 hf
              refine g_iconst C (gdec kX4_readStage 48 rfl) ?_
              exact g_zret C h (Or.inl rfl) hf (gdec kX4_readStage 49 rfl)
            · replace hf := ifn c36 hf
              refine g_aload_n C hl 3 rfl rfl (gdec kX4_readStage 50 rfl) ?_
              refine g_dup C rfl (gdec kX4_readStage 51 rfl) ?_
              refine gf_X4_19 C h ho (gdec kX4_readStage 52 rfl) ?_
              refine g_iconst C (gdec kX4_readStage 53 rfl) ?_
              refine g_iadd C (gdec kX4_readStage 54 rfl) ?_
              refine gp_X4_19 C h ho (gdec kX4_readStage 55 rfl) (fun H locs h => ?_)
              refine g_aload_n C hl 4 rfl rfl (gdec kX4_readStage 56 rfl) ?_
              refine g_iload_n C hl 2 rfl rfl (gdec kX4_readStage 57 rfl) ?_
              refine g_iload_n C hl 0 rfl rfl (gdec kX4_readStage 58 rfl) ?_
              refine g_iconst C (gdec kX4_readStage 59 rfl) ?_
              obtain ⟨G37, q38, hf⟩ := bn1_s hf
              refine g_cv h (g_runV C h hp1 (by decide) rfl (c_X5_set l E _ _ _ _ _ hp1 _ q38) wM_X4_47 wI_X5_set wS_X5_set wN_X5 wC_X5_set rfl ny_X5_set rfl ⟨Nat.le_of_ble_eq_true rfl, Nat.le_of_ble_eq_true rfl⟩ hl.1 rfl (Nat.le_of_ble_eq_true rfl) (gdec kX4_readStage_1 0 rfl) ⟨Nat.zero_le _, Nat.zero_le _⟩) (fun H locs h => ?_)
              refine g_iconst C (gdec kX4_readStage_1 1 rfl) ?_
              exact g_zret C h (Or.inr rfl) hf (gdec kX4_readStage_1 2 rfl)
        · replace hf := ifn c25 hf
          refine g_iconst C (gdec kX4_readStage 23 rfl) ?_
          refine g_goto C (tgt := 50) (by decide) (gdec kX4_readStage 24 rfl) ?_
          refine g_istore C [(4, vI 1), (3, vI 0), (2, vI r6), (0, .ref (eA E 4 0)), (1, .ref (eA E 5 p1))] hl (by decide) rfl (gdec kX4_readStage 26 rfl) (fun ls hl => ?_)
          refine g_aload_n C hl 3 rfl rfl (gdec kX4_readStage 27 rfl) ?_
          refine g_dup C rfl (gdec kX4_readStage 28 rfl) ?_
          refine gf_X4_19 C h ho (gdec kX4_readStage 29 rfl) ?_
          refine g_iconst C (gdec kX4_readStage 30 rfl) ?_
          refine g_iadd C (gdec kX4_readStage 31 rfl) ?_
          refine gp_X4_19 C h ho (gdec kX4_readStage 32 rfl) (fun H locs h => ?_)
          refine g_aload_n C hl 3 rfl rfl (gdec kX4_readStage 33 rfl) ?_
          refine g_iconst C (gdec kX4_readStage 34 rfl) ?_
          obtain ⟨r39, q40, hf⟩ := bn1_s hf
          refine g_ci h (g_runV C h ho (by decide) rfl (c_X4_digitStands l E _ _ ho _ q40) wM_X4_35 wI_X4_digitStands wS_X4_digitStands wN_X4 wC_X4_digitStands rfl ny_X4_digitStands rfl ⟨Nat.le_of_ble_eq_true rfl, Nat.le_of_ble_eq_true rfl⟩ hl.1 rfl (Nat.le_of_ble_eq_true rfl) (gdec kX4_readStage 35 rfl) ⟨Nat.zero_le _, Nat.zero_le _⟩) (fun H locs h => ?_)
          obtain ⟨h41, hf⟩ := gd_s hf
          refine g_if_ne C (tgt := 72) h41 (by decide) (gdec kX4_readStage 36 rfl) (fun c42 => ?_) (fun c42 => ?_)
          · replace hf := ifp c42 hf
            refine g_iconst C (gdec kX4_readStage 37 rfl) ?_
            exact g_zret C h (Or.inl rfl) hf (gdec kX4_readStage 38 rfl)
          · replace hf := ifn c42 hf
            refine g_iload C hl 0 rfl (gdec kX4_readStage 39 rfl) ?_
            refine g_aload_n C hl 3 rfl rfl (gdec kX4_readStage 40 rfl) ?_
            obtain ⟨G43, r44, q45, hf⟩ := bnd_s hf
            refine g_ci h (g_runV C h ho (by decide) rfl (c_X4_takeDigit l E _ ho _ _ q45) wM_X4_39 wI_X4_takeDigit wS_X4_takeDigit wN_X4 wC_X4_takeDigit rfl ny_X4_takeDigit rfl ⟨Nat.le_of_ble_eq_true rfl, Nat.le_of_ble_eq_true rfl⟩ hl.1 rfl (Nat.le_of_ble_eq_true rfl) (gdec kX4_readStage 41 rfl) ⟨Nat.zero_le _, Nat.zero_le _⟩) (fun H locs h => ?_)
            refine g_imul C (gdec kX4_readStage 42 rfl) ?_
            refine g_istore_n C [(3, vI (1 * r44)), (4, vI 1), (2, vI r6), (0, .ref (eA E 4 0)), (1, .ref (eA E 5 p1))] hl rfl (by decide) rfl (gdec kX4_readStage 43 rfl) (fun ls hl => ?_)
            refine g_aload_n C hl 3 rfl rfl (gdec kX4_readStage 44 rfl) ?_
            refine g_bipush C (gdec kX4_readStage 45 rfl) rfl ?_
            obtain ⟨r46, q47, hf⟩ := bn1_s hf
            refine g_ci h (g_runV C h ho (by decide) rfl (c_X4_signStands l E _ _ ho _ q47) wM_X4_43 wI_X4_signStands wS_X4_signStands wN_X4 wC_X4_signStands rfl ny_X4_signStands rfl ⟨Nat.le_of_ble_eq_true rfl, Nat.le_of_ble_eq_true rfl⟩ hl.1 rfl (Nat.le_of_ble_eq_true rfl) (gdec kX4_readStage 46 rfl) ⟨Nat.zero_le _, Nat.zero_le _⟩) (fun H locs h => ?_)
            obtain ⟨h48, hf⟩ := gd_s hf
            refine g_if_ne C (tgt := 91) h48 (by decide) (gdec kX4_readStage 47 rfl) (fun c49 => ?_) (fun c49 => ?_)
            · replace hf := ifp c49 hf
              refine g_iconst C (gdec kX4_readStage 48 rfl) ?_
              exact g_zret C h (Or.inl rfl) hf (gdec kX4_readStage 49 rfl)
            · replace hf := ifn c49 hf
              refine g_aload_n C hl 3 rfl rfl (gdec kX4_readStage 50 rfl) ?_
              refine g_dup C rfl (gdec kX4_readStage 51 rfl) ?_
              refine gf_X4_19 C h ho (gdec kX4_readStage 52 rfl) ?_
              refine g_iconst C (gdec kX4_readStage 53 rfl) ?_
              refine g_iadd C (gdec kX4_readStage 54 rfl) ?_
              refine gp_X4_19 C h ho (gdec kX4_readStage 55 rfl) (fun H locs h => ?_)
              refine g_aload_n C hl 4 rfl rfl (gdec kX4_readStage 56 rfl) ?_
              refine g_iload_n C hl 2 rfl rfl (gdec kX4_readStage 57 rfl) ?_
              refine g_iload_n C hl 0 rfl rfl (gdec kX4_readStage 58 rfl) ?_
              refine g_iconst C (gdec kX4_readStage 59 rfl) ?_
              obtain ⟨G50, q51, hf⟩ := bn1_s hf
              refine g_cv h (g_runV C h hp1 (by decide) rfl (c_X5_set l E _ _ _ _ _ hp1 _ q51) wM_X4_47 wI_X5_set wS_X5_set wN_X5 wC_X5_set rfl ny_X5_set rfl ⟨Nat.le_of_ble_eq_true rfl, Nat.le_of_ble_eq_true rfl⟩ hl.1 rfl (Nat.le_of_ble_eq_true rfl) (gdec kX4_readStage_1 0 rfl) ⟨Nat.zero_le _, Nat.zero_le _⟩) (fun H locs h => ?_)
              refine g_iconst C (gdec kX4_readStage_1 1 rfl) ?_
              exact g_zret C h (Or.inr rfl) hf (gdec kX4_readStage_1 2 rfl)
    · replace hf := ifn c11 hf
      refine g_aload_n C hl 2 rfl rfl (gdec kX4_readStage 19 rfl) ?_
      refine g_bipush C (gdec kX4_readStage 20 rfl) rfl ?_
      obtain ⟨r52, q53, hf⟩ := bn1_s hf
      refine g_ci h (g_runV C h ho (by decide) rfl (c_X4_signStands l E _ _ ho _ q53) wM_X4_43 wI_X4_signStands wS_X4_signStands wN_X4 wC_X4_signStands rfl ny_X4_signStands rfl ⟨Nat.le_of_ble_eq_true rfl, Nat.le_of_ble_eq_true rfl⟩ hl.1 rfl (Nat.le_of_ble_eq_true rfl) (gdec kX4_readStage 21 rfl) ⟨Nat.zero_le _, Nat.zero_le _⟩) (fun H locs h => ?_)
      obtain ⟨h54, hf⟩ := gd_s hf
      refine g_if_eq C (tgt := 49) h54 (by decide) (gdec kX4_readStage 22 rfl) (fun c55 => ?_) (fun c55 => ?_)
      · replace hf := ifp c55 hf
        refine g_iconst C (gdec kX4_readStage 25 rfl) ?_
        refine g_istore C [(4, vI (-1)), (3, vI 0), (2, vI r6), (0, .ref (eA E 4 0)), (1, .ref (eA E 5 p1))] hl (by decide) rfl (gdec kX4_readStage 26 rfl) (fun ls hl => ?_)
        refine g_aload_n C hl 3 rfl rfl (gdec kX4_readStage 27 rfl) ?_
        refine g_dup C rfl (gdec kX4_readStage 28 rfl) ?_
        refine gf_X4_19 C h ho (gdec kX4_readStage 29 rfl) ?_
        refine g_iconst C (gdec kX4_readStage 30 rfl) ?_
        refine g_iadd C (gdec kX4_readStage 31 rfl) ?_
        refine gp_X4_19 C h ho (gdec kX4_readStage 32 rfl) (fun H locs h => ?_)
        refine g_aload_n C hl 3 rfl rfl (gdec kX4_readStage 33 rfl) ?_
        refine g_iconst C (gdec kX4_readStage 34 rfl) ?_
        obtain ⟨r56, q57, hf⟩ := bn1_s hf
        refine g_ci h (g_runV C h ho (by decide) rfl (c_X4_digitStands l E _ _ ho _ q57) wM_X4_35 wI_X4_digitStands wS_X4_digitStands wN_X4 wC_X4_digitStands rfl ny_X4_digitStands rfl ⟨Nat.le_of_ble_eq_true rfl, Nat.le_of_ble_eq_true rfl⟩ hl.1 rfl (Nat.le_of_ble_eq_true rfl) (gdec kX4_readStage 35 rfl) ⟨Nat.zero_le _, Nat.zero_le _⟩) (fun H locs h => ?_)
        obtain ⟨h58, hf⟩ := gd_s hf
        refine g_if_ne C (tgt := 72) h58 (by decide) (gdec kX4_readStage 36 rfl) (fun c59 => ?_) (fun c59 => ?_)
        · replace hf := ifp c59 hf
          refine g_iconst C (gdec kX4_readStage 37 rfl) ?_
          exact g_zret C h (Or.inl rfl) hf (gdec kX4_readStage 38 rfl)
        · replace hf := ifn c59 hf
          refine g_iload C hl 0 rfl (gdec kX4_readStage 39 rfl) ?_
          refine g_aload_n C hl 3 rfl rfl (gdec kX4_readStage 40 rfl) ?_
          obtain ⟨G60, r61, q62, hf⟩ := bnd_s hf
          refine g_ci h (g_runV C h ho (by decide) rfl (c_X4_takeDigit l E _ ho _ _ q62) wM_X4_39 wI_X4_takeDigit wS_X4_takeDigit wN_X4 wC_X4_takeDigit rfl ny_X4_takeDigit rfl ⟨Nat.le_of_ble_eq_true rfl, Nat.le_of_ble_eq_true rfl⟩ hl.1 rfl (Nat.le_of_ble_eq_true rfl) (gdec kX4_readStage 41 rfl) ⟨Nat.zero_le _, Nat.zero_le _⟩) (fun H locs h => ?_)
          refine g_imul C (gdec kX4_readStage 42 rfl) ?_
          refine g_istore_n C [(3, vI ((-1) * r61)), (4, vI (-1)), (2, vI r6), (0, .ref (eA E 4 0)), (1, .ref (eA E 5 p1))] hl rfl (by decide) rfl (gdec kX4_readStage 43 rfl) (fun ls hl => ?_)
          refine g_aload_n C hl 3 rfl rfl (gdec kX4_readStage 44 rfl) ?_
          refine g_bipush C (gdec kX4_readStage 45 rfl) rfl ?_
          obtain ⟨r63, q64, hf⟩ := bn1_s hf
          refine g_ci h (g_runV C h ho (by decide) rfl (c_X4_signStands l E _ _ ho _ q64) wM_X4_43 wI_X4_signStands wS_X4_signStands wN_X4 wC_X4_signStands rfl ny_X4_signStands rfl ⟨Nat.le_of_ble_eq_true rfl, Nat.le_of_ble_eq_true rfl⟩ hl.1 rfl (Nat.le_of_ble_eq_true rfl) (gdec kX4_readStage 46 rfl) ⟨Nat.zero_le _, Nat.zero_le _⟩) (fun H locs h => ?_)
          obtain ⟨h65, hf⟩ := gd_s hf
          refine g_if_ne C (tgt := 91) h65 (by decide) (gdec kX4_readStage 47 rfl) (fun c66 => ?_) (fun c66 => ?_)
          · replace hf := ifp c66 hf
            refine g_iconst C (gdec kX4_readStage 48 rfl) ?_
            exact g_zret C h (Or.inl rfl) hf (gdec kX4_readStage 49 rfl)
          · replace hf := ifn c66 hf
            refine g_aload_n C hl 3 rfl rfl (gdec kX4_readStage 50 rfl) ?_
            refine g_dup C rfl (gdec kX4_readStage 51 rfl) ?_
            refine gf_X4_19 C h ho (gdec kX4_readStage 52 rfl) ?_
            refine g_iconst C (gdec kX4_readStage 53 rfl) ?_
            refine g_iadd C (gdec kX4_readStage 54 rfl) ?_
            refine gp_X4_19 C h ho (gdec kX4_readStage 55 rfl) (fun H locs h => ?_)
            refine g_aload_n C hl 4 rfl rfl (gdec kX4_readStage 56 rfl) ?_
            refine g_iload_n C hl 2 rfl rfl (gdec kX4_readStage 57 rfl) ?_
            refine g_iload_n C hl 0 rfl rfl (gdec kX4_readStage 58 rfl) ?_
            refine g_iconst C (gdec kX4_readStage 59 rfl) ?_
            obtain ⟨G67, q68, hf⟩ := bn1_s hf
            refine g_cv h (g_runV C h hp1 (by decide) rfl (c_X5_set l E _ _ _ _ _ hp1 _ q68) wM_X4_47 wI_X5_set wS_X5_set wN_X5 wC_X5_set rfl ny_X5_set rfl ⟨Nat.le_of_ble_eq_true rfl, Nat.le_of_ble_eq_true rfl⟩ hl.1 rfl (Nat.le_of_ble_eq_true rfl) (gdec kX4_readStage_1 0 rfl) ⟨Nat.zero_le _, Nat.zero_le _⟩) (fun H locs h => ?_)
            refine g_iconst C (gdec kX4_readStage_1 1 rfl) ?_
            exact g_zret C h (Or.inr rfl) hf (gdec kX4_readStage_1 2 rfl)
      · replace hf := ifn c55 hf
        refine g_iconst C (gdec kX4_readStage 23 rfl) ?_
        refine g_goto C (tgt := 50) (by decide) (gdec kX4_readStage 24 rfl) ?_
        refine g_istore C [(4, vI 1), (3, vI 0), (2, vI r6), (0, .ref (eA E 4 0)), (1, .ref (eA E 5 p1))] hl (by decide) rfl (gdec kX4_readStage 26 rfl) (fun ls hl => ?_)
        refine g_aload_n C hl 3 rfl rfl (gdec kX4_readStage 27 rfl) ?_
        refine g_dup C rfl (gdec kX4_readStage 28 rfl) ?_
        refine gf_X4_19 C h ho (gdec kX4_readStage 29 rfl) ?_
        refine g_iconst C (gdec kX4_readStage 30 rfl) ?_
        refine g_iadd C (gdec kX4_readStage 31 rfl) ?_
        refine gp_X4_19 C h ho (gdec kX4_readStage 32 rfl) (fun H locs h => ?_)
        refine g_aload_n C hl 3 rfl rfl (gdec kX4_readStage 33 rfl) ?_
        refine g_iconst C (gdec kX4_readStage 34 rfl) ?_
        obtain ⟨r69, q70, hf⟩ := bn1_s hf
        refine g_ci h (g_runV C h ho (by decide) rfl (c_X4_digitStands l E _ _ ho _ q70) wM_X4_35 wI_X4_digitStands wS_X4_digitStands wN_X4 wC_X4_digitStands rfl ny_X4_digitStands rfl ⟨Nat.le_of_ble_eq_true rfl, Nat.le_of_ble_eq_true rfl⟩ hl.1 rfl (Nat.le_of_ble_eq_true rfl) (gdec kX4_readStage 35 rfl) ⟨Nat.zero_le _, Nat.zero_le _⟩) (fun H locs h => ?_)
        obtain ⟨h71, hf⟩ := gd_s hf
        refine g_if_ne C (tgt := 72) h71 (by decide) (gdec kX4_readStage 36 rfl) (fun c72 => ?_) (fun c72 => ?_)
        · replace hf := ifp c72 hf
          refine g_iconst C (gdec kX4_readStage 37 rfl) ?_
          exact g_zret C h (Or.inl rfl) hf (gdec kX4_readStage 38 rfl)
        · replace hf := ifn c72 hf
          refine g_iload C hl 0 rfl (gdec kX4_readStage 39 rfl) ?_
          refine g_aload_n C hl 3 rfl rfl (gdec kX4_readStage 40 rfl) ?_
          obtain ⟨G73, r74, q75, hf⟩ := bnd_s hf
          refine g_ci h (g_runV C h ho (by decide) rfl (c_X4_takeDigit l E _ ho _ _ q75) wM_X4_39 wI_X4_takeDigit wS_X4_takeDigit wN_X4 wC_X4_takeDigit rfl ny_X4_takeDigit rfl ⟨Nat.le_of_ble_eq_true rfl, Nat.le_of_ble_eq_true rfl⟩ hl.1 rfl (Nat.le_of_ble_eq_true rfl) (gdec kX4_readStage 41 rfl) ⟨Nat.zero_le _, Nat.zero_le _⟩) (fun H locs h => ?_)
          refine g_imul C (gdec kX4_readStage 42 rfl) ?_
          refine g_istore_n C [(3, vI (1 * r74)), (4, vI 1), (2, vI r6), (0, .ref (eA E 4 0)), (1, .ref (eA E 5 p1))] hl rfl (by decide) rfl (gdec kX4_readStage 43 rfl) (fun ls hl => ?_)
          refine g_aload_n C hl 3 rfl rfl (gdec kX4_readStage 44 rfl) ?_
          refine g_bipush C (gdec kX4_readStage 45 rfl) rfl ?_
          obtain ⟨r76, q77, hf⟩ := bn1_s hf
          refine g_ci h (g_runV C h ho (by decide) rfl (c_X4_signStands l E _ _ ho _ q77) wM_X4_43 wI_X4_signStands wS_X4_signStands wN_X4 wC_X4_signStands rfl ny_X4_signStands rfl ⟨Nat.le_of_ble_eq_true rfl, Nat.le_of_ble_eq_true rfl⟩ hl.1 rfl (Nat.le_of_ble_eq_true rfl) (gdec kX4_readStage 46 rfl) ⟨Nat.zero_le _, Nat.zero_le _⟩) (fun H locs h => ?_)
          obtain ⟨h78, hf⟩ := gd_s hf
          refine g_if_ne C (tgt := 91) h78 (by decide) (gdec kX4_readStage 47 rfl) (fun c79 => ?_) (fun c79 => ?_)
          · replace hf := ifp c79 hf
            refine g_iconst C (gdec kX4_readStage 48 rfl) ?_
            exact g_zret C h (Or.inl rfl) hf (gdec kX4_readStage 49 rfl)
          · replace hf := ifn c79 hf
            refine g_aload_n C hl 3 rfl rfl (gdec kX4_readStage 50 rfl) ?_
            refine g_dup C rfl (gdec kX4_readStage 51 rfl) ?_
            refine gf_X4_19 C h ho (gdec kX4_readStage 52 rfl) ?_
            refine g_iconst C (gdec kX4_readStage 53 rfl) ?_
            refine g_iadd C (gdec kX4_readStage 54 rfl) ?_
            refine gp_X4_19 C h ho (gdec kX4_readStage 55 rfl) (fun H locs h => ?_)
            refine g_aload_n C hl 4 rfl rfl (gdec kX4_readStage 56 rfl) ?_
            refine g_iload_n C hl 2 rfl rfl (gdec kX4_readStage 57 rfl) ?_
            refine g_iload_n C hl 0 rfl rfl (gdec kX4_readStage 58 rfl) ?_
            refine g_iconst C (gdec kX4_readStage 59 rfl) ?_
            obtain ⟨G80, q81, hf⟩ := bn1_s hf
            refine g_cv h (g_runV C h hp1 (by decide) rfl (c_X5_set l E _ _ _ _ _ hp1 _ q81) wM_X4_47 wI_X5_set wS_X5_set wN_X5 wC_X5_set rfl ny_X5_set rfl ⟨Nat.le_of_ble_eq_true rfl, Nat.le_of_ble_eq_true rfl⟩ hl.1 rfl (Nat.le_of_ble_eq_true rfl) (gdec kX4_readStage_1 0 rfl) ⟨Nat.zero_le _, Nat.zero_le _⟩) (fun H locs h => ?_)
            refine g_iconst C (gdec kX4_readStage_1 1 rfl) ?_
            exact g_zret C h (Or.inr rfl) hf (gdec kX4_readStage_1 2 rfl)
def f_X4_readInto_L7 (p1 : Int) : Nat → GS → Int → (GS → Int → Option (GS × Int)) → Option (GS × Int)
  | 0, _, _, _ => none
  | n + 1, G, x2, k => gd x2 (if x2 < 7 then ga x2 7 (bnd (f_X4_readStage G (7 * p1 + x2)) (fun G5 r6 => gd r6 (if r6 = 0 then some (G5, G5 4 0 2) else gd (G5 4 0 2) (gd (G5 4 0 1) (if (G5 4 0 2) = (G5 4 0 1) then some ((gup G5 3 p1 4 (x2 + 2)), (-1)) else f_X4_readInto_L7 p1 n G5 (x2 + 1) k))))) else k G x2)
def f_X4_readInto (G : GS) (p1 : Int) : Option (GS × Int) :=
  f_X4_readInto_L7 p1 gFuel (gup G 4 0 2 0) 0 (fun G14 y2_13 => some (G14, G14 4 0 2))
set_option maxHeartbeats 4000000 in
set_option maxRecDepth 100000 in
theorem c_X4_readInto (l : Launch) (E : gEnv) (G : GS) (p1 : Int) (ho : gOk E 4 0) (hp1 : gOk E 3 p1) (Gz : GS) (rz : Int) (hf : f_X4_readInto G p1 = some (Gz, rz)) : gMet l yX4_readInto cX4_readInto 3 (some .int) 3 65 0 0 [.ref (eA E 4 0), .ref (eA E 3 p1)] E G (gQi E Gz rz) := by
  refine g_met (by decide +kernel) (Nat.le_of_ble_eq_true rfl) ?_
  intro p e s m below meth c C H locs h ls hl
  have C : gC p s m _ meth c RX4 cX4_readInto 3 (some .int) E := C
  have hl : lv_has ls 3 [(0, .ref (eA E 4 0)), (1, .ref (eA E 3 p1))] := hl
  have L7 : ∀ (n : Nat) (G : GS) (x2 : Int) (k : (GS → Int → Option (GS × Int))) (hK : ∀ (G : GS) (x2 : Int), k G x2 = some (Gz, rz) → ∀ (H : Heap) (locs : List Loc), gH E s G H locs → ∀ ls, lv_has ls 3 [(0, .ref (eA E 4 0)), (1, .ref (eA E 3 p1)), (2, vI x2)] → W p l e (gRm 3 65 0 0) s m ([.ref (eA E 4 0), .ref (eA E 3 p1)] : List Value).toArray below meth c H locs 0 0 (MQ below (gQi E Gz rz) ([.ref (eA E 4 0), .ref (eA E 3 p1)] : List Value).toArray s 0 0 (eF E)) (F0 m 56 ls [])), ∀ (H : Heap) (locs : List Loc), gH E s G H locs → ∀ ls, lv_has ls 3 [(0, .ref (eA E 4 0)), (1, .ref (eA E 3 p1)), (2, vI x2)] → f_X4_readInto_L7 p1 n G x2 k = some (Gz, rz) → W p l e (gRm 3 65 0 0) s m ([.ref (eA E 4 0), .ref (eA E 3 p1)] : List Value).toArray below meth c H locs 0 0 (MQ below (gQi E Gz rz) ([.ref (eA E 4 0), .ref (eA E 3 p1)] : List Value).toArray s 0 0 (eF E)) (F0 m 7 ls []) := by
    intro n
    induction n with
    | zero =>
      intro G x2 k hK H locs h ls hl hf
      exact absurd hf (by simp [f_X4_readInto_L7])
    | succ n ih =>
      intro G x2 k hK H locs h ls hl hf
      unfold f_X4_readInto_L7 at hf
      refine g_iload_n C hl 2 rfl rfl (gdec kX4_readInto 5 rfl) ?_
      refine g_bipush C (gdec kX4_readInto 6 rfl) rfl ?_
      obtain ⟨h1, hf⟩ := gd_s hf
      refine g_icmp_ge C (tgt := 56) h1 (by decide) (by decide) (gdec kX4_readInto 7 rfl) (fun c2 => ?_) (fun c2 => ?_)
      · replace hf := ifp c2 hf
        refine g_aload_n C hl 0 rfl rfl (gdec kX4_readInto 8 rfl) ?_
        refine g_aload_n C hl 1 rfl rfl (gdec kX4_readInto 9 rfl) ?_
        refine g_iload_n C hl 2 rfl rfl (gdec kX4_readInto 10 rfl) ?_
        obtain ⟨h3, hf⟩ := ga_s hf
        refine g_cr h (g_runV C h hp1 (by decide) rfl (c_X3_stageRow l E _ _ _ hp1 _ (e_X3_stageRow _ _ _ h3)) wM_X4_22 wI_X3_stageRow wS_X3_stageRow wN_X3 wC_X3_stageRow rfl ny_X3_stageRow rfl ⟨Nat.le_of_ble_eq_true rfl, Nat.le_of_ble_eq_true rfl⟩ hl.1 rfl (Nat.le_of_ble_eq_true rfl) (gdec kX4_readInto 11 rfl) ⟨Nat.zero_le _, Nat.zero_le _⟩) (fun H locs h => ?_)
        have k4 : gOk E 5 (7 * p1 + x2) := gok5 C (gcl_3_0 C hp1) h3
        obtain ⟨G5, r6, q7, hf⟩ := bnd_s hf
        refine g_ci h (g_runV C h ho (by decide) rfl (c_X4_readStage l E _ _ ho k4 _ _ q7) wM_X4_28 wI_X4_readStage wS_X4_readStage wN_X4 wC_X4_readStage rfl ny_X4_readStage rfl ⟨Nat.le_of_ble_eq_true rfl, Nat.le_of_ble_eq_true rfl⟩ hl.1 rfl (Nat.le_of_ble_eq_true rfl) (gdec kX4_readInto 12 rfl) ⟨Nat.zero_le _, Nat.zero_le _⟩) (fun H locs h => ?_)
        obtain ⟨h8, hf⟩ := gd_s hf
        refine g_if_ne C (tgt := 30) h8 (by decide) (gdec kX4_readInto 13 rfl) (fun c9 => ?_) (fun c9 => ?_)
        · replace hf := ifp c9 hf
          refine g_aload_n C hl 0 rfl rfl (gdec kX4_readInto 14 rfl) ?_
          refine gf_X4_19 C h ho (gdec kX4_readInto 15 rfl) ?_
          exact g_iret C h hf (gdec kX4_readInto 16 rfl)
        · replace hf := ifn c9 hf
          refine g_aload_n C hl 0 rfl rfl (gdec kX4_readInto 17 rfl) ?_
          refine gf_X4_19 C h ho (gdec kX4_readInto 18 rfl) ?_
          refine g_aload_n C hl 0 rfl rfl (gdec kX4_readInto 19 rfl) ?_
          refine gf_X4_15 C h ho (gdec kX4_readInto 20 rfl) ?_
          obtain ⟨h10, hf⟩ := gd_s hf
          obtain ⟨h11, hf⟩ := gd_s hf
          refine g_icmp_ne C (tgt := 50) h10 h11 (by decide) (gdec kX4_readInto 21 rfl) (fun c12 => ?_) (fun c12 => ?_)
          · replace hf := ifp c12 hf
            refine g_aload_n C hl 1 rfl rfl (gdec kX4_readInto 22 rfl) ?_
            refine g_iload_n C hl 2 rfl rfl (gdec kX4_readInto 23 rfl) ?_
            refine g_iconst C (gdec kX4_readInto 24 rfl) ?_
            refine g_iadd C (gdec kX4_readInto 25 rfl) ?_
            refine gp_X4_32 C h hp1 (gdec kX4_readInto 26 rfl) (fun H locs h => ?_)
            refine g_iconst C (gdec kX4_readInto 27 rfl) ?_
            exact g_iret C h hf (gdec kX4_readInto 28 rfl)
          · replace hf := ifn c12 hf
            refine g_iinc C (k := 2) [(2, vI (x2 + 1)), (0, .ref (eA E 4 0)), (1, .ref (eA E 3 p1))] hl rfl (by decide) rfl (gdec kX4_readInto 29 rfl) (fun ls hl => ?_)
            refine g_goto C (tgt := 7) (by decide) (gdec kX4_readInto 30 rfl) ?_
            exact ih _ _ k hK H locs h ls (lv_sub hl [1, 2, 0] rfl) hf
      · replace hf := ifn c2 hf
        exact hK _ _ hf H locs h ls (lv_sub hl [0, 1, 2] rfl)
  unfold f_X4_readInto at hf
  refine g_aload_n C hl 0 rfl rfl (gdec kX4_readInto 0 rfl) ?_
  refine g_iconst C (gdec kX4_readInto 1 rfl) ?_
  refine gp_X4_19 C h ho (gdec kX4_readInto 2 rfl) (fun H locs h => ?_)
  refine g_iconst C (gdec kX4_readInto 3 rfl) ?_
  refine g_istore_n C [(2, vI 0), (0, .ref (eA E 4 0)), (1, .ref (eA E 3 p1))] hl rfl (by decide) rfl (gdec kX4_readInto 4 rfl) (fun ls hl => ?_)
  refine L7 gFuel _ _ _ (fun G14 y2_13 hf H locs h ls hl => ?_) H locs h ls (lv_sub hl [1, 2, 0] rfl) hf
  refine g_aload_n C hl 0 rfl rfl (gdec kX4_readInto 31 rfl) ?_
  refine gf_X4_19 C h ho (gdec kX4_readInto 32 rfl) ?_
  exact g_iret C h hf (gdec kX4_readInto 33 rfl)
def f_X7_parse (G : GS) : Option (GS × Int) :=
  bn1 (f_X3_restart G 1) (fun G1 => bnd (f_X4_readInto G1 1) (fun G3 r4 => gd r4 (if r4 = (-1) then bn1 (f_X0_save G3 0) (fun G8 => bn1 (f_X3_copyFrom G8 0 1) (fun G10 => some (G10, G10 3 0 4))) else some (G3, (-10) - r4))))
set_option maxHeartbeats 4000000 in
set_option maxRecDepth 100000 in
theorem c_X7_parse (l : Launch) (E : gEnv) (G : GS) (ho : gOk E 7 0) (Gz : GS) (rz : Int) (hf : f_X7_parse G = some (Gz, rz)) : gMet l yX7_parse cX7_parse 2 (some .int) 4 87 0 0 [.ref (eA E 7 0)] E G (gQi E Gz rz) := by
  refine g_met (by decide +kernel) (Nat.le_of_ble_eq_true rfl) ?_
  intro p e s m below meth c C H locs h ls hl
  have C : gC p s m _ meth c RX7 cX7_parse 2 (some .int) E := C
  have hl : lv_has ls 2 [(0, .ref (eA E 7 0))] := hl
  unfold f_X7_parse at hf
  refine g_aload_n C hl 0 rfl rfl (gdec kX7_parse 0 rfl) ?_
  refine gf_X7_16 C h ho (gdec kX7_parse 1 rfl) ?_
  obtain ⟨G1, q2, hf⟩ := bn1_s hf
  refine g_cv h (g_runV C h (gcl_7_1 C ho) (by decide) rfl (c_X3_restart l E _ _ (gcl_7_1 C ho) _ q2) wM_X7_181 wI_X3_restart wS_X3_restart wN_X3 wC_X3_restart rfl ny_X3_restart rfl ⟨Nat.le_of_ble_eq_true rfl, Nat.le_of_ble_eq_true rfl⟩ hl.1 rfl (Nat.le_of_ble_eq_true rfl) (gdec kX7_parse 2 rfl) ⟨Nat.zero_le _, Nat.zero_le _⟩) (fun H locs h => ?_)
  refine g_aload_n C hl 0 rfl rfl (gdec kX7_parse 3 rfl) ?_
  refine gf_X7_29 C h ho (gdec kX7_parse 4 rfl) ?_
  refine g_aload_n C hl 0 rfl rfl (gdec kX7_parse 5 rfl) ?_
  refine gf_X7_16 C h ho (gdec kX7_parse 6 rfl) ?_
  obtain ⟨G3, r4, q5, hf⟩ := bnd_s hf
  refine g_ci h (g_runV C h (gcl_7_3 C ho) (by decide) rfl (c_X4_readInto l E _ _ (gcl_7_3 C ho) (gcl_7_1 C ho) _ _ q5) wM_X7_184 wI_X4_readInto wS_X4_readInto wN_X4 wC_X4_readInto rfl ny_X4_readInto rfl ⟨Nat.le_of_ble_eq_true rfl, Nat.le_of_ble_eq_true rfl⟩ hl.1 rfl (Nat.le_of_ble_eq_true rfl) (gdec kX7_parse 7 rfl) ⟨Nat.zero_le _, Nat.zero_le _⟩) (fun H locs h => ?_)
  refine g_istore_n C [(1, vI r4), (0, .ref (eA E 7 0))] hl rfl (by decide) rfl (gdec kX7_parse 8 rfl) (fun ls hl => ?_)
  refine g_iload_n C hl 0 rfl rfl (gdec kX7_parse 9 rfl) ?_
  refine g_iconst C (gdec kX7_parse 10 rfl) ?_
  obtain ⟨h6, hf⟩ := gd_s hf
  refine g_icmp_eq C (tgt := 29) h6 (by decide) (by decide) (gdec kX7_parse 11 rfl) (fun c7 => ?_) (fun c7 => ?_)
  · replace hf := ifp c7 hf
    refine g_aload_n C hl 1 rfl rfl (gdec kX7_parse 16 rfl) ?_
    refine gf_X7_22 C h ho (gdec kX7_parse 17 rfl) ?_
    refine g_aload_n C hl 1 rfl rfl (gdec kX7_parse 18 rfl) ?_
    refine gf_X7_12 C h ho (gdec kX7_parse 19 rfl) ?_
    obtain ⟨G8, q9, hf⟩ := bn1_s hf
    refine g_cv h (g_runV C h (gcl_7_2 C ho) (by decide) rfl (c_X0_save l E _ _ (gcl_7_2 C ho) (gcl_7_0 C ho) _ q9) wM_X7_45 wI_X0_save wS_X0_save wN_X0 wC_X0_save rfl ny_X0_save rfl ⟨Nat.le_of_ble_eq_true rfl, Nat.le_of_ble_eq_true rfl⟩ hl.1 rfl (Nat.le_of_ble_eq_true rfl) (gdec kX7_parse 20 rfl) ⟨Nat.zero_le _, Nat.zero_le _⟩) (fun H locs h => ?_)
    refine g_aload_n C hl 1 rfl rfl (gdec kX7_parse 21 rfl) ?_
    refine gf_X7_12 C h ho (gdec kX7_parse 22 rfl) ?_
    refine g_aload_n C hl 1 rfl rfl (gdec kX7_parse 23 rfl) ?_
    refine gf_X7_16 C h ho (gdec kX7_parse 24 rfl) ?_
    obtain ⟨G10, q11, hf⟩ := bn1_s hf
    refine g_cv h (g_runV C h (gcl_7_0 C ho) (by decide) rfl (c_X3_copyFrom l E _ _ _ (gcl_7_0 C ho) (gcl_7_1 C ho) _ q11) wM_X7_143 wI_X3_copyFrom wS_X3_copyFrom wN_X3 wC_X3_copyFrom rfl ny_X3_copyFrom rfl ⟨Nat.le_of_ble_eq_true rfl, Nat.le_of_ble_eq_true rfl⟩ hl.1 rfl (Nat.le_of_ble_eq_true rfl) (gdec kX7_parse 25 rfl) ⟨Nat.zero_le _, Nat.zero_le _⟩) (fun H locs h => ?_)
    refine g_aload_n C hl 1 rfl rfl (gdec kX7_parse 26 rfl) ?_
    refine gf_X7_12 C h ho (gdec kX7_parse 27 rfl) ?_
    refine gf_X7_33 C h (gcl_7_0 C ho) (gdec kX7_parse 28 rfl) ?_
    exact g_iret C h hf (gdec kX7_parse 29 rfl)
  · replace hf := ifn c7 hf
    refine g_bipush C (gdec kX7_parse 12 rfl) rfl ?_
    refine g_iload_n C hl 0 rfl rfl (gdec kX7_parse 13 rfl) ?_
    refine g_isub C (gdec kX7_parse 14 rfl) ?_
    exact g_iret C h hf (gdec kX7_parse 15 rfl)
def f_X3_number (G : GS) (o : Int) (p1 : Int) : Option (Int) :=
  gd p1 (if p1 = 0 then some (G 3 o 4) else if p1 = 1 then some (G 3 o 5) else if p1 = 2 then some (G 3 o 6) else if p1 = 3 then some (G 3 o 7) else if p1 = 4 then some (G 3 o 8) else if p1 = 5 then some (G 3 o 9) else if p1 = 6 then some (G 3 o 10) else if p1 = 7 then some (G 3 o 11) else if p1 = 8 then some (G 3 o 12) else if p1 = 9 then bn1 (f_X3_lettersLying G o) (fun r12 => some r12) else bn1 (f_X3_lettersOnStages G o) (fun r14 => some r14))
set_option maxHeartbeats 4000000 in
set_option maxRecDepth 100000 in
theorem c_X3_number (l : Launch) (E : gEnv) (G : GS) (o : Int) (p1 : Int) (ho : gOk E 3 o) (rz : Int) (hf : f_X3_number G o p1 = some rz) : gMet l yX3_number cX3_number 2 (some .int) 3 62 0 0 [.ref (eA E 3 o), vI p1] E G (gQi E G rz) := by
  refine g_met (by decide +kernel) (Nat.le_of_ble_eq_true rfl) ?_
  intro p e s m below meth c C H locs h ls hl
  have C : gC p s m _ meth c RX3 cX3_number 2 (some .int) E := C
  have hl : lv_has ls 2 [(0, .ref (eA E 3 o)), (1, vI p1)] := hl
  unfold f_X3_number at hf
  refine g_iload_n C hl 1 rfl rfl (gdec kX3_number 0 rfl) ?_
  obtain ⟨h1, hf⟩ := gd_s hf
  by_cases c2 : p1 = 0
  · replace hf := ifp c2 hf
    refine g_tableIn C (tgt := 56) c2 (by decide) (by decide) (by decide) rfl (by decide) (gdec kX3_number 1 rfl) ?_
    refine g_aload_n C hl 0 rfl rfl (gdec kX3_number 2 rfl) ?_
    refine gf_X3_47 C h ho (gdec kX3_number 3 rfl) ?_
    exact g_iret C h (congrArg (Option.map (Prod.mk _)) hf) (gdec kX3_number 4 rfl)
  replace hf := ifn c2 hf
  by_cases c3 : p1 = 1
  · replace hf := ifp c3 hf
    refine g_tableIn C (tgt := 61) c3 (by decide) (by decide) (by decide) rfl (by decide) (gdec kX3_number 1 rfl) ?_
    refine g_aload_n C hl 0 rfl rfl (gdec kX3_number 5 rfl) ?_
    refine gf_X3_51 C h ho (gdec kX3_number 6 rfl) ?_
    exact g_iret C h (congrArg (Option.map (Prod.mk _)) hf) (gdec kX3_number 7 rfl)
  replace hf := ifn c3 hf
  by_cases c4 : p1 = 2
  · replace hf := ifp c4 hf
    refine g_tableIn C (tgt := 66) c4 (by decide) (by decide) (by decide) rfl (by decide) (gdec kX3_number 1 rfl) ?_
    refine g_aload_n C hl 0 rfl rfl (gdec kX3_number 8 rfl) ?_
    refine gf_X3_54 C h ho (gdec kX3_number 9 rfl) ?_
    exact g_iret C h (congrArg (Option.map (Prod.mk _)) hf) (gdec kX3_number 10 rfl)
  replace hf := ifn c4 hf
  by_cases c5 : p1 = 3
  · replace hf := ifp c5 hf
    refine g_tableIn C (tgt := 71) c5 (by decide) (by decide) (by decide) rfl (by decide) (gdec kX3_number 1 rfl) ?_
    refine g_aload_n C hl 0 rfl rfl (gdec kX3_number 11 rfl) ?_
    refine gf_X3_57 C h ho (gdec kX3_number 12 rfl) ?_
    exact g_iret C h (congrArg (Option.map (Prod.mk _)) hf) (gdec kX3_number 13 rfl)
  replace hf := ifn c5 hf
  by_cases c6 : p1 = 4
  · replace hf := ifp c6 hf
    refine g_tableIn C (tgt := 76) c6 (by decide) (by decide) (by decide) rfl (by decide) (gdec kX3_number 1 rfl) ?_
    refine g_aload_n C hl 0 rfl rfl (gdec kX3_number 14 rfl) ?_
    refine gf_X3_60 C h ho (gdec kX3_number 15 rfl) ?_
    exact g_iret C h (congrArg (Option.map (Prod.mk _)) hf) (gdec kX3_number 16 rfl)
  replace hf := ifn c6 hf
  by_cases c7 : p1 = 5
  · replace hf := ifp c7 hf
    refine g_tableIn C (tgt := 81) c7 (by decide) (by decide) (by decide) rfl (by decide) (gdec kX3_number 1 rfl) ?_
    refine g_aload_n C hl 0 rfl rfl (gdec kX3_number 17 rfl) ?_
    refine gf_X3_63 C h ho (gdec kX3_number 18 rfl) ?_
    exact g_iret C h (congrArg (Option.map (Prod.mk _)) hf) (gdec kX3_number 19 rfl)
  replace hf := ifn c7 hf
  by_cases c8 : p1 = 6
  · replace hf := ifp c8 hf
    refine g_tableIn C (tgt := 86) c8 (by decide) (by decide) (by decide) rfl (by decide) (gdec kX3_number 1 rfl) ?_
    refine g_aload_n C hl 0 rfl rfl (gdec kX3_number 20 rfl) ?_
    refine gf_X3_66 C h ho (gdec kX3_number 21 rfl) ?_
    exact g_iret C h (congrArg (Option.map (Prod.mk _)) hf) (gdec kX3_number 22 rfl)
  replace hf := ifn c8 hf
  by_cases c9 : p1 = 7
  · replace hf := ifp c9 hf
    refine g_tableIn C (tgt := 91) c9 (by decide) (by decide) (by decide) rfl (by decide) (gdec kX3_number 1 rfl) ?_
    refine g_aload_n C hl 0 rfl rfl (gdec kX3_number 23 rfl) ?_
    refine gf_X3_69 C h ho (gdec kX3_number 24 rfl) ?_
    exact g_iret C h (congrArg (Option.map (Prod.mk _)) hf) (gdec kX3_number 25 rfl)
  replace hf := ifn c9 hf
  by_cases c10 : p1 = 8
  · replace hf := ifp c10 hf
    refine g_tableIn C (tgt := 96) c10 (by decide) (by decide) (by decide) rfl (by decide) (gdec kX3_number 1 rfl) ?_
    refine g_aload_n C hl 0 rfl rfl (gdec kX3_number 26 rfl) ?_
    refine gf_X3_72 C h ho (gdec kX3_number 27 rfl) ?_
    exact g_iret C h (congrArg (Option.map (Prod.mk _)) hf) (gdec kX3_number 28 rfl)
  replace hf := ifn c10 hf
  by_cases c11 : p1 = 9
  · replace hf := ifp c11 hf
    refine g_tableIn C (tgt := 101) c11 (by decide) (by decide) (by decide) rfl (by decide) (gdec kX3_number 1 rfl) ?_
    refine g_aload_n C hl 0 rfl rfl (gdec kX3_number 29 rfl) ?_
    obtain ⟨r12, q13, hf⟩ := bn1_s hf
    refine g_ci h (g_runV C h ho (by decide) rfl (c_X3_lettersLying l E _ _ ho _ q13) wM_X3_265 wI_X3_lettersLying wS_X3_lettersLying wN_X3 wC_X3_lettersLying rfl ny_X3_lettersLying rfl ⟨Nat.le_of_ble_eq_true rfl, Nat.le_of_ble_eq_true rfl⟩ hl.1 rfl (Nat.le_of_ble_eq_true rfl) (gdec kX3_number 30 rfl) ⟨Nat.zero_le _, Nat.zero_le _⟩) (fun H locs h => ?_)
    exact g_iret C h (congrArg (Option.map (Prod.mk _)) hf) (gdec kX3_number 31 rfl)
  replace hf := ifn c11 hf
  refine g_tableOut C (tgt := 106) h1 (by omega) (by decide) (gdec kX3_number 1 rfl) ?_
  refine g_aload_n C hl 0 rfl rfl (gdec kX3_number 32 rfl) ?_
  obtain ⟨r14, q15, hf⟩ := bn1_s hf
  refine g_ci h (g_runV C h ho (by decide) rfl (c_X3_lettersOnStages l E _ _ ho _ q15) wM_X3_269 wI_X3_lettersOnStages wS_X3_lettersOnStages wN_X3 wC_X3_lettersOnStages rfl ny_X3_lettersOnStages rfl ⟨Nat.le_of_ble_eq_true rfl, Nat.le_of_ble_eq_true rfl⟩ hl.1 rfl (Nat.le_of_ble_eq_true rfl) (gdec kX3_number 33 rfl) ⟨Nat.zero_le _, Nat.zero_le _⟩) (fun H locs h => ?_)
  exact g_iret C h (congrArg (Option.map (Prod.mk _)) hf) (gdec kX3_number 34 rfl)
def f_X7_oneIf (G : GS) (p1 : Int) : Option (Int) :=
  gd p1 (if p1 = 0 then some 0 else some 1)
set_option maxHeartbeats 4000000 in
set_option maxRecDepth 100000 in
theorem c_X7_oneIf (l : Launch) (E : gEnv) (G : GS) (p1 : Int) (rz : Int) (hf : f_X7_oneIf G p1 = some rz) : gMet l yX7_oneIf cX7_oneIf 1 (some .int) 0 0 0 0 [vI p1] E G (gQi E G rz) := by
  refine g_met (by decide +kernel) (Nat.le_of_ble_eq_true rfl) ?_
  intro p e s m below meth c C H locs h ls hl
  have C : gC p s m _ meth c RX7 cX7_oneIf 1 (some .int) E := C
  have hl : lv_has ls 1 [(0, vI p1)] := hl
  unfold f_X7_oneIf at hf
  refine g_iload_n C hl 0 rfl rfl (gdec kX7_oneIf 0 rfl) ?_
  obtain ⟨h1, hf⟩ := gd_s hf
  refine g_if_eq C (tgt := 8) h1 (by decide) (gdec kX7_oneIf 1 rfl) (fun c2 => ?_) (fun c2 => ?_)
  · replace hf := ifp c2 hf
    refine g_iconst C (gdec kX7_oneIf 4 rfl) ?_
    exact g_iret C h (congrArg (Option.map (Prod.mk _)) hf) (gdec kX7_oneIf 5 rfl)
  · replace hf := ifn c2 hf
    refine g_iconst C (gdec kX7_oneIf 2 rfl) ?_
    refine g_goto C (tgt := 9) (by decide) (gdec kX7_oneIf 3 rfl) ?_
    exact g_iret C h (congrArg (Option.map (Prod.mk _)) hf) (gdec kX7_oneIf 5 rfl)
def f_X3_teamsOn_L4 (G : GS) (o : Int) (p1 : Int) : Nat → Int → Int → (Int → Int → Option (Int)) → Option (Int)
  | 0, _, _, _ => none
  | n + 1, x2, x3, k => gd x3 (gd (G 3 o 5) (if x3 < (G 3 o 5) then ga x3 10 (gd (G 6 (10 * o + x3) 3) (gd p1 (if (G 6 (10 * o + x3) 3) = p1 then f_X3_teamsOn_L4 G o p1 n (x2 + 1) (x3 + 1) k else f_X3_teamsOn_L4 G o p1 n x2 (x3 + 1) k))) else k x2 x3))
def f_X3_teamsOn (G : GS) (o : Int) (p1 : Int) : Option (Int) :=
  f_X3_teamsOn_L4 G o p1 gFuel 0 0 (fun y2_9 y3_9 => some y2_9)
set_option maxHeartbeats 4000000 in
set_option maxRecDepth 100000 in
theorem c_X3_teamsOn (l : Launch) (E : gEnv) (G : GS) (o : Int) (p1 : Int) (ho : gOk E 3 o) (rz : Int) (hf : f_X3_teamsOn G o p1 = some rz) : gMet l yX3_teamsOn cX3_teamsOn 4 (some .int) 1 21 0 0 [.ref (eA E 3 o), vI p1] E G (gQi E G rz) := by
  refine g_met (by decide +kernel) (Nat.le_of_ble_eq_true rfl) ?_
  intro p e s m below meth c C H locs h ls hl
  have C : gC p s m _ meth c RX3 cX3_teamsOn 4 (some .int) E := C
  have hl : lv_has ls 4 [(0, .ref (eA E 3 o)), (1, vI p1)] := hl
  have L4 : ∀ (n : Nat) (x2 : Int) (x3 : Int) (k : (Int → Int → Option (Int))) (hK : ∀ (x2 : Int) (x3 : Int), k x2 x3 = some rz → ∀ (H : Heap) (locs : List Loc), gH E s G H locs → ∀ ls, lv_has ls 4 [(0, .ref (eA E 3 o)), (1, vI p1), (2, vI x2), (3, vI x3)] → W p l e (gRm 1 21 0 0) s m ([.ref (eA E 3 o), vI p1] : List Value).toArray below meth c H locs 0 0 (MQ below (gQi E G rz) ([.ref (eA E 3 o), vI p1] : List Value).toArray s 0 0 (eF E)) (F0 m 33 ls [])), ∀ (H : Heap) (locs : List Loc), gH E s G H locs → ∀ ls, lv_has ls 4 [(0, .ref (eA E 3 o)), (1, vI p1), (2, vI x2), (3, vI x3)] → f_X3_teamsOn_L4 G o p1 n x2 x3 k = some rz → W p l e (gRm 1 21 0 0) s m ([.ref (eA E 3 o), vI p1] : List Value).toArray below meth c H locs 0 0 (MQ below (gQi E G rz) ([.ref (eA E 3 o), vI p1] : List Value).toArray s 0 0 (eF E)) (F0 m 4 ls []) := by
    intro n
    induction n with
    | zero =>
      intro x2 x3 k hK H locs h ls hl hf
      exact absurd hf (by simp [f_X3_teamsOn_L4])
    | succ n ih =>
      intro x2 x3 k hK H locs h ls hl hf
      unfold f_X3_teamsOn_L4 at hf
      refine g_iload_n C hl 3 rfl rfl (gdec kX3_teamsOn 4 rfl) ?_
      refine g_aload_n C hl 0 rfl rfl (gdec kX3_teamsOn 5 rfl) ?_
      refine gf_X3_51 C h ho (gdec kX3_teamsOn 6 rfl) ?_
      obtain ⟨h1, hf⟩ := gd_s hf
      obtain ⟨h2, hf⟩ := gd_s hf
      refine g_icmp_ge C (tgt := 33) h1 h2 (by decide) (gdec kX3_teamsOn 7 rfl) (fun c3 => ?_) (fun c3 => ?_)
      · replace hf := ifp c3 hf
        refine g_aload_n C hl 0 rfl rfl (gdec kX3_teamsOn 8 rfl) ?_
        refine g_iload_n C hl 3 rfl rfl (gdec kX3_teamsOn 9 rfl) ?_
        obtain ⟨h4, hf⟩ := ga_s hf
        refine g_cr h (g_runV C h ho (by decide) rfl (c_X3_teamRow l E _ _ _ ho _ (e_X3_teamRow _ _ _ h4)) wM_X3_82 wI_X3_teamRow wS_X3_teamRow wN_X3 wC_X3_teamRow rfl ny_X3_teamRow rfl ⟨Nat.le_of_ble_eq_true rfl, Nat.le_of_ble_eq_true rfl⟩ hl.1 rfl (Nat.le_of_ble_eq_true rfl) (gdec kX3_teamsOn 10 rfl) ⟨Nat.zero_le _, Nat.zero_le _⟩) (fun H locs h => ?_)
        have k5 : gOk E 6 (10 * o + x3) := gok6 C (gcl_3_2 C ho) h4
        refine gf_X3_166 C h k5 (gdec kX3_teamsOn 11 rfl) ?_
        refine g_iload_n C hl 1 rfl rfl (gdec kX3_teamsOn 12 rfl) ?_
        obtain ⟨h6, hf⟩ := gd_s hf
        obtain ⟨h7, hf⟩ := gd_s hf
        refine g_icmp_ne C (tgt := 27) h6 h7 (by decide) (gdec kX3_teamsOn 13 rfl) (fun c8 => ?_) (fun c8 => ?_)
        · replace hf := ifp c8 hf
          refine g_iinc C (k := 2) [(2, vI (x2 + 1)), (0, .ref (eA E 3 o)), (1, vI p1), (3, vI x3)] hl rfl (by decide) rfl (gdec kX3_teamsOn 14 rfl) (fun ls hl => ?_)
          refine g_iinc C (k := 3) [(3, vI (x3 + 1)), (2, vI (x2 + 1)), (0, .ref (eA E 3 o)), (1, vI p1)] hl rfl (by decide) rfl (gdec kX3_teamsOn 15 rfl) (fun ls hl => ?_)
          refine g_goto C (tgt := 4) (by decide) (gdec kX3_teamsOn 16 rfl) ?_
          exact ih _ _ k hK H locs h ls (lv_sub hl [2, 3, 1, 0] rfl) hf
        · replace hf := ifn c8 hf
          refine g_iinc C (k := 3) [(3, vI (x3 + 1)), (0, .ref (eA E 3 o)), (1, vI p1), (2, vI x2)] hl rfl (by decide) rfl (gdec kX3_teamsOn 15 rfl) (fun ls hl => ?_)
          refine g_goto C (tgt := 4) (by decide) (gdec kX3_teamsOn 16 rfl) ?_
          exact ih _ _ k hK H locs h ls (lv_sub hl [1, 2, 3, 0] rfl) hf
      · replace hf := ifn c3 hf
        exact hK _ _ hf H locs h ls (lv_sub hl [0, 1, 2, 3] rfl)
  unfold f_X3_teamsOn at hf
  refine g_iconst C (gdec kX3_teamsOn 0 rfl) ?_
  refine g_istore_n C [(2, vI 0), (0, .ref (eA E 3 o)), (1, vI p1)] hl rfl (by decide) rfl (gdec kX3_teamsOn 1 rfl) (fun ls hl => ?_)
  refine g_iconst C (gdec kX3_teamsOn 2 rfl) ?_
  refine g_istore_n C [(3, vI 0), (2, vI 0), (0, .ref (eA E 3 o)), (1, vI p1)] hl rfl (by decide) rfl (gdec kX3_teamsOn 3 rfl) (fun ls hl => ?_)
  refine L4 gFuel _ _ _ (fun y2_9 y3_9 hf H locs h ls hl => ?_) H locs h ls (lv_sub hl [2, 3, 1, 0] rfl) hf
  refine g_iload_n C hl 2 rfl rfl (gdec kX3_teamsOn 17 rfl) ?_
  exact g_iret C h (congrArg (Option.map (Prod.mk _)) hf) (gdec kX3_teamsOn 18 rfl)
def f_X3_aboutStage (G : GS) (o : Int) (p1 : Int) (p2 : Int) : Option (Int) :=
  ga p1 7 (gd p2 (if p2 = 0 then some (G 5 (7 * o + p1) 0) else if p2 = 1 then some (G 5 (7 * o + p1) 1) else if p2 = 2 then bn1 (f_X7_oneIf G (G 5 (7 * o + p1) 2)) (fun r7 => some r7) else if p2 = 3 then bn1 (f_X5_effort G (7 * o + p1) 1) (fun r10 => some r10) else if p2 = 4 then bn1 (f_X5_effort G (7 * o + p1) 0) (fun r13 => some r13) else bn1 (f_X3_teamsOn G o p1) (fun r15 => some r15)))
set_option maxHeartbeats 4000000 in
set_option maxRecDepth 100000 in
theorem c_X3_aboutStage (l : Launch) (E : gEnv) (G : GS) (o : Int) (p1 : Int) (p2 : Int) (ho : gOk E 3 o) (rz : Int) (hf : f_X3_aboutStage G o p1 p2 = some rz) : gMet l yX3_aboutStage cX3_aboutStage 4 (some .int) 2 44 0 0 [.ref (eA E 3 o), vI p1, vI p2] E G (gQi E G rz) := by
  refine g_met (by decide +kernel) (Nat.le_of_ble_eq_true rfl) ?_
  intro p e s m below meth c C H locs h ls hl
  have C : gC p s m _ meth c RX3 cX3_aboutStage 4 (some .int) E := C
  have hl : lv_has ls 4 [(0, .ref (eA E 3 o)), (1, vI p1), (2, vI p2)] := hl
  unfold f_X3_aboutStage at hf
  refine g_aload_n C hl 0 rfl rfl (gdec kX3_aboutStage 0 rfl) ?_
  refine g_iload_n C hl 1 rfl rfl (gdec kX3_aboutStage 1 rfl) ?_
  obtain ⟨h1, hf⟩ := ga_s hf
  refine g_cr h (g_runV C h ho (by decide) rfl (c_X3_stageRow l E _ _ _ ho _ (e_X3_stageRow _ _ _ h1)) wM_X3_169 wI_X3_stageRow wS_X3_stageRow wN_X3 wC_X3_stageRow rfl ny_X3_stageRow rfl ⟨Nat.le_of_ble_eq_true rfl, Nat.le_of_ble_eq_true rfl⟩ hl.1 rfl (Nat.le_of_ble_eq_true rfl) (gdec kX3_aboutStage 2 rfl) ⟨Nat.zero_le _, Nat.zero_le _⟩) (fun H locs h => ?_)
  have k2 : gOk E 5 (7 * o + p1) := gok5 C (gcl_3_0 C ho) h1
  refine g_astore_n C [(3, .ref (eA E 5 (7 * o + p1))), (0, .ref (eA E 3 o)), (1, vI p1), (2, vI p2)] hl rfl (by decide) rfl (gdec kX3_aboutStage 3 rfl) (fun ls hl => ?_)
  refine g_iload_n C hl 3 rfl rfl (gdec kX3_aboutStage 4 rfl) ?_
  obtain ⟨h3, hf⟩ := gd_s hf
  by_cases c4 : p2 = 0
  · replace hf := ifp c4 hf
    refine g_tableIn C (tgt := 40) c4 (by decide) (by decide) (by decide) rfl (by decide) (gdec kX3_aboutStage 5 rfl) ?_
    refine g_aload_n C hl 0 rfl rfl (gdec kX3_aboutStage 6 rfl) ?_
    refine gf_X3_222 C h k2 (gdec kX3_aboutStage 7 rfl) ?_
    exact g_iret C h (congrArg (Option.map (Prod.mk _)) hf) (gdec kX3_aboutStage 8 rfl)
  replace hf := ifn c4 hf
  by_cases c5 : p2 = 1
  · replace hf := ifp c5 hf
    refine g_tableIn C (tgt := 45) c5 (by decide) (by decide) (by decide) rfl (by decide) (gdec kX3_aboutStage 5 rfl) ?_
    refine g_aload_n C hl 0 rfl rfl (gdec kX3_aboutStage 9 rfl) ?_
    refine gf_X3_283 C h k2 (gdec kX3_aboutStage 10 rfl) ?_
    exact g_iret C h (congrArg (Option.map (Prod.mk _)) hf) (gdec kX3_aboutStage 11 rfl)
  replace hf := ifn c5 hf
  by_cases c6 : p2 = 2
  · replace hf := ifp c6 hf
    refine g_tableIn C (tgt := 50) c6 (by decide) (by decide) (by decide) rfl (by decide) (gdec kX3_aboutStage 5 rfl) ?_
    refine g_aload_n C hl 0 rfl rfl (gdec kX3_aboutStage 12 rfl) ?_
    refine gf_X3_231 C h k2 (gdec kX3_aboutStage 13 rfl) ?_
    obtain ⟨r7, q8, hf⟩ := bn1_s hf
    refine g_ci h (g_runSN C h (c_X7_oneIf l E _ _ _ q8) wNest_X3_286 wT_X7_oneIf wN_X7 wC_X7_oneIf ny_X7_oneIf rfl ⟨Nat.le_of_ble_eq_true rfl, Nat.le_of_ble_eq_true rfl⟩ hl.1 rfl (Nat.le_of_ble_eq_true rfl) (gdec kX3_aboutStage 14 rfl) ⟨Nat.zero_le _, Nat.zero_le _⟩) (fun H locs h => ?_)
    exact g_iret C h (congrArg (Option.map (Prod.mk _)) hf) (gdec kX3_aboutStage 15 rfl)
  replace hf := ifn c6 hf
  by_cases c9 : p2 = 3
  · replace hf := ifp c9 hf
    refine g_tableIn C (tgt := 58) c9 (by decide) (by decide) (by decide) rfl (by decide) (gdec kX3_aboutStage 5 rfl) ?_
    refine g_aload_n C hl 0 rfl rfl (gdec kX3_aboutStage 16 rfl) ?_
    refine g_iconst C (gdec kX3_aboutStage 17 rfl) ?_
    obtain ⟨r10, q11, hf⟩ := bn1_s hf
    refine g_ci h (g_runV C h k2 (by decide) rfl (c_X5_effort l E _ _ _ k2 _ q11) wM_X3_176 wI_X5_effort wS_X5_effort wN_X5 wC_X5_effort rfl ny_X5_effort rfl ⟨Nat.le_of_ble_eq_true rfl, Nat.le_of_ble_eq_true rfl⟩ hl.1 rfl (Nat.le_of_ble_eq_true rfl) (gdec kX3_aboutStage 18 rfl) ⟨Nat.zero_le _, Nat.zero_le _⟩) (fun H locs h => ?_)
    exact g_iret C h (congrArg (Option.map (Prod.mk _)) hf) (gdec kX3_aboutStage 19 rfl)
  replace hf := ifn c9 hf
  by_cases c12 : p2 = 4
  · replace hf := ifp c12 hf
    refine g_tableIn C (tgt := 64) c12 (by decide) (by decide) (by decide) rfl (by decide) (gdec kX3_aboutStage 5 rfl) ?_
    refine g_aload_n C hl 0 rfl rfl (gdec kX3_aboutStage 20 rfl) ?_
    refine g_iconst C (gdec kX3_aboutStage 21 rfl) ?_
    obtain ⟨r13, q14, hf⟩ := bn1_s hf
    refine g_ci h (g_runV C h k2 (by decide) rfl (c_X5_effort l E _ _ _ k2 _ q14) wM_X3_176 wI_X5_effort wS_X5_effort wN_X5 wC_X5_effort rfl ny_X5_effort rfl ⟨Nat.le_of_ble_eq_true rfl, Nat.le_of_ble_eq_true rfl⟩ hl.1 rfl (Nat.le_of_ble_eq_true rfl) (gdec kX3_aboutStage 22 rfl) ⟨Nat.zero_le _, Nat.zero_le _⟩) (fun H locs h => ?_)
    exact g_iret C h (congrArg (Option.map (Prod.mk _)) hf) (gdec kX3_aboutStage 23 rfl)
  replace hf := ifn c12 hf
  refine g_tableOut C (tgt := 70) h3 (by omega) (by decide) (gdec kX3_aboutStage 5 rfl) ?_
  refine g_aload_n C hl 1 rfl rfl (gdec kX3_aboutStage 24 rfl) ?_
  refine g_iload_n C hl 2 rfl rfl (gdec kX3_aboutStage 25 rfl) ?_
  obtain ⟨r15, q16, hf⟩ := bn1_s hf
  refine g_ci h (g_runV C h ho (by decide) rfl (c_X3_teamsOn l E _ _ _ ho _ q16) wM_X3_289 wI_X3_teamsOn wS_X3_teamsOn wN_X3 wC_X3_teamsOn rfl ny_X3_teamsOn rfl ⟨Nat.le_of_ble_eq_true rfl, Nat.le_of_ble_eq_true rfl⟩ hl.1 rfl (Nat.le_of_ble_eq_true rfl) (gdec kX3_aboutStage 26 rfl) ⟨Nat.zero_le _, Nat.zero_le _⟩) (fun H locs h => ?_)
  exact g_iret C h (congrArg (Option.map (Prod.mk _)) hf) (gdec kX3_aboutStage 27 rfl)
def f_X3_teamsAt_L4 (G : GS) (o : Int) (p1 : Int) : Nat → Int → Int → (Int → Int → Option (Int)) → Option (Int)
  | 0, _, _, _ => none
  | n + 1, x2, x3, k => gd x3 (gd (G 3 o 5) (if x3 < (G 3 o 5) then ga x3 10 (bn1 (f_X6_standsAt G (10 * o + x3) p1) (fun r6 => gd r6 (if r6 = 0 then f_X3_teamsAt_L4 G o p1 n x2 (x3 + 1) k else f_X3_teamsAt_L4 G o p1 n (x2 + 1) (x3 + 1) k))) else k x2 x3))
def f_X3_teamsAt (G : GS) (o : Int) (p1 : Int) : Option (Int) :=
  f_X3_teamsAt_L4 G o p1 gFuel 0 0 (fun y2_10 y3_10 => some y2_10)
set_option maxHeartbeats 4000000 in
set_option maxRecDepth 100000 in
theorem c_X3_teamsAt (l : Launch) (E : gEnv) (G : GS) (o : Int) (p1 : Int) (ho : gOk E 3 o) (rz : Int) (hf : f_X3_teamsAt G o p1 = some rz) : gMet l yX3_teamsAt cX3_teamsAt 4 (some .int) 1 21 0 0 [.ref (eA E 3 o), vI p1] E G (gQi E G rz) := by
  refine g_met (by decide +kernel) (Nat.le_of_ble_eq_true rfl) ?_
  intro p e s m below meth c C H locs h ls hl
  have C : gC p s m _ meth c RX3 cX3_teamsAt 4 (some .int) E := C
  have hl : lv_has ls 4 [(0, .ref (eA E 3 o)), (1, vI p1)] := hl
  have L4 : ∀ (n : Nat) (x2 : Int) (x3 : Int) (k : (Int → Int → Option (Int))) (hK : ∀ (x2 : Int) (x3 : Int), k x2 x3 = some rz → ∀ (H : Heap) (locs : List Loc), gH E s G H locs → ∀ ls, lv_has ls 4 [(0, .ref (eA E 3 o)), (1, vI p1), (2, vI x2), (3, vI x3)] → W p l e (gRm 1 21 0 0) s m ([.ref (eA E 3 o), vI p1] : List Value).toArray below meth c H locs 0 0 (MQ below (gQi E G rz) ([.ref (eA E 3 o), vI p1] : List Value).toArray s 0 0 (eF E)) (F0 m 33 ls [])), ∀ (H : Heap) (locs : List Loc), gH E s G H locs → ∀ ls, lv_has ls 4 [(0, .ref (eA E 3 o)), (1, vI p1), (2, vI x2), (3, vI x3)] → f_X3_teamsAt_L4 G o p1 n x2 x3 k = some rz → W p l e (gRm 1 21 0 0) s m ([.ref (eA E 3 o), vI p1] : List Value).toArray below meth c H locs 0 0 (MQ below (gQi E G rz) ([.ref (eA E 3 o), vI p1] : List Value).toArray s 0 0 (eF E)) (F0 m 4 ls []) := by
    intro n
    induction n with
    | zero =>
      intro x2 x3 k hK H locs h ls hl hf
      exact absurd hf (by simp [f_X3_teamsAt_L4])
    | succ n ih =>
      intro x2 x3 k hK H locs h ls hl hf
      unfold f_X3_teamsAt_L4 at hf
      refine g_iload_n C hl 3 rfl rfl (gdec kX3_teamsAt 4 rfl) ?_
      refine g_aload_n C hl 0 rfl rfl (gdec kX3_teamsAt 5 rfl) ?_
      refine gf_X3_51 C h ho (gdec kX3_teamsAt 6 rfl) ?_
      obtain ⟨h1, hf⟩ := gd_s hf
      obtain ⟨h2, hf⟩ := gd_s hf
      refine g_icmp_ge C (tgt := 33) h1 h2 (by decide) (gdec kX3_teamsAt 7 rfl) (fun c3 => ?_) (fun c3 => ?_)
      · replace hf := ifp c3 hf
        refine g_aload_n C hl 0 rfl rfl (gdec kX3_teamsAt 8 rfl) ?_
        refine g_iload_n C hl 3 rfl rfl (gdec kX3_teamsAt 9 rfl) ?_
        obtain ⟨h4, hf⟩ := ga_s hf
        refine g_cr h (g_runV C h ho (by decide) rfl (c_X3_teamRow l E _ _ _ ho _ (e_X3_teamRow _ _ _ h4)) wM_X3_82 wI_X3_teamRow wS_X3_teamRow wN_X3 wC_X3_teamRow rfl ny_X3_teamRow rfl ⟨Nat.le_of_ble_eq_true rfl, Nat.le_of_ble_eq_true rfl⟩ hl.1 rfl (Nat.le_of_ble_eq_true rfl) (gdec kX3_teamsAt 10 rfl) ⟨Nat.zero_le _, Nat.zero_le _⟩) (fun H locs h => ?_)
        have k5 : gOk E 6 (10 * o + x3) := gok6 C (gcl_3_2 C ho) h4
        refine g_iload_n C hl 1 rfl rfl (gdec kX3_teamsAt 11 rfl) ?_
        obtain ⟨r6, q7, hf⟩ := bn1_s hf
        refine g_ci h (g_runV C h k5 (by decide) rfl (c_X6_standsAt l E _ _ _ k5 _ q7) wM_X3_243 wI_X6_standsAt wS_X6_standsAt wN_X6 wC_X6_standsAt rfl ny_X6_standsAt rfl ⟨Nat.le_of_ble_eq_true rfl, Nat.le_of_ble_eq_true rfl⟩ hl.1 rfl (Nat.le_of_ble_eq_true rfl) (gdec kX3_teamsAt 12 rfl) ⟨Nat.zero_le _, Nat.zero_le _⟩) (fun H locs h => ?_)
        obtain ⟨h8, hf⟩ := gd_s hf
        refine g_if_eq C (tgt := 27) h8 (by decide) (gdec kX3_teamsAt 13 rfl) (fun c9 => ?_) (fun c9 => ?_)
        · replace hf := ifp c9 hf
          refine g_iinc C (k := 3) [(3, vI (x3 + 1)), (0, .ref (eA E 3 o)), (1, vI p1), (2, vI x2)] hl rfl (by decide) rfl (gdec kX3_teamsAt 15 rfl) (fun ls hl => ?_)
          refine g_goto C (tgt := 4) (by decide) (gdec kX3_teamsAt 16 rfl) ?_
          exact ih _ _ k hK H locs h ls (lv_sub hl [1, 2, 3, 0] rfl) hf
        · replace hf := ifn c9 hf
          refine g_iinc C (k := 2) [(2, vI (x2 + 1)), (0, .ref (eA E 3 o)), (1, vI p1), (3, vI x3)] hl rfl (by decide) rfl (gdec kX3_teamsAt 14 rfl) (fun ls hl => ?_)
          refine g_iinc C (k := 3) [(3, vI (x3 + 1)), (2, vI (x2 + 1)), (0, .ref (eA E 3 o)), (1, vI p1)] hl rfl (by decide) rfl (gdec kX3_teamsAt 15 rfl) (fun ls hl => ?_)
          refine g_goto C (tgt := 4) (by decide) (gdec kX3_teamsAt 16 rfl) ?_
          exact ih _ _ k hK H locs h ls (lv_sub hl [2, 3, 1, 0] rfl) hf
      · replace hf := ifn c3 hf
        exact hK _ _ hf H locs h ls (lv_sub hl [0, 1, 2, 3] rfl)
  unfold f_X3_teamsAt at hf
  refine g_iconst C (gdec kX3_teamsAt 0 rfl) ?_
  refine g_istore_n C [(2, vI 0), (0, .ref (eA E 3 o)), (1, vI p1)] hl rfl (by decide) rfl (gdec kX3_teamsAt 1 rfl) (fun ls hl => ?_)
  refine g_iconst C (gdec kX3_teamsAt 2 rfl) ?_
  refine g_istore_n C [(3, vI 0), (2, vI 0), (0, .ref (eA E 3 o)), (1, vI p1)] hl rfl (by decide) rfl (gdec kX3_teamsAt 3 rfl) (fun ls hl => ?_)
  refine L4 gFuel _ _ _ (fun y2_10 y3_10 hf H locs h ls hl => ?_) H locs h ls (lv_sub hl [2, 3, 1, 0] rfl) hf
  refine g_iload_n C hl 2 rfl rfl (gdec kX3_teamsAt 17 rfl) ?_
  exact g_iret C h (congrArg (Option.map (Prod.mk _)) hf) (gdec kX3_teamsAt 18 rfl)
def f_X3_freeBeds (G : GS) (o : Int) (p1 : Int) : Option (Int) :=
  ga p1 8 (bn1 (f_X3_bedsTaken G o p1) (fun r3 => gd ((G 1 (8 * o + p1) 0) - r3) (some (if 0 < (G 1 (8 * o + p1) 0) - r3 then (G 1 (8 * o + p1) 0) - r3 else 0))))
set_option maxHeartbeats 4000000 in
set_option maxRecDepth 100000 in
theorem c_X3_freeBeds (l : Launch) (E : gEnv) (G : GS) (o : Int) (p1 : Int) (ho : gOk E 3 o) (rz : Int) (hf : f_X3_freeBeds G o p1 = some rz) : gMet l yX3_freeBeds cX3_freeBeds 2 (some .int) 2 44 0 0 [.ref (eA E 3 o), vI p1] E G (gQi E G rz) := by
  refine g_met (by decide +kernel) (Nat.le_of_ble_eq_true rfl) ?_
  intro p e s m below meth c C H locs h ls hl
  have C : gC p s m _ meth c RX3 cX3_freeBeds 2 (some .int) E := C
  have hl : lv_has ls 2 [(0, .ref (eA E 3 o)), (1, vI p1)] := hl
  unfold f_X3_freeBeds at hf
  refine g_iconst C (gdec kX3_freeBeds 0 rfl) ?_
  refine g_aload_n C hl 0 rfl rfl (gdec kX3_freeBeds 1 rfl) ?_
  refine g_iload_n C hl 1 rfl rfl (gdec kX3_freeBeds 2 rfl) ?_
  obtain ⟨h1, hf⟩ := ga_s hf
  refine g_cr h (g_runV C h ho (by decide) rfl (c_X3_innRow l E _ _ _ ho _ (e_X3_innRow _ _ _ h1)) wM_X3_138 wI_X3_innRow wS_X3_innRow wN_X3 wC_X3_innRow rfl ny_X3_innRow rfl ⟨Nat.le_of_ble_eq_true rfl, Nat.le_of_ble_eq_true rfl⟩ hl.1 rfl (Nat.le_of_ble_eq_true rfl) (gdec kX3_freeBeds 3 rfl) ⟨Nat.zero_le _, Nat.zero_le _⟩) (fun H locs h => ?_)
  have k2 : gOk E 1 (8 * o + p1) := gok1 C (gcl_3_1 C ho) h1
  refine gf_X3_240 C h k2 (gdec kX3_freeBeds 4 rfl) ?_
  refine g_aload_n C hl 0 rfl rfl (gdec kX3_freeBeds 5 rfl) ?_
  refine g_iload_n C hl 1 rfl rfl (gdec kX3_freeBeds 6 rfl) ?_
  obtain ⟨r3, q4, hf⟩ := bn1_s hf
  refine g_ci h (g_runV C h ho (by decide) rfl (c_X3_bedsTaken l E _ _ _ ho _ q4) wM_X3_237 wI_X3_bedsTaken wS_X3_bedsTaken wN_X3 wC_X3_bedsTaken rfl ny_X3_bedsTaken rfl ⟨Nat.le_of_ble_eq_true rfl, Nat.le_of_ble_eq_true rfl⟩ hl.1 rfl (Nat.le_of_ble_eq_true rfl) (gdec kX3_freeBeds 7 rfl) ⟨Nat.zero_le _, Nat.zero_le _⟩) (fun H locs h => ?_)
  refine g_isub C (gdec kX3_freeBeds 8 rfl) ?_
  obtain ⟨h5, hf⟩ := gd_s hf
  refine g_max C (by decide) h5 wM_X3_272 wT_Math_max wN_java_lang_Math wC_Math_max hl.1 (by decide) (Nat.le_of_ble_eq_true rfl) (Nat.le_of_ble_eq_true rfl) (Nat.le_of_ble_eq_true rfl) (gdec kX3_freeBeds 9 rfl) ?_
  exact g_iret C h (congrArg (Option.map (Prod.mk _)) hf) (gdec kX3_freeBeds 10 rfl)
def f_X3_aboutInn (G : GS) (o : Int) (p1 : Int) (p2 : Int) : Option (Int) :=
  ga p1 8 (gd p2 (if p2 = 0 then some (G 1 (8 * o + p1) 0) else if p2 = 1 then some (G 1 (8 * o + p1) 1) else if p2 = 2 then bn1 (f_X7_oneIf G (G 1 (8 * o + p1) 2)) (fun r7 => some r7) else if p2 = 3 then bn1 (f_X3_teamsAt G o p1) (fun r10 => some r10) else if p2 = 4 then bn1 (f_X3_bedsTaken G o p1) (fun r13 => bn1 (f_X3_teamsAt G o p1) (fun r15 => some (r13 - r15))) else if p2 = 5 then bn1 (f_X3_lettersAt G o p1) (fun r18 => some r18) else bn1 (f_X3_freeBeds G o p1) (fun r20 => some r20)))
set_option maxHeartbeats 4000000 in
set_option maxRecDepth 100000 in
theorem c_X3_aboutInn (l : Launch) (E : gEnv) (G : GS) (o : Int) (p1 : Int) (p2 : Int) (ho : gOk E 3 o) (rz : Int) (hf : f_X3_aboutInn G o p1 p2 = some rz) : gMet l yX3_aboutInn cX3_aboutInn 4 (some .int) 3 65 0 0 [.ref (eA E 3 o), vI p1, vI p2] E G (gQi E G rz) := by
  refine g_met (by decide +kernel) (Nat.le_of_ble_eq_true rfl) ?_
  intro p e s m below meth c C H locs h ls hl
  have C : gC p s m _ meth c RX3 cX3_aboutInn 4 (some .int) E := C
  have hl : lv_has ls 4 [(0, .ref (eA E 3 o)), (1, vI p1), (2, vI p2)] := hl
  unfold f_X3_aboutInn at hf
  refine g_aload_n C hl 0 rfl rfl (gdec kX3_aboutInn 0 rfl) ?_
  refine g_iload_n C hl 1 rfl rfl (gdec kX3_aboutInn 1 rfl) ?_
  obtain ⟨h1, hf⟩ := ga_s hf
  refine g_cr h (g_runV C h ho (by decide) rfl (c_X3_innRow l E _ _ _ ho _ (e_X3_innRow _ _ _ h1)) wM_X3_138 wI_X3_innRow wS_X3_innRow wN_X3 wC_X3_innRow rfl ny_X3_innRow rfl ⟨Nat.le_of_ble_eq_true rfl, Nat.le_of_ble_eq_true rfl⟩ hl.1 rfl (Nat.le_of_ble_eq_true rfl) (gdec kX3_aboutInn 2 rfl) ⟨Nat.zero_le _, Nat.zero_le _⟩) (fun H locs h => ?_)
  have k2 : gOk E 1 (8 * o + p1) := gok1 C (gcl_3_1 C ho) h1
  refine g_astore_n C [(3, .ref (eA E 1 (8 * o + p1))), (0, .ref (eA E 3 o)), (1, vI p1), (2, vI p2)] hl rfl (by decide) rfl (gdec kX3_aboutInn 3 rfl) (fun ls hl => ?_)
  refine g_iload_n C hl 3 rfl rfl (gdec kX3_aboutInn 4 rfl) ?_
  obtain ⟨h3, hf⟩ := gd_s hf
  by_cases c4 : p2 = 0
  · replace hf := ifp c4 hf
    refine g_tableIn C (tgt := 44) c4 (by decide) (by decide) (by decide) rfl (by decide) (gdec kX3_aboutInn 5 rfl) ?_
    refine g_aload_n C hl 0 rfl rfl (gdec kX3_aboutInn 6 rfl) ?_
    refine gf_X3_240 C h k2 (gdec kX3_aboutInn 7 rfl) ?_
    exact g_iret C h (congrArg (Option.map (Prod.mk _)) hf) (gdec kX3_aboutInn 8 rfl)
  replace hf := ifn c4 hf
  by_cases c5 : p2 = 1
  · replace hf := ifp c5 hf
    refine g_tableIn C (tgt := 49) c5 (by decide) (by decide) (by decide) rfl (by decide) (gdec kX3_aboutInn 5 rfl) ?_
    refine g_aload_n C hl 0 rfl rfl (gdec kX3_aboutInn 9 rfl) ?_
    refine gf_X3_145 C h k2 (gdec kX3_aboutInn 10 rfl) ?_
    exact g_iret C h (congrArg (Option.map (Prod.mk _)) hf) (gdec kX3_aboutInn 11 rfl)
  replace hf := ifn c5 hf
  by_cases c6 : p2 = 2
  · replace hf := ifp c6 hf
    refine g_tableIn C (tgt := 54) c6 (by decide) (by decide) (by decide) rfl (by decide) (gdec kX3_aboutInn 5 rfl) ?_
    refine g_aload_n C hl 0 rfl rfl (gdec kX3_aboutInn 12 rfl) ?_
    refine gf_X3_234 C h k2 (gdec kX3_aboutInn 13 rfl) ?_
    obtain ⟨r7, q8, hf⟩ := bn1_s hf
    refine g_ci h (g_runSN C h (c_X7_oneIf l E _ _ _ q8) wNest_X3_286 wT_X7_oneIf wN_X7 wC_X7_oneIf ny_X7_oneIf rfl ⟨Nat.le_of_ble_eq_true rfl, Nat.le_of_ble_eq_true rfl⟩ hl.1 rfl (Nat.le_of_ble_eq_true rfl) (gdec kX3_aboutInn 14 rfl) ⟨Nat.zero_le _, Nat.zero_le _⟩) (fun H locs h => ?_)
    exact g_iret C h (congrArg (Option.map (Prod.mk _)) hf) (gdec kX3_aboutInn 15 rfl)
  replace hf := ifn c6 hf
  by_cases c9 : p2 = 3
  · replace hf := ifp c9 hf
    refine g_tableIn C (tgt := 62) c9 (by decide) (by decide) (by decide) rfl (by decide) (gdec kX3_aboutInn 5 rfl) ?_
    refine g_aload_n C hl 1 rfl rfl (gdec kX3_aboutInn 16 rfl) ?_
    refine g_iload_n C hl 2 rfl rfl (gdec kX3_aboutInn 17 rfl) ?_
    obtain ⟨r10, q11, hf⟩ := bn1_s hf
    refine g_ci h (g_runV C h ho (by decide) rfl (c_X3_teamsAt l E _ _ _ ho _ q11) wM_X3_292 wI_X3_teamsAt wS_X3_teamsAt wN_X3 wC_X3_teamsAt rfl ny_X3_teamsAt rfl ⟨Nat.le_of_ble_eq_true rfl, Nat.le_of_ble_eq_true rfl⟩ hl.1 rfl (Nat.le_of_ble_eq_true rfl) (gdec kX3_aboutInn 18 rfl) ⟨Nat.zero_le _, Nat.zero_le _⟩) (fun H locs h => ?_)
    exact g_iret C h (congrArg (Option.map (Prod.mk _)) hf) (gdec kX3_aboutInn 19 rfl)
  replace hf := ifn c9 hf
  by_cases c12 : p2 = 4
  · replace hf := ifp c12 hf
    refine g_tableIn C (tgt := 68) c12 (by decide) (by decide) (by decide) rfl (by decide) (gdec kX3_aboutInn 5 rfl) ?_
    refine g_aload_n C hl 1 rfl rfl (gdec kX3_aboutInn 20 rfl) ?_
    refine g_iload_n C hl 2 rfl rfl (gdec kX3_aboutInn 21 rfl) ?_
    obtain ⟨r13, q14, hf⟩ := bn1_s hf
    refine g_ci h (g_runV C h ho (by decide) rfl (c_X3_bedsTaken l E _ _ _ ho _ q14) wM_X3_237 wI_X3_bedsTaken wS_X3_bedsTaken wN_X3 wC_X3_bedsTaken rfl ny_X3_bedsTaken rfl ⟨Nat.le_of_ble_eq_true rfl, Nat.le_of_ble_eq_true rfl⟩ hl.1 rfl (Nat.le_of_ble_eq_true rfl) (gdec kX3_aboutInn 22 rfl) ⟨Nat.zero_le _, Nat.zero_le _⟩) (fun H locs h => ?_)
    refine g_aload_n C hl 1 rfl rfl (gdec kX3_aboutInn 23 rfl) ?_
    refine g_iload_n C hl 2 rfl rfl (gdec kX3_aboutInn 24 rfl) ?_
    obtain ⟨r15, q16, hf⟩ := bn1_s hf
    refine g_ci h (g_runV C h ho (by decide) rfl (c_X3_teamsAt l E _ _ _ ho _ q16) wM_X3_292 wI_X3_teamsAt wS_X3_teamsAt wN_X3 wC_X3_teamsAt rfl ny_X3_teamsAt rfl ⟨Nat.le_of_ble_eq_true rfl, Nat.le_of_ble_eq_true rfl⟩ hl.1 rfl (Nat.le_of_ble_eq_true rfl) (gdec kX3_aboutInn 25 rfl) ⟨Nat.zero_le _, Nat.zero_le _⟩) (fun H locs h => ?_)
    refine g_isub C (gdec kX3_aboutInn 26 rfl) ?_
    exact g_iret C h (congrArg (Option.map (Prod.mk _)) hf) (gdec kX3_aboutInn 27 rfl)
  replace hf := ifn c12 hf
  by_cases c17 : p2 = 5
  · replace hf := ifp c17 hf
    refine g_tableIn C (tgt := 80) c17 (by decide) (by decide) (by decide) rfl (by decide) (gdec kX3_aboutInn 5 rfl) ?_
    refine g_aload_n C hl 1 rfl rfl (gdec kX3_aboutInn 28 rfl) ?_
    refine g_iload_n C hl 2 rfl rfl (gdec kX3_aboutInn 29 rfl) ?_
    obtain ⟨r18, q19, hf⟩ := bn1_s hf
    refine g_ci h (g_runV C h ho (by decide) rfl (c_X3_lettersAt l E _ _ _ ho _ q19) wM_X3_250 wI_X3_lettersAt wS_X3_lettersAt wN_X3 wC_X3_lettersAt rfl ny_X3_lettersAt rfl ⟨Nat.le_of_ble_eq_true rfl, Nat.le_of_ble_eq_true rfl⟩ hl.1 rfl (Nat.le_of_ble_eq_true rfl) (gdec kX3_aboutInn 30 rfl) ⟨Nat.zero_le _, Nat.zero_le _⟩) (fun H locs h => ?_)
    exact g_iret C h (congrArg (Option.map (Prod.mk _)) hf) (gdec kX3_aboutInn 31 rfl)
  replace hf := ifn c17 hf
  refine g_tableOut C (tgt := 86) h3 (by omega) (by decide) (gdec kX3_aboutInn 5 rfl) ?_
  refine g_aload_n C hl 1 rfl rfl (gdec kX3_aboutInn 32 rfl) ?_
  refine g_iload_n C hl 2 rfl rfl (gdec kX3_aboutInn 33 rfl) ?_
  obtain ⟨r20, q21, hf⟩ := bn1_s hf
  refine g_ci h (g_runV C h ho (by decide) rfl (c_X3_freeBeds l E _ _ _ ho _ q21) wM_X3_295 wI_X3_freeBeds wS_X3_freeBeds wN_X3 wC_X3_freeBeds rfl ny_X3_freeBeds rfl ⟨Nat.le_of_ble_eq_true rfl, Nat.le_of_ble_eq_true rfl⟩ hl.1 rfl (Nat.le_of_ble_eq_true rfl) (gdec kX3_aboutInn 34 rfl) ⟨Nat.zero_le _, Nat.zero_le _⟩) (fun H locs h => ?_)
  exact g_iret C h (congrArg (Option.map (Prod.mk _)) hf) (gdec kX3_aboutInn 35 rfl)
def f_X7_digestOfRoad_L22 (G : GS) (p1 : Int) : Nat → Int → Int → Int → (Int → Int → Int → Option (Int)) → Option (Int)
  | 0, _, _, _, _ => none
  | n + 1, x3, x5, x6, k => gd x6 (if 5 < x6 then k x3 x5 x6 else bn1 (f_X3_aboutStage G 0 x5 x6) (fun r6 => f_X7_digestOfRoad_L22 G p1 n ((31 * x3) + (bm r6)) x5 (x6 + 1) k))
def f_X7_digestOfRoad_L5 (G : GS) (p1 : Int) : Nat → Int → Int → (Int → Int → Option (Int)) → Option (Int)
  | 0, _, _, _ => none
  | n + 1, x3, x5, k => gd x5 (gd ((G 3 0 4) - 1) (if x5 < ((G 3 0 4) - 1) then f_X7_digestOfRoad_L22 G p1 gFuel x3 x5 0 (fun y3_8 y5_8 y6_8 => f_X7_digestOfRoad_L5 G p1 n y3_8 (y5_8 + 1) k) else k x3 x5))
def f_X7_digestOfRoad_L77 (G : GS) (p1 : Int) : Nat → Int → Int → Int → (Int → Int → Int → Option (Int)) → Option (Int)
  | 0, _, _, _, _ => none
  | n + 1, x3, x5, x6, k => gd x6 (if 6 < x6 then k x3 x5 x6 else bn1 (f_X3_aboutInn G 0 x5 x6) (fun r17 => f_X7_digestOfRoad_L77 G p1 n ((31 * x3) + (bm r17)) x5 (x6 + 1) k))
def f_X7_digestOfRoad_L62 (G : GS) (p1 : Int) : Nat → Int → Int → (Int → Int → Option (Int)) → Option (Int)
  | 0, _, _, _ => none
  | n + 1, x3, x5, k => gd x5 (gd (G 3 0 4) (if x5 < (G 3 0 4) then f_X7_digestOfRoad_L77 G p1 gFuel x3 x5 0 (fun y3_19 y5_19 y6_19 => f_X7_digestOfRoad_L62 G p1 n y3_19 (y5_19 + 1) k) else k x3 x5))
def f_X7_digestOfRoad (G : GS) (p1 : Int) : Option (Int) :=
  f_X7_digestOfRoad_L5 G p1 gFuel p1 0 (fun y3_10 y5_10 => f_X7_digestOfRoad_L62 G p1 gFuel y3_10 0 (fun y3_21 y5_21 => some y3_21))
set_option maxHeartbeats 4000000 in
set_option maxRecDepth 100000 in
theorem c_X7_digestOfRoad (l : Launch) (E : gEnv) (G : GS) (p1 : Int) (ho : gOk E 7 0) (rz : Int) (hf : f_X7_digestOfRoad G p1 = some rz) : gMet l yX7_digestOfRoad cX7_digestOfRoad 7 (some .long) 4 88 0 0 [.ref (eA E 7 0), vJ p1] E G (gQl E G rz) := by
  refine g_met (by decide +kernel) (Nat.le_of_ble_eq_true rfl) ?_
  intro p e s m below meth c C H locs h ls hl
  have C : gC p s m _ meth c RX7 cX7_digestOfRoad 7 (some .long) E := C
  have hl : lv_has ls 7 [(0, .ref (eA E 7 0)), (1, vJ p1)] := hl
  have L22 : ∀ (n : Nat) (x3 : Int) (x5 : Int) (x6 : Int) (k : (Int → Int → Int → Option (Int))) (hK : ∀ (x3 : Int) (x5 : Int) (x6 : Int), k x3 x5 x6 = some rz → ∀ (H : Heap) (locs : List Loc), gH E s G H locs → ∀ ls, lv_has ls 7 [(0, .ref (eA E 7 0)), (1, vJ p1), (3, vJ x3), (5, vI x5), (6, vI x6)] → W p l e (gRm 4 88 0 0) s m ([.ref (eA E 7 0), vJ p1] : List Value).toArray below meth c H locs 0 0 (MQ below (gQl E G rz) ([.ref (eA E 7 0), vJ p1] : List Value).toArray s 0 0 (eF E)) (F0 m 53 ls [])), ∀ (H : Heap) (locs : List Loc), gH E s G H locs → ∀ ls, lv_has ls 7 [(0, .ref (eA E 7 0)), (1, vJ p1), (3, vJ x3), (5, vI x5), (6, vI x6)] → f_X7_digestOfRoad_L22 G p1 n x3 x5 x6 k = some rz → W p l e (gRm 4 88 0 0) s m ([.ref (eA E 7 0), vJ p1] : List Value).toArray below meth c H locs 0 0 (MQ below (gQl E G rz) ([.ref (eA E 7 0), vJ p1] : List Value).toArray s 0 0 (eF E)) (F0 m 22 ls []) := by
    intro n
    induction n with
    | zero =>
      intro x3 x5 x6 k hK H locs h ls hl hf
      exact absurd hf (by simp [f_X7_digestOfRoad_L22])
    | succ n ih =>
      intro x3 x5 x6 k hK H locs h ls hl hf
      unfold f_X7_digestOfRoad_L22 at hf
      refine g_iload C hl 4 rfl (gdec kX7_digestOfRoad 13 rfl) ?_
      refine g_iconst C (gdec kX7_digestOfRoad 14 rfl) ?_
      obtain ⟨h4, hf⟩ := gd_s hf
      refine g_icmp_gt C (tgt := 53) h4 (by decide) (by decide) (gdec kX7_digestOfRoad 15 rfl) (fun c5 => ?_) (fun c5 => ?_)
      · replace hf := ifp c5 hf
        exact hK _ _ _ hf H locs h ls (lv_sub hl [0, 1, 2, 3, 4] rfl)
      · replace hf := ifn c5 hf
        refine g_ldc2 C (n := 31) wL_X7_198 rfl (gdec kX7_digestOfRoad 16 rfl) ?_
        refine g_lload_n C hl 2 rfl rfl (gdec kX7_digestOfRoad 17 rfl) ?_
        refine g_lmul C (gdec kX7_digestOfRoad 18 rfl) ?_
        refine g_aload_n C hl 0 rfl rfl (gdec kX7_digestOfRoad 19 rfl) ?_
        refine gf_X7_12 C h ho (gdec kX7_digestOfRoad 20 rfl) ?_
        refine g_iload C hl 3 rfl (gdec kX7_digestOfRoad 21 rfl) ?_
        refine g_iload C hl 4 rfl (gdec kX7_digestOfRoad 22 rfl) ?_
        obtain ⟨r6, q7, hf⟩ := bn1_s hf
        refine g_ci h (g_runV C h (gcl_7_0 C ho) (by decide) rfl (c_X3_aboutStage l E _ _ _ _ (gcl_7_0 C ho) _ q7) wM_X7_114 wI_X3_aboutStage wS_X3_aboutStage wN_X3 wC_X3_aboutStage rfl ny_X3_aboutStage rfl ⟨Nat.le_of_ble_eq_true rfl, Nat.le_of_ble_eq_true rfl⟩ hl.1 rfl (Nat.le_of_ble_eq_true rfl) (gdec kX7_digestOfRoad 23 rfl) ⟨Nat.zero_le _, Nat.zero_le _⟩) (fun H locs h => ?_)
        refine g_i2l C (gdec kX7_digestOfRoad 24 rfl) ?_
        refine g_ladd C (gdec kX7_digestOfRoad 25 rfl) ?_
        refine g_lstore_n C [(3, vJ ((31 * x3) + (bm r6))), (0, .ref (eA E 7 0)), (1, vJ p1), (5, vI x5), (6, vI x6)] hl rfl (by decide) rfl (gdec kX7_digestOfRoad 26 rfl) (fun ls hl => ?_)
        refine g_iinc C (k := 4) [(6, vI (x6 + 1)), (3, vJ ((31 * x3) + (bm r6))), (0, .ref (eA E 7 0)), (1, vJ p1), (5, vI x5)] hl rfl (by decide) rfl (gdec kX7_digestOfRoad 27 rfl) (fun ls hl => ?_)
        refine g_goto C (tgt := 22) (by decide) (gdec kX7_digestOfRoad 28 rfl) ?_
        exact ih _ _ _ k hK H locs h ls (lv_sub hl [2, 3, 1, 4, 0] rfl) hf
  have L5 : ∀ (n : Nat) (x3 : Int) (x5 : Int) (k : (Int → Int → Option (Int))) (hK : ∀ (x3 : Int) (x5 : Int), k x3 x5 = some rz → ∀ (H : Heap) (locs : List Loc), gH E s G H locs → ∀ ls, lv_has ls 7 [(0, .ref (eA E 7 0)), (1, vJ p1), (3, vJ x3), (5, vI x5)] → W p l e (gRm 4 88 0 0) s m ([.ref (eA E 7 0), vJ p1] : List Value).toArray below meth c H locs 0 0 (MQ below (gQl E G rz) ([.ref (eA E 7 0), vJ p1] : List Value).toArray s 0 0 (eF E)) (F0 m 59 ls [])), ∀ (H : Heap) (locs : List Loc), gH E s G H locs → ∀ ls, lv_has ls 7 [(0, .ref (eA E 7 0)), (1, vJ p1), (3, vJ x3), (5, vI x5)] → f_X7_digestOfRoad_L5 G p1 n x3 x5 k = some rz → W p l e (gRm 4 88 0 0) s m ([.ref (eA E 7 0), vJ p1] : List Value).toArray below meth c H locs 0 0 (MQ below (gQl E G rz) ([.ref (eA E 7 0), vJ p1] : List Value).toArray s 0 0 (eF E)) (F0 m 5 ls []) := by
    intro n
    induction n with
    | zero =>
      intro x3 x5 k hK H locs h ls hl hf
      exact absurd hf (by simp [f_X7_digestOfRoad_L5])
    | succ n ih =>
      intro x3 x5 k hK H locs h ls hl hf
      unfold f_X7_digestOfRoad_L5 at hf
      refine g_iload C hl 3 rfl (gdec kX7_digestOfRoad 4 rfl) ?_
      refine g_aload_n C hl 0 rfl rfl (gdec kX7_digestOfRoad 5 rfl) ?_
      refine gf_X7_12 C h ho (gdec kX7_digestOfRoad 6 rfl) ?_
      refine gf_X7_33 C h (gcl_7_0 C ho) (gdec kX7_digestOfRoad 7 rfl) ?_
      refine g_iconst C (gdec kX7_digestOfRoad 8 rfl) ?_
      refine g_isub C (gdec kX7_digestOfRoad 9 rfl) ?_
      obtain ⟨h1, hf⟩ := gd_s hf
      obtain ⟨h2, hf⟩ := gd_s hf
      refine g_icmp_ge C (tgt := 59) h1 h2 (by decide) (gdec kX7_digestOfRoad 10 rfl) (fun c3 => ?_) (fun c3 => ?_)
      · replace hf := ifp c3 hf
        refine g_iconst C (gdec kX7_digestOfRoad 11 rfl) ?_
        refine g_istore C [(6, vI 0), (0, .ref (eA E 7 0)), (1, vJ p1), (3, vJ x3), (5, vI x5)] hl (by decide) rfl (gdec kX7_digestOfRoad 12 rfl) (fun ls hl => ?_)
        refine L22 gFuel _ _ _ _ (fun y3_8 y5_8 y6_8 hf H locs h ls hl => ?_) H locs h ls (lv_sub hl [1, 2, 3, 4, 0] rfl) hf
        refine g_iinc C (k := 3) [(5, vI (y5_8 + 1)), (0, .ref (eA E 7 0)), (1, vJ p1), (3, vJ y3_8), (6, vI y6_8)] hl rfl (by decide) rfl (gdec kX7_digestOfRoad 29 rfl) (fun ls hl => ?_)
        refine g_goto C (tgt := 5) (by decide) (gdec kX7_digestOfRoad 30 rfl) ?_
        exact ih _ _ k hK H locs h ls (lv_sub hl [1, 2, 3, 0] rfl) hf
      · replace hf := ifn c3 hf
        exact hK _ _ hf H locs h ls (lv_sub hl [0, 1, 2, 3] rfl)
  have L77 : ∀ (n : Nat) (x3 : Int) (x5 : Int) (x6 : Int) (k : (Int → Int → Int → Option (Int))) (hK : ∀ (x3 : Int) (x5 : Int) (x6 : Int), k x3 x5 x6 = some rz → ∀ (H : Heap) (locs : List Loc), gH E s G H locs → ∀ ls, lv_has ls 7 [(0, .ref (eA E 7 0)), (1, vJ p1), (3, vJ x3), (5, vI x5), (6, vI x6)] → W p l e (gRm 4 88 0 0) s m ([.ref (eA E 7 0), vJ p1] : List Value).toArray below meth c H locs 0 0 (MQ below (gQl E G rz) ([.ref (eA E 7 0), vJ p1] : List Value).toArray s 0 0 (eF E)) (F0 m 109 ls [])), ∀ (H : Heap) (locs : List Loc), gH E s G H locs → ∀ ls, lv_has ls 7 [(0, .ref (eA E 7 0)), (1, vJ p1), (3, vJ x3), (5, vI x5), (6, vI x6)] → f_X7_digestOfRoad_L77 G p1 n x3 x5 x6 k = some rz → W p l e (gRm 4 88 0 0) s m ([.ref (eA E 7 0), vJ p1] : List Value).toArray below meth c H locs 0 0 (MQ below (gQl E G rz) ([.ref (eA E 7 0), vJ p1] : List Value).toArray s 0 0 (eF E)) (F0 m 77 ls []) := by
    intro n
    induction n with
    | zero =>
      intro x3 x5 x6 k hK H locs h ls hl hf
      exact absurd hf (by simp [f_X7_digestOfRoad_L77])
    | succ n ih =>
      intro x3 x5 x6 k hK H locs h ls hl hf
      unfold f_X7_digestOfRoad_L77 at hf
      refine g_iload C hl 4 rfl (gdec kX7_digestOfRoad 40 rfl) ?_
      refine g_bipush C (gdec kX7_digestOfRoad 41 rfl) rfl ?_
      obtain ⟨h15, hf⟩ := gd_s hf
      refine g_icmp_gt C (tgt := 109) h15 (by decide) (by decide) (gdec kX7_digestOfRoad 42 rfl) (fun c16 => ?_) (fun c16 => ?_)
      · replace hf := ifp c16 hf
        exact hK _ _ _ hf H locs h ls (lv_sub hl [0, 1, 2, 3, 4] rfl)
      · replace hf := ifn c16 hf
        refine g_ldc2 C (n := 31) wL_X7_198 rfl (gdec kX7_digestOfRoad 43 rfl) ?_
        refine g_lload_n C hl 2 rfl rfl (gdec kX7_digestOfRoad 44 rfl) ?_
        refine g_lmul C (gdec kX7_digestOfRoad 45 rfl) ?_
        refine g_aload_n C hl 0 rfl rfl (gdec kX7_digestOfRoad 46 rfl) ?_
        refine gf_X7_12 C h ho (gdec kX7_digestOfRoad 47 rfl) ?_
        refine g_iload C hl 3 rfl (gdec kX7_digestOfRoad 48 rfl) ?_
        refine g_iload C hl 4 rfl (gdec kX7_digestOfRoad 49 rfl) ?_
        obtain ⟨r17, q18, hf⟩ := bn1_s hf
        refine g_ci h (g_runV C h (gcl_7_0 C ho) (by decide) rfl (c_X3_aboutInn l E _ _ _ _ (gcl_7_0 C ho) _ q18) wM_X7_117 wI_X3_aboutInn wS_X3_aboutInn wN_X3 wC_X3_aboutInn rfl ny_X3_aboutInn rfl ⟨Nat.le_of_ble_eq_true rfl, Nat.le_of_ble_eq_true rfl⟩ hl.1 rfl (Nat.le_of_ble_eq_true rfl) (gdec kX7_digestOfRoad 50 rfl) ⟨Nat.zero_le _, Nat.zero_le _⟩) (fun H locs h => ?_)
        refine g_i2l C (gdec kX7_digestOfRoad 51 rfl) ?_
        refine g_ladd C (gdec kX7_digestOfRoad 52 rfl) ?_
        refine g_lstore_n C [(3, vJ ((31 * x3) + (bm r17))), (0, .ref (eA E 7 0)), (1, vJ p1), (5, vI x5), (6, vI x6)] hl rfl (by decide) rfl (gdec kX7_digestOfRoad 53 rfl) (fun ls hl => ?_)
        refine g_iinc C (k := 4) [(6, vI (x6 + 1)), (3, vJ ((31 * x3) + (bm r17))), (0, .ref (eA E 7 0)), (1, vJ p1), (5, vI x5)] hl rfl (by decide) rfl (gdec kX7_digestOfRoad 54 rfl) (fun ls hl => ?_)
        refine g_goto C (tgt := 77) (by decide) (gdec kX7_digestOfRoad 55 rfl) ?_
        exact ih _ _ _ k hK H locs h ls (lv_sub hl [2, 3, 1, 4, 0] rfl) hf
  have L62 : ∀ (n : Nat) (x3 : Int) (x5 : Int) (k : (Int → Int → Option (Int))) (hK : ∀ (x3 : Int) (x5 : Int), k x3 x5 = some rz → ∀ (H : Heap) (locs : List Loc), gH E s G H locs → ∀ ls, lv_has ls 7 [(0, .ref (eA E 7 0)), (1, vJ p1), (3, vJ x3), (5, vI x5)] → W p l e (gRm 4 88 0 0) s m ([.ref (eA E 7 0), vJ p1] : List Value).toArray below meth c H locs 0 0 (MQ below (gQl E G rz) ([.ref (eA E 7 0), vJ p1] : List Value).toArray s 0 0 (eF E)) (F0 m 115 ls [])), ∀ (H : Heap) (locs : List Loc), gH E s G H locs → ∀ ls, lv_has ls 7 [(0, .ref (eA E 7 0)), (1, vJ p1), (3, vJ x3), (5, vI x5)] → f_X7_digestOfRoad_L62 G p1 n x3 x5 k = some rz → W p l e (gRm 4 88 0 0) s m ([.ref (eA E 7 0), vJ p1] : List Value).toArray below meth c H locs 0 0 (MQ below (gQl E G rz) ([.ref (eA E 7 0), vJ p1] : List Value).toArray s 0 0 (eF E)) (F0 m 62 ls []) := by
    intro n
    induction n with
    | zero =>
      intro x3 x5 k hK H locs h ls hl hf
      exact absurd hf (by simp [f_X7_digestOfRoad_L62])
    | succ n ih =>
      intro x3 x5 k hK H locs h ls hl hf
      unfold f_X7_digestOfRoad_L62 at hf
      refine g_iload C hl 3 rfl (gdec kX7_digestOfRoad 33 rfl) ?_
      refine g_aload_n C hl 0 rfl rfl (gdec kX7_digestOfRoad 34 rfl) ?_
      refine gf_X7_12 C h ho (gdec kX7_digestOfRoad 35 rfl) ?_
      refine gf_X7_33 C h (gcl_7_0 C ho) (gdec kX7_digestOfRoad 36 rfl) ?_
      obtain ⟨h12, hf⟩ := gd_s hf
      obtain ⟨h13, hf⟩ := gd_s hf
      refine g_icmp_ge C (tgt := 115) h12 h13 (by decide) (gdec kX7_digestOfRoad 37 rfl) (fun c14 => ?_) (fun c14 => ?_)
      · replace hf := ifp c14 hf
        refine g_iconst C (gdec kX7_digestOfRoad 38 rfl) ?_
        refine g_istore C [(6, vI 0), (0, .ref (eA E 7 0)), (1, vJ p1), (3, vJ x3), (5, vI x5)] hl (by decide) rfl (gdec kX7_digestOfRoad 39 rfl) (fun ls hl => ?_)
        refine L77 gFuel _ _ _ _ (fun y3_19 y5_19 y6_19 hf H locs h ls hl => ?_) H locs h ls (lv_sub hl [1, 2, 3, 4, 0] rfl) hf
        refine g_iinc C (k := 3) [(5, vI (y5_19 + 1)), (0, .ref (eA E 7 0)), (1, vJ p1), (3, vJ y3_19), (6, vI y6_19)] hl rfl (by decide) rfl (gdec kX7_digestOfRoad 56 rfl) (fun ls hl => ?_)
        refine g_goto C (tgt := 62) (by decide) (gdec kX7_digestOfRoad 57 rfl) ?_
        exact ih _ _ k hK H locs h ls (lv_sub hl [1, 2, 3, 0] rfl) hf
      · replace hf := ifn c14 hf
        exact hK _ _ hf H locs h ls (lv_sub hl [0, 1, 2, 3] rfl)
  unfold f_X7_digestOfRoad at hf
  refine g_lload_n C hl 1 rfl rfl (gdec kX7_digestOfRoad 0 rfl) ?_
  refine g_lstore_n C [(3, vJ p1), (0, .ref (eA E 7 0)), (1, vJ p1)] hl rfl (by decide) rfl (gdec kX7_digestOfRoad 1 rfl) (fun ls hl => ?_)
  refine g_iconst C (gdec kX7_digestOfRoad 2 rfl) ?_
  refine g_istore C [(5, vI 0), (3, vJ p1), (0, .ref (eA E 7 0)), (1, vJ p1)] hl (by decide) rfl (gdec kX7_digestOfRoad 3 rfl) (fun ls hl => ?_)
  refine L5 gFuel _ _ _ (fun y3_10 y5_10 hf H locs h ls hl => ?_) H locs h ls (lv_sub hl [2, 3, 1, 0] rfl) hf
  refine g_iconst C (gdec kX7_digestOfRoad 31 rfl) ?_
  refine g_istore C [(5, vI 0), (0, .ref (eA E 7 0)), (1, vJ p1), (3, vJ y3_10)] hl (by decide) rfl (gdec kX7_digestOfRoad 32 rfl) (fun ls hl => ?_)
  refine L62 gFuel _ _ _ (fun y3_21 y5_21 hf H locs h ls hl => ?_) H locs h ls (lv_sub hl [1, 2, 3, 0] rfl) hf
  refine g_lload_n C hl 2 rfl rfl (gdec kX7_digestOfRoad 58 rfl) ?_
  exact g_lret C h (congrArg (Option.map (Prod.mk _)) hf) (gdec kX7_digestOfRoad 59 rfl)
def f_X6_about (G : GS) (o : Int) (p1 : Int) : Option (Int) :=
  gd p1 (if p1 = 0 then some (G 6 o 0) else if p1 = 1 then some (G 6 o 1) else if p1 = 2 then some (G 6 o 2) else if p1 = 3 then some (G 6 o 5) else if p1 = 4 then some (G 6 o 6) else if p1 = 5 then bn1 (f_X7_oneIf G (G 6 o 7)) (fun r8 => some r8) else if p1 = 6 then some (G 6 o 8) else if p1 = 7 then some (G 6 o 9) else if p1 = 8 then some (G 6 o 10) else some (G 6 o 11))
set_option maxHeartbeats 4000000 in
set_option maxRecDepth 100000 in
theorem c_X6_about (l : Launch) (E : gEnv) (G : GS) (o : Int) (p1 : Int) (ho : gOk E 6 o) (rz : Int) (hf : f_X6_about G o p1 = some rz) : gMet l yX6_about cX6_about 2 (some .int) 1 20 0 0 [.ref (eA E 6 o), vI p1] E G (gQi E G rz) := by
  refine g_met (by decide +kernel) (Nat.le_of_ble_eq_true rfl) ?_
  intro p e s m below meth c C H locs h ls hl
  have C : gC p s m _ meth c RX6 cX6_about 2 (some .int) E := C
  have hl : lv_has ls 2 [(0, .ref (eA E 6 o)), (1, vI p1)] := hl
  unfold f_X6_about at hf
  refine g_iload_n C hl 1 rfl rfl (gdec kX6_about 0 rfl) ?_
  obtain ⟨h1, hf⟩ := gd_s hf
  by_cases c2 : p1 = 0
  · replace hf := ifp c2 hf
    refine g_tableIn C (tgt := 52) c2 (by decide) (by decide) (by decide) rfl (by decide) (gdec kX6_about 1 rfl) ?_
    refine g_aload_n C hl 0 rfl rfl (gdec kX6_about 2 rfl) ?_
    refine gf_X6_9 C h ho (gdec kX6_about 3 rfl) ?_
    exact g_iret C h (congrArg (Option.map (Prod.mk _)) hf) (gdec kX6_about 4 rfl)
  replace hf := ifn c2 hf
  by_cases c3 : p1 = 1
  · replace hf := ifp c3 hf
    refine g_tableIn C (tgt := 57) c3 (by decide) (by decide) (by decide) rfl (by decide) (gdec kX6_about 1 rfl) ?_
    refine g_aload_n C hl 0 rfl rfl (gdec kX6_about 5 rfl) ?_
    refine gf_X6_15 C h ho (gdec kX6_about 6 rfl) ?_
    exact g_iret C h (congrArg (Option.map (Prod.mk _)) hf) (gdec kX6_about 7 rfl)
  replace hf := ifn c3 hf
  by_cases c4 : p1 = 2
  · replace hf := ifp c4 hf
    refine g_tableIn C (tgt := 62) c4 (by decide) (by decide) (by decide) rfl (by decide) (gdec kX6_about 1 rfl) ?_
    refine g_aload_n C hl 0 rfl rfl (gdec kX6_about 8 rfl) ?_
    refine gf_X6_38 C h ho (gdec kX6_about 9 rfl) ?_
    exact g_iret C h (congrArg (Option.map (Prod.mk _)) hf) (gdec kX6_about 10 rfl)
  replace hf := ifn c4 hf
  by_cases c5 : p1 = 3
  · replace hf := ifp c5 hf
    refine g_tableIn C (tgt := 67) c5 (by decide) (by decide) (by decide) rfl (by decide) (gdec kX6_about 1 rfl) ?_
    refine g_aload_n C hl 0 rfl rfl (gdec kX6_about 11 rfl) ?_
    refine gf_X6_44 C h ho (gdec kX6_about 12 rfl) ?_
    exact g_iret C h (congrArg (Option.map (Prod.mk _)) hf) (gdec kX6_about 13 rfl)
  replace hf := ifn c5 hf
  by_cases c6 : p1 = 4
  · replace hf := ifp c6 hf
    refine g_tableIn C (tgt := 72) c6 (by decide) (by decide) (by decide) rfl (by decide) (gdec kX6_about 1 rfl) ?_
    refine g_aload_n C hl 0 rfl rfl (gdec kX6_about 14 rfl) ?_
    refine gf_X6_47 C h ho (gdec kX6_about 15 rfl) ?_
    exact g_iret C h (congrArg (Option.map (Prod.mk _)) hf) (gdec kX6_about 16 rfl)
  replace hf := ifn c6 hf
  by_cases c7 : p1 = 5
  · replace hf := ifp c7 hf
    refine g_tableIn C (tgt := 77) c7 (by decide) (by decide) (by decide) rfl (by decide) (gdec kX6_about 1 rfl) ?_
    refine g_aload_n C hl 0 rfl rfl (gdec kX6_about 17 rfl) ?_
    refine gf_X6_50 C h ho (gdec kX6_about 18 rfl) ?_
    obtain ⟨r8, q9, hf⟩ := bn1_s hf
    refine g_ci h (g_runSN C h (c_X7_oneIf l E _ _ _ q9) wNest_X6_65 wT_X7_oneIf wN_X7 wC_X7_oneIf ny_X7_oneIf rfl ⟨Nat.le_of_ble_eq_true rfl, Nat.le_of_ble_eq_true rfl⟩ hl.1 rfl (Nat.le_of_ble_eq_true rfl) (gdec kX6_about 19 rfl) ⟨Nat.zero_le _, Nat.zero_le _⟩) (fun H locs h => ?_)
    exact g_iret C h (congrArg (Option.map (Prod.mk _)) hf) (gdec kX6_about 20 rfl)
  replace hf := ifn c7 hf
  by_cases c10 : p1 = 6
  · replace hf := ifp c10 hf
    refine g_tableIn C (tgt := 85) c10 (by decide) (by decide) (by decide) rfl (by decide) (gdec kX6_about 1 rfl) ?_
    refine g_aload_n C hl 0 rfl rfl (gdec kX6_about 21 rfl) ?_
    refine gf_X6_26 C h ho (gdec kX6_about 22 rfl) ?_
    exact g_iret C h (congrArg (Option.map (Prod.mk _)) hf) (gdec kX6_about 23 rfl)
  replace hf := ifn c10 hf
  by_cases c11 : p1 = 7
  · replace hf := ifp c11 hf
    refine g_tableIn C (tgt := 90) c11 (by decide) (by decide) (by decide) rfl (by decide) (gdec kX6_about 1 rfl) ?_
    refine g_aload_n C hl 0 rfl rfl (gdec kX6_about 24 rfl) ?_
    refine gf_X6_29 C h ho (gdec kX6_about 25 rfl) ?_
    exact g_iret C h (congrArg (Option.map (Prod.mk _)) hf) (gdec kX6_about 26 rfl)
  replace hf := ifn c11 hf
  by_cases c12 : p1 = 8
  · replace hf := ifp c12 hf
    refine g_tableIn C (tgt := 95) c12 (by decide) (by decide) (by decide) rfl (by decide) (gdec kX6_about 1 rfl) ?_
    refine g_aload_n C hl 0 rfl rfl (gdec kX6_about 27 rfl) ?_
    refine gf_X6_32 C h ho (gdec kX6_about 28 rfl) ?_
    exact g_iret C h (congrArg (Option.map (Prod.mk _)) hf) (gdec kX6_about 29 rfl)
  replace hf := ifn c12 hf
  refine g_tableOut C (tgt := 100) h1 (by omega) (by decide) (gdec kX6_about 1 rfl) ?_
  refine g_aload_n C hl 0 rfl rfl (gdec kX6_about 30 rfl) ?_
  refine gf_X6_35 C h ho (gdec kX6_about 31 rfl) ?_
  exact g_iret C h (congrArg (Option.map (Prod.mk _)) hf) (gdec kX6_about 32 rfl)
def f_X7_digestOfTeams_L20 (G : GS) (p1 : Int) : Nat → Int → Int → Int → (Int → Int → Int → Option (Int)) → Option (Int)
  | 0, _, _, _, _ => none
  | n + 1, x3, x5, x6, k => gd x6 (if 9 < x6 then k x3 x5 x6 else ga x5 10 (bn1 (f_X6_about G (10 * 0 + x5) x6) (fun r8 => f_X7_digestOfTeams_L20 G p1 n ((31 * x3) + (bm r8)) x5 (x6 + 1) k)))
def f_X7_digestOfTeams_L5 (G : GS) (p1 : Int) : Nat → Int → Int → (Int → Int → Option (Int)) → Option (Int)
  | 0, _, _, _ => none
  | n + 1, x3, x5, k => gd x5 (gd (G 3 0 5) (if x5 < (G 3 0 5) then f_X7_digestOfTeams_L20 G p1 gFuel x3 x5 0 (fun y3_10 y5_10 y6_10 => f_X7_digestOfTeams_L5 G p1 n y3_10 (y5_10 + 1) k) else k x3 x5))
def f_X7_digestOfTeams (G : GS) (p1 : Int) : Option (Int) :=
  f_X7_digestOfTeams_L5 G p1 gFuel p1 0 (fun y3_12 y5_12 => some y3_12)
set_option maxHeartbeats 4000000 in
set_option maxRecDepth 100000 in
theorem c_X7_digestOfTeams (l : Launch) (E : gEnv) (G : GS) (p1 : Int) (ho : gOk E 7 0) (rz : Int) (hf : f_X7_digestOfTeams G p1 = some rz) : gMet l yX7_digestOfTeams cX7_digestOfTeams 7 (some .long) 2 41 0 0 [.ref (eA E 7 0), vJ p1] E G (gQl E G rz) := by
  refine g_met (by decide +kernel) (Nat.le_of_ble_eq_true rfl) ?_
  intro p e s m below meth c C H locs h ls hl
  have C : gC p s m _ meth c RX7 cX7_digestOfTeams 7 (some .long) E := C
  have hl : lv_has ls 7 [(0, .ref (eA E 7 0)), (1, vJ p1)] := hl
  have L20 : ∀ (n : Nat) (x3 : Int) (x5 : Int) (x6 : Int) (k : (Int → Int → Int → Option (Int))) (hK : ∀ (x3 : Int) (x5 : Int) (x6 : Int), k x3 x5 x6 = some rz → ∀ (H : Heap) (locs : List Loc), gH E s G H locs → ∀ ls, lv_has ls 7 [(0, .ref (eA E 7 0)), (1, vJ p1), (3, vJ x3), (5, vI x5), (6, vI x6)] → W p l e (gRm 2 41 0 0) s m ([.ref (eA E 7 0), vJ p1] : List Value).toArray below meth c H locs 0 0 (MQ below (gQl E G rz) ([.ref (eA E 7 0), vJ p1] : List Value).toArray s 0 0 (eF E)) (F0 m 55 ls [])), ∀ (H : Heap) (locs : List Loc), gH E s G H locs → ∀ ls, lv_has ls 7 [(0, .ref (eA E 7 0)), (1, vJ p1), (3, vJ x3), (5, vI x5), (6, vI x6)] → f_X7_digestOfTeams_L20 G p1 n x3 x5 x6 k = some rz → W p l e (gRm 2 41 0 0) s m ([.ref (eA E 7 0), vJ p1] : List Value).toArray below meth c H locs 0 0 (MQ below (gQl E G rz) ([.ref (eA E 7 0), vJ p1] : List Value).toArray s 0 0 (eF E)) (F0 m 20 ls []) := by
    intro n
    induction n with
    | zero =>
      intro x3 x5 x6 k hK H locs h ls hl hf
      exact absurd hf (by simp [f_X7_digestOfTeams_L20])
    | succ n ih =>
      intro x3 x5 x6 k hK H locs h ls hl hf
      unfold f_X7_digestOfTeams_L20 at hf
      refine g_iload C hl 4 rfl (gdec kX7_digestOfTeams 11 rfl) ?_
      refine g_bipush C (gdec kX7_digestOfTeams 12 rfl) rfl ?_
      obtain ⟨h4, hf⟩ := gd_s hf
      refine g_icmp_gt C (tgt := 55) h4 (by decide) (by decide) (gdec kX7_digestOfTeams 13 rfl) (fun c5 => ?_) (fun c5 => ?_)
      · replace hf := ifp c5 hf
        exact hK _ _ _ hf H locs h ls (lv_sub hl [0, 1, 2, 3, 4] rfl)
      · replace hf := ifn c5 hf
        refine g_ldc2 C (n := 31) wL_X7_198 rfl (gdec kX7_digestOfTeams 14 rfl) ?_
        refine g_lload_n C hl 2 rfl rfl (gdec kX7_digestOfTeams 15 rfl) ?_
        refine g_lmul C (gdec kX7_digestOfTeams 16 rfl) ?_
        refine g_aload_n C hl 0 rfl rfl (gdec kX7_digestOfTeams 17 rfl) ?_
        refine gf_X7_12 C h ho (gdec kX7_digestOfTeams 18 rfl) ?_
        refine g_iload C hl 3 rfl (gdec kX7_digestOfTeams 19 rfl) ?_
        obtain ⟨h6, hf⟩ := ga_s hf
        refine g_cr h (g_runV C h (gcl_7_0 C ho) (by decide) rfl (c_X3_teamRow l E _ _ _ (gcl_7_0 C ho) _ (e_X3_teamRow _ _ _ h6)) wM_X7_120 wI_X3_teamRow wS_X3_teamRow wN_X3 wC_X3_teamRow rfl ny_X3_teamRow rfl ⟨Nat.le_of_ble_eq_true rfl, Nat.le_of_ble_eq_true rfl⟩ hl.1 rfl (Nat.le_of_ble_eq_true rfl) (gdec kX7_digestOfTeams 20 rfl) ⟨Nat.zero_le _, Nat.zero_le _⟩) (fun H locs h => ?_)
        have k7 : gOk E 6 (10 * 0 + x5) := gok6 C (gcl_3_2 C (gcl_7_0 C ho)) h6
        refine g_iload C hl 4 rfl (gdec kX7_digestOfTeams 21 rfl) ?_
        obtain ⟨r8, q9, hf⟩ := bn1_s hf
        refine g_ci h (g_runV C h k7 (by decide) rfl (c_X6_about l E _ _ _ k7 _ q9) wM_X7_124 wI_X6_about wS_X6_about wN_X6 wC_X6_about rfl ny_X6_about rfl ⟨Nat.le_of_ble_eq_true rfl, Nat.le_of_ble_eq_true rfl⟩ hl.1 rfl (Nat.le_of_ble_eq_true rfl) (gdec kX7_digestOfTeams 22 rfl) ⟨Nat.zero_le _, Nat.zero_le _⟩) (fun H locs h => ?_)
        refine g_i2l C (gdec kX7_digestOfTeams 23 rfl) ?_
        refine g_ladd C (gdec kX7_digestOfTeams 24 rfl) ?_
        refine g_lstore_n C [(3, vJ ((31 * x3) + (bm r8))), (0, .ref (eA E 7 0)), (1, vJ p1), (5, vI x5), (6, vI x6)] hl rfl (by decide) rfl (gdec kX7_digestOfTeams 25 rfl) (fun ls hl => ?_)
        refine g_iinc C (k := 4) [(6, vI (x6 + 1)), (3, vJ ((31 * x3) + (bm r8))), (0, .ref (eA E 7 0)), (1, vJ p1), (5, vI x5)] hl rfl (by decide) rfl (gdec kX7_digestOfTeams 26 rfl) (fun ls hl => ?_)
        refine g_goto C (tgt := 20) (by decide) (gdec kX7_digestOfTeams 27 rfl) ?_
        exact ih _ _ _ k hK H locs h ls (lv_sub hl [2, 3, 1, 4, 0] rfl) hf
  have L5 : ∀ (n : Nat) (x3 : Int) (x5 : Int) (k : (Int → Int → Option (Int))) (hK : ∀ (x3 : Int) (x5 : Int), k x3 x5 = some rz → ∀ (H : Heap) (locs : List Loc), gH E s G H locs → ∀ ls, lv_has ls 7 [(0, .ref (eA E 7 0)), (1, vJ p1), (3, vJ x3), (5, vI x5)] → W p l e (gRm 2 41 0 0) s m ([.ref (eA E 7 0), vJ p1] : List Value).toArray below meth c H locs 0 0 (MQ below (gQl E G rz) ([.ref (eA E 7 0), vJ p1] : List Value).toArray s 0 0 (eF E)) (F0 m 61 ls [])), ∀ (H : Heap) (locs : List Loc), gH E s G H locs → ∀ ls, lv_has ls 7 [(0, .ref (eA E 7 0)), (1, vJ p1), (3, vJ x3), (5, vI x5)] → f_X7_digestOfTeams_L5 G p1 n x3 x5 k = some rz → W p l e (gRm 2 41 0 0) s m ([.ref (eA E 7 0), vJ p1] : List Value).toArray below meth c H locs 0 0 (MQ below (gQl E G rz) ([.ref (eA E 7 0), vJ p1] : List Value).toArray s 0 0 (eF E)) (F0 m 5 ls []) := by
    intro n
    induction n with
    | zero =>
      intro x3 x5 k hK H locs h ls hl hf
      exact absurd hf (by simp [f_X7_digestOfTeams_L5])
    | succ n ih =>
      intro x3 x5 k hK H locs h ls hl hf
      unfold f_X7_digestOfTeams_L5 at hf
      refine g_iload C hl 3 rfl (gdec kX7_digestOfTeams 4 rfl) ?_
      refine g_aload_n C hl 0 rfl rfl (gdec kX7_digestOfTeams 5 rfl) ?_
      refine gf_X7_12 C h ho (gdec kX7_digestOfTeams 6 rfl) ?_
      refine gf_X7_72 C h (gcl_7_0 C ho) (gdec kX7_digestOfTeams 7 rfl) ?_
      obtain ⟨h1, hf⟩ := gd_s hf
      obtain ⟨h2, hf⟩ := gd_s hf
      refine g_icmp_ge C (tgt := 61) h1 h2 (by decide) (gdec kX7_digestOfTeams 8 rfl) (fun c3 => ?_) (fun c3 => ?_)
      · replace hf := ifp c3 hf
        refine g_iconst C (gdec kX7_digestOfTeams 9 rfl) ?_
        refine g_istore C [(6, vI 0), (0, .ref (eA E 7 0)), (1, vJ p1), (3, vJ x3), (5, vI x5)] hl (by decide) rfl (gdec kX7_digestOfTeams 10 rfl) (fun ls hl => ?_)
        refine L20 gFuel _ _ _ _ (fun y3_10 y5_10 y6_10 hf H locs h ls hl => ?_) H locs h ls (lv_sub hl [1, 2, 3, 4, 0] rfl) hf
        refine g_iinc C (k := 3) [(5, vI (y5_10 + 1)), (0, .ref (eA E 7 0)), (1, vJ p1), (3, vJ y3_10), (6, vI y6_10)] hl rfl (by decide) rfl (gdec kX7_digestOfTeams 28 rfl) (fun ls hl => ?_)
        refine g_goto C (tgt := 5) (by decide) (gdec kX7_digestOfTeams 29 rfl) ?_
        exact ih _ _ k hK H locs h ls (lv_sub hl [1, 2, 3, 0] rfl) hf
      · replace hf := ifn c3 hf
        exact hK _ _ hf H locs h ls (lv_sub hl [0, 1, 2, 3] rfl)
  unfold f_X7_digestOfTeams at hf
  refine g_lload_n C hl 1 rfl rfl (gdec kX7_digestOfTeams 0 rfl) ?_
  refine g_lstore_n C [(3, vJ p1), (0, .ref (eA E 7 0)), (1, vJ p1)] hl rfl (by decide) rfl (gdec kX7_digestOfTeams 1 rfl) (fun ls hl => ?_)
  refine g_iconst C (gdec kX7_digestOfTeams 2 rfl) ?_
  refine g_istore C [(5, vI 0), (3, vJ p1), (0, .ref (eA E 7 0)), (1, vJ p1)] hl (by decide) rfl (gdec kX7_digestOfTeams 3 rfl) (fun ls hl => ?_)
  refine L5 gFuel _ _ _ (fun y3_12 y5_12 hf H locs h ls hl => ?_) H locs h ls (lv_sub hl [2, 3, 1, 0] rfl) hf
  refine g_lload_n C hl 2 rfl rfl (gdec kX7_digestOfTeams 30 rfl) ?_
  exact g_lret C h (congrArg (Option.map (Prod.mk _)) hf) (gdec kX7_digestOfTeams 31 rfl)
def f_X2_about (G : GS) (o : Int) (p1 : Int) : Option (Int) :=
  gd p1 (if p1 = 0 then some (G 2 o 0) else if p1 = 1 then some (G 2 o 1) else if p1 = 2 then bn1 (f_X7_oneIf G (G 2 o 2)) (fun r5 => some r5) else if p1 = 3 then some (G 2 o 3) else if p1 = 4 then some (G 2 o 4) else if p1 = 5 then some (G 2 o 5) else if p1 = 6 then some (G 2 o 6) else some (G 2 o 7))
set_option maxHeartbeats 4000000 in
set_option maxRecDepth 100000 in
theorem c_X2_about (l : Launch) (E : gEnv) (G : GS) (o : Int) (p1 : Int) (ho : gOk E 2 o) (rz : Int) (hf : f_X2_about G o p1 = some rz) : gMet l yX2_about cX2_about 2 (some .int) 1 20 0 0 [.ref (eA E 2 o), vI p1] E G (gQi E G rz) := by
  refine g_met (by decide +kernel) (Nat.le_of_ble_eq_true rfl) ?_
  intro p e s m below meth c C H locs h ls hl
  have C : gC p s m _ meth c RX2 cX2_about 2 (some .int) E := C
  have hl : lv_has ls 2 [(0, .ref (eA E 2 o)), (1, vI p1)] := hl
  unfold f_X2_about at hf
  refine g_iload_n C hl 1 rfl rfl (gdec kX2_about 0 rfl) ?_
  obtain ⟨h1, hf⟩ := gd_s hf
  by_cases c2 : p1 = 0
  · replace hf := ifp c2 hf
    refine g_tableIn C (tgt := 44) c2 (by decide) (by decide) (by decide) rfl (by decide) (gdec kX2_about 1 rfl) ?_
    refine g_aload_n C hl 0 rfl rfl (gdec kX2_about 2 rfl) ?_
    refine gf_X2_9 C h ho (gdec kX2_about 3 rfl) ?_
    exact g_iret C h (congrArg (Option.map (Prod.mk _)) hf) (gdec kX2_about 4 rfl)
  replace hf := ifn c2 hf
  by_cases c3 : p1 = 1
  · replace hf := ifp c3 hf
    refine g_tableIn C (tgt := 49) c3 (by decide) (by decide) (by decide) rfl (by decide) (gdec kX2_about 1 rfl) ?_
    refine g_aload_n C hl 0 rfl rfl (gdec kX2_about 5 rfl) ?_
    refine gf_X2_15 C h ho (gdec kX2_about 6 rfl) ?_
    exact g_iret C h (congrArg (Option.map (Prod.mk _)) hf) (gdec kX2_about 7 rfl)
  replace hf := ifn c3 hf
  by_cases c4 : p1 = 2
  · replace hf := ifp c4 hf
    refine g_tableIn C (tgt := 54) c4 (by decide) (by decide) (by decide) rfl (by decide) (gdec kX2_about 1 rfl) ?_
    refine g_aload_n C hl 0 rfl rfl (gdec kX2_about 8 rfl) ?_
    refine gf_X2_18 C h ho (gdec kX2_about 9 rfl) ?_
    obtain ⟨r5, q6, hf⟩ := bn1_s hf
    refine g_ci h (g_runSN C h (c_X7_oneIf l E _ _ _ q6) wNest_X2_44 wT_X7_oneIf wN_X7 wC_X7_oneIf ny_X7_oneIf rfl ⟨Nat.le_of_ble_eq_true rfl, Nat.le_of_ble_eq_true rfl⟩ hl.1 rfl (Nat.le_of_ble_eq_true rfl) (gdec kX2_about 10 rfl) ⟨Nat.zero_le _, Nat.zero_le _⟩) (fun H locs h => ?_)
    exact g_iret C h (congrArg (Option.map (Prod.mk _)) hf) (gdec kX2_about 11 rfl)
  replace hf := ifn c4 hf
  by_cases c7 : p1 = 3
  · replace hf := ifp c7 hf
    refine g_tableIn C (tgt := 62) c7 (by decide) (by decide) (by decide) rfl (by decide) (gdec kX2_about 1 rfl) ?_
    refine g_aload_n C hl 0 rfl rfl (gdec kX2_about 12 rfl) ?_
    refine gf_X2_22 C h ho (gdec kX2_about 13 rfl) ?_
    exact g_iret C h (congrArg (Option.map (Prod.mk _)) hf) (gdec kX2_about 14 rfl)
  replace hf := ifn c7 hf
  by_cases c8 : p1 = 4
  · replace hf := ifp c8 hf
    refine g_tableIn C (tgt := 67) c8 (by decide) (by decide) (by decide) rfl (by decide) (gdec kX2_about 1 rfl) ?_
    refine g_aload_n C hl 0 rfl rfl (gdec kX2_about 15 rfl) ?_
    refine gf_X2_25 C h ho (gdec kX2_about 16 rfl) ?_
    exact g_iret C h (congrArg (Option.map (Prod.mk _)) hf) (gdec kX2_about 17 rfl)
  replace hf := ifn c8 hf
  by_cases c9 : p1 = 5
  · replace hf := ifp c9 hf
    refine g_tableIn C (tgt := 72) c9 (by decide) (by decide) (by decide) rfl (by decide) (gdec kX2_about 1 rfl) ?_
    refine g_aload_n C hl 0 rfl rfl (gdec kX2_about 18 rfl) ?_
    refine gf_X2_28 C h ho (gdec kX2_about 19 rfl) ?_
    exact g_iret C h (congrArg (Option.map (Prod.mk _)) hf) (gdec kX2_about 20 rfl)
  replace hf := ifn c9 hf
  by_cases c10 : p1 = 6
  · replace hf := ifp c10 hf
    refine g_tableIn C (tgt := 77) c10 (by decide) (by decide) (by decide) rfl (by decide) (gdec kX2_about 1 rfl) ?_
    refine g_aload_n C hl 0 rfl rfl (gdec kX2_about 21 rfl) ?_
    refine gf_X2_31 C h ho (gdec kX2_about 22 rfl) ?_
    exact g_iret C h (congrArg (Option.map (Prod.mk _)) hf) (gdec kX2_about 23 rfl)
  replace hf := ifn c10 hf
  refine g_tableOut C (tgt := 82) h1 (by omega) (by decide) (gdec kX2_about 1 rfl) ?_
  refine g_aload_n C hl 0 rfl rfl (gdec kX2_about 24 rfl) ?_
  refine gf_X2_34 C h ho (gdec kX2_about 25 rfl) ?_
  exact g_iret C h (congrArg (Option.map (Prod.mk _)) hf) (gdec kX2_about 26 rfl)
def f_X7_digestOfLetters_L20 (G : GS) (p1 : Int) : Nat → Int → Int → Int → (Int → Int → Int → Option (Int)) → Option (Int)
  | 0, _, _, _, _ => none
  | n + 1, x3, x5, x6, k => gd x6 (if 7 < x6 then k x3 x5 x6 else ga x5 12 (bn1 (f_X2_about G (12 * 0 + x5) x6) (fun r8 => f_X7_digestOfLetters_L20 G p1 n ((31 * x3) + (bm r8)) x5 (x6 + 1) k)))
def f_X7_digestOfLetters_L5 (G : GS) (p1 : Int) : Nat → Int → Int → (Int → Int → Option (Int)) → Option (Int)
  | 0, _, _, _ => none
  | n + 1, x3, x5, k => gd x5 (gd (G 3 0 6) (if x5 < (G 3 0 6) then f_X7_digestOfLetters_L20 G p1 gFuel x3 x5 0 (fun y3_10 y5_10 y6_10 => bn1 (f_X3_hindrance G 0 y5_10) (fun r12 => f_X7_digestOfLetters_L5 G p1 n ((31 * y3_10) + (bm r12)) (y5_10 + 1) k)) else k x3 x5))
def f_X7_digestOfLetters (G : GS) (p1 : Int) : Option (Int) :=
  f_X7_digestOfLetters_L5 G p1 gFuel p1 0 (fun y3_14 y5_14 => some y3_14)
set_option maxHeartbeats 4000000 in
set_option maxRecDepth 100000 in
theorem c_X7_digestOfLetters (l : Launch) (E : gEnv) (G : GS) (p1 : Int) (ho : gOk E 7 0) (rz : Int) (hf : f_X7_digestOfLetters G p1 = some rz) : gMet l yX7_digestOfLetters cX7_digestOfLetters 7 (some .long) 3 71 0 0 [.ref (eA E 7 0), vJ p1] E G (gQl E G rz) := by
  refine g_met (by decide +kernel) (Nat.le_of_ble_eq_true rfl) ?_
  intro p e s m below meth c C H locs h ls hl
  have C : gC p s m _ meth c RX7 cX7_digestOfLetters 7 (some .long) E := C
  have hl : lv_has ls 7 [(0, .ref (eA E 7 0)), (1, vJ p1)] := hl
  have L20 : ∀ (n : Nat) (x3 : Int) (x5 : Int) (x6 : Int) (k : (Int → Int → Int → Option (Int))) (hK : ∀ (x3 : Int) (x5 : Int) (x6 : Int), k x3 x5 x6 = some rz → ∀ (H : Heap) (locs : List Loc), gH E s G H locs → ∀ ls, lv_has ls 7 [(0, .ref (eA E 7 0)), (1, vJ p1), (3, vJ x3), (5, vI x5), (6, vI x6)] → W p l e (gRm 3 71 0 0) s m ([.ref (eA E 7 0), vJ p1] : List Value).toArray below meth c H locs 0 0 (MQ below (gQl E G rz) ([.ref (eA E 7 0), vJ p1] : List Value).toArray s 0 0 (eF E)) (F0 m 55 ls [])), ∀ (H : Heap) (locs : List Loc), gH E s G H locs → ∀ ls, lv_has ls 7 [(0, .ref (eA E 7 0)), (1, vJ p1), (3, vJ x3), (5, vI x5), (6, vI x6)] → f_X7_digestOfLetters_L20 G p1 n x3 x5 x6 k = some rz → W p l e (gRm 3 71 0 0) s m ([.ref (eA E 7 0), vJ p1] : List Value).toArray below meth c H locs 0 0 (MQ below (gQl E G rz) ([.ref (eA E 7 0), vJ p1] : List Value).toArray s 0 0 (eF E)) (F0 m 20 ls []) := by
    intro n
    induction n with
    | zero =>
      intro x3 x5 x6 k hK H locs h ls hl hf
      exact absurd hf (by simp [f_X7_digestOfLetters_L20])
    | succ n ih =>
      intro x3 x5 x6 k hK H locs h ls hl hf
      unfold f_X7_digestOfLetters_L20 at hf
      refine g_iload C hl 4 rfl (gdec kX7_digestOfLetters 11 rfl) ?_
      refine g_bipush C (gdec kX7_digestOfLetters 12 rfl) rfl ?_
      obtain ⟨h4, hf⟩ := gd_s hf
      refine g_icmp_gt C (tgt := 55) h4 (by decide) (by decide) (gdec kX7_digestOfLetters 13 rfl) (fun c5 => ?_) (fun c5 => ?_)
      · replace hf := ifp c5 hf
        exact hK _ _ _ hf H locs h ls (lv_sub hl [0, 1, 2, 3, 4] rfl)
      · replace hf := ifn c5 hf
        refine g_ldc2 C (n := 31) wL_X7_198 rfl (gdec kX7_digestOfLetters 14 rfl) ?_
        refine g_lload_n C hl 2 rfl rfl (gdec kX7_digestOfLetters 15 rfl) ?_
        refine g_lmul C (gdec kX7_digestOfLetters 16 rfl) ?_
        refine g_aload_n C hl 0 rfl rfl (gdec kX7_digestOfLetters 17 rfl) ?_
        refine gf_X7_12 C h ho (gdec kX7_digestOfLetters 18 rfl) ?_
        refine g_iload C hl 3 rfl (gdec kX7_digestOfLetters 19 rfl) ?_
        obtain ⟨h6, hf⟩ := ga_s hf
        refine g_cr h (g_runV C h (gcl_7_0 C ho) (by decide) rfl (c_X3_letterRow l E _ _ _ (gcl_7_0 C ho) _ (e_X3_letterRow _ _ _ h6)) wM_X7_130 wI_X3_letterRow wS_X3_letterRow wN_X3 wC_X3_letterRow rfl ny_X3_letterRow rfl ⟨Nat.le_of_ble_eq_true rfl, Nat.le_of_ble_eq_true rfl⟩ hl.1 rfl (Nat.le_of_ble_eq_true rfl) (gdec kX7_digestOfLetters 20 rfl) ⟨Nat.zero_le _, Nat.zero_le _⟩) (fun H locs h => ?_)
        have k7 : gOk E 2 (12 * 0 + x5) := gok2 C (gcl_3_3 C (gcl_7_0 C ho)) h6
        refine g_iload C hl 4 rfl (gdec kX7_digestOfLetters 21 rfl) ?_
        obtain ⟨r8, q9, hf⟩ := bn1_s hf
        refine g_ci h (g_runV C h k7 (by decide) rfl (c_X2_about l E _ _ _ k7 _ q9) wM_X7_134 wI_X2_about wS_X2_about wN_X2 wC_X2_about rfl ny_X2_about rfl ⟨Nat.le_of_ble_eq_true rfl, Nat.le_of_ble_eq_true rfl⟩ hl.1 rfl (Nat.le_of_ble_eq_true rfl) (gdec kX7_digestOfLetters 22 rfl) ⟨Nat.zero_le _, Nat.zero_le _⟩) (fun H locs h => ?_)
        refine g_i2l C (gdec kX7_digestOfLetters 23 rfl) ?_
        refine g_ladd C (gdec kX7_digestOfLetters 24 rfl) ?_
        refine g_lstore_n C [(3, vJ ((31 * x3) + (bm r8))), (0, .ref (eA E 7 0)), (1, vJ p1), (5, vI x5), (6, vI x6)] hl rfl (by decide) rfl (gdec kX7_digestOfLetters 25 rfl) (fun ls hl => ?_)
        refine g_iinc C (k := 4) [(6, vI (x6 + 1)), (3, vJ ((31 * x3) + (bm r8))), (0, .ref (eA E 7 0)), (1, vJ p1), (5, vI x5)] hl rfl (by decide) rfl (gdec kX7_digestOfLetters 26 rfl) (fun ls hl => ?_)
        refine g_goto C (tgt := 20) (by decide) (gdec kX7_digestOfLetters 27 rfl) ?_
        exact ih _ _ _ k hK H locs h ls (lv_sub hl [2, 3, 1, 4, 0] rfl) hf
  have L5 : ∀ (n : Nat) (x3 : Int) (x5 : Int) (k : (Int → Int → Option (Int))) (hK : ∀ (x3 : Int) (x5 : Int), k x3 x5 = some rz → ∀ (H : Heap) (locs : List Loc), gH E s G H locs → ∀ ls, lv_has ls 7 [(0, .ref (eA E 7 0)), (1, vJ p1), (3, vJ x3), (5, vI x5)] → W p l e (gRm 3 71 0 0) s m ([.ref (eA E 7 0), vJ p1] : List Value).toArray below meth c H locs 0 0 (MQ below (gQl E G rz) ([.ref (eA E 7 0), vJ p1] : List Value).toArray s 0 0 (eF E)) (F0 m 78 ls [])), ∀ (H : Heap) (locs : List Loc), gH E s G H locs → ∀ ls, lv_has ls 7 [(0, .ref (eA E 7 0)), (1, vJ p1), (3, vJ x3), (5, vI x5)] → f_X7_digestOfLetters_L5 G p1 n x3 x5 k = some rz → W p l e (gRm 3 71 0 0) s m ([.ref (eA E 7 0), vJ p1] : List Value).toArray below meth c H locs 0 0 (MQ below (gQl E G rz) ([.ref (eA E 7 0), vJ p1] : List Value).toArray s 0 0 (eF E)) (F0 m 5 ls []) := by
    intro n
    induction n with
    | zero =>
      intro x3 x5 k hK H locs h ls hl hf
      exact absurd hf (by simp [f_X7_digestOfLetters_L5])
    | succ n ih =>
      intro x3 x5 k hK H locs h ls hl hf
      unfold f_X7_digestOfLetters_L5 at hf
      refine g_iload C hl 3 rfl (gdec kX7_digestOfLetters 4 rfl) ?_
      refine g_aload_n C hl 0 rfl rfl (gdec kX7_digestOfLetters 5 rfl) ?_
      refine gf_X7_12 C h ho (gdec kX7_digestOfLetters 6 rfl) ?_
      refine gf_X7_89 C h (gcl_7_0 C ho) (gdec kX7_digestOfLetters 7 rfl) ?_
      obtain ⟨h1, hf⟩ := gd_s hf
      obtain ⟨h2, hf⟩ := gd_s hf
      refine g_icmp_ge C (tgt := 78) h1 h2 (by decide) (gdec kX7_digestOfLetters 8 rfl) (fun c3 => ?_) (fun c3 => ?_)
      · replace hf := ifp c3 hf
        refine g_iconst C (gdec kX7_digestOfLetters 9 rfl) ?_
        refine g_istore C [(6, vI 0), (0, .ref (eA E 7 0)), (1, vJ p1), (3, vJ x3), (5, vI x5)] hl (by decide) rfl (gdec kX7_digestOfLetters 10 rfl) (fun ls hl => ?_)
        refine L20 gFuel _ _ _ _ (fun y3_10 y5_10 y6_10 hf H locs h ls hl => ?_) H locs h ls (lv_sub hl [1, 2, 3, 4, 0] rfl) hf
        refine g_ldc2 C (n := 31) wL_X7_198 rfl (gdec kX7_digestOfLetters 28 rfl) ?_
        refine g_lload_n C hl 2 rfl rfl (gdec kX7_digestOfLetters 29 rfl) ?_
        refine g_lmul C (gdec kX7_digestOfLetters 30 rfl) ?_
        refine g_aload_n C hl 0 rfl rfl (gdec kX7_digestOfLetters 31 rfl) ?_
        refine gf_X7_12 C h ho (gdec kX7_digestOfLetters 32 rfl) ?_
        refine g_iload C hl 3 rfl (gdec kX7_digestOfLetters 33 rfl) ?_
        obtain ⟨r12, q13, hf⟩ := bn1_s hf
        refine g_ci h (g_runV C h (gcl_7_0 C ho) (by decide) rfl (c_X3_hindrance l E _ _ _ (gcl_7_0 C ho) _ q13) wM_X7_140 wI_X3_hindrance wS_X3_hindrance wN_X3 wC_X3_hindrance rfl ny_X3_hindrance rfl ⟨Nat.le_of_ble_eq_true rfl, Nat.le_of_ble_eq_true rfl⟩ hl.1 rfl (Nat.le_of_ble_eq_true rfl) (gdec kX7_digestOfLetters 34 rfl) ⟨Nat.zero_le _, Nat.zero_le _⟩) (fun H locs h => ?_)
        refine g_i2l C (gdec kX7_digestOfLetters 35 rfl) ?_
        refine g_ladd C (gdec kX7_digestOfLetters 36 rfl) ?_
        refine g_lstore_n C [(3, vJ ((31 * y3_10) + (bm r12))), (0, .ref (eA E 7 0)), (1, vJ p1), (5, vI y5_10), (6, vI y6_10)] hl rfl (by decide) rfl (gdec kX7_digestOfLetters 37 rfl) (fun ls hl => ?_)
        refine g_iinc C (k := 3) [(5, vI (y5_10 + 1)), (3, vJ ((31 * y3_10) + (bm r12))), (0, .ref (eA E 7 0)), (1, vJ p1), (6, vI y6_10)] hl rfl (by decide) rfl (gdec kX7_digestOfLetters 38 rfl) (fun ls hl => ?_)
        refine g_goto C (tgt := 5) (by decide) (gdec kX7_digestOfLetters 39 rfl) ?_
        exact ih _ _ k hK H locs h ls (lv_sub hl [2, 3, 1, 0] rfl) hf
      · replace hf := ifn c3 hf
        exact hK _ _ hf H locs h ls (lv_sub hl [0, 1, 2, 3] rfl)
  unfold f_X7_digestOfLetters at hf
  refine g_lload_n C hl 1 rfl rfl (gdec kX7_digestOfLetters 0 rfl) ?_
  refine g_lstore_n C [(3, vJ p1), (0, .ref (eA E 7 0)), (1, vJ p1)] hl rfl (by decide) rfl (gdec kX7_digestOfLetters 1 rfl) (fun ls hl => ?_)
  refine g_iconst C (gdec kX7_digestOfLetters 2 rfl) ?_
  refine g_istore C [(5, vI 0), (3, vJ p1), (0, .ref (eA E 7 0)), (1, vJ p1)] hl (by decide) rfl (gdec kX7_digestOfLetters 3 rfl) (fun ls hl => ?_)
  refine L5 gFuel _ _ _ (fun y3_14 y5_14 hf H locs h ls hl => ?_) H locs h ls (lv_sub hl [2, 3, 1, 0] rfl) hf
  refine g_lload_n C hl 2 rfl rfl (gdec kX7_digestOfLetters 40 rfl) ?_
  exact g_lret C h (congrArg (Option.map (Prod.mk _)) hf) (gdec kX7_digestOfLetters 41 rfl)
def f_X7_digest_L21 : Nat → GS → Int → Int → (GS → Int → Int → Option (GS × Int)) → Option (GS × Int)
  | 0, _, _, _, _ => none
  | n + 1, G, x1, x3, k => gd x3 (if 10 < x3 then k G x1 x3 else bn1 (f_X3_number G 0 x3) (fun r3 => f_X7_digest_L21 n G ((31 * x1) + (bm r3)) (x3 + 1) k))
def f_X7_digest (G : GS) : Option (GS × Int) :=
  f_X7_digest_L21 gFuel G ((31 * 3491) + (bm (G 4 0 1))) 0 (fun G6 y1_5 y3_5 => bn1 (f_X7_digestOfRoad G6 y1_5) (fun r7 => bn1 (f_X7_digestOfTeams G6 r7) (fun r9 => bn1 (f_X7_digestOfLetters G6 r9) (fun r11 => bn1 (f_X3_copyFrom G6 1 0) (fun G13 => bnd (f_X3_hoursUntilDelivered G13 1 (-1)) (fun G15 r16 => some (G15, (31 * ((31 * r11) + (bm r16))) + (bm (G15 0 0 1)))))))))
set_option maxHeartbeats 4000000 in
set_option maxRecDepth 100000 in
theorem c_X7_digest (l : Launch) (E : gEnv) (G : GS) (ho : gOk E 7 0) (Gz : GS) (rz : Int) (hf : f_X7_digest G = some (Gz, rz)) : gMet l yX7_digest cX7_digest 4 (some .long) 6 137 0 0 [.ref (eA E 7 0)] E G (gQl E Gz rz) := by
  refine g_met (by decide +kernel) (Nat.le_of_ble_eq_true rfl) ?_
  intro p e s m below meth c C H locs h ls hl
  have C : gC p s m _ meth c RX7 cX7_digest 4 (some .long) E := C
  have hl : lv_has ls 4 [(0, .ref (eA E 7 0))] := hl
  have L21 : ∀ (n : Nat) (G : GS) (x1 : Int) (x3 : Int) (k : (GS → Int → Int → Option (GS × Int))) (hK : ∀ (G : GS) (x1 : Int) (x3 : Int), k G x1 x3 = some (Gz, rz) → ∀ (H : Heap) (locs : List Loc), gH E s G H locs → ∀ ls, lv_has ls 4 [(0, .ref (eA E 7 0)), (1, vJ x1), (3, vI x3)] → W p l e (gRm 6 137 0 0) s m ([.ref (eA E 7 0)] : List Value).toArray below meth c H locs 0 0 (MQ below (gQl E Gz rz) ([.ref (eA E 7 0)] : List Value).toArray s 0 0 (eF E)) (F0 m 49 ls [])), ∀ (H : Heap) (locs : List Loc), gH E s G H locs → ∀ ls, lv_has ls 4 [(0, .ref (eA E 7 0)), (1, vJ x1), (3, vI x3)] → f_X7_digest_L21 n G x1 x3 k = some (Gz, rz) → W p l e (gRm 6 137 0 0) s m ([.ref (eA E 7 0)] : List Value).toArray below meth c H locs 0 0 (MQ below (gQl E Gz rz) ([.ref (eA E 7 0)] : List Value).toArray s 0 0 (eF E)) (F0 m 21 ls []) := by
    intro n
    induction n with
    | zero =>
      intro G x1 x3 k hK H locs h ls hl hf
      exact absurd hf (by simp [f_X7_digest_L21])
    | succ n ih =>
      intro G x1 x3 k hK H locs h ls hl hf
      unfold f_X7_digest_L21 at hf
      refine g_iload_n C hl 2 rfl rfl (gdec kX7_digest 13 rfl) ?_
      refine g_bipush C (gdec kX7_digest 14 rfl) rfl ?_
      obtain ⟨h1, hf⟩ := gd_s hf
      refine g_icmp_gt C (tgt := 49) h1 (by decide) (by decide) (gdec kX7_digest 15 rfl) (fun c2 => ?_) (fun c2 => ?_)
      · replace hf := ifp c2 hf
        exact hK _ _ _ hf H locs h ls (lv_sub hl [0, 1, 2] rfl)
      · replace hf := ifn c2 hf
        refine g_ldc2 C (n := 31) wL_X7_198 rfl (gdec kX7_digest 16 rfl) ?_
        refine g_lload_n C hl 1 rfl rfl (gdec kX7_digest 17 rfl) ?_
        refine g_lmul C (gdec kX7_digest 18 rfl) ?_
        refine g_aload_n C hl 0 rfl rfl (gdec kX7_digest 19 rfl) ?_
        refine gf_X7_12 C h ho (gdec kX7_digest 20 rfl) ?_
        refine g_iload_n C hl 2 rfl rfl (gdec kX7_digest 21 rfl) ?_
        obtain ⟨r3, q4, hf⟩ := bn1_s hf
        refine g_ci h (g_runV C h (gcl_7_0 C ho) (by decide) rfl (c_X3_number l E _ _ _ (gcl_7_0 C ho) _ q4) wM_X7_137 wI_X3_number wS_X3_number wN_X3 wC_X3_number rfl ny_X3_number rfl ⟨Nat.le_of_ble_eq_true rfl, Nat.le_of_ble_eq_true rfl⟩ hl.1 rfl (Nat.le_of_ble_eq_true rfl) (gdec kX7_digest 22 rfl) ⟨Nat.zero_le _, Nat.zero_le _⟩) (fun H locs h => ?_)
        refine g_i2l C (gdec kX7_digest 23 rfl) ?_
        refine g_ladd C (gdec kX7_digest 24 rfl) ?_
        refine g_lstore_n C [(1, vJ ((31 * x1) + (bm r3))), (0, .ref (eA E 7 0)), (3, vI x3)] hl rfl (by decide) rfl (gdec kX7_digest 25 rfl) (fun ls hl => ?_)
        refine g_iinc C (k := 2) [(3, vI (x3 + 1)), (1, vJ ((31 * x1) + (bm r3))), (0, .ref (eA E 7 0))] hl rfl (by decide) rfl (gdec kX7_digest 26 rfl) (fun ls hl => ?_)
        refine g_goto C (tgt := 21) (by decide) (gdec kX7_digest 27 rfl) ?_
        exact ih _ _ _ k hK H locs h ls (lv_sub hl [2, 1, 0] rfl) hf
  unfold f_X7_digest at hf
  refine g_ldc2 C (n := 3491) wL_X7_196 rfl (gdec kX7_digest 0 rfl) ?_
  refine g_lstore_n C [(1, vJ 3491), (0, .ref (eA E 7 0))] hl rfl (by decide) rfl (gdec kX7_digest 1 rfl) (fun ls hl => ?_)
  refine g_ldc2 C (n := 31) wL_X7_198 rfl (gdec kX7_digest 2 rfl) ?_
  refine g_lload_n C hl 0 rfl rfl (gdec kX7_digest 3 rfl) ?_
  refine g_lmul C (gdec kX7_digest 4 rfl) ?_
  refine g_aload_n C hl 1 rfl rfl (gdec kX7_digest 5 rfl) ?_
  refine gf_X7_29 C h ho (gdec kX7_digest 6 rfl) ?_
  refine gf_X7_178 C h (gcl_7_3 C ho) (gdec kX7_digest 7 rfl) ?_
  refine g_i2l C (gdec kX7_digest 8 rfl) ?_
  refine g_ladd C (gdec kX7_digest 9 rfl) ?_
  refine g_lstore_n C [(1, vJ ((31 * 3491) + (bm (G 4 0 1)))), (0, .ref (eA E 7 0))] hl rfl (by decide) rfl (gdec kX7_digest 10 rfl) (fun ls hl => ?_)
  refine g_iconst C (gdec kX7_digest 11 rfl) ?_
  refine g_istore_n C [(3, vI 0), (1, vJ ((31 * 3491) + (bm (G 4 0 1)))), (0, .ref (eA E 7 0))] hl rfl (by decide) rfl (gdec kX7_digest 12 rfl) (fun ls hl => ?_)
  refine L21 gFuel _ _ _ _ (fun G6 y1_5 y3_5 hf H locs h ls hl => ?_) H locs h ls (lv_sub hl [2, 1, 0] rfl) hf
  refine g_aload_n C hl 0 rfl rfl (gdec kX7_digest 28 rfl) ?_
  refine g_lload_n C hl 1 rfl rfl (gdec kX7_digest 29 rfl) ?_
  obtain ⟨r7, q8, hf⟩ := bn1_s hf
  refine g_cl h (g_runV C h ho (by decide) rfl (c_X7_digestOfRoad l E _ _ ho _ q8) wM_X7_200 wI_X7_digestOfRoad wS_X7_digestOfRoad wN_X7 wC_X7_digestOfRoad rfl ny_X7_digestOfRoad rfl ⟨Nat.le_of_ble_eq_true rfl, Nat.le_of_ble_eq_true rfl⟩ hl.1 rfl (Nat.le_of_ble_eq_true rfl) (gdec kX7_digest 30 rfl) ⟨Nat.zero_le _, Nat.zero_le _⟩) (fun H locs h => ?_)
  refine g_lstore_n C [(1, vJ r7), (0, .ref (eA E 7 0)), (3, vI y3_5)] hl rfl (by decide) rfl (gdec kX7_digest 31 rfl) (fun ls hl => ?_)
  refine g_aload_n C hl 1 rfl rfl (gdec kX7_digest 32 rfl) ?_
  refine g_lload_n C hl 0 rfl rfl (gdec kX7_digest 33 rfl) ?_
  obtain ⟨r9, q10, hf⟩ := bn1_s hf
  refine g_cl h (g_runV C h ho (by decide) rfl (c_X7_digestOfTeams l E _ _ ho _ q10) wM_X7_204 wI_X7_digestOfTeams wS_X7_digestOfTeams wN_X7 wC_X7_digestOfTeams rfl ny_X7_digestOfTeams rfl ⟨Nat.le_of_ble_eq_true rfl, Nat.le_of_ble_eq_true rfl⟩ hl.1 rfl (Nat.le_of_ble_eq_true rfl) (gdec kX7_digest 34 rfl) ⟨Nat.zero_le _, Nat.zero_le _⟩) (fun H locs h => ?_)
  refine g_lstore_n C [(1, vJ r9), (0, .ref (eA E 7 0)), (3, vI y3_5)] hl rfl (by decide) rfl (gdec kX7_digest 35 rfl) (fun ls hl => ?_)
  refine g_aload_n C hl 1 rfl rfl (gdec kX7_digest 36 rfl) ?_
  refine g_lload_n C hl 0 rfl rfl (gdec kX7_digest 37 rfl) ?_
  obtain ⟨r11, q12, hf⟩ := bn1_s hf
  refine g_cl h (g_runV C h ho (by decide) rfl (c_X7_digestOfLetters l E _ _ ho _ q12) wM_X7_207 wI_X7_digestOfLetters wS_X7_digestOfLetters wN_X7 wC_X7_digestOfLetters rfl ny_X7_digestOfLetters rfl ⟨Nat.le_of_ble_eq_true rfl, Nat.le_of_ble_eq_true rfl⟩ hl.1 rfl (Nat.le_of_ble_eq_true rfl) (gdec kX7_digest 38 rfl) ⟨Nat.zero_le _, Nat.zero_le _⟩) (fun H locs h => ?_)
  refine g_lstore_n C [(1, vJ r11), (0, .ref (eA E 7 0)), (3, vI y3_5)] hl rfl (by decide) rfl (gdec kX7_digest 39 rfl) (fun ls hl => ?_)
  refine g_aload_n C hl 1 rfl rfl (gdec kX7_digest 40 rfl) ?_
  refine gf_X7_16 C h ho (gdec kX7_digest 41 rfl) ?_
  refine g_aload_n C hl 1 rfl rfl (gdec kX7_digest 42 rfl) ?_
  refine gf_X7_12 C h ho (gdec kX7_digest 43 rfl) ?_
  obtain ⟨G13, q14, hf⟩ := bn1_s hf
  refine g_cv h (g_runV C h (gcl_7_1 C ho) (by decide) rfl (c_X3_copyFrom l E _ _ _ (gcl_7_1 C ho) (gcl_7_0 C ho) _ q14) wM_X7_143 wI_X3_copyFrom wS_X3_copyFrom wN_X3 wC_X3_copyFrom rfl ny_X3_copyFrom rfl ⟨Nat.le_of_ble_eq_true rfl, Nat.le_of_ble_eq_true rfl⟩ hl.1 rfl (Nat.le_of_ble_eq_true rfl) (gdec kX7_digest 44 rfl) ⟨Nat.zero_le _, Nat.zero_le _⟩) (fun H locs h => ?_)
  refine g_ldc2 C (n := 31) wL_X7_198 rfl (gdec kX7_digest 45 rfl) ?_
  refine g_lload_n C hl 0 rfl rfl (gdec kX7_digest 46 rfl) ?_
  refine g_lmul C (gdec kX7_digest 47 rfl) ?_
  refine g_aload_n C hl 1 rfl rfl (gdec kX7_digest 48 rfl) ?_
  refine gf_X7_16 C h ho (gdec kX7_digest 49 rfl) ?_
  refine g_iconst C (gdec kX7_digest 50 rfl) ?_
  obtain ⟨G15, r16, q17, hf⟩ := bnd_s hf
  refine g_ci h (g_runV C h (gcl_7_1 C ho) (by decide) rfl (c_X3_hoursUntilDelivered l E _ _ _ (gcl_7_1 C ho) _ _ q17) wM_X7_146 wI_X3_hoursUntilDelivered wS_X3_hoursUntilDelivered wN_X3 wC_X3_hoursUntilDelivered rfl ny_X3_hoursUntilDelivered rfl ⟨Nat.le_of_ble_eq_true rfl, Nat.le_of_ble_eq_true rfl⟩ hl.1 rfl (Nat.le_of_ble_eq_true rfl) (gdec kX7_digest 51 rfl) ⟨Nat.zero_le _, Nat.zero_le _⟩) (fun H locs h => ?_)
  refine g_i2l C (gdec kX7_digest 52 rfl) ?_
  refine g_ladd C (gdec kX7_digest 53 rfl) ?_
  refine g_lstore_n C [(1, vJ ((31 * r11) + (bm r16))), (0, .ref (eA E 7 0)), (3, vI y3_5)] hl rfl (by decide) rfl (gdec kX7_digest 54 rfl) (fun ls hl => ?_)
  refine g_ldc2 C (n := 31) wL_X7_198 rfl (gdec kX7_digest 55 rfl) ?_
  refine g_lload_n C hl 0 rfl rfl (gdec kX7_digest 56 rfl) ?_
  refine g_lmul C (gdec kX7_digest 57 rfl) ?_
  refine g_aload_n C hl 1 rfl rfl (gdec kX7_digest 58 rfl) ?_
  refine gf_X7_22 C h ho (gdec kX7_digest 59 rfl) ?_
  refine gf_X7_188 C h (gcl_7_2 C ho) (gdec kX7_digest_1 0 rfl) ?_
  refine g_i2l C (gdec kX7_digest_1 1 rfl) ?_
  refine g_ladd C (gdec kX7_digest_1 2 rfl) ?_
  exact g_lret C h hf (gdec kX7_digest_1 3 rfl)
def f_X2_begin (G : GS) (o : Int) (p1 : Int) (p2 : Int) (p3 : Int) (p4 : Int) : Option (GS) :=
  gb p3 (some (gup (gup (gup (gup (gup (gup (gup (gup G 2 o 0 p1) 2 o 1 p2) 2 o 2 p3) 2 o 3 p4) 2 o 4 p1) 2 o 5 (-1)) 2 o 6 (-1)) 2 o 7 0))
set_option maxHeartbeats 4000000 in
set_option maxRecDepth 100000 in
theorem c_X2_begin (l : Launch) (E : gEnv) (G : GS) (o : Int) (p1 : Int) (p2 : Int) (p3 : Int) (p4 : Int) (ho : gOk E 2 o) (Gz : GS) (hf : f_X2_begin G o p1 p2 p3 p4 = some Gz) : gMet l yX2_begin cX2_begin 5 none 0 0 0 0 [.ref (eA E 2 o), vI p1, vI p2, vI p3, vI p4] E G (gQv E Gz) := by
  refine g_met (by decide +kernel) (Nat.le_of_ble_eq_true rfl) ?_
  intro p e s m below meth c C H locs h ls hl
  have C : gC p s m _ meth c RX2 cX2_begin 5 none E := C
  have hl : lv_has ls 5 [(0, .ref (eA E 2 o)), (1, vI p1), (2, vI p2), (3, vI p3), (4, vI p4)] := hl
  unfold f_X2_begin at hf
  refine g_aload_n C hl 0 rfl rfl (gdec kX2_begin 0 rfl) ?_
  refine g_iload_n C hl 1 rfl rfl (gdec kX2_begin 1 rfl) ?_
  refine gp_X2_9 C h ho (gdec kX2_begin 2 rfl) (fun H locs h => ?_)
  refine g_aload_n C hl 0 rfl rfl (gdec kX2_begin 3 rfl) ?_
  refine g_iload_n C hl 2 rfl rfl (gdec kX2_begin 4 rfl) ?_
  refine gp_X2_15 C h ho (gdec kX2_begin 5 rfl) (fun H locs h => ?_)
  refine g_aload_n C hl 0 rfl rfl (gdec kX2_begin 6 rfl) ?_
  refine g_iload_n C hl 3 rfl rfl (gdec kX2_begin 7 rfl) ?_
  obtain ⟨h1, hf⟩ := gb_s hf
  refine gp_X2_18 C h ho h1 (gdec kX2_begin 8 rfl) (fun H locs h => ?_)
  refine g_aload_n C hl 0 rfl rfl (gdec kX2_begin 9 rfl) ?_
  refine g_iload C hl 4 rfl (gdec kX2_begin 10 rfl) ?_
  refine gp_X2_22 C h ho (gdec kX2_begin 11 rfl) (fun H locs h => ?_)
  refine g_aload_n C hl 0 rfl rfl (gdec kX2_begin 12 rfl) ?_
  refine g_iload_n C hl 1 rfl rfl (gdec kX2_begin 13 rfl) ?_
  refine gp_X2_25 C h ho (gdec kX2_begin 14 rfl) (fun H locs h => ?_)
  refine g_aload_n C hl 0 rfl rfl (gdec kX2_begin 15 rfl) ?_
  refine g_iconst C (gdec kX2_begin 16 rfl) ?_
  refine gp_X2_28 C h ho (gdec kX2_begin 17 rfl) (fun H locs h => ?_)
  refine g_aload_n C hl 0 rfl rfl (gdec kX2_begin 18 rfl) ?_
  refine g_iconst C (gdec kX2_begin 19 rfl) ?_
  refine gp_X2_31 C h ho (gdec kX2_begin 20 rfl) (fun H locs h => ?_)
  refine g_aload_n C hl 0 rfl rfl (gdec kX2_begin 21 rfl) ?_
  refine g_iconst C (gdec kX2_begin 22 rfl) ?_
  refine gp_X2_34 C h ho (gdec kX2_begin 23 rfl) (fun H locs h => ?_)
  exact g_vret C h hf (gdec kX2_begin 24 rfl)
def f_X3_placeLetter (G : GS) (o : Int) (p1 : Int) (p2 : Int) (p3 : Int) : Option (GS × Int) :=
  ga (G 3 o 6) 12 (bn1 (f_X2_begin G (12 * o + (G 3 o 6)) p1 p2 p3 (G 3 o 7)) (fun G3 => some ((gup G3 3 o 6 ((G3 3 o 6) + 1)), ((gup G3 3 o 6 ((G3 3 o 6) + 1)) 3 o 6) - 1)))
set_option maxHeartbeats 4000000 in
set_option maxRecDepth 100000 in
theorem c_X3_placeLetter (l : Launch) (E : gEnv) (G : GS) (o : Int) (p1 : Int) (p2 : Int) (p3 : Int) (ho : gOk E 3 o) (Gz : GS) (rz : Int) (hf : f_X3_placeLetter G o p1 p2 p3 = some (Gz, rz)) : gMet l yX3_placeLetter cX3_placeLetter 4 (some .int) 1 24 0 0 [.ref (eA E 3 o), vI p1, vI p2, vI p3] E G (gQi E Gz rz) := by
  refine g_met (by decide +kernel) (Nat.le_of_ble_eq_true rfl) ?_
  intro p e s m below meth c C H locs h ls hl
  have C : gC p s m _ meth c RX3 cX3_placeLetter 4 (some .int) E := C
  have hl : lv_has ls 4 [(0, .ref (eA E 3 o)), (1, vI p1), (2, vI p2), (3, vI p3)] := hl
  unfold f_X3_placeLetter at hf
  refine g_aload_n C hl 0 rfl rfl (gdec kX3_placeLetter 0 rfl) ?_
  refine g_aload_n C hl 0 rfl rfl (gdec kX3_placeLetter 1 rfl) ?_
  refine gf_X3_54 C h ho (gdec kX3_placeLetter 2 rfl) ?_
  obtain ⟨h1, hf⟩ := ga_s hf
  refine g_cr h (g_runV C h ho (by decide) rfl (c_X3_letterRow l E _ _ _ ho _ (e_X3_letterRow _ _ _ h1)) wM_X3_89 wI_X3_letterRow wS_X3_letterRow wN_X3 wC_X3_letterRow rfl ny_X3_letterRow rfl ⟨Nat.le_of_ble_eq_true rfl, Nat.le_of_ble_eq_true rfl⟩ hl.1 rfl (Nat.le_of_ble_eq_true rfl) (gdec kX3_placeLetter 3 rfl) ⟨Nat.zero_le _, Nat.zero_le _⟩) (fun H locs h => ?_)
  have k2 : gOk E 2 (12 * o + (G 3 o 6)) := gok2 C (gcl_3_3 C ho) h1
  refine g_iload_n C hl 1 rfl rfl (gdec kX3_placeLetter 4 rfl) ?_
  refine g_iload_n C hl 2 rfl rfl (gdec kX3_placeLetter 5 rfl) ?_
  refine g_iload_n C hl 3 rfl rfl (gdec kX3_placeLetter 6 rfl) ?_
  refine g_aload_n C hl 0 rfl rfl (gdec kX3_placeLetter 7 rfl) ?_
  refine gf_X3_57 C h ho (gdec kX3_placeLetter 8 rfl) ?_
  obtain ⟨G3, q4, hf⟩ := bn1_s hf
  refine g_cv h (g_runV C h k2 (by decide) rfl (c_X2_begin l E _ _ _ _ _ _ k2 _ q4) wM_X3_100 wI_X2_begin wS_X2_begin wN_X2 wC_X2_begin rfl ny_X2_begin rfl ⟨Nat.le_of_ble_eq_true rfl, Nat.le_of_ble_eq_true rfl⟩ hl.1 rfl (Nat.le_of_ble_eq_true rfl) (gdec kX3_placeLetter 9 rfl) ⟨Nat.zero_le _, Nat.zero_le _⟩) (fun H locs h => ?_)
  refine g_aload_n C hl 0 rfl rfl (gdec kX3_placeLetter 10 rfl) ?_
  refine g_dup C rfl (gdec kX3_placeLetter 11 rfl) ?_
  refine gf_X3_54 C h ho (gdec kX3_placeLetter 12 rfl) ?_
  refine g_iconst C (gdec kX3_placeLetter 13 rfl) ?_
  refine g_iadd C (gdec kX3_placeLetter 14 rfl) ?_
  refine gp_X3_54 C h ho (gdec kX3_placeLetter 15 rfl) (fun H locs h => ?_)
  refine g_aload_n C hl 0 rfl rfl (gdec kX3_placeLetter 16 rfl) ?_
  refine gf_X3_54 C h ho (gdec kX3_placeLetter 17 rfl) ?_
  refine g_iconst C (gdec kX3_placeLetter 18 rfl) ?_
  refine g_isub C (gdec kX3_placeLetter 19 rfl) ?_
  exact g_iret C h hf (gdec kX3_placeLetter 20 rfl)
def f_X3_hoursBetween_L5 (G : GS) (o : Int) (p1 : Int) (p2 : Int) : Nat → Int → Int → (Int → Int → Option (Int)) → Option (Int)
  | 0, _, _, _ => none
  | n + 1, x3, x4, k => gd x4 (gd p2 (if x4 < p2 then ga x4 7 (f_X3_hoursBetween_L5 G o p1 p2 n (x3 + (G 5 (7 * o + x4) 0)) (x4 + 1) k) else k x3 x4))
def f_X3_hoursBetween (G : GS) (o : Int) (p1 : Int) (p2 : Int) : Option (Int) :=
  f_X3_hoursBetween_L5 G o p1 p2 gFuel 0 p1 (fun y3_6 y4_6 => some y3_6)
set_option maxHeartbeats 4000000 in
set_option maxRecDepth 100000 in
theorem c_X3_hoursBetween (l : Launch) (E : gEnv) (G : GS) (o : Int) (p1 : Int) (p2 : Int) (ho : gOk E 3 o) (rz : Int) (hf : f_X3_hoursBetween G o p1 p2 = some rz) : gMet l yX3_hoursBetween cX3_hoursBetween 5 (some .int) 1 21 0 0 [.ref (eA E 3 o), vI p1, vI p2] E G (gQi E G rz) := by
  refine g_met (by decide +kernel) (Nat.le_of_ble_eq_true rfl) ?_
  intro p e s m below meth c C H locs h ls hl
  have C : gC p s m _ meth c RX3 cX3_hoursBetween 5 (some .int) E := C
  have hl : lv_has ls 5 [(0, .ref (eA E 3 o)), (1, vI p1), (2, vI p2)] := hl
  have L5 : ∀ (n : Nat) (x3 : Int) (x4 : Int) (k : (Int → Int → Option (Int))) (hK : ∀ (x3 : Int) (x4 : Int), k x3 x4 = some rz → ∀ (H : Heap) (locs : List Loc), gH E s G H locs → ∀ ls, lv_has ls 5 [(0, .ref (eA E 3 o)), (1, vI p1), (2, vI p2), (3, vI x3), (4, vI x4)] → W p l e (gRm 1 21 0 0) s m ([.ref (eA E 3 o), vI p1, vI p2] : List Value).toArray below meth c H locs 0 0 (MQ below (gQi E G rz) ([.ref (eA E 3 o), vI p1, vI p2] : List Value).toArray s 0 0 (eF E)) (F0 m 29 ls [])), ∀ (H : Heap) (locs : List Loc), gH E s G H locs → ∀ ls, lv_has ls 5 [(0, .ref (eA E 3 o)), (1, vI p1), (2, vI p2), (3, vI x3), (4, vI x4)] → f_X3_hoursBetween_L5 G o p1 p2 n x3 x4 k = some rz → W p l e (gRm 1 21 0 0) s m ([.ref (eA E 3 o), vI p1, vI p2] : List Value).toArray below meth c H locs 0 0 (MQ below (gQi E G rz) ([.ref (eA E 3 o), vI p1, vI p2] : List Value).toArray s 0 0 (eF E)) (F0 m 5 ls []) := by
    intro n
    induction n with
    | zero =>
      intro x3 x4 k hK H locs h ls hl hf
      exact absurd hf (by simp [f_X3_hoursBetween_L5])
    | succ n ih =>
      intro x3 x4 k hK H locs h ls hl hf
      unfold f_X3_hoursBetween_L5 at hf
      refine g_iload C hl 4 rfl (gdec kX3_hoursBetween 4 rfl) ?_
      refine g_iload_n C hl 2 rfl rfl (gdec kX3_hoursBetween 5 rfl) ?_
      obtain ⟨h1, hf⟩ := gd_s hf
      obtain ⟨h2, hf⟩ := gd_s hf
      refine g_icmp_ge C (tgt := 29) h1 h2 (by decide) (gdec kX3_hoursBetween 6 rfl) (fun c3 => ?_) (fun c3 => ?_)
      · replace hf := ifp c3 hf
        refine g_iload_n C hl 3 rfl rfl (gdec kX3_hoursBetween 7 rfl) ?_
        refine g_aload_n C hl 0 rfl rfl (gdec kX3_hoursBetween 8 rfl) ?_
        refine g_iload C hl 4 rfl (gdec kX3_hoursBetween 9 rfl) ?_
        obtain ⟨h4, hf⟩ := ga_s hf
        refine g_cr h (g_runV C h ho (by decide) rfl (c_X3_stageRow l E _ _ _ ho _ (e_X3_stageRow _ _ _ h4)) wM_X3_169 wI_X3_stageRow wS_X3_stageRow wN_X3 wC_X3_stageRow rfl ny_X3_stageRow rfl ⟨Nat.le_of_ble_eq_true rfl, Nat.le_of_ble_eq_true rfl⟩ hl.1 rfl (Nat.le_of_ble_eq_true rfl) (gdec kX3_hoursBetween 10 rfl) ⟨Nat.zero_le _, Nat.zero_le _⟩) (fun H locs h => ?_)
        have k5 : gOk E 5 (7 * o + x4) := gok5 C (gcl_3_0 C ho) h4
        refine gf_X3_222 C h k5 (gdec kX3_hoursBetween 11 rfl) ?_
        refine g_iadd C (gdec kX3_hoursBetween 12 rfl) ?_
        refine g_istore_n C [(3, vI (x3 + (G 5 (7 * o + x4) 0))), (0, .ref (eA E 3 o)), (1, vI p1), (2, vI p2), (4, vI x4)] hl rfl (by decide) rfl (gdec kX3_hoursBetween 13 rfl) (fun ls hl => ?_)
        refine g_iinc C (k := 4) [(4, vI (x4 + 1)), (3, vI (x3 + (G 5 (7 * o + x4) 0))), (0, .ref (eA E 3 o)), (1, vI p1), (2, vI p2)] hl rfl (by decide) rfl (gdec kX3_hoursBetween 14 rfl) (fun ls hl => ?_)
        refine g_goto C (tgt := 5) (by decide) (gdec kX3_hoursBetween 15 rfl) ?_
        exact ih _ _ k hK H locs h ls (lv_sub hl [2, 3, 4, 1, 0] rfl) hf
      · replace hf := ifn c3 hf
        exact hK _ _ hf H locs h ls (lv_sub hl [0, 1, 2, 3, 4] rfl)
  unfold f_X3_hoursBetween at hf
  refine g_iconst C (gdec kX3_hoursBetween 0 rfl) ?_
  refine g_istore_n C [(3, vI 0), (0, .ref (eA E 3 o)), (1, vI p1), (2, vI p2)] hl rfl (by decide) rfl (gdec kX3_hoursBetween 1 rfl) (fun ls hl => ?_)
  refine g_iload_n C hl 2 rfl rfl (gdec kX3_hoursBetween 2 rfl) ?_
  refine g_istore C [(4, vI p1), (3, vI 0), (0, .ref (eA E 3 o)), (1, vI p1), (2, vI p2)] hl (by decide) rfl (gdec kX3_hoursBetween 3 rfl) (fun ls hl => ?_)
  refine L5 gFuel _ _ _ (fun y3_6 y4_6 hf H locs h ls hl => ?_) H locs h ls (lv_sub hl [2, 3, 4, 1, 0] rfl) hf
  refine g_iload_n C hl 3 rfl rfl (gdec kX3_hoursBetween 16 rfl) ?_
  exact g_iret C h (congrArg (Option.map (Prod.mk _)) hf) (gdec kX3_hoursBetween 17 rfl)

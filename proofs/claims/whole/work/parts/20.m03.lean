def f_X3_effortBetween_L16 (G : GS) (o : Int) (p1 : Int) (p2 : Int) : Nat → Int → Int → Int → (Int → Int → Int → Option (Int)) → Option (Int)
  | 0, _, _, _, _ => none
  | n + 1, x3, x4, x5, k => gd x5 (gd x3 (if x5 < x3 then ga x5 7 (gd p2 (gd p1 (if p1 < p2 then bn1 (f_X5_effort G (7 * o + x5) 1) (fun r11 => f_X3_effortBetween_L16 G o p1 p2 n x3 (x4 + r11) (x5 + 1) k) else bn1 (f_X5_effort G (7 * o + x5) 0) (fun r13 => f_X3_effortBetween_L16 G o p1 p2 n x3 (x4 + r13) (x5 + 1) k)))) else k x3 x4 x5))
def f_X3_effortBetween (G : GS) (o : Int) (p1 : Int) (p2 : Int) : Option (Int) :=
  gd p1 (gd p2 (f_X3_effortBetween_L16 G o p1 p2 gFuel (if p1 < p2 then p2 else p1) 0 (if p2 < p1 then p2 else p1) (fun y3_15 y4_15 y5_15 => some y4_15)))
set_option maxHeartbeats 4000000 in
set_option maxRecDepth 100000 in
theorem c_X3_effortBetween (l : Launch) (E : gEnv) (G : GS) (o : Int) (p1 : Int) (p2 : Int) (ho : gOk E 3 o) (rz : Int) (hf : f_X3_effortBetween G o p1 p2 = some rz) : gMet l yX3_effortBetween cX3_effortBetween 6 (some .int) 2 43 0 0 [.ref (eA E 3 o), vI p1, vI p2] E G (gQi E G rz) := by
  refine g_met (by decide +kernel) (Nat.le_of_ble_eq_true rfl) ?_
  intro p e s m below meth c C H locs h ls hl
  have C : gC p s m _ meth c RX3 cX3_effortBetween 6 (some .int) E := C
  have hl : lv_has ls 6 [(0, .ref (eA E 3 o)), (1, vI p1), (2, vI p2)] := hl
  have L16 : ∀ (n : Nat) (x3 : Int) (x4 : Int) (x5 : Int) (k : (Int → Int → Int → Option (Int))) (hK : ∀ (x3 : Int) (x4 : Int) (x5 : Int), k x3 x4 x5 = some rz → ∀ (H : Heap) (locs : List Loc), gH E s G H locs → ∀ ls, lv_has ls 6 [(0, .ref (eA E 3 o)), (1, vI p1), (2, vI p2), (3, vI x3), (4, vI x4), (5, vI x5)] → W p l e (gRm 2 43 0 0) s m ([.ref (eA E 3 o), vI p1, vI p2] : List Value).toArray below meth c H locs 0 0 (MQ below (gQi E G rz) ([.ref (eA E 3 o), vI p1, vI p2] : List Value).toArray s 0 0 (eF E)) (F0 m 52 ls [])), ∀ (H : Heap) (locs : List Loc), gH E s G H locs → ∀ ls, lv_has ls 6 [(0, .ref (eA E 3 o)), (1, vI p1), (2, vI p2), (3, vI x3), (4, vI x4), (5, vI x5)] → f_X3_effortBetween_L16 G o p1 p2 n x3 x4 x5 k = some rz → W p l e (gRm 2 43 0 0) s m ([.ref (eA E 3 o), vI p1, vI p2] : List Value).toArray below meth c H locs 0 0 (MQ below (gQi E G rz) ([.ref (eA E 3 o), vI p1, vI p2] : List Value).toArray s 0 0 (eF E)) (F0 m 16 ls []) := by
    intro n
    induction n with
    | zero =>
      intro x3 x4 x5 k hK H locs h ls hl hf
      exact absurd hf (by simp [f_X3_effortBetween_L16])
    | succ n ih =>
      intro x3 x4 x5 k hK H locs h ls hl hf
      unfold f_X3_effortBetween_L16 at hf
      refine g_iload C hl 5 rfl (gdec kX3_effortBetween 10 rfl) ?_
      refine g_iload_n C hl 3 rfl rfl (gdec kX3_effortBetween 11 rfl) ?_
      obtain ⟨h3, hf⟩ := gd_s hf
      obtain ⟨h4, hf⟩ := gd_s hf
      refine g_icmp_ge C (tgt := 52) h3 h4 (by decide) (gdec kX3_effortBetween 12 rfl) (fun c5 => ?_) (fun c5 => ?_)
      · replace hf := ifp c5 hf
        refine g_iload C hl 4 rfl (gdec kX3_effortBetween 13 rfl) ?_
        refine g_aload_n C hl 0 rfl rfl (gdec kX3_effortBetween 14 rfl) ?_
        refine g_iload C hl 5 rfl (gdec kX3_effortBetween 15 rfl) ?_
        obtain ⟨h6, hf⟩ := ga_s hf
        refine g_cr h (g_runV C h ho (by decide) rfl (c_X3_stageRow l E _ _ _ ho _ (e_X3_stageRow _ _ _ h6)) wM_X3_169 wI_X3_stageRow wS_X3_stageRow wN_X3 wC_X3_stageRow rfl ny_X3_stageRow rfl ⟨Nat.le_of_ble_eq_true rfl, Nat.le_of_ble_eq_true rfl⟩ hl.1 rfl (Nat.le_of_ble_eq_true rfl) (gdec kX3_effortBetween 16 rfl) ⟨Nat.zero_le _, Nat.zero_le _⟩) (fun H locs h => ?_)
        have k7 : gOk E 5 (7 * o + x5) := gok5 C (gcl_3_0 C ho) h6
        refine g_iload_n C hl 2 rfl rfl (gdec kX3_effortBetween 17 rfl) ?_
        refine g_iload_n C hl 1 rfl rfl (gdec kX3_effortBetween 18 rfl) ?_
        obtain ⟨h8, hf⟩ := gd_s hf
        obtain ⟨h9, hf⟩ := gd_s hf
        refine g_icmp_le C (tgt := 39) h8 h9 (by decide) (gdec kX3_effortBetween 19 rfl) (fun c10 => ?_) (fun c10 => ?_)
        · replace hf := ifp c10 hf
          refine g_iconst C (gdec kX3_effortBetween 20 rfl) ?_
          refine g_goto C (tgt := 40) (by decide) (gdec kX3_effortBetween 21 rfl) ?_
          obtain ⟨r11, q12, hf⟩ := bn1_s hf
          refine g_ci h (g_runV C h k7 (by decide) rfl (c_X5_effort l E _ _ _ k7 _ q12) wM_X3_176 wI_X5_effort wS_X5_effort wN_X5 wC_X5_effort rfl ny_X5_effort rfl ⟨Nat.le_of_ble_eq_true rfl, Nat.le_of_ble_eq_true rfl⟩ hl.1 rfl (Nat.le_of_ble_eq_true rfl) (gdec kX3_effortBetween 23 rfl) ⟨Nat.zero_le _, Nat.zero_le _⟩) (fun H locs h => ?_)
          refine g_iadd C (gdec kX3_effortBetween 24 rfl) ?_
          refine g_istore C [(4, vI (x4 + r11)), (0, .ref (eA E 3 o)), (1, vI p1), (2, vI p2), (3, vI x3), (5, vI x5)] hl (by decide) rfl (gdec kX3_effortBetween 25 rfl) (fun ls hl => ?_)
          refine g_iinc C (k := 5) [(5, vI (x5 + 1)), (4, vI (x4 + r11)), (0, .ref (eA E 3 o)), (1, vI p1), (2, vI p2), (3, vI x3)] hl rfl (by decide) rfl (gdec kX3_effortBetween 26 rfl) (fun ls hl => ?_)
          refine g_goto C (tgt := 16) (by decide) (gdec kX3_effortBetween 27 rfl) ?_
          exact ih _ _ _ k hK H locs h ls (lv_sub hl [2, 3, 4, 5, 1, 0] rfl) hf
        · replace hf := ifn c10 hf
          refine g_iconst C (gdec kX3_effortBetween 22 rfl) ?_
          obtain ⟨r13, q14, hf⟩ := bn1_s hf
          refine g_ci h (g_runV C h k7 (by decide) rfl (c_X5_effort l E _ _ _ k7 _ q14) wM_X3_176 wI_X5_effort wS_X5_effort wN_X5 wC_X5_effort rfl ny_X5_effort rfl ⟨Nat.le_of_ble_eq_true rfl, Nat.le_of_ble_eq_true rfl⟩ hl.1 rfl (Nat.le_of_ble_eq_true rfl) (gdec kX3_effortBetween 23 rfl) ⟨Nat.zero_le _, Nat.zero_le _⟩) (fun H locs h => ?_)
          refine g_iadd C (gdec kX3_effortBetween 24 rfl) ?_
          refine g_istore C [(4, vI (x4 + r13)), (0, .ref (eA E 3 o)), (1, vI p1), (2, vI p2), (3, vI x3), (5, vI x5)] hl (by decide) rfl (gdec kX3_effortBetween 25 rfl) (fun ls hl => ?_)
          refine g_iinc C (k := 5) [(5, vI (x5 + 1)), (4, vI (x4 + r13)), (0, .ref (eA E 3 o)), (1, vI p1), (2, vI p2), (3, vI x3)] hl rfl (by decide) rfl (gdec kX3_effortBetween 26 rfl) (fun ls hl => ?_)
          refine g_goto C (tgt := 16) (by decide) (gdec kX3_effortBetween 27 rfl) ?_
          exact ih _ _ _ k hK H locs h ls (lv_sub hl [2, 3, 4, 5, 1, 0] rfl) hf
      · replace hf := ifn c5 hf
        exact hK _ _ _ hf H locs h ls (lv_sub hl [0, 1, 2, 3, 4, 5] rfl)
  unfold f_X3_effortBetween at hf
  refine g_iload_n C hl 1 rfl rfl (gdec kX3_effortBetween 0 rfl) ?_
  refine g_iload_n C hl 2 rfl rfl (gdec kX3_effortBetween 1 rfl) ?_
  obtain ⟨h1, hf⟩ := gd_s hf
  obtain ⟨h2, hf⟩ := gd_s hf
  refine g_max C h1 h2 wM_X3_272 wT_Math_max wN_java_lang_Math wC_Math_max hl.1 (by decide) (Nat.le_of_ble_eq_true rfl) (Nat.le_of_ble_eq_true rfl) (Nat.le_of_ble_eq_true rfl) (gdec kX3_effortBetween 2 rfl) ?_
  refine g_istore_n C [(3, vI (if p1 < p2 then p2 else p1)), (0, .ref (eA E 3 o)), (1, vI p1), (2, vI p2)] hl rfl (by decide) rfl (gdec kX3_effortBetween 3 rfl) (fun ls hl => ?_)
  refine g_iconst C (gdec kX3_effortBetween 4 rfl) ?_
  refine g_istore C [(4, vI 0), (3, vI (if p1 < p2 then p2 else p1)), (0, .ref (eA E 3 o)), (1, vI p1), (2, vI p2)] hl (by decide) rfl (gdec kX3_effortBetween 5 rfl) (fun ls hl => ?_)
  refine g_iload_n C hl 3 rfl rfl (gdec kX3_effortBetween 6 rfl) ?_
  refine g_iload_n C hl 4 rfl rfl (gdec kX3_effortBetween 7 rfl) ?_
  refine g_min C h1 h2 wM_X3_277 wT_Math_min wN_java_lang_Math wC_Math_min hl.1 (by decide) (Nat.le_of_ble_eq_true rfl) (Nat.le_of_ble_eq_true rfl) (Nat.le_of_ble_eq_true rfl) (gdec kX3_effortBetween 8 rfl) ?_
  refine g_istore C [(5, vI (if p2 < p1 then p2 else p1)), (4, vI 0), (3, vI (if p1 < p2 then p2 else p1)), (0, .ref (eA E 3 o)), (1, vI p1), (2, vI p2)] hl (by decide) rfl (gdec kX3_effortBetween 9 rfl) (fun ls hl => ?_)
  refine L16 gFuel _ _ _ _ (fun y3_15 y4_15 y5_15 hf H locs h ls hl => ?_) H locs h ls (lv_sub hl [3, 4, 5, 2, 1, 0] rfl) hf
  refine g_iload C hl 4 rfl (gdec kX3_effortBetween 28 rfl) ?_
  exact g_iret C h (congrArg (Option.map (Prod.mk _)) hf) (gdec kX3_effortBetween 29 rfl)
def f_X4_add (G : GS) (p1 : Int) : Option (GS × Int) :=
  gd (G 4 0 1) (if (G 4 0 1) < 90 then ga (G 4 0 1) 90 (gy p1 (some ((gup (gup G 9 0 (G 4 0 1) p1) 4 0 1 (((gup G 9 0 (G 4 0 1) p1) 4 0 1) + 1)), 1))) else some (G, 0))
set_option maxHeartbeats 4000000 in
set_option maxRecDepth 100000 in
theorem c_X4_add (l : Launch) (E : gEnv) (G : GS) (p1 : Int) (ho : gOk E 4 0) (Gz : GS) (rz : Int) (hf : f_X4_add G p1 = some (Gz, rz)) : gMet l yX4_add cX4_add 2 (some .boolean) 0 0 0 0 [.ref (eA E 4 0), vI p1] E G (gQi E Gz rz) := by
  refine g_met (by decide +kernel) (Nat.le_of_ble_eq_true rfl) ?_
  intro p e s m below meth c C H locs h ls hl
  have C : gC p s m _ meth c RX4 cX4_add 2 (some .boolean) E := C
  have hl : lv_has ls 2 [(0, .ref (eA E 4 0)), (1, vI p1)] := hl
  unfold f_X4_add at hf
  refine g_aload_n C hl 0 rfl rfl (gdec kX4_add 0 rfl) ?_
  refine gf_X4_15 C h ho (gdec kX4_add 1 rfl) ?_
  refine g_bipush C (gdec kX4_add 2 rfl) rfl ?_
  obtain ⟨h1, hf⟩ := gd_s hf
  refine g_icmp_lt C (tgt := 11) h1 (by decide) (by decide) (gdec kX4_add 3 rfl) (fun c2 => ?_) (fun c2 => ?_)
  · replace hf := ifp c2 hf
    refine g_aload_n C hl 0 rfl rfl (gdec kX4_add 6 rfl) ?_
    refine gf_X4_9 C h ho (gdec kX4_add 7 rfl) ?_
    refine g_aload_n C hl 0 rfl rfl (gdec kX4_add 8 rfl) ?_
    refine gf_X4_15 C h ho (gdec kX4_add 9 rfl) ?_
    refine g_iload_n C hl 1 rfl rfl (gdec kX4_add 10 rfl) ?_
    obtain ⟨h3, hf⟩ := ga_s hf
    obtain ⟨h4, hf⟩ := gy_s hf
    refine g_bast C h (gcl_4_0 C ho) (n := 90) rfl (by decide) h3 h4 (gdec kX4_add 11 rfl) (fun H locs h => ?_)
    refine g_aload_n C hl 0 rfl rfl (gdec kX4_add 12 rfl) ?_
    refine g_dup C rfl (gdec kX4_add 13 rfl) ?_
    refine gf_X4_15 C h ho (gdec kX4_add 14 rfl) ?_
    refine g_iconst C (gdec kX4_add 15 rfl) ?_
    refine g_iadd C (gdec kX4_add 16 rfl) ?_
    refine gp_X4_15 C h ho (gdec kX4_add 17 rfl) (fun H locs h => ?_)
    refine g_iconst C (gdec kX4_add 18 rfl) ?_
    exact g_zret C h (Or.inr rfl) hf (gdec kX4_add 19 rfl)
  · replace hf := ifn c2 hf
    refine g_iconst C (gdec kX4_add 4 rfl) ?_
    exact g_zret C h (Or.inl rfl) hf (gdec kX4_add 5 rfl)
def f_X0_restore (G : GS) (p1 : Int) : Option (GS) :=
  ga ((gup G 0 0 1 ((G 0 0 1) - 1)) 0 0 1) 4 (ga ((gup G 0 0 1 ((G 0 0 1) - 1)) 12 0 ((gup G 0 0 1 ((G 0 0 1) - 1)) 0 0 1)) 6 (bn1 (f_X3_copyFrom (gup G 0 0 1 ((G 0 0 1) - 1)) p1 ((gup G 0 0 1 ((G 0 0 1) - 1)) 12 0 ((gup G 0 0 1 ((G 0 0 1) - 1)) 0 0 1))) (fun G4 => some G4)))
set_option maxHeartbeats 4000000 in
set_option maxRecDepth 100000 in
theorem c_X0_restore (l : Launch) (E : gEnv) (G : GS) (p1 : Int) (ho : gOk E 0 0) (hp1 : gOk E 3 p1) (Gz : GS) (hf : f_X0_restore G p1 = some Gz) : gMet l yX0_restore cX0_restore 2 none 3 66 0 0 [.ref (eA E 0 0), .ref (eA E 3 p1)] E G (gQv E Gz) := by
  refine g_met (by decide +kernel) (Nat.le_of_ble_eq_true rfl) ?_
  intro p e s m below meth c C H locs h ls hl
  have C : gC p s m _ meth c RX0 cX0_restore 2 none E := C
  have hl : lv_has ls 2 [(0, .ref (eA E 0 0)), (1, .ref (eA E 3 p1))] := hl
  unfold f_X0_restore at hf
  refine g_aload_n C hl 0 rfl rfl (gdec kX0_restore 0 rfl) ?_
  refine g_dup C rfl (gdec kX0_restore 1 rfl) ?_
  refine gf_X0_18 C h ho (gdec kX0_restore 2 rfl) ?_
  refine g_iconst C (gdec kX0_restore 3 rfl) ?_
  refine g_isub C (gdec kX0_restore 4 rfl) ?_
  refine gp_X0_18 C h ho (gdec kX0_restore 5 rfl) (fun H locs h => ?_)
  refine g_aload_n C hl 1 rfl rfl (gdec kX0_restore 6 rfl) ?_
  refine g_aload_n C hl 0 rfl rfl (gdec kX0_restore 7 rfl) ?_
  refine g_aload_n C hl 0 rfl rfl (gdec kX0_restore 8 rfl) ?_
  refine gf_X0_18 C h ho (gdec kX0_restore 9 rfl) ?_
  obtain ⟨h1, hf⟩ := ga_s hf
  obtain ⟨h2, hf⟩ := ga_s hf
  refine g_cr h (g_runV C h ho (by decide) rfl (c_X0_state l E _ _ ho _ (e_X0_state _ _ h1 h2)) wM_X0_25 wI_X0_state wS_X0_state wN_X0 wC_X0_state rfl ny_X0_state rfl ⟨Nat.le_of_ble_eq_true rfl, Nat.le_of_ble_eq_true rfl⟩ hl.1 rfl (Nat.le_of_ble_eq_true rfl) (gdec kX0_restore 10 rfl) ⟨Nat.zero_le _, Nat.zero_le _⟩) (fun H locs h => ?_)
  have k3 : gOk E 3 ((gup G 0 0 1 ((G 0 0 1) - 1)) 12 0 ((gup G 0 0 1 ((G 0 0 1) - 1)) 0 0 1)) := gok3 C (gcl_0_0 C ho) h2
  obtain ⟨G4, q5, hf⟩ := bn1_s hf
  refine g_cv h (g_runV C h hp1 (by decide) rfl (c_X3_copyFrom l E _ _ _ hp1 k3 _ q5) wM_X0_29 wI_X3_copyFrom wS_X3_copyFrom wN_X3 wC_X3_copyFrom rfl ny_X3_copyFrom rfl ⟨Nat.le_of_ble_eq_true rfl, Nat.le_of_ble_eq_true rfl⟩ hl.1 rfl (Nat.le_of_ble_eq_true rfl) (gdec kX0_restore 11 rfl) ⟨Nat.zero_le _, Nat.zero_le _⟩) (fun H locs h => ?_)
  exact g_vret C h hf (gdec kX0_restore 12 rfl)
def f_X8_begins_L2 (p1 : Int) : Nat → GS → Int → (GS → Int → Option (GS)) → Option (GS)
  | 0, _, _, _ => none
  | n + 1, G, x2, k => gd x2 (if x2 < 260 then ga x2 260 (f_X8_begins_L2 p1 n (gup G 10 0 x2 0) (x2 + 1) k) else k G x2)
def f_X8_begins_L31 (p1 : Int) : Nat → GS → Int → (GS → Int → Option (GS)) → Option (GS)
  | 0, _, _, _ => none
  | n + 1, G, x2, k => gd x2 (gd p1 (if x2 < p1 then ga (30 + (3 * x2)) 260 (ga ((30 + (3 * x2)) + 1) 260 (f_X8_begins_L31 p1 n (gup (gup G 10 0 (30 + (3 * x2)) 2) 10 0 ((30 + (3 * x2)) + 1) 100) (x2 + 1) k)) else k G x2))
def f_X8_begins (G : GS) (p1 : Int) : Option (GS) :=
  f_X8_begins_L2 p1 gFuel G 0 (fun G5 y2_4 => f_X8_begins_L31 p1 gFuel (gup G5 10 0 0 p1) 0 (fun G12 y2_11 => some G12))
set_option maxHeartbeats 4000000 in
set_option maxRecDepth 100000 in
theorem c_X8_begins (l : Launch) (E : gEnv) (G : GS) (p1 : Int) (ho : gOk E 8 0) (Gz : GS) (hf : f_X8_begins G p1 = some Gz) : gMet l yX8_begins cX8_begins 3 none 0 0 0 0 [.ref (eA E 8 0), vI p1] E G (gQv E Gz) := by
  refine g_met (by decide +kernel) (Nat.le_of_ble_eq_true rfl) ?_
  intro p e s m below meth c C H locs h ls hl
  have C : gC p s m _ meth c RX8 cX8_begins 3 none E := C
  have hl : lv_has ls 3 [(0, .ref (eA E 8 0)), (1, vI p1)] := hl
  have L2 : ∀ (n : Nat) (G : GS) (x2 : Int) (k : (GS → Int → Option (GS))) (hK : ∀ (G : GS) (x2 : Int), k G x2 = some Gz → ∀ (H : Heap) (locs : List Loc), gH E s G H locs → ∀ ls, lv_has ls 3 [(0, .ref (eA E 8 0)), (1, vI p1), (2, vI x2)] → W p l e (gRm 0 0 0 0) s m ([.ref (eA E 8 0), vI p1] : List Value).toArray below meth c H locs 0 0 (MQ below (gQv E Gz) ([.ref (eA E 8 0), vI p1] : List Value).toArray s 0 0 (eF E)) (F0 m 22 ls [])), ∀ (H : Heap) (locs : List Loc), gH E s G H locs → ∀ ls, lv_has ls 3 [(0, .ref (eA E 8 0)), (1, vI p1), (2, vI x2)] → f_X8_begins_L2 p1 n G x2 k = some Gz → W p l e (gRm 0 0 0 0) s m ([.ref (eA E 8 0), vI p1] : List Value).toArray below meth c H locs 0 0 (MQ below (gQv E Gz) ([.ref (eA E 8 0), vI p1] : List Value).toArray s 0 0 (eF E)) (F0 m 2 ls []) := by
    intro n
    induction n with
    | zero =>
      intro G x2 k hK H locs h ls hl hf
      exact absurd hf (by simp [f_X8_begins_L2])
    | succ n ih =>
      intro G x2 k hK H locs h ls hl hf
      unfold f_X8_begins_L2 at hf
      refine g_iload_n C hl 2 rfl rfl (gdec kX8_begins 2 rfl) ?_
      refine g_sipush C (gdec kX8_begins 3 rfl) rfl ?_
      obtain ⟨h1, hf⟩ := gd_s hf
      refine g_icmp_ge C (tgt := 22) h1 (by decide) (by decide) (gdec kX8_begins 4 rfl) (fun c2 => ?_) (fun c2 => ?_)
      · replace hf := ifp c2 hf
        refine g_aload_n C hl 0 rfl rfl (gdec kX8_begins 5 rfl) ?_
        refine gf_X8_7 C h ho (gdec kX8_begins 6 rfl) ?_
        refine g_iload_n C hl 2 rfl rfl (gdec kX8_begins 7 rfl) ?_
        refine g_iconst C (gdec kX8_begins 8 rfl) ?_
        obtain ⟨h3, hf⟩ := ga_s hf
        refine g_iast C h (gcl_8_0 C ho) (n := 260) rfl (by decide) h3 (gdec kX8_begins 9 rfl) (fun H locs h => ?_)
        refine g_iinc C (k := 2) [(2, vI (x2 + 1)), (0, .ref (eA E 8 0)), (1, vI p1)] hl rfl (by decide) rfl (gdec kX8_begins 10 rfl) (fun ls hl => ?_)
        refine g_goto C (tgt := 2) (by decide) (gdec kX8_begins 11 rfl) ?_
        exact ih _ _ k hK H locs h ls (lv_sub hl [1, 2, 0] rfl) hf
      · replace hf := ifn c2 hf
        exact hK _ _ hf H locs h ls (lv_sub hl [0, 1, 2] rfl)
  have L31 : ∀ (n : Nat) (G : GS) (x2 : Int) (k : (GS → Int → Option (GS))) (hK : ∀ (G : GS) (x2 : Int), k G x2 = some Gz → ∀ (H : Heap) (locs : List Loc), gH E s G H locs → ∀ ls, lv_has ls 3 [(0, .ref (eA E 8 0)), (1, vI p1), (2, vI x2)] → W p l e (gRm 0 0 0 0) s m ([.ref (eA E 8 0), vI p1] : List Value).toArray below meth c H locs 0 0 (MQ below (gQv E Gz) ([.ref (eA E 8 0), vI p1] : List Value).toArray s 0 0 (eF E)) (F0 m 69 ls [])), ∀ (H : Heap) (locs : List Loc), gH E s G H locs → ∀ ls, lv_has ls 3 [(0, .ref (eA E 8 0)), (1, vI p1), (2, vI x2)] → f_X8_begins_L31 p1 n G x2 k = some Gz → W p l e (gRm 0 0 0 0) s m ([.ref (eA E 8 0), vI p1] : List Value).toArray below meth c H locs 0 0 (MQ below (gQv E Gz) ([.ref (eA E 8 0), vI p1] : List Value).toArray s 0 0 (eF E)) (F0 m 31 ls []) := by
    intro n
    induction n with
    | zero =>
      intro G x2 k hK H locs h ls hl hf
      exact absurd hf (by simp [f_X8_begins_L31])
    | succ n ih =>
      intro G x2 k hK H locs h ls hl hf
      unfold f_X8_begins_L31 at hf
      refine g_iload_n C hl 2 rfl rfl (gdec kX8_begins 19 rfl) ?_
      refine g_iload_n C hl 1 rfl rfl (gdec kX8_begins 20 rfl) ?_
      obtain ⟨h6, hf⟩ := gd_s hf
      obtain ⟨h7, hf⟩ := gd_s hf
      refine g_icmp_ge C (tgt := 69) h6 h7 (by decide) (gdec kX8_begins 21 rfl) (fun c8 => ?_) (fun c8 => ?_)
      · replace hf := ifp c8 hf
        refine g_aload_n C hl 0 rfl rfl (gdec kX8_begins 22 rfl) ?_
        refine gf_X8_7 C h ho (gdec kX8_begins 23 rfl) ?_
        refine g_bipush C (gdec kX8_begins 24 rfl) rfl ?_
        refine g_iconst C (gdec kX8_begins 25 rfl) ?_
        refine g_iload_n C hl 2 rfl rfl (gdec kX8_begins 26 rfl) ?_
        refine g_imul C (gdec kX8_begins 27 rfl) ?_
        refine g_iadd C (gdec kX8_begins 28 rfl) ?_
        refine g_iconst C (gdec kX8_begins 29 rfl) ?_
        obtain ⟨h9, hf⟩ := ga_s hf
        refine g_iast C h (gcl_8_0 C ho) (n := 260) rfl (by decide) h9 (gdec kX8_begins 30 rfl) (fun H locs h => ?_)
        refine g_aload_n C hl 0 rfl rfl (gdec kX8_begins 31 rfl) ?_
        refine gf_X8_7 C h ho (gdec kX8_begins 32 rfl) ?_
        refine g_bipush C (gdec kX8_begins 33 rfl) rfl ?_
        refine g_iconst C (gdec kX8_begins 34 rfl) ?_
        refine g_iload_n C hl 2 rfl rfl (gdec kX8_begins 35 rfl) ?_
        refine g_imul C (gdec kX8_begins 36 rfl) ?_
        refine g_iadd C (gdec kX8_begins 37 rfl) ?_
        refine g_iconst C (gdec kX8_begins 38 rfl) ?_
        refine g_iadd C (gdec kX8_begins 39 rfl) ?_
        refine g_bipush C (gdec kX8_begins 40 rfl) rfl ?_
        obtain ⟨h10, hf⟩ := ga_s hf
        refine g_iast C h (gcl_8_0 C ho) (n := 260) rfl (by decide) h10 (gdec kX8_begins 41 rfl) (fun H locs h => ?_)
        refine g_iinc C (k := 2) [(2, vI (x2 + 1)), (0, .ref (eA E 8 0)), (1, vI p1)] hl rfl (by decide) rfl (gdec kX8_begins 42 rfl) (fun ls hl => ?_)
        refine g_goto C (tgt := 31) (by decide) (gdec kX8_begins 43 rfl) ?_
        exact ih _ _ k hK H locs h ls (lv_sub hl [1, 2, 0] rfl) hf
      · replace hf := ifn c8 hf
        exact hK _ _ hf H locs h ls (lv_sub hl [0, 1, 2] rfl)
  unfold f_X8_begins at hf
  refine g_iconst C (gdec kX8_begins 0 rfl) ?_
  refine g_istore_n C [(2, vI 0), (0, .ref (eA E 8 0)), (1, vI p1)] hl rfl (by decide) rfl (gdec kX8_begins 1 rfl) (fun ls hl => ?_)
  refine L2 gFuel _ _ _ (fun G5 y2_4 hf H locs h ls hl => ?_) H locs h ls (lv_sub hl [1, 2, 0] rfl) hf
  refine g_aload_n C hl 0 rfl rfl (gdec kX8_begins 12 rfl) ?_
  refine gf_X8_7 C h ho (gdec kX8_begins 13 rfl) ?_
  refine g_iconst C (gdec kX8_begins 14 rfl) ?_
  refine g_iload_n C hl 1 rfl rfl (gdec kX8_begins 15 rfl) ?_
  refine g_iast C h (gcl_8_0 C ho) (n := 260) rfl (by decide) (⟨by decide, by decide⟩ : (0 : Int) ≤ 0 ∧ (0 : Int) < 260) (gdec kX8_begins 16 rfl) (fun H locs h => ?_)
  refine g_iconst C (gdec kX8_begins 17 rfl) ?_
  refine g_istore_n C [(2, vI 0), (0, .ref (eA E 8 0)), (1, vI p1)] hl rfl (by decide) rfl (gdec kX8_begins 18 rfl) (fun ls hl => ?_)
  refine L31 gFuel _ _ _ (fun G12 y2_11 hf H locs h ls hl => ?_) H locs h ls (lv_sub hl [1, 2, 0] rfl) hf
  exact g_vret C h hf (gdec kX8_begins 44 rfl)
def f_X8_thrown (G : GS) : Option (Int) :=
  some (G 8 0 4)
set_option maxHeartbeats 4000000 in
set_option maxRecDepth 100000 in
theorem c_X8_thrown (l : Launch) (E : gEnv) (G : GS) (ho : gOk E 8 0) (rz : Int) (hf : f_X8_thrown G = some rz) : gMet l yX8_thrown cX8_thrown 1 (some .int) 0 0 0 0 [.ref (eA E 8 0)] E G (gQi E G rz) := by
  refine g_met (by decide +kernel) (Nat.le_of_ble_eq_true rfl) ?_
  intro p e s m below meth c C H locs h ls hl
  have C : gC p s m _ meth c RX8 cX8_thrown 1 (some .int) E := C
  have hl : lv_has ls 1 [(0, .ref (eA E 8 0))] := hl
  unfold f_X8_thrown at hf
  refine g_aload_n C hl 0 rfl rfl (gdec kX8_thrown 0 rfl) ?_
  refine gf_X8_33 C h ho (gdec kX8_thrown 1 rfl) ?_
  exact g_iret C h (congrArg (Option.map (Prod.mk _)) hf) (gdec kX8_thrown 2 rfl)
def f_X8_in (G : GS) (p1 : Int) (p2 : Int) (p3 : Int) : Option (Int) :=
  gj p1 (gj p2 (if p1 < p2 then some 0 else gj p3 (if p3 < p1 then some 0 else some 1)))
set_option maxHeartbeats 4000000 in
set_option maxRecDepth 100000 in
theorem c_X8_in (l : Launch) (E : gEnv) (G : GS) (p1 : Int) (p2 : Int) (p3 : Int) (rz : Int) (hf : f_X8_in G p1 p2 p3 = some rz) : gMet l yX8_in cX8_in 6 (some .boolean) 0 0 0 0 [vJ p1, vJ p2, vJ p3] E G (gQi E G rz) := by
  refine g_met (by decide +kernel) (Nat.le_of_ble_eq_true rfl) ?_
  intro p e s m below meth c C H locs h ls hl
  have C : gC p s m _ meth c RX8 cX8_in 6 (some .boolean) E := C
  have hl : lv_has ls 6 [(0, vJ p1), (2, vJ p2), (4, vJ p3)] := hl
  unfold f_X8_in at hf
  refine g_lload_n C hl 0 rfl rfl (gdec kX8_in 0 rfl) ?_
  refine g_lload_n C hl 1 rfl rfl (gdec kX8_in 1 rfl) ?_
  obtain ⟨h1, hf⟩ := gj_s hf
  obtain ⟨h2, hf⟩ := gj_s hf
  refine g_lcmp_lt C (tgt := 17) h1 h2 (by decide) (gdec kX8_in 2 rfl) (gdec kX8_in 3 rfl) (fun c5 => ?_) (fun c5 => ?_)
  · replace hf := ifp c5 hf
    refine g_iconst C (gdec kX8_in 10 rfl) ?_
    exact g_zret C h (Or.inl rfl) (congrArg (Option.map (Prod.mk _)) hf) (gdec kX8_in 11 rfl)
  · replace hf := ifn c5 hf
    refine g_lload_n C hl 0 rfl rfl (gdec kX8_in 4 rfl) ?_
    refine g_lload C hl 2 rfl (gdec kX8_in 5 rfl) ?_
    obtain ⟨h3, hf⟩ := gj_s hf
    refine g_lcmp_gt C (tgt := 17) h1 h3 (by decide) (gdec kX8_in 6 rfl) (gdec kX8_in 7 rfl) (fun c4 => ?_) (fun c4 => ?_)
    · replace hf := ifp c4 hf
      refine g_iconst C (gdec kX8_in 10 rfl) ?_
      exact g_zret C h (Or.inl rfl) (congrArg (Option.map (Prod.mk _)) hf) (gdec kX8_in 11 rfl)
    · replace hf := ifn c4 hf
      refine g_iconst C (gdec kX8_in 8 rfl) ?_
      refine g_goto C (tgt := 18) (by decide) (gdec kX8_in 9 rfl) ?_
      exact g_zret C h (Or.inr rfl) (congrArg (Option.map (Prod.mk _)) hf) (gdec kX8_in 11 rfl)
def f_X8_isStage (G : GS) (p1 : Int) : Option (Int) :=
  bn1 (f_X8_in G (bm p1) 0 ((bm (G 10 0 0)) - 2)) (fun r1 => gb r1 (some r1))
set_option maxHeartbeats 4000000 in
set_option maxRecDepth 100000 in
theorem c_X8_isStage (l : Launch) (E : gEnv) (G : GS) (p1 : Int) (ho : gOk E 8 0) (rz : Int) (hf : f_X8_isStage G p1 = some rz) : gMet l yX8_isStage cX8_isStage 2 (some .boolean) 1 25 0 0 [.ref (eA E 8 0), vI p1] E G (gQi E G rz) := by
  refine g_met (by decide +kernel) (Nat.le_of_ble_eq_true rfl) ?_
  intro p e s m below meth c C H locs h ls hl
  have C : gC p s m _ meth c RX8 cX8_isStage 2 (some .boolean) E := C
  have hl : lv_has ls 2 [(0, .ref (eA E 8 0)), (1, vI p1)] := hl
  unfold f_X8_isStage at hf
  refine g_iload_n C hl 1 rfl rfl (gdec kX8_isStage 0 rfl) ?_
  refine g_i2l C (gdec kX8_isStage 1 rfl) ?_
  refine g_lconst C (z := 0) (gdec kX8_isStage 2 rfl) rfl ?_
  refine g_aload_n C hl 0 rfl rfl (gdec kX8_isStage 3 rfl) ?_
  refine gf_X8_7 C h ho (gdec kX8_isStage 4 rfl) ?_
  refine g_iconst C (gdec kX8_isStage 5 rfl) ?_
  refine g_iald C h (gcl_8_0 C ho) (n := 260) rfl (by decide) (⟨by decide, by decide⟩ : (0 : Int) ≤ 0 ∧ (0 : Int) < 260) (gdec kX8_isStage 6 rfl) ?_
  refine g_i2l C (gdec kX8_isStage 7 rfl) ?_
  refine g_ldc2 C (n := 2) wL_X8_44 rfl (gdec kX8_isStage 8 rfl) ?_
  refine g_lsub C (gdec kX8_isStage 9 rfl) ?_
  obtain ⟨r1, q2, hf⟩ := bn1_s hf
  refine g_ci h (g_runS C h (c_X8_in l E _ _ _ _ _ q2) wM_X8_40 wT_X8_in wN_X8 wC_X8_in rfl ny_X8_in rfl ⟨Nat.le_of_ble_eq_true rfl, Nat.le_of_ble_eq_true rfl⟩ hl.1 rfl (Nat.le_of_ble_eq_true rfl) (gdec kX8_isStage 10 rfl) ⟨Nat.zero_le _, Nat.zero_le _⟩) (fun H locs h => ?_)
  obtain ⟨h3, hf⟩ := gb_s hf
  exact g_zret C h h3 (congrArg (Option.map (Prod.mk _)) hf) (gdec kX8_isStage 11 rfl)
def f_X8_throwing (G : GS) (p1 : Int) : Option (GS × Int) :=
  some ((gup G 8 0 4 p1), 0)
set_option maxHeartbeats 4000000 in
set_option maxRecDepth 100000 in
theorem c_X8_throwing (l : Launch) (E : gEnv) (G : GS) (p1 : Int) (ho : gOk E 8 0) (Gz : GS) (rz : Int) (hf : f_X8_throwing G p1 = some (Gz, rz)) : gMet l yX8_throwing cX8_throwing 2 (some .int) 0 0 0 0 [.ref (eA E 8 0), vI p1] E G (gQi E Gz rz) := by
  refine g_met (by decide +kernel) (Nat.le_of_ble_eq_true rfl) ?_
  intro p e s m below meth c C H locs h ls hl
  have C : gC p s m _ meth c RX8 cX8_throwing 2 (some .int) E := C
  have hl : lv_has ls 2 [(0, .ref (eA E 8 0)), (1, vI p1)] := hl
  unfold f_X8_throwing at hf
  refine g_aload_n C hl 0 rfl rfl (gdec kX8_throwing 0 rfl) ?_
  refine g_iload_n C hl 1 rfl rfl (gdec kX8_throwing 1 rfl) ?_
  refine gp_X8_33 C h ho (gdec kX8_throwing 2 rfl) (fun H locs h => ?_)
  refine g_iconst C (gdec kX8_throwing 3 rfl) ?_
  exact g_iret C h hf (gdec kX8_throwing 4 rfl)
def f_X8_save_L10 : Nat → GS → Int → (GS → Int → Option (GS)) → Option (GS)
  | 0, _, _, _ => none
  | n + 1, G, x1, k => gd x1 (if x1 < 780 then ga (x1 + 260) 1040 (ga x1 1040 (f_X8_save_L10 n (gup G 10 1 x1 (G 10 1 (x1 + 260))) (x1 + 1) k)) else k G x1)
def f_X8_save_L51 : Nat → GS → Int → (GS → Int → Option (GS)) → Option (GS)
  | 0, _, _, _ => none
  | n + 1, G, x1, k => gd x1 (if x1 < 260 then ga x1 260 (ga ((260 * (G 8 0 3)) + x1) 1040 (f_X8_save_L51 n (gup G 10 1 ((260 * (G 8 0 3)) + x1) (G 10 0 x1)) (x1 + 1) k)) else k G x1)
def f_X8_save (G : GS) : Option (GS) :=
  gd (G 8 0 3) (if (G 8 0 3) = 4 then f_X8_save_L10 gFuel G 0 (fun G8 y1_7 => f_X8_save_L51 gFuel (gup G8 8 0 3 ((G8 8 0 3) - 1)) 0 (fun G14 y1_13 => some (gup G14 8 0 3 ((G14 8 0 3) + 1)))) else f_X8_save_L51 gFuel G 0 (fun G16 y1_15 => some (gup G16 8 0 3 ((G16 8 0 3) + 1))))
set_option maxHeartbeats 4000000 in
set_option maxRecDepth 100000 in
theorem c_X8_save (l : Launch) (E : gEnv) (G : GS) (ho : gOk E 8 0) (Gz : GS) (hf : f_X8_save G = some Gz) : gMet l yX8_save cX8_save 2 none 0 0 0 0 [.ref (eA E 8 0)] E G (gQv E Gz) := by
  refine g_met (by decide +kernel) (Nat.le_of_ble_eq_true rfl) ?_
  intro p e s m below meth c C H locs h ls hl
  have C : gC p s m _ meth c RX8 cX8_save 2 none E := C
  have hl : lv_has ls 2 [(0, .ref (eA E 8 0))] := hl
  have L10 : ∀ (n : Nat) (G : GS) (x1 : Int) (k : (GS → Int → Option (GS))) (hK : ∀ (G : GS) (x1 : Int), k G x1 = some Gz → ∀ (H : Heap) (locs : List Loc), gH E s G H locs → ∀ ls, lv_has ls 2 [(0, .ref (eA E 8 0)), (1, vI x1)] → W p l e (gRm 0 0 0 0) s m ([.ref (eA E 8 0)] : List Value).toArray below meth c H locs 0 0 (MQ below (gQv E Gz) ([.ref (eA E 8 0)] : List Value).toArray s 0 0 (eF E)) (F0 m 39 ls [])), ∀ (H : Heap) (locs : List Loc), gH E s G H locs → ∀ ls, lv_has ls 2 [(0, .ref (eA E 8 0)), (1, vI x1)] → f_X8_save_L10 n G x1 k = some Gz → W p l e (gRm 0 0 0 0) s m ([.ref (eA E 8 0)] : List Value).toArray below meth c H locs 0 0 (MQ below (gQv E Gz) ([.ref (eA E 8 0)] : List Value).toArray s 0 0 (eF E)) (F0 m 10 ls []) := by
    intro n
    induction n with
    | zero =>
      intro G x1 k hK H locs h ls hl hf
      exact absurd hf (by simp [f_X8_save_L10])
    | succ n ih =>
      intro G x1 k hK H locs h ls hl hf
      unfold f_X8_save_L10 at hf
      refine g_iload_n C hl 1 rfl rfl (gdec kX8_save 6 rfl) ?_
      refine g_sipush C (gdec kX8_save 7 rfl) rfl ?_
      obtain ⟨h3, hf⟩ := gd_s hf
      refine g_icmp_ge C (tgt := 39) h3 (by decide) (by decide) (gdec kX8_save 8 rfl) (fun c4 => ?_) (fun c4 => ?_)
      · replace hf := ifp c4 hf
        refine g_aload_n C hl 0 rfl rfl (gdec kX8_save 9 rfl) ?_
        refine gf_X8_13 C h ho (gdec kX8_save 10 rfl) ?_
        refine g_iload_n C hl 1 rfl rfl (gdec kX8_save 11 rfl) ?_
        refine g_aload_n C hl 0 rfl rfl (gdec kX8_save 12 rfl) ?_
        refine gf_X8_13 C h ho (gdec kX8_save 13 rfl) ?_
        refine g_iload_n C hl 1 rfl rfl (gdec kX8_save 14 rfl) ?_
        refine g_sipush C (gdec kX8_save 15 rfl) rfl ?_
        refine g_iadd C (gdec kX8_save 16 rfl) ?_
        obtain ⟨h5, hf⟩ := ga_s hf
        refine g_iald C h (gcl_8_1 C ho) (n := 1040) rfl (by decide) h5 (gdec kX8_save 17 rfl) ?_
        obtain ⟨h6, hf⟩ := ga_s hf
        refine g_iast C h (gcl_8_1 C ho) (n := 1040) rfl (by decide) h6 (gdec kX8_save 18 rfl) (fun H locs h => ?_)
        refine g_iinc C (k := 1) [(1, vI (x1 + 1)), (0, .ref (eA E 8 0))] hl rfl (by decide) rfl (gdec kX8_save 19 rfl) (fun ls hl => ?_)
        refine g_goto C (tgt := 10) (by decide) (gdec kX8_save 20 rfl) ?_
        exact ih _ _ k hK H locs h ls (lv_sub hl [1, 0] rfl) hf
      · replace hf := ifn c4 hf
        exact hK _ _ hf H locs h ls (lv_sub hl [0, 1] rfl)
  have L51 : ∀ (n : Nat) (G : GS) (x1 : Int) (k : (GS → Int → Option (GS))) (hK : ∀ (G : GS) (x1 : Int), k G x1 = some Gz → ∀ (H : Heap) (locs : List Loc), gH E s G H locs → ∀ ls, lv_has ls 2 [(0, .ref (eA E 8 0)), (1, vI x1)] → W p l e (gRm 0 0 0 0) s m ([.ref (eA E 8 0)] : List Value).toArray below meth c H locs 0 0 (MQ below (gQv E Gz) ([.ref (eA E 8 0)] : List Value).toArray s 0 0 (eF E)) (F0 m 85 ls [])), ∀ (H : Heap) (locs : List Loc), gH E s G H locs → ∀ ls, lv_has ls 2 [(0, .ref (eA E 8 0)), (1, vI x1)] → f_X8_save_L51 n G x1 k = some Gz → W p l e (gRm 0 0 0 0) s m ([.ref (eA E 8 0)] : List Value).toArray below meth c H locs 0 0 (MQ below (gQv E Gz) ([.ref (eA E 8 0)] : List Value).toArray s 0 0 (eF E)) (F0 m 51 ls []) := by
    intro n
    induction n with
    | zero =>
      intro G x1 k hK H locs h ls hl hf
      exact absurd hf (by simp [f_X8_save_L51])
    | succ n ih =>
      intro G x1 k hK H locs h ls hl hf
      unfold f_X8_save_L51 at hf
      refine g_iload_n C hl 1 rfl rfl (gdec kX8_save 29 rfl) ?_
      refine g_sipush C (gdec kX8_save 30 rfl) rfl ?_
      obtain ⟨h9, hf⟩ := gd_s hf
      refine g_icmp_ge C (tgt := 85) h9 (by decide) (by decide) (gdec kX8_save 31 rfl) (fun c10 => ?_) (fun c10 => ?_)
      · replace hf := ifp c10 hf
        refine g_aload_n C hl 0 rfl rfl (gdec kX8_save 32 rfl) ?_
        refine gf_X8_13 C h ho (gdec kX8_save 33 rfl) ?_
        refine g_sipush C (gdec kX8_save 34 rfl) rfl ?_
        refine g_aload_n C hl 0 rfl rfl (gdec kX8_save 35 rfl) ?_
        refine gf_X8_37 C h ho (gdec kX8_save 36 rfl) ?_
        refine g_imul C (gdec kX8_save 37 rfl) ?_
        refine g_iload_n C hl 1 rfl rfl (gdec kX8_save 38 rfl) ?_
        refine g_iadd C (gdec kX8_save 39 rfl) ?_
        refine g_aload_n C hl 0 rfl rfl (gdec kX8_save 40 rfl) ?_
        refine gf_X8_7 C h ho (gdec kX8_save 41 rfl) ?_
        refine g_iload_n C hl 1 rfl rfl (gdec kX8_save 42 rfl) ?_
        obtain ⟨h11, hf⟩ := ga_s hf
        refine g_iald C h (gcl_8_0 C ho) (n := 260) rfl (by decide) h11 (gdec kX8_save 43 rfl) ?_
        obtain ⟨h12, hf⟩ := ga_s hf
        refine g_iast C h (gcl_8_1 C ho) (n := 1040) rfl (by decide) h12 (gdec kX8_save 44 rfl) (fun H locs h => ?_)
        refine g_iinc C (k := 1) [(1, vI (x1 + 1)), (0, .ref (eA E 8 0))] hl rfl (by decide) rfl (gdec kX8_save 45 rfl) (fun ls hl => ?_)
        refine g_goto C (tgt := 51) (by decide) (gdec kX8_save 46 rfl) ?_
        exact ih _ _ k hK H locs h ls (lv_sub hl [1, 0] rfl) hf
      · replace hf := ifn c10 hf
        exact hK _ _ hf H locs h ls (lv_sub hl [0, 1] rfl)
  unfold f_X8_save at hf
  refine g_aload_n C hl 0 rfl rfl (gdec kX8_save 0 rfl) ?_
  refine gf_X8_37 C h ho (gdec kX8_save 1 rfl) ?_
  refine g_iconst C (gdec kX8_save 2 rfl) ?_
  obtain ⟨h1, hf⟩ := gd_s hf
  refine g_icmp_ne C (tgt := 49) h1 (by decide) (by decide) (gdec kX8_save 3 rfl) (fun c2 => ?_) (fun c2 => ?_)
  · replace hf := ifp c2 hf
    refine g_iconst C (gdec kX8_save 4 rfl) ?_
    refine g_istore_n C [(1, vI 0), (0, .ref (eA E 8 0))] hl rfl (by decide) rfl (gdec kX8_save 5 rfl) (fun ls hl => ?_)
    refine L10 gFuel _ _ _ (fun G8 y1_7 hf H locs h ls hl => ?_) H locs h ls (lv_sub hl [1, 0] rfl) hf
    refine g_aload_n C hl 0 rfl rfl (gdec kX8_save 21 rfl) ?_
    refine g_dup C rfl (gdec kX8_save 22 rfl) ?_
    refine gf_X8_37 C h ho (gdec kX8_save 23 rfl) ?_
    refine g_iconst C (gdec kX8_save 24 rfl) ?_
    refine g_isub C (gdec kX8_save 25 rfl) ?_
    refine gp_X8_37 C h ho (gdec kX8_save 26 rfl) (fun H locs h => ?_)
    refine g_iconst C (gdec kX8_save 27 rfl) ?_
    refine g_istore_n C [(1, vI 0), (0, .ref (eA E 8 0))] hl rfl (by decide) rfl (gdec kX8_save 28 rfl) (fun ls hl => ?_)
    refine L51 gFuel _ _ _ (fun G14 y1_13 hf H locs h ls hl => ?_) H locs h ls (lv_sub hl [1, 0] rfl) hf
    refine g_aload_n C hl 0 rfl rfl (gdec kX8_save 47 rfl) ?_
    refine g_dup C rfl (gdec kX8_save 48 rfl) ?_
    refine gf_X8_37 C h ho (gdec kX8_save 49 rfl) ?_
    refine g_iconst C (gdec kX8_save 50 rfl) ?_
    refine g_iadd C (gdec kX8_save 51 rfl) ?_
    refine gp_X8_37 C h ho (gdec kX8_save 52 rfl) (fun H locs h => ?_)
    exact g_vret C h hf (gdec kX8_save 53 rfl)
  · replace hf := ifn c2 hf
    refine g_iconst C (gdec kX8_save 27 rfl) ?_
    refine g_istore_n C [(1, vI 0), (0, .ref (eA E 8 0))] hl rfl (by decide) rfl (gdec kX8_save 28 rfl) (fun ls hl => ?_)
    refine L51 gFuel _ _ _ (fun G16 y1_15 hf H locs h ls hl => ?_) H locs h ls (lv_sub hl [1, 0] rfl) hf
    refine g_aload_n C hl 0 rfl rfl (gdec kX8_save 47 rfl) ?_
    refine g_dup C rfl (gdec kX8_save 48 rfl) ?_
    refine gf_X8_37 C h ho (gdec kX8_save 49 rfl) ?_
    refine g_iconst C (gdec kX8_save 50 rfl) ?_
    refine g_iadd C (gdec kX8_save 51 rfl) ?_
    refine gp_X8_37 C h ho (gdec kX8_save 52 rfl) (fun H locs h => ?_)
    exact g_vret C h hf (gdec kX8_save 53 rfl)
def f_X8_hoursOf (G : GS) (p1 : Int) : Option (Int) :=
  ga (9 + (3 * p1)) 260 (some (G 10 0 (9 + (3 * p1))))
set_option maxHeartbeats 4000000 in
set_option maxRecDepth 100000 in
theorem c_X8_hoursOf (l : Launch) (E : gEnv) (G : GS) (p1 : Int) (ho : gOk E 8 0) (rz : Int) (hf : f_X8_hoursOf G p1 = some rz) : gMet l yX8_hoursOf cX8_hoursOf 2 (some .int) 0 0 0 0 [.ref (eA E 8 0), vI p1] E G (gQi E G rz) := by
  refine g_met (by decide +kernel) (Nat.le_of_ble_eq_true rfl) ?_
  intro p e s m below meth c C H locs h ls hl
  have C : gC p s m _ meth c RX8 cX8_hoursOf 2 (some .int) E := C
  have hl : lv_has ls 2 [(0, .ref (eA E 8 0)), (1, vI p1)] := hl
  unfold f_X8_hoursOf at hf
  refine g_aload_n C hl 0 rfl rfl (gdec kX8_hoursOf 0 rfl) ?_
  refine gf_X8_7 C h ho (gdec kX8_hoursOf 1 rfl) ?_
  refine g_bipush C (gdec kX8_hoursOf 2 rfl) rfl ?_
  refine g_iconst C (gdec kX8_hoursOf 3 rfl) ?_
  refine g_iload_n C hl 1 rfl rfl (gdec kX8_hoursOf 4 rfl) ?_
  refine g_imul C (gdec kX8_hoursOf 5 rfl) ?_
  refine g_iadd C (gdec kX8_hoursOf 6 rfl) ?_
  obtain ⟨h1, hf⟩ := ga_s hf
  refine g_iald C h (gcl_8_0 C ho) (n := 260) rfl (by decide) h1 (gdec kX8_hoursOf 7 rfl) ?_
  exact g_iret C h (congrArg (Option.map (Prod.mk _)) hf) (gdec kX8_hoursOf 8 rfl)
def f_X8_fine (G : GS) (p1 : Int) : Option (GS × Int) :=
  some ((gup G 8 0 4 0), p1)
set_option maxHeartbeats 4000000 in
set_option maxRecDepth 100000 in
theorem c_X8_fine (l : Launch) (E : gEnv) (G : GS) (p1 : Int) (ho : gOk E 8 0) (Gz : GS) (rz : Int) (hf : f_X8_fine G p1 = some (Gz, rz)) : gMet l yX8_fine cX8_fine 2 (some .int) 0 0 0 0 [.ref (eA E 8 0), vI p1] E G (gQi E Gz rz) := by
  refine g_met (by decide +kernel) (Nat.le_of_ble_eq_true rfl) ?_
  intro p e s m below meth c C H locs h ls hl
  have C : gC p s m _ meth c RX8 cX8_fine 2 (some .int) E := C
  have hl : lv_has ls 2 [(0, .ref (eA E 8 0)), (1, vI p1)] := hl
  unfold f_X8_fine at hf
  refine g_aload_n C hl 0 rfl rfl (gdec kX8_fine 0 rfl) ?_
  refine g_iconst C (gdec kX8_fine 1 rfl) ?_
  refine gp_X8_33 C h ho (gdec kX8_fine 2 rfl) (fun H locs h => ?_)
  refine g_iload_n C hl 1 rfl rfl (gdec kX8_fine 3 rfl) ?_
  exact g_iret C h hf (gdec kX8_fine 4 rfl)
def f_X8_setStage (G : GS) (p1 : Int) (p2 : Int) (p3 : Int) (p4 : Int) : Option (GS × Int) :=
  bn1 (f_X8_isStage G p1) (fun r1 => gd r1 (if r1 = 0 then bnd (f_X8_throwing G 1) (fun G5 r6 => some (G5, r6)) else bn1 (f_X8_in G (bm p2) 1 9) (fun r8 => gd r8 (if r8 = 0 then bnd (f_X8_throwing G 2) (fun G12 r13 => some (G12, r13)) else bn1 (f_X8_in G (bm p3) (-5) 5) (fun r15 => gd r15 (if r15 = 0 then bnd (f_X8_throwing G 2) (fun G19 r20 => some (G19, r20)) else bn1 (f_X8_save G) (fun G22 => bn1 (f_X8_hoursOf G22 p1) (fun r24 => ga (9 + (3 * p1)) 260 (ga ((9 + (3 * p1)) + 1) 260 (gd p4 (if p4 = 0 then ga ((9 + (3 * p1)) + 2) 260 (bnd (f_X8_fine (gup (gup (gup G22 10 0 (9 + (3 * p1)) p2) 10 0 ((9 + (3 * p1)) + 1) p3) 10 0 ((9 + (3 * p1)) + 2) 0) r24) (fun G31 r32 => some (G31, r32))) else ga ((9 + (3 * p1)) + 2) 260 (bnd (f_X8_fine (gup (gup (gup G22 10 0 (9 + (3 * p1)) p2) 10 0 ((9 + (3 * p1)) + 1) p3) 10 0 ((9 + (3 * p1)) + 2) 1) r24) (fun G35 r36 => some (G35, r36))))))))))))))
set_option maxHeartbeats 4000000 in
set_option maxRecDepth 100000 in
theorem c_X8_setStage (l : Launch) (E : gEnv) (G : GS) (p1 : Int) (p2 : Int) (p3 : Int) (p4 : Int) (ho : gOk E 8 0) (Gz : GS) (rz : Int) (hf : f_X8_setStage G p1 p2 p3 p4 = some (Gz, rz)) : gMet l yX8_setStage cX8_setStage 6 (some .int) 2 46 0 0 [.ref (eA E 8 0), vI p1, vI p2, vI p3, vI p4] E G (gQi E Gz rz) := by
  refine g_met (by decide +kernel) (Nat.le_of_ble_eq_true rfl) ?_
  intro p e s m below meth c C H locs h ls hl
  have C : gC p s m _ meth c RX8 cX8_setStage 6 (some .int) E := C
  have hl : lv_has ls 6 [(0, .ref (eA E 8 0)), (1, vI p1), (2, vI p2), (3, vI p3), (4, vI p4)] := hl
  unfold f_X8_setStage at hf
  refine g_aload_n C hl 0 rfl rfl (gdec kX8_setStage 0 rfl) ?_
  refine g_iload_n C hl 1 rfl rfl (gdec kX8_setStage 1 rfl) ?_
  obtain ⟨r1, q2, hf⟩ := bn1_s hf
  refine g_ci h (g_runV C h ho (by decide) rfl (c_X8_isStage l E _ _ ho _ q2) wM_X8_60 wI_X8_isStage wS_X8_isStage wN_X8 wC_X8_isStage rfl ny_X8_isStage rfl ⟨Nat.le_of_ble_eq_true rfl, Nat.le_of_ble_eq_true rfl⟩ hl.1 rfl (Nat.le_of_ble_eq_true rfl) (gdec kX8_setStage 2 rfl) ⟨Nat.zero_le _, Nat.zero_le _⟩) (fun H locs h => ?_)
  obtain ⟨h3, hf⟩ := gd_s hf
  refine g_if_ne C (tgt := 14) h3 (by decide) (gdec kX8_setStage 3 rfl) (fun c4 => ?_) (fun c4 => ?_)
  · replace hf := ifp c4 hf
    refine g_aload_n C hl 0 rfl rfl (gdec kX8_setStage 4 rfl) ?_
    refine g_iconst C (gdec kX8_setStage 5 rfl) ?_
    obtain ⟨G5, r6, q7, hf⟩ := bnd_s hf
    refine g_ci h (g_runV C h ho (by decide) rfl (c_X8_throwing l E _ _ ho _ _ q7) wM_X8_64 wI_X8_throwing wS_X8_throwing wN_X8 wC_X8_throwing rfl ny_X8_throwing rfl ⟨Nat.le_of_ble_eq_true rfl, Nat.le_of_ble_eq_true rfl⟩ hl.1 rfl (Nat.le_of_ble_eq_true rfl) (gdec kX8_setStage 6 rfl) ⟨Nat.zero_le _, Nat.zero_le _⟩) (fun H locs h => ?_)
    exact g_iret C h hf (gdec kX8_setStage 7 rfl)
  · replace hf := ifn c4 hf
    refine g_iload_n C hl 2 rfl rfl (gdec kX8_setStage 8 rfl) ?_
    refine g_i2l C (gdec kX8_setStage 9 rfl) ?_
    refine g_lconst C (z := 1) (gdec kX8_setStage 10 rfl) rfl ?_
    refine g_ldc2 C (n := 9) wL_X8_67 rfl (gdec kX8_setStage 11 rfl) ?_
    obtain ⟨r8, q9, hf⟩ := bn1_s hf
    refine g_ci h (g_runS C h (c_X8_in l E _ _ _ _ _ q9) wM_X8_40 wT_X8_in wN_X8 wC_X8_in rfl ny_X8_in rfl ⟨Nat.le_of_ble_eq_true rfl, Nat.le_of_ble_eq_true rfl⟩ hl.1 rfl (Nat.le_of_ble_eq_true rfl) (gdec kX8_setStage 12 rfl) ⟨Nat.zero_le _, Nat.zero_le _⟩) (fun H locs h => ?_)
    obtain ⟨h10, hf⟩ := gd_s hf
    refine g_if_eq C (tgt := 40) h10 (by decide) (gdec kX8_setStage 13 rfl) (fun c11 => ?_) (fun c11 => ?_)
    · replace hf := ifp c11 hf
      refine g_aload_n C hl 0 rfl rfl (gdec kX8_setStage 20 rfl) ?_
      refine g_iconst C (gdec kX8_setStage 21 rfl) ?_
      obtain ⟨G12, r13, q14, hf⟩ := bnd_s hf
      refine g_ci h (g_runV C h ho (by decide) rfl (c_X8_throwing l E _ _ ho _ _ q14) wM_X8_64 wI_X8_throwing wS_X8_throwing wN_X8 wC_X8_throwing rfl ny_X8_throwing rfl ⟨Nat.le_of_ble_eq_true rfl, Nat.le_of_ble_eq_true rfl⟩ hl.1 rfl (Nat.le_of_ble_eq_true rfl) (gdec kX8_setStage 22 rfl) ⟨Nat.zero_le _, Nat.zero_le _⟩) (fun H locs h => ?_)
      exact g_iret C h hf (gdec kX8_setStage 23 rfl)
    · replace hf := ifn c11 hf
      refine g_iload_n C hl 3 rfl rfl (gdec kX8_setStage 14 rfl) ?_
      refine g_i2l C (gdec kX8_setStage 15 rfl) ?_
      refine g_ldc2 C (n := (-5)) wL_X8_69 rfl (gdec kX8_setStage 16 rfl) ?_
      refine g_ldc2 C (n := 5) wL_X8_71 rfl (gdec kX8_setStage 17 rfl) ?_
      obtain ⟨r15, q16, hf⟩ := bn1_s hf
      refine g_ci h (g_runS C h (c_X8_in l E _ _ _ _ _ q16) wM_X8_40 wT_X8_in wN_X8 wC_X8_in rfl ny_X8_in rfl ⟨Nat.le_of_ble_eq_true rfl, Nat.le_of_ble_eq_true rfl⟩ hl.1 rfl (Nat.le_of_ble_eq_true rfl) (gdec kX8_setStage 18 rfl) ⟨Nat.zero_le _, Nat.zero_le _⟩) (fun H locs h => ?_)
      obtain ⟨h17, hf⟩ := gd_s hf
      refine g_if_ne C (tgt := 46) h17 (by decide) (gdec kX8_setStage 19 rfl) (fun c18 => ?_) (fun c18 => ?_)
      · replace hf := ifp c18 hf
        refine g_aload_n C hl 0 rfl rfl (gdec kX8_setStage 20 rfl) ?_
        refine g_iconst C (gdec kX8_setStage 21 rfl) ?_
        obtain ⟨G19, r20, q21, hf⟩ := bnd_s hf
        refine g_ci h (g_runV C h ho (by decide) rfl (c_X8_throwing l E _ _ ho _ _ q21) wM_X8_64 wI_X8_throwing wS_X8_throwing wN_X8 wC_X8_throwing rfl ny_X8_throwing rfl ⟨Nat.le_of_ble_eq_true rfl, Nat.le_of_ble_eq_true rfl⟩ hl.1 rfl (Nat.le_of_ble_eq_true rfl) (gdec kX8_setStage 22 rfl) ⟨Nat.zero_le _, Nat.zero_le _⟩) (fun H locs h => ?_)
        exact g_iret C h hf (gdec kX8_setStage 23 rfl)
      · replace hf := ifn c18 hf
        refine g_aload_n C hl 0 rfl rfl (gdec kX8_setStage 24 rfl) ?_
        obtain ⟨G22, q23, hf⟩ := bn1_s hf
        refine g_cv h (g_runV C h ho (by decide) rfl (c_X8_save l E _ ho _ q23) wM_X8_73 wI_X8_save wS_X8_save wN_X8 wC_X8_save rfl ny_X8_save rfl ⟨Nat.le_of_ble_eq_true rfl, Nat.le_of_ble_eq_true rfl⟩ hl.1 rfl (Nat.le_of_ble_eq_true rfl) (gdec kX8_setStage 25 rfl) ⟨Nat.zero_le _, Nat.zero_le _⟩) (fun H locs h => ?_)
        refine g_aload_n C hl 0 rfl rfl (gdec kX8_setStage 26 rfl) ?_
        refine g_iload_n C hl 1 rfl rfl (gdec kX8_setStage 27 rfl) ?_
        obtain ⟨r24, q25, hf⟩ := bn1_s hf
        refine g_ci h (g_runV C h ho (by decide) rfl (c_X8_hoursOf l E _ _ ho _ q25) wM_X8_56 wI_X8_hoursOf wS_X8_hoursOf wN_X8 wC_X8_hoursOf rfl ny_X8_hoursOf rfl ⟨Nat.le_of_ble_eq_true rfl, Nat.le_of_ble_eq_true rfl⟩ hl.1 rfl (Nat.le_of_ble_eq_true rfl) (gdec kX8_setStage 28 rfl) ⟨Nat.zero_le _, Nat.zero_le _⟩) (fun H locs h => ?_)
        refine g_istore C [(5, vI r24), (0, .ref (eA E 8 0)), (1, vI p1), (2, vI p2), (3, vI p3), (4, vI p4)] hl (by decide) rfl (gdec kX8_setStage 29 rfl) (fun ls hl => ?_)
        refine g_aload_n C hl 1 rfl rfl (gdec kX8_setStage 30 rfl) ?_
        refine gf_X8_7 C h ho (gdec kX8_setStage 31 rfl) ?_
        refine g_bipush C (gdec kX8_setStage 32 rfl) rfl ?_
        refine g_iconst C (gdec kX8_setStage 33 rfl) ?_
        refine g_iload_n C hl 2 rfl rfl (gdec kX8_setStage 34 rfl) ?_
        refine g_imul C (gdec kX8_setStage 35 rfl) ?_
        refine g_iadd C (gdec kX8_setStage 36 rfl) ?_
        refine g_iload_n C hl 3 rfl rfl (gdec kX8_setStage 37 rfl) ?_
        obtain ⟨h26, hf⟩ := ga_s hf
        refine g_iast C h (gcl_8_0 C ho) (n := 260) rfl (by decide) h26 (gdec kX8_setStage 38 rfl) (fun H locs h => ?_)
        refine g_aload_n C hl 1 rfl rfl (gdec kX8_setStage 39 rfl) ?_
        refine gf_X8_7 C h ho (gdec kX8_setStage 40 rfl) ?_
        refine g_bipush C (gdec kX8_setStage 41 rfl) rfl ?_
        refine g_iconst C (gdec kX8_setStage 42 rfl) ?_
        refine g_iload_n C hl 2 rfl rfl (gdec kX8_setStage 43 rfl) ?_
        refine g_imul C (gdec kX8_setStage 44 rfl) ?_
        refine g_iadd C (gdec kX8_setStage 45 rfl) ?_
        refine g_iconst C (gdec kX8_setStage 46 rfl) ?_
        refine g_iadd C (gdec kX8_setStage 47 rfl) ?_
        refine g_iload_n C hl 4 rfl rfl (gdec kX8_setStage 48 rfl) ?_
        obtain ⟨h27, hf⟩ := ga_s hf
        refine g_iast C h (gcl_8_0 C ho) (n := 260) rfl (by decide) h27 (gdec kX8_setStage 49 rfl) (fun H locs h => ?_)
        refine g_aload_n C hl 1 rfl rfl (gdec kX8_setStage 50 rfl) ?_
        refine gf_X8_7 C h ho (gdec kX8_setStage 51 rfl) ?_
        refine g_bipush C (gdec kX8_setStage 52 rfl) rfl ?_
        refine g_iconst C (gdec kX8_setStage 53 rfl) ?_
        refine g_iload_n C hl 2 rfl rfl (gdec kX8_setStage 54 rfl) ?_
        refine g_imul C (gdec kX8_setStage 55 rfl) ?_
        refine g_iadd C (gdec kX8_setStage 56 rfl) ?_
        refine g_iconst C (gdec kX8_setStage 57 rfl) ?_
        refine g_iadd C (gdec kX8_setStage 58 rfl) ?_
        refine g_iload C hl 5 rfl (gdec kX8_setStage 59 rfl) ?_
        obtain ⟨h28, hf⟩ := gd_s hf
        refine g_if_eq C (tgt := 104) h28 (by decide) (gdec kX8_setStage_1 0 rfl) (fun c29 => ?_) (fun c29 => ?_)
        · replace hf := ifp c29 hf
          refine g_iconst C (gdec kX8_setStage_1 3 rfl) ?_
          obtain ⟨h30, hf⟩ := ga_s hf
          refine g_iast C h (gcl_8_0 C ho) (n := 260) rfl (by decide) h30 (gdec kX8_setStage_1 4 rfl) (fun H locs h => ?_)
          refine g_aload_n C hl 1 rfl rfl (gdec kX8_setStage_1 5 rfl) ?_
          refine g_iload C hl 0 rfl (gdec kX8_setStage_1 6 rfl) ?_
          obtain ⟨G31, r32, q33, hf⟩ := bnd_s hf
          refine g_ci h (g_runV C h ho (by decide) rfl (c_X8_fine l E _ _ ho _ _ q33) wM_X8_76 wI_X8_fine wS_X8_fine wN_X8 wC_X8_fine rfl ny_X8_fine rfl ⟨Nat.le_of_ble_eq_true rfl, Nat.le_of_ble_eq_true rfl⟩ hl.1 rfl (Nat.le_of_ble_eq_true rfl) (gdec kX8_setStage_1 7 rfl) ⟨Nat.zero_le _, Nat.zero_le _⟩) (fun H locs h => ?_)
          exact g_iret C h hf (gdec kX8_setStage_1 8 rfl)
        · replace hf := ifn c29 hf
          refine g_iconst C (gdec kX8_setStage_1 1 rfl) ?_
          refine g_goto C (tgt := 105) (by decide) (gdec kX8_setStage_1 2 rfl) ?_
          obtain ⟨h34, hf⟩ := ga_s hf
          refine g_iast C h (gcl_8_0 C ho) (n := 260) rfl (by decide) h34 (gdec kX8_setStage_1 4 rfl) (fun H locs h => ?_)
          refine g_aload_n C hl 1 rfl rfl (gdec kX8_setStage_1 5 rfl) ?_
          refine g_iload C hl 0 rfl (gdec kX8_setStage_1 6 rfl) ?_
          obtain ⟨G35, r36, q37, hf⟩ := bnd_s hf
          refine g_ci h (g_runV C h ho (by decide) rfl (c_X8_fine l E _ _ ho _ _ q37) wM_X8_76 wI_X8_fine wS_X8_fine wN_X8 wC_X8_fine rfl ny_X8_fine rfl ⟨Nat.le_of_ble_eq_true rfl, Nat.le_of_ble_eq_true rfl⟩ hl.1 rfl (Nat.le_of_ble_eq_true rfl) (gdec kX8_setStage_1 7 rfl) ⟨Nat.zero_le _, Nat.zero_le _⟩) (fun H locs h => ?_)
          exact g_iret C h hf (gdec kX8_setStage_1 8 rfl)
def f_X8_isInn (G : GS) (p1 : Int) : Option (Int) :=
  bn1 (f_X8_in G (bm p1) 0 ((bm (G 10 0 0)) - 1)) (fun r1 => gb r1 (some r1))
set_option maxHeartbeats 4000000 in
set_option maxRecDepth 100000 in
theorem c_X8_isInn (l : Launch) (E : gEnv) (G : GS) (p1 : Int) (ho : gOk E 8 0) (rz : Int) (hf : f_X8_isInn G p1 = some rz) : gMet l yX8_isInn cX8_isInn 2 (some .boolean) 1 25 0 0 [.ref (eA E 8 0), vI p1] E G (gQi E G rz) := by
  refine g_met (by decide +kernel) (Nat.le_of_ble_eq_true rfl) ?_
  intro p e s m below meth c C H locs h ls hl
  have C : gC p s m _ meth c RX8 cX8_isInn 2 (some .boolean) E := C
  have hl : lv_has ls 2 [(0, .ref (eA E 8 0)), (1, vI p1)] := hl
  unfold f_X8_isInn at hf
  refine g_iload_n C hl 1 rfl rfl (gdec kX8_isInn 0 rfl) ?_
  refine g_i2l C (gdec kX8_isInn 1 rfl) ?_
  refine g_lconst C (z := 0) (gdec kX8_isInn 2 rfl) rfl ?_
  refine g_aload_n C hl 0 rfl rfl (gdec kX8_isInn 3 rfl) ?_
  refine gf_X8_7 C h ho (gdec kX8_isInn 4 rfl) ?_
  refine g_iconst C (gdec kX8_isInn 5 rfl) ?_
  refine g_iald C h (gcl_8_0 C ho) (n := 260) rfl (by decide) (⟨by decide, by decide⟩ : (0 : Int) ≤ 0 ∧ (0 : Int) < 260) (gdec kX8_isInn 6 rfl) ?_
  refine g_i2l C (gdec kX8_isInn 7 rfl) ?_
  refine g_lconst C (z := 1) (gdec kX8_isInn 8 rfl) rfl ?_
  refine g_lsub C (gdec kX8_isInn 9 rfl) ?_
  obtain ⟨r1, q2, hf⟩ := bn1_s hf
  refine g_ci h (g_runS C h (c_X8_in l E _ _ _ _ _ q2) wM_X8_40 wT_X8_in wN_X8 wC_X8_in rfl ny_X8_in rfl ⟨Nat.le_of_ble_eq_true rfl, Nat.le_of_ble_eq_true rfl⟩ hl.1 rfl (Nat.le_of_ble_eq_true rfl) (gdec kX8_isInn 10 rfl) ⟨Nat.zero_le _, Nat.zero_le _⟩) (fun H locs h => ?_)
  obtain ⟨h3, hf⟩ := gb_s hf
  exact g_zret C h h3 (congrArg (Option.map (Prod.mk _)) hf) (gdec kX8_isInn 11 rfl)
def f_X8_setInn (G : GS) (p1 : Int) (p2 : Int) (p3 : Int) (p4 : Int) : Option (GS × Int) :=
  bn1 (f_X8_isInn G p1) (fun r1 => gd r1 (if r1 = 0 then bnd (f_X8_throwing G 1) (fun G5 r6 => some (G5, r6)) else bn1 (f_X8_in G (bm p2) 0 6) (fun r8 => gd r8 (if r8 = 0 then bnd (f_X8_throwing G 2) (fun G12 r13 => some (G12, r13)) else bn1 (f_X8_in G (bm p3) 0 999) (fun r15 => gd r15 (if r15 = 0 then bnd (f_X8_throwing G 2) (fun G19 r20 => some (G19, r20)) else bn1 (f_X8_save G) (fun G22 => ga ((30 + (3 * p1)) + 1) 260 (ga (30 + (3 * p1)) 260 (gd p4 (if p4 = 0 then ga ((30 + (3 * p1)) + 2) 260 (bnd (f_X8_fine (gup (gup (gup G22 10 0 (30 + (3 * p1)) p2) 10 0 ((30 + (3 * p1)) + 1) p3) 10 0 ((30 + (3 * p1)) + 2) 0) (G22 10 0 ((30 + (3 * p1)) + 1))) (fun G29 r30 => some (G29, r30))) else ga ((30 + (3 * p1)) + 2) 260 (bnd (f_X8_fine (gup (gup (gup G22 10 0 (30 + (3 * p1)) p2) 10 0 ((30 + (3 * p1)) + 1) p3) 10 0 ((30 + (3 * p1)) + 2) 1) (G22 10 0 ((30 + (3 * p1)) + 1))) (fun G33 r34 => some (G33, r34)))))))))))))
set_option maxHeartbeats 4000000 in
set_option maxRecDepth 100000 in
theorem c_X8_setInn (l : Launch) (E : gEnv) (G : GS) (p1 : Int) (p2 : Int) (p3 : Int) (p4 : Int) (ho : gOk E 8 0) (Gz : GS) (rz : Int) (hf : f_X8_setInn G p1 p2 p3 p4 = some (Gz, rz)) : gMet l yX8_setInn cX8_setInn 6 (some .int) 2 46 0 0 [.ref (eA E 8 0), vI p1, vI p2, vI p3, vI p4] E G (gQi E Gz rz) := by
  refine g_met (by decide +kernel) (Nat.le_of_ble_eq_true rfl) ?_
  intro p e s m below meth c C H locs h ls hl
  have C : gC p s m _ meth c RX8 cX8_setInn 6 (some .int) E := C
  have hl : lv_has ls 6 [(0, .ref (eA E 8 0)), (1, vI p1), (2, vI p2), (3, vI p3), (4, vI p4)] := hl
  unfold f_X8_setInn at hf
  refine g_aload_n C hl 0 rfl rfl (gdec kX8_setInn 0 rfl) ?_
  refine g_iload_n C hl 1 rfl rfl (gdec kX8_setInn 1 rfl) ?_
  obtain ⟨r1, q2, hf⟩ := bn1_s hf
  refine g_ci h (g_runV C h ho (by decide) rfl (c_X8_isInn l E _ _ ho _ q2) wM_X8_79 wI_X8_isInn wS_X8_isInn wN_X8 wC_X8_isInn rfl ny_X8_isInn rfl ⟨Nat.le_of_ble_eq_true rfl, Nat.le_of_ble_eq_true rfl⟩ hl.1 rfl (Nat.le_of_ble_eq_true rfl) (gdec kX8_setInn 2 rfl) ⟨Nat.zero_le _, Nat.zero_le _⟩) (fun H locs h => ?_)
  obtain ⟨h3, hf⟩ := gd_s hf
  refine g_if_ne C (tgt := 14) h3 (by decide) (gdec kX8_setInn 3 rfl) (fun c4 => ?_) (fun c4 => ?_)
  · replace hf := ifp c4 hf
    refine g_aload_n C hl 0 rfl rfl (gdec kX8_setInn 4 rfl) ?_
    refine g_iconst C (gdec kX8_setInn 5 rfl) ?_
    obtain ⟨G5, r6, q7, hf⟩ := bnd_s hf
    refine g_ci h (g_runV C h ho (by decide) rfl (c_X8_throwing l E _ _ ho _ _ q7) wM_X8_64 wI_X8_throwing wS_X8_throwing wN_X8 wC_X8_throwing rfl ny_X8_throwing rfl ⟨Nat.le_of_ble_eq_true rfl, Nat.le_of_ble_eq_true rfl⟩ hl.1 rfl (Nat.le_of_ble_eq_true rfl) (gdec kX8_setInn 6 rfl) ⟨Nat.zero_le _, Nat.zero_le _⟩) (fun H locs h => ?_)
    exact g_iret C h hf (gdec kX8_setInn 7 rfl)
  · replace hf := ifn c4 hf
    refine g_iload_n C hl 2 rfl rfl (gdec kX8_setInn 8 rfl) ?_
    refine g_i2l C (gdec kX8_setInn 9 rfl) ?_
    refine g_lconst C (z := 0) (gdec kX8_setInn 10 rfl) rfl ?_
    refine g_ldc2 C (n := 6) wL_X8_82 rfl (gdec kX8_setInn 11 rfl) ?_
    obtain ⟨r8, q9, hf⟩ := bn1_s hf
    refine g_ci h (g_runS C h (c_X8_in l E _ _ _ _ _ q9) wM_X8_40 wT_X8_in wN_X8 wC_X8_in rfl ny_X8_in rfl ⟨Nat.le_of_ble_eq_true rfl, Nat.le_of_ble_eq_true rfl⟩ hl.1 rfl (Nat.le_of_ble_eq_true rfl) (gdec kX8_setInn 12 rfl) ⟨Nat.zero_le _, Nat.zero_le _⟩) (fun H locs h => ?_)
    obtain ⟨h10, hf⟩ := gd_s hf
    refine g_if_eq C (tgt := 38) h10 (by decide) (gdec kX8_setInn 13 rfl) (fun c11 => ?_) (fun c11 => ?_)
    · replace hf := ifp c11 hf
      refine g_aload_n C hl 0 rfl rfl (gdec kX8_setInn 20 rfl) ?_
      refine g_iconst C (gdec kX8_setInn 21 rfl) ?_
      obtain ⟨G12, r13, q14, hf⟩ := bnd_s hf
      refine g_ci h (g_runV C h ho (by decide) rfl (c_X8_throwing l E _ _ ho _ _ q14) wM_X8_64 wI_X8_throwing wS_X8_throwing wN_X8 wC_X8_throwing rfl ny_X8_throwing rfl ⟨Nat.le_of_ble_eq_true rfl, Nat.le_of_ble_eq_true rfl⟩ hl.1 rfl (Nat.le_of_ble_eq_true rfl) (gdec kX8_setInn 22 rfl) ⟨Nat.zero_le _, Nat.zero_le _⟩) (fun H locs h => ?_)
      exact g_iret C h hf (gdec kX8_setInn 23 rfl)
    · replace hf := ifn c11 hf
      refine g_iload_n C hl 3 rfl rfl (gdec kX8_setInn 14 rfl) ?_
      refine g_i2l C (gdec kX8_setInn 15 rfl) ?_
      refine g_lconst C (z := 0) (gdec kX8_setInn 16 rfl) rfl ?_
      refine g_ldc2 C (n := 999) wL_X8_84 rfl (gdec kX8_setInn 17 rfl) ?_
      obtain ⟨r15, q16, hf⟩ := bn1_s hf
      refine g_ci h (g_runS C h (c_X8_in l E _ _ _ _ _ q16) wM_X8_40 wT_X8_in wN_X8 wC_X8_in rfl ny_X8_in rfl ⟨Nat.le_of_ble_eq_true rfl, Nat.le_of_ble_eq_true rfl⟩ hl.1 rfl (Nat.le_of_ble_eq_true rfl) (gdec kX8_setInn 18 rfl) ⟨Nat.zero_le _, Nat.zero_le _⟩) (fun H locs h => ?_)
      obtain ⟨h17, hf⟩ := gd_s hf
      refine g_if_ne C (tgt := 44) h17 (by decide) (gdec kX8_setInn 19 rfl) (fun c18 => ?_) (fun c18 => ?_)
      · replace hf := ifp c18 hf
        refine g_aload_n C hl 0 rfl rfl (gdec kX8_setInn 20 rfl) ?_
        refine g_iconst C (gdec kX8_setInn 21 rfl) ?_
        obtain ⟨G19, r20, q21, hf⟩ := bnd_s hf
        refine g_ci h (g_runV C h ho (by decide) rfl (c_X8_throwing l E _ _ ho _ _ q21) wM_X8_64 wI_X8_throwing wS_X8_throwing wN_X8 wC_X8_throwing rfl ny_X8_throwing rfl ⟨Nat.le_of_ble_eq_true rfl, Nat.le_of_ble_eq_true rfl⟩ hl.1 rfl (Nat.le_of_ble_eq_true rfl) (gdec kX8_setInn 22 rfl) ⟨Nat.zero_le _, Nat.zero_le _⟩) (fun H locs h => ?_)
        exact g_iret C h hf (gdec kX8_setInn 23 rfl)
      · replace hf := ifn c18 hf
        refine g_aload_n C hl 0 rfl rfl (gdec kX8_setInn 24 rfl) ?_
        obtain ⟨G22, q23, hf⟩ := bn1_s hf
        refine g_cv h (g_runV C h ho (by decide) rfl (c_X8_save l E _ ho _ q23) wM_X8_73 wI_X8_save wS_X8_save wN_X8 wC_X8_save rfl ny_X8_save rfl ⟨Nat.le_of_ble_eq_true rfl, Nat.le_of_ble_eq_true rfl⟩ hl.1 rfl (Nat.le_of_ble_eq_true rfl) (gdec kX8_setInn 25 rfl) ⟨Nat.zero_le _, Nat.zero_le _⟩) (fun H locs h => ?_)
        refine g_aload_n C hl 0 rfl rfl (gdec kX8_setInn 26 rfl) ?_
        refine gf_X8_7 C h ho (gdec kX8_setInn 27 rfl) ?_
        refine g_bipush C (gdec kX8_setInn 28 rfl) rfl ?_
        refine g_iconst C (gdec kX8_setInn 29 rfl) ?_
        refine g_iload_n C hl 1 rfl rfl (gdec kX8_setInn 30 rfl) ?_
        refine g_imul C (gdec kX8_setInn 31 rfl) ?_
        refine g_iadd C (gdec kX8_setInn 32 rfl) ?_
        refine g_iconst C (gdec kX8_setInn 33 rfl) ?_
        refine g_iadd C (gdec kX8_setInn 34 rfl) ?_
        obtain ⟨h24, hf⟩ := ga_s hf
        refine g_iald C h (gcl_8_0 C ho) (n := 260) rfl (by decide) h24 (gdec kX8_setInn 35 rfl) ?_
        refine g_istore C [(5, vI (G22 10 0 ((30 + (3 * p1)) + 1))), (0, .ref (eA E 8 0)), (1, vI p1), (2, vI p2), (3, vI p3), (4, vI p4)] hl (by decide) rfl (gdec kX8_setInn 36 rfl) (fun ls hl => ?_)
        refine g_aload_n C hl 1 rfl rfl (gdec kX8_setInn 37 rfl) ?_
        refine gf_X8_7 C h ho (gdec kX8_setInn 38 rfl) ?_
        refine g_bipush C (gdec kX8_setInn 39 rfl) rfl ?_
        refine g_iconst C (gdec kX8_setInn 40 rfl) ?_
        refine g_iload_n C hl 2 rfl rfl (gdec kX8_setInn 41 rfl) ?_
        refine g_imul C (gdec kX8_setInn 42 rfl) ?_
        refine g_iadd C (gdec kX8_setInn 43 rfl) ?_
        refine g_iload_n C hl 3 rfl rfl (gdec kX8_setInn 44 rfl) ?_
        obtain ⟨h25, hf⟩ := ga_s hf
        refine g_iast C h (gcl_8_0 C ho) (n := 260) rfl (by decide) h25 (gdec kX8_setInn 45 rfl) (fun H locs h => ?_)
        refine g_aload_n C hl 1 rfl rfl (gdec kX8_setInn 46 rfl) ?_
        refine gf_X8_7 C h ho (gdec kX8_setInn 47 rfl) ?_
        refine g_bipush C (gdec kX8_setInn 48 rfl) rfl ?_
        refine g_iconst C (gdec kX8_setInn 49 rfl) ?_
        refine g_iload_n C hl 2 rfl rfl (gdec kX8_setInn 50 rfl) ?_
        refine g_imul C (gdec kX8_setInn 51 rfl) ?_
        refine g_iadd C (gdec kX8_setInn 52 rfl) ?_
        refine g_iconst C (gdec kX8_setInn 53 rfl) ?_
        refine g_iadd C (gdec kX8_setInn 54 rfl) ?_
        refine g_iload_n C hl 4 rfl rfl (gdec kX8_setInn 55 rfl) ?_
        refine g_iast C h (gcl_8_0 C ho) (n := 260) rfl (by decide) h24 (gdec kX8_setInn 56 rfl) (fun H locs h => ?_)
        refine g_aload_n C hl 1 rfl rfl (gdec kX8_setInn 57 rfl) ?_
        refine gf_X8_7 C h ho (gdec kX8_setInn 58 rfl) ?_
        refine g_bipush C (gdec kX8_setInn 59 rfl) rfl ?_
        refine g_iconst C (gdec kX8_setInn_1 0 rfl) ?_
        refine g_iload_n C hl 2 rfl rfl (gdec kX8_setInn_1 1 rfl) ?_
        refine g_imul C (gdec kX8_setInn_1 2 rfl) ?_
        refine g_iadd C (gdec kX8_setInn_1 3 rfl) ?_
        refine g_iconst C (gdec kX8_setInn_1 4 rfl) ?_
        refine g_iadd C (gdec kX8_setInn_1 5 rfl) ?_
        refine g_iload C hl 5 rfl (gdec kX8_setInn_1 6 rfl) ?_
        obtain ⟨h26, hf⟩ := gd_s hf
        refine g_if_eq C (tgt := 110) h26 (by decide) (gdec kX8_setInn_1 7 rfl) (fun c27 => ?_) (fun c27 => ?_)
        · replace hf := ifp c27 hf
          refine g_iconst C (gdec kX8_setInn_1 10 rfl) ?_
          obtain ⟨h28, hf⟩ := ga_s hf
          refine g_iast C h (gcl_8_0 C ho) (n := 260) rfl (by decide) h28 (gdec kX8_setInn_1 11 rfl) (fun H locs h => ?_)
          refine g_aload_n C hl 1 rfl rfl (gdec kX8_setInn_1 12 rfl) ?_
          refine g_iload C hl 0 rfl (gdec kX8_setInn_1 13 rfl) ?_
          obtain ⟨G29, r30, q31, hf⟩ := bnd_s hf
          refine g_ci h (g_runV C h ho (by decide) rfl (c_X8_fine l E _ _ ho _ _ q31) wM_X8_76 wI_X8_fine wS_X8_fine wN_X8 wC_X8_fine rfl ny_X8_fine rfl ⟨Nat.le_of_ble_eq_true rfl, Nat.le_of_ble_eq_true rfl⟩ hl.1 rfl (Nat.le_of_ble_eq_true rfl) (gdec kX8_setInn_1 14 rfl) ⟨Nat.zero_le _, Nat.zero_le _⟩) (fun H locs h => ?_)
          exact g_iret C h hf (gdec kX8_setInn_1 15 rfl)
        · replace hf := ifn c27 hf
          refine g_iconst C (gdec kX8_setInn_1 8 rfl) ?_
          refine g_goto C (tgt := 111) (by decide) (gdec kX8_setInn_1 9 rfl) ?_
          obtain ⟨h32, hf⟩ := ga_s hf
          refine g_iast C h (gcl_8_0 C ho) (n := 260) rfl (by decide) h32 (gdec kX8_setInn_1 11 rfl) (fun H locs h => ?_)
          refine g_aload_n C hl 1 rfl rfl (gdec kX8_setInn_1 12 rfl) ?_
          refine g_iload C hl 0 rfl (gdec kX8_setInn_1 13 rfl) ?_
          obtain ⟨G33, r34, q35, hf⟩ := bnd_s hf
          refine g_ci h (g_runV C h ho (by decide) rfl (c_X8_fine l E _ _ ho _ _ q35) wM_X8_76 wI_X8_fine wS_X8_fine wN_X8 wC_X8_fine rfl ny_X8_fine rfl ⟨Nat.le_of_ble_eq_true rfl, Nat.le_of_ble_eq_true rfl⟩ hl.1 rfl (Nat.le_of_ble_eq_true rfl) (gdec kX8_setInn_1 14 rfl) ⟨Nat.zero_le _, Nat.zero_le _⟩) (fun H locs h => ?_)
          exact g_iret C h hf (gdec kX8_setInn_1 15 rfl)
def f_X8_teamAt (G : GS) (p1 : Int) (p2 : Int) : Option (Int) :=
  some ((54 + (11 * p1)) + p2)
set_option maxHeartbeats 4000000 in
set_option maxRecDepth 100000 in
theorem c_X8_teamAt (l : Launch) (E : gEnv) (G : GS) (p1 : Int) (p2 : Int) (rz : Int) (hf : f_X8_teamAt G p1 p2 = some rz) : gMet l yX8_teamAt cX8_teamAt 2 (some .int) 0 0 0 0 [vI p1, vI p2] E G (gQi E G rz) := by
  refine g_met (by decide +kernel) (Nat.le_of_ble_eq_true rfl) ?_
  intro p e s m below meth c C H locs h ls hl
  have C : gC p s m _ meth c RX8 cX8_teamAt 2 (some .int) E := C
  have hl : lv_has ls 2 [(0, vI p1), (1, vI p2)] := hl
  unfold f_X8_teamAt at hf
  refine g_bipush C (gdec kX8_teamAt 0 rfl) rfl ?_
  refine g_bipush C (gdec kX8_teamAt 1 rfl) rfl ?_
  refine g_iload_n C hl 0 rfl rfl (gdec kX8_teamAt 2 rfl) ?_
  refine g_imul C (gdec kX8_teamAt 3 rfl) ?_
  refine g_iadd C (gdec kX8_teamAt 4 rfl) ?_
  refine g_iload_n C hl 1 rfl rfl (gdec kX8_teamAt 5 rfl) ?_
  refine g_iadd C (gdec kX8_teamAt 6 rfl) ?_
  exact g_iret C h (congrArg (Option.map (Prod.mk _)) hf) (gdec kX8_teamAt 7 rfl)
def f_X8_adds_L11 (p1 : Int) (p2 : Int) : Nat → GS → Int → Int → (GS → Int → Int → Option (GS)) → Option (GS)
  | 0, _, _, _, _ => none
  | n + 1, G, x3, x4, k => gd x4 (if x4 < 11 then bn1 (f_X8_teamAt G x3 x4) (fun r3 => ga r3 260 (f_X8_adds_L11 p1 p2 n (gup G 10 0 r3 0) x3 (x4 + 1) k)) else k G x3 x4)
def f_X8_adds (G : GS) (p1 : Int) (p2 : Int) : Option (GS) :=
  f_X8_adds_L11 p1 p2 gFuel G (G 10 0 7) 0 (fun G7 y3_6 y4_6 => bn1 (f_X8_teamAt G7 y3_6 0) (fun r8 => ga r8 260 (bn1 (f_X8_teamAt (gup G7 10 0 r8 p1) y3_6 1) (fun r11 => ga r11 260 (bn1 (f_X8_teamAt (gup (gup G7 10 0 r8 p1) 10 0 r11 p2) y3_6 2) (fun r14 => ga r14 260 (bn1 (f_X8_teamAt (gup (gup (gup G7 10 0 r8 p1) 10 0 r11 p2) 10 0 r14 p1) y3_6 4) (fun r17 => ga r17 260 (nm (gup (gup (gup (gup (gup G7 10 0 r8 p1) 10 0 r11 p2) 10 0 r14 p1) 10 0 r17 (-1)) 10 0 7 (((gup (gup (gup (gup G7 10 0 r8 p1) 10 0 r11 p2) 10 0 r14 p1) 10 0 r17 (-1)) 10 0 7) + 1)) (fun G20 => some G20))))))))))
set_option maxHeartbeats 4000000 in
set_option maxRecDepth 100000 in
theorem c_X8_adds (l : Launch) (E : gEnv) (G : GS) (p1 : Int) (p2 : Int) (ho : gOk E 8 0) (Gz : GS) (hf : f_X8_adds G p1 p2 = some Gz) : gMet l yX8_adds cX8_adds 5 none 1 21 0 0 [.ref (eA E 8 0), vI p1, vI p2] E G (gQv E Gz) := by
  refine g_met (by decide +kernel) (Nat.le_of_ble_eq_true rfl) ?_
  intro p e s m below meth c C H locs h ls hl
  have C : gC p s m _ meth c RX8 cX8_adds 5 none E := C
  have hl : lv_has ls 5 [(0, .ref (eA E 8 0)), (1, vI p1), (2, vI p2)] := hl
  have L11 : ∀ (n : Nat) (G : GS) (x3 : Int) (x4 : Int) (k : (GS → Int → Int → Option (GS))) (hK : ∀ (G : GS) (x3 : Int) (x4 : Int), k G x3 x4 = some Gz → ∀ (H : Heap) (locs : List Loc), gH E s G H locs → ∀ ls, lv_has ls 5 [(0, .ref (eA E 8 0)), (1, vI p1), (2, vI p2), (3, vI x3), (4, vI x4)] → W p l e (gRm 1 21 0 0) s m ([.ref (eA E 8 0), vI p1, vI p2] : List Value).toArray below meth c H locs 0 0 (MQ below (gQv E Gz) ([.ref (eA E 8 0), vI p1, vI p2] : List Value).toArray s 0 0 (eF E)) (F0 m 36 ls [])), ∀ (H : Heap) (locs : List Loc), gH E s G H locs → ∀ ls, lv_has ls 5 [(0, .ref (eA E 8 0)), (1, vI p1), (2, vI p2), (3, vI x3), (4, vI x4)] → f_X8_adds_L11 p1 p2 n G x3 x4 k = some Gz → W p l e (gRm 1 21 0 0) s m ([.ref (eA E 8 0), vI p1, vI p2] : List Value).toArray below meth c H locs 0 0 (MQ below (gQv E Gz) ([.ref (eA E 8 0), vI p1, vI p2] : List Value).toArray s 0 0 (eF E)) (F0 m 11 ls []) := by
    intro n
    induction n with
    | zero =>
      intro G x3 x4 k hK H locs h ls hl hf
      exact absurd hf (by simp [f_X8_adds_L11])
    | succ n ih =>
      intro G x3 x4 k hK H locs h ls hl hf
      unfold f_X8_adds_L11 at hf
      refine g_iload C hl 4 rfl (gdec kX8_adds 7 rfl) ?_
      refine g_bipush C (gdec kX8_adds 8 rfl) rfl ?_
      obtain ⟨h1, hf⟩ := gd_s hf
      refine g_icmp_ge C (tgt := 36) h1 (by decide) (by decide) (gdec kX8_adds 9 rfl) (fun c2 => ?_) (fun c2 => ?_)
      · replace hf := ifp c2 hf
        refine g_aload_n C hl 0 rfl rfl (gdec kX8_adds 10 rfl) ?_
        refine gf_X8_7 C h ho (gdec kX8_adds 11 rfl) ?_
        refine g_iload_n C hl 3 rfl rfl (gdec kX8_adds 12 rfl) ?_
        refine g_iload C hl 4 rfl (gdec kX8_adds 13 rfl) ?_
        obtain ⟨r3, q4, hf⟩ := bn1_s hf
        refine g_ci h (g_runS C h (c_X8_teamAt l E _ _ _ _ q4) wM_X8_46 wT_X8_teamAt wN_X8 wC_X8_teamAt rfl ny_X8_teamAt rfl ⟨Nat.le_of_ble_eq_true rfl, Nat.le_of_ble_eq_true rfl⟩ hl.1 rfl (Nat.le_of_ble_eq_true rfl) (gdec kX8_adds 14 rfl) ⟨Nat.zero_le _, Nat.zero_le _⟩) (fun H locs h => ?_)
        refine g_iconst C (gdec kX8_adds 15 rfl) ?_
        obtain ⟨h5, hf⟩ := ga_s hf
        refine g_iast C h (gcl_8_0 C ho) (n := 260) rfl (by decide) h5 (gdec kX8_adds 16 rfl) (fun H locs h => ?_)
        refine g_iinc C (k := 4) [(4, vI (x4 + 1)), (0, .ref (eA E 8 0)), (1, vI p1), (2, vI p2), (3, vI x3)] hl rfl (by decide) rfl (gdec kX8_adds 17 rfl) (fun ls hl => ?_)
        refine g_goto C (tgt := 11) (by decide) (gdec kX8_adds 18 rfl) ?_
        exact ih _ _ _ k hK H locs h ls (lv_sub hl [1, 2, 3, 4, 0] rfl) hf
      · replace hf := ifn c2 hf
        exact hK _ _ _ hf H locs h ls (lv_sub hl [0, 1, 2, 3, 4] rfl)
  unfold f_X8_adds at hf
  refine g_aload_n C hl 0 rfl rfl (gdec kX8_adds 0 rfl) ?_
  refine gf_X8_7 C h ho (gdec kX8_adds 1 rfl) ?_
  refine g_bipush C (gdec kX8_adds 2 rfl) rfl ?_
  refine g_iald C h (gcl_8_0 C ho) (n := 260) rfl (by decide) (⟨by decide, by decide⟩ : (0 : Int) ≤ 7 ∧ (7 : Int) < 260) (gdec kX8_adds 3 rfl) ?_
  refine g_istore_n C [(3, vI (G 10 0 7)), (0, .ref (eA E 8 0)), (1, vI p1), (2, vI p2)] hl rfl (by decide) rfl (gdec kX8_adds 4 rfl) (fun ls hl => ?_)
  refine g_iconst C (gdec kX8_adds 5 rfl) ?_
  refine g_istore C [(4, vI 0), (3, vI (G 10 0 7)), (0, .ref (eA E 8 0)), (1, vI p1), (2, vI p2)] hl (by decide) rfl (gdec kX8_adds 6 rfl) (fun ls hl => ?_)
  refine L11 gFuel _ _ _ _ (fun G7 y3_6 y4_6 hf H locs h ls hl => ?_) H locs h ls (lv_sub hl [2, 3, 4, 1, 0] rfl) hf
  refine g_aload_n C hl 0 rfl rfl (gdec kX8_adds 19 rfl) ?_
  refine gf_X8_7 C h ho (gdec kX8_adds 20 rfl) ?_
  refine g_iload_n C hl 3 rfl rfl (gdec kX8_adds 21 rfl) ?_
  refine g_iconst C (gdec kX8_adds 22 rfl) ?_
  obtain ⟨r8, q9, hf⟩ := bn1_s hf
  refine g_ci h (g_runS C h (c_X8_teamAt l E _ _ _ _ q9) wM_X8_46 wT_X8_teamAt wN_X8 wC_X8_teamAt rfl ny_X8_teamAt rfl ⟨Nat.le_of_ble_eq_true rfl, Nat.le_of_ble_eq_true rfl⟩ hl.1 rfl (Nat.le_of_ble_eq_true rfl) (gdec kX8_adds 23 rfl) ⟨Nat.zero_le _, Nat.zero_le _⟩) (fun H locs h => ?_)
  refine g_iload_n C hl 1 rfl rfl (gdec kX8_adds 24 rfl) ?_
  obtain ⟨h10, hf⟩ := ga_s hf
  refine g_iast C h (gcl_8_0 C ho) (n := 260) rfl (by decide) h10 (gdec kX8_adds 25 rfl) (fun H locs h => ?_)
  refine g_aload_n C hl 0 rfl rfl (gdec kX8_adds 26 rfl) ?_
  refine gf_X8_7 C h ho (gdec kX8_adds 27 rfl) ?_
  refine g_iload_n C hl 3 rfl rfl (gdec kX8_adds 28 rfl) ?_
  refine g_iconst C (gdec kX8_adds 29 rfl) ?_
  obtain ⟨r11, q12, hf⟩ := bn1_s hf
  refine g_ci h (g_runS C h (c_X8_teamAt l E _ _ _ _ q12) wM_X8_46 wT_X8_teamAt wN_X8 wC_X8_teamAt rfl ny_X8_teamAt rfl ⟨Nat.le_of_ble_eq_true rfl, Nat.le_of_ble_eq_true rfl⟩ hl.1 rfl (Nat.le_of_ble_eq_true rfl) (gdec kX8_adds 30 rfl) ⟨Nat.zero_le _, Nat.zero_le _⟩) (fun H locs h => ?_)
  refine g_iload_n C hl 2 rfl rfl (gdec kX8_adds 31 rfl) ?_
  obtain ⟨h13, hf⟩ := ga_s hf
  refine g_iast C h (gcl_8_0 C ho) (n := 260) rfl (by decide) h13 (gdec kX8_adds 32 rfl) (fun H locs h => ?_)
  refine g_aload_n C hl 0 rfl rfl (gdec kX8_adds 33 rfl) ?_
  refine gf_X8_7 C h ho (gdec kX8_adds 34 rfl) ?_
  refine g_iload_n C hl 3 rfl rfl (gdec kX8_adds 35 rfl) ?_
  refine g_iconst C (gdec kX8_adds 36 rfl) ?_
  obtain ⟨r14, q15, hf⟩ := bn1_s hf
  refine g_ci h (g_runS C h (c_X8_teamAt l E _ _ _ _ q15) wM_X8_46 wT_X8_teamAt wN_X8 wC_X8_teamAt rfl ny_X8_teamAt rfl ⟨Nat.le_of_ble_eq_true rfl, Nat.le_of_ble_eq_true rfl⟩ hl.1 rfl (Nat.le_of_ble_eq_true rfl) (gdec kX8_adds 37 rfl) ⟨Nat.zero_le _, Nat.zero_le _⟩) (fun H locs h => ?_)
  refine g_iload_n C hl 1 rfl rfl (gdec kX8_adds 38 rfl) ?_
  obtain ⟨h16, hf⟩ := ga_s hf
  refine g_iast C h (gcl_8_0 C ho) (n := 260) rfl (by decide) h16 (gdec kX8_adds 39 rfl) (fun H locs h => ?_)
  refine g_aload_n C hl 0 rfl rfl (gdec kX8_adds 40 rfl) ?_
  refine gf_X8_7 C h ho (gdec kX8_adds 41 rfl) ?_
  refine g_iload_n C hl 3 rfl rfl (gdec kX8_adds 42 rfl) ?_
  refine g_iconst C (gdec kX8_adds 43 rfl) ?_
  obtain ⟨r17, q18, hf⟩ := bn1_s hf
  refine g_ci h (g_runS C h (c_X8_teamAt l E _ _ _ _ q18) wM_X8_46 wT_X8_teamAt wN_X8 wC_X8_teamAt rfl ny_X8_teamAt rfl ⟨Nat.le_of_ble_eq_true rfl, Nat.le_of_ble_eq_true rfl⟩ hl.1 rfl (Nat.le_of_ble_eq_true rfl) (gdec kX8_adds 44 rfl) ⟨Nat.zero_le _, Nat.zero_le _⟩) (fun H locs h => ?_)
  refine g_iconst C (gdec kX8_adds 45 rfl) ?_
  obtain ⟨h19, hf⟩ := ga_s hf
  refine g_iast C h (gcl_8_0 C ho) (n := 260) rfl (by decide) h19 (gdec kX8_adds 46 rfl) (fun H locs h => ?_)
  refine g_aload_n C hl 0 rfl rfl (gdec kX8_adds 47 rfl) ?_
  refine gf_X8_7 C h ho (gdec kX8_adds 48 rfl) ?_
  refine g_bipush C (gdec kX8_adds 49 rfl) rfl ?_
  refine g_dup2 C rfl rfl (gdec kX8_adds 50 rfl) ?_
  refine g_iald C h (gcl_8_0 C ho) (n := 260) rfl (by decide) (⟨by decide, by decide⟩ : (0 : Int) ≤ 7 ∧ (7 : Int) < 260) (gdec kX8_adds 51 rfl) ?_
  refine g_iconst C (gdec kX8_adds 52 rfl) ?_
  refine g_iadd C (gdec kX8_adds 53 rfl) ?_
  refine g_iast C h (gcl_8_0 C ho) (n := 260) rfl (by decide) (⟨by decide, by decide⟩ : (0 : Int) ≤ 7 ∧ (7 : Int) < 260) (gdec kX8_adds 54 rfl) (fun H locs h => ?_)
  obtain ⟨G20, e21, hf⟩ := nm_s hf
  rw [e21] at h
  exact g_vret C h hf (gdec kX8_adds 55 rfl)
def f_X8_addTeam (G : GS) (p1 : Int) (p2 : Int) : Option (GS × Int) :=
  bn1 (f_X8_isInn G p1) (fun r1 => gd r1 (if r1 = 0 then bnd (f_X8_throwing G 1) (fun G5 r6 => some (G5, r6)) else bn1 (f_X8_in G (bm p2) 0 100) (fun r8 => gd r8 (if r8 = 0 then bnd (f_X8_throwing G 2) (fun G12 r13 => some (G12, r13)) else gd (G 10 0 7) (if (G 10 0 7) = 10 then bnd (f_X8_throwing G 3) (fun G17 r18 => some (G17, r18)) else bn1 (f_X8_save G) (fun G20 => bn1 (f_X8_adds G20 p1 p2) (fun G22 => bnd (f_X8_fine G22 ((G22 10 0 7) - 1)) (fun G24 r25 => some (G24, r25)))))))))
set_option maxHeartbeats 4000000 in
set_option maxRecDepth 100000 in
theorem c_X8_addTeam (l : Launch) (E : gEnv) (G : GS) (p1 : Int) (p2 : Int) (ho : gOk E 8 0) (Gz : GS) (rz : Int) (hf : f_X8_addTeam G p1 p2 = some (Gz, rz)) : gMet l yX8_addTeam cX8_addTeam 3 (some .int) 2 46 0 0 [.ref (eA E 8 0), vI p1, vI p2] E G (gQi E Gz rz) := by
  refine g_met (by decide +kernel) (Nat.le_of_ble_eq_true rfl) ?_
  intro p e s m below meth c C H locs h ls hl
  have C : gC p s m _ meth c RX8 cX8_addTeam 3 (some .int) E := C
  have hl : lv_has ls 3 [(0, .ref (eA E 8 0)), (1, vI p1), (2, vI p2)] := hl
  unfold f_X8_addTeam at hf
  refine g_aload_n C hl 0 rfl rfl (gdec kX8_addTeam 0 rfl) ?_
  refine g_iload_n C hl 1 rfl rfl (gdec kX8_addTeam 1 rfl) ?_
  obtain ⟨r1, q2, hf⟩ := bn1_s hf
  refine g_ci h (g_runV C h ho (by decide) rfl (c_X8_isInn l E _ _ ho _ q2) wM_X8_79 wI_X8_isInn wS_X8_isInn wN_X8 wC_X8_isInn rfl ny_X8_isInn rfl ⟨Nat.le_of_ble_eq_true rfl, Nat.le_of_ble_eq_true rfl⟩ hl.1 rfl (Nat.le_of_ble_eq_true rfl) (gdec kX8_addTeam 2 rfl) ⟨Nat.zero_le _, Nat.zero_le _⟩) (fun H locs h => ?_)
  obtain ⟨h3, hf⟩ := gd_s hf
  refine g_if_ne C (tgt := 14) h3 (by decide) (gdec kX8_addTeam 3 rfl) (fun c4 => ?_) (fun c4 => ?_)
  · replace hf := ifp c4 hf
    refine g_aload_n C hl 0 rfl rfl (gdec kX8_addTeam 4 rfl) ?_
    refine g_iconst C (gdec kX8_addTeam 5 rfl) ?_
    obtain ⟨G5, r6, q7, hf⟩ := bnd_s hf
    refine g_ci h (g_runV C h ho (by decide) rfl (c_X8_throwing l E _ _ ho _ _ q7) wM_X8_64 wI_X8_throwing wS_X8_throwing wN_X8 wC_X8_throwing rfl ny_X8_throwing rfl ⟨Nat.le_of_ble_eq_true rfl, Nat.le_of_ble_eq_true rfl⟩ hl.1 rfl (Nat.le_of_ble_eq_true rfl) (gdec kX8_addTeam 6 rfl) ⟨Nat.zero_le _, Nat.zero_le _⟩) (fun H locs h => ?_)
    exact g_iret C h hf (gdec kX8_addTeam 7 rfl)
  · replace hf := ifn c4 hf
    refine g_iload_n C hl 2 rfl rfl (gdec kX8_addTeam 8 rfl) ?_
    refine g_i2l C (gdec kX8_addTeam 9 rfl) ?_
    refine g_lconst C (z := 0) (gdec kX8_addTeam 10 rfl) rfl ?_
    refine g_ldc2 C (n := 100) wL_X8_86 rfl (gdec kX8_addTeam 11 rfl) ?_
    obtain ⟨r8, q9, hf⟩ := bn1_s hf
    refine g_ci h (g_runS C h (c_X8_in l E _ _ _ _ _ q9) wM_X8_40 wT_X8_in wN_X8 wC_X8_in rfl ny_X8_in rfl ⟨Nat.le_of_ble_eq_true rfl, Nat.le_of_ble_eq_true rfl⟩ hl.1 rfl (Nat.le_of_ble_eq_true rfl) (gdec kX8_addTeam 12 rfl) ⟨Nat.zero_le _, Nat.zero_le _⟩) (fun H locs h => ?_)
    obtain ⟨h10, hf⟩ := gd_s hf
    refine g_if_ne C (tgt := 32) h10 (by decide) (gdec kX8_addTeam 13 rfl) (fun c11 => ?_) (fun c11 => ?_)
    · replace hf := ifp c11 hf
      refine g_aload_n C hl 0 rfl rfl (gdec kX8_addTeam 14 rfl) ?_
      refine g_iconst C (gdec kX8_addTeam 15 rfl) ?_
      obtain ⟨G12, r13, q14, hf⟩ := bnd_s hf
      refine g_ci h (g_runV C h ho (by decide) rfl (c_X8_throwing l E _ _ ho _ _ q14) wM_X8_64 wI_X8_throwing wS_X8_throwing wN_X8 wC_X8_throwing rfl ny_X8_throwing rfl ⟨Nat.le_of_ble_eq_true rfl, Nat.le_of_ble_eq_true rfl⟩ hl.1 rfl (Nat.le_of_ble_eq_true rfl) (gdec kX8_addTeam 16 rfl) ⟨Nat.zero_le _, Nat.zero_le _⟩) (fun H locs h => ?_)
      exact g_iret C h hf (gdec kX8_addTeam 17 rfl)
    · replace hf := ifn c11 hf
      refine g_aload_n C hl 0 rfl rfl (gdec kX8_addTeam 18 rfl) ?_
      refine gf_X8_7 C h ho (gdec kX8_addTeam 19 rfl) ?_
      refine g_bipush C (gdec kX8_addTeam 20 rfl) rfl ?_
      refine g_iald C h (gcl_8_0 C ho) (n := 260) rfl (by decide) (⟨by decide, by decide⟩ : (0 : Int) ≤ 7 ∧ (7 : Int) < 260) (gdec kX8_addTeam 21 rfl) ?_
      refine g_bipush C (gdec kX8_addTeam 22 rfl) rfl ?_
      obtain ⟨h15, hf⟩ := gd_s hf
      refine g_icmp_ne C (tgt := 50) h15 (by decide) (by decide) (gdec kX8_addTeam 23 rfl) (fun c16 => ?_) (fun c16 => ?_)
      · replace hf := ifp c16 hf
        refine g_aload_n C hl 0 rfl rfl (gdec kX8_addTeam 24 rfl) ?_
        refine g_iconst C (gdec kX8_addTeam 25 rfl) ?_
        obtain ⟨G17, r18, q19, hf⟩ := bnd_s hf
        refine g_ci h (g_runV C h ho (by decide) rfl (c_X8_throwing l E _ _ ho _ _ q19) wM_X8_64 wI_X8_throwing wS_X8_throwing wN_X8 wC_X8_throwing rfl ny_X8_throwing rfl ⟨Nat.le_of_ble_eq_true rfl, Nat.le_of_ble_eq_true rfl⟩ hl.1 rfl (Nat.le_of_ble_eq_true rfl) (gdec kX8_addTeam 26 rfl) ⟨Nat.zero_le _, Nat.zero_le _⟩) (fun H locs h => ?_)
        exact g_iret C h hf (gdec kX8_addTeam 27 rfl)
      · replace hf := ifn c16 hf
        refine g_aload_n C hl 0 rfl rfl (gdec kX8_addTeam 28 rfl) ?_
        obtain ⟨G20, q21, hf⟩ := bn1_s hf
        refine g_cv h (g_runV C h ho (by decide) rfl (c_X8_save l E _ ho _ q21) wM_X8_73 wI_X8_save wS_X8_save wN_X8 wC_X8_save rfl ny_X8_save rfl ⟨Nat.le_of_ble_eq_true rfl, Nat.le_of_ble_eq_true rfl⟩ hl.1 rfl (Nat.le_of_ble_eq_true rfl) (gdec kX8_addTeam 29 rfl) ⟨Nat.zero_le _, Nat.zero_le _⟩) (fun H locs h => ?_)
        refine g_aload_n C hl 0 rfl rfl (gdec kX8_addTeam 30 rfl) ?_
        refine g_iload_n C hl 1 rfl rfl (gdec kX8_addTeam 31 rfl) ?_
        refine g_iload_n C hl 2 rfl rfl (gdec kX8_addTeam 32 rfl) ?_
        obtain ⟨G22, q23, hf⟩ := bn1_s hf
        refine g_cv h (g_runV C h ho (by decide) rfl (c_X8_adds l E _ _ _ ho _ q23) wM_X8_88 wI_X8_adds wS_X8_adds wN_X8 wC_X8_adds rfl ny_X8_adds rfl ⟨Nat.le_of_ble_eq_true rfl, Nat.le_of_ble_eq_true rfl⟩ hl.1 rfl (Nat.le_of_ble_eq_true rfl) (gdec kX8_addTeam 33 rfl) ⟨Nat.zero_le _, Nat.zero_le _⟩) (fun H locs h => ?_)
        refine g_aload_n C hl 0 rfl rfl (gdec kX8_addTeam 34 rfl) ?_
        refine g_aload_n C hl 0 rfl rfl (gdec kX8_addTeam 35 rfl) ?_
        refine gf_X8_7 C h ho (gdec kX8_addTeam 36 rfl) ?_
        refine g_bipush C (gdec kX8_addTeam 37 rfl) rfl ?_
        refine g_iald C h (gcl_8_0 C ho) (n := 260) rfl (by decide) (⟨by decide, by decide⟩ : (0 : Int) ≤ 7 ∧ (7 : Int) < 260) (gdec kX8_addTeam 38 rfl) ?_
        refine g_iconst C (gdec kX8_addTeam 39 rfl) ?_
        refine g_isub C (gdec kX8_addTeam 40 rfl) ?_
        obtain ⟨G24, r25, q26, hf⟩ := bnd_s hf
        refine g_ci h (g_runV C h ho (by decide) rfl (c_X8_fine l E _ _ ho _ _ q26) wM_X8_76 wI_X8_fine wS_X8_fine wN_X8 wC_X8_fine rfl ny_X8_fine rfl ⟨Nat.le_of_ble_eq_true rfl, Nat.le_of_ble_eq_true rfl⟩ hl.1 rfl (Nat.le_of_ble_eq_true rfl) (gdec kX8_addTeam 41 rfl) ⟨Nat.zero_le _, Nat.zero_le _⟩) (fun H locs h => ?_)
        exact g_iret C h hf (gdec kX8_addTeam 42 rfl)
def f_X8_letterAt (G : GS) (p1 : Int) (p2 : Int) : Option (Int) :=
  some ((164 + (8 * p1)) + p2)
set_option maxHeartbeats 4000000 in
set_option maxRecDepth 100000 in
theorem c_X8_letterAt (l : Launch) (E : gEnv) (G : GS) (p1 : Int) (p2 : Int) (rz : Int) (hf : f_X8_letterAt G p1 p2 = some rz) : gMet l yX8_letterAt cX8_letterAt 2 (some .int) 0 0 0 0 [vI p1, vI p2] E G (gQi E G rz) := by
  refine g_met (by decide +kernel) (Nat.le_of_ble_eq_true rfl) ?_
  intro p e s m below meth c C H locs h ls hl
  have C : gC p s m _ meth c RX8 cX8_letterAt 2 (some .int) E := C
  have hl : lv_has ls 2 [(0, vI p1), (1, vI p2)] := hl
  unfold f_X8_letterAt at hf
  refine g_sipush C (gdec kX8_letterAt 0 rfl) rfl ?_
  refine g_bipush C (gdec kX8_letterAt 1 rfl) rfl ?_
  refine g_iload_n C hl 0 rfl rfl (gdec kX8_letterAt 2 rfl) ?_
  refine g_imul C (gdec kX8_letterAt 3 rfl) ?_
  refine g_iadd C (gdec kX8_letterAt 4 rfl) ?_
  refine g_iload_n C hl 1 rfl rfl (gdec kX8_letterAt 5 rfl) ?_
  refine g_iadd C (gdec kX8_letterAt 6 rfl) ?_
  exact g_iret C h (congrArg (Option.map (Prod.mk _)) hf) (gdec kX8_letterAt 7 rfl)
def f_X8_give (G : GS) (p1 : Int) (p2 : Int) (p3 : Int) : Option (GS × Int) :=
  bn1 (f_X8_isInn G p1) (fun r1 => gd r1 (if r1 = 0 then bnd (f_X8_throwing G 1) (fun G5 r6 => some (G5, r6)) else bn1 (f_X8_isInn G p2) (fun r8 => gd r8 (if r8 = 0 then bnd (f_X8_throwing G 1) (fun G12 r13 => some (G12, r13)) else gd p1 (gd p2 (if p1 = p2 then bnd (f_X8_throwing G 2) (fun G18 r19 => some (G18, r19)) else gd (G 10 0 8) (if (G 10 0 8) = 12 then bnd (f_X8_throwing G 3) (fun G23 r24 => some (G23, r24)) else bn1 (f_X8_save G) (fun G26 => bn1 (f_X8_letterAt G26 (G26 10 0 8) 0) (fun r28 => ga r28 260 (bn1 (f_X8_letterAt (gup G26 10 0 r28 p1) (G26 10 0 8) 1) (fun r31 => ga r31 260 (bn1 (f_X8_letterAt (gup (gup G26 10 0 r28 p1) 10 0 r31 p2) (G26 10 0 8) 2) (fun r34 => gd p3 (if p3 = 0 then ga r34 260 (bn1 (f_X8_letterAt (gup (gup (gup G26 10 0 r28 p1) 10 0 r31 p2) 10 0 r34 0) (G26 10 0 8) 3) (fun r39 => ga r39 260 (bn1 (f_X8_letterAt (gup (gup (gup (gup G26 10 0 r28 p1) 10 0 r31 p2) 10 0 r34 0) 10 0 r39 ((gup (gup (gup G26 10 0 r28 p1) 10 0 r31 p2) 10 0 r34 0) 10 0 1)) (G26 10 0 8) 4) (fun r42 => ga r42 260 (nm (gup (gup (gup (gup (gup G26 10 0 r28 p1) 10 0 r31 p2) 10 0 r34 0) 10 0 r39 ((gup (gup (gup G26 10 0 r28 p1) 10 0 r31 p2) 10 0 r34 0) 10 0 1)) 10 0 r42 p1) (fun G45 => bn1 (f_X8_letterAt G45 (G26 10 0 8) 5) (fun r47 => ga r47 260 (bn1 (f_X8_letterAt (gup G45 10 0 r47 (-1)) (G26 10 0 8) 6) (fun r50 => ga r50 260 (bn1 (f_X8_letterAt (gup (gup G45 10 0 r47 (-1)) 10 0 r50 (-1)) (G26 10 0 8) 7) (fun r53 => ga r53 260 (nm (gup (gup (gup (gup G45 10 0 r47 (-1)) 10 0 r50 (-1)) 10 0 r53 0) 10 0 8 (((gup (gup (gup G45 10 0 r47 (-1)) 10 0 r50 (-1)) 10 0 r53 0) 10 0 8) + 1)) (fun G56 => bnd (f_X8_fine G56 (G26 10 0 8)) (fun G58 r59 => some (G58, r59))))))))))))))) else ga r34 260 (bn1 (f_X8_letterAt (gup (gup (gup G26 10 0 r28 p1) 10 0 r31 p2) 10 0 r34 1) (G26 10 0 8) 3) (fun r62 => ga r62 260 (bn1 (f_X8_letterAt (gup (gup (gup (gup G26 10 0 r28 p1) 10 0 r31 p2) 10 0 r34 1) 10 0 r62 ((gup (gup (gup G26 10 0 r28 p1) 10 0 r31 p2) 10 0 r34 1) 10 0 1)) (G26 10 0 8) 4) (fun r65 => ga r65 260 (nm (gup (gup (gup (gup (gup G26 10 0 r28 p1) 10 0 r31 p2) 10 0 r34 1) 10 0 r62 ((gup (gup (gup G26 10 0 r28 p1) 10 0 r31 p2) 10 0 r34 1) 10 0 1)) 10 0 r65 p1) (fun G68 => bn1 (f_X8_letterAt G68 (G26 10 0 8) 5) (fun r70 => ga r70 260 (bn1 (f_X8_letterAt (gup G68 10 0 r70 (-1)) (G26 10 0 8) 6) (fun r73 => ga r73 260 (bn1 (f_X8_letterAt (gup (gup G68 10 0 r70 (-1)) 10 0 r73 (-1)) (G26 10 0 8) 7) (fun r76 => ga r76 260 (nm (gup (gup (gup (gup G68 10 0 r70 (-1)) 10 0 r73 (-1)) 10 0 r76 0) 10 0 8 (((gup (gup (gup G68 10 0 r70 (-1)) 10 0 r73 (-1)) 10 0 r76 0) 10 0 8) + 1)) (fun G79 => bnd (f_X8_fine G79 (G26 10 0 8)) (fun G81 r82 => some (G81, r82)))))))))))))))))))))))))))))
set_option maxHeartbeats 4000000 in
set_option maxRecDepth 100000 in
theorem c_X8_give (l : Launch) (E : gEnv) (G : GS) (p1 : Int) (p2 : Int) (p3 : Int) (ho : gOk E 8 0) (Gz : GS) (rz : Int) (hf : f_X8_give G p1 p2 p3 = some (Gz, rz)) : gMet l yX8_give cX8_give 5 (some .int) 2 46 0 0 [.ref (eA E 8 0), vI p1, vI p2, vI p3] E G (gQi E Gz rz) := by
  refine g_met (by decide +kernel) (Nat.le_of_ble_eq_true rfl) ?_
  intro p e s m below meth c C H locs h ls hl
  have C : gC p s m _ meth c RX8 cX8_give 5 (some .int) E := C
  have hl : lv_has ls 5 [(0, .ref (eA E 8 0)), (1, vI p1), (2, vI p2), (3, vI p3)] := hl
  unfold f_X8_give at hf
  refine g_aload_n C hl 0 rfl rfl (gdec kX8_give 0 rfl) ?_
  refine g_iload_n C hl 1 rfl rfl (gdec kX8_give 1 rfl) ?_
  obtain ⟨r1, q2, hf⟩ := bn1_s hf
  refine g_ci h (g_runV C h ho (by decide) rfl (c_X8_isInn l E _ _ ho _ q2) wM_X8_79 wI_X8_isInn wS_X8_isInn wN_X8 wC_X8_isInn rfl ny_X8_isInn rfl ⟨Nat.le_of_ble_eq_true rfl, Nat.le_of_ble_eq_true rfl⟩ hl.1 rfl (Nat.le_of_ble_eq_true rfl) (gdec kX8_give 2 rfl) ⟨Nat.zero_le _, Nat.zero_le _⟩) (fun H locs h => ?_)
  obtain ⟨h3, hf⟩ := gd_s hf
  refine g_if_eq C (tgt := 16) h3 (by decide) (gdec kX8_give 3 rfl) (fun c4 => ?_) (fun c4 => ?_)
  · replace hf := ifp c4 hf
    refine g_aload_n C hl 0 rfl rfl (gdec kX8_give 8 rfl) ?_
    refine g_iconst C (gdec kX8_give 9 rfl) ?_
    obtain ⟨G5, r6, q7, hf⟩ := bnd_s hf
    refine g_ci h (g_runV C h ho (by decide) rfl (c_X8_throwing l E _ _ ho _ _ q7) wM_X8_64 wI_X8_throwing wS_X8_throwing wN_X8 wC_X8_throwing rfl ny_X8_throwing rfl ⟨Nat.le_of_ble_eq_true rfl, Nat.le_of_ble_eq_true rfl⟩ hl.1 rfl (Nat.le_of_ble_eq_true rfl) (gdec kX8_give 10 rfl) ⟨Nat.zero_le _, Nat.zero_le _⟩) (fun H locs h => ?_)
    exact g_iret C h hf (gdec kX8_give 11 rfl)
  · replace hf := ifn c4 hf
    refine g_aload_n C hl 0 rfl rfl (gdec kX8_give 4 rfl) ?_
    refine g_iload_n C hl 2 rfl rfl (gdec kX8_give 5 rfl) ?_
    obtain ⟨r8, q9, hf⟩ := bn1_s hf
    refine g_ci h (g_runV C h ho (by decide) rfl (c_X8_isInn l E _ _ ho _ q9) wM_X8_79 wI_X8_isInn wS_X8_isInn wN_X8 wC_X8_isInn rfl ny_X8_isInn rfl ⟨Nat.le_of_ble_eq_true rfl, Nat.le_of_ble_eq_true rfl⟩ hl.1 rfl (Nat.le_of_ble_eq_true rfl) (gdec kX8_give 6 rfl) ⟨Nat.zero_le _, Nat.zero_le _⟩) (fun H locs h => ?_)
    obtain ⟨h10, hf⟩ := gd_s hf
    refine g_if_ne C (tgt := 22) h10 (by decide) (gdec kX8_give 7 rfl) (fun c11 => ?_) (fun c11 => ?_)
    · replace hf := ifp c11 hf
      refine g_aload_n C hl 0 rfl rfl (gdec kX8_give 8 rfl) ?_
      refine g_iconst C (gdec kX8_give 9 rfl) ?_
      obtain ⟨G12, r13, q14, hf⟩ := bnd_s hf
      refine g_ci h (g_runV C h ho (by decide) rfl (c_X8_throwing l E _ _ ho _ _ q14) wM_X8_64 wI_X8_throwing wS_X8_throwing wN_X8 wC_X8_throwing rfl ny_X8_throwing rfl ⟨Nat.le_of_ble_eq_true rfl, Nat.le_of_ble_eq_true rfl⟩ hl.1 rfl (Nat.le_of_ble_eq_true rfl) (gdec kX8_give 10 rfl) ⟨Nat.zero_le _, Nat.zero_le _⟩) (fun H locs h => ?_)
      exact g_iret C h hf (gdec kX8_give 11 rfl)
    · replace hf := ifn c11 hf
      refine g_iload_n C hl 1 rfl rfl (gdec kX8_give 12 rfl) ?_
      refine g_iload_n C hl 2 rfl rfl (gdec kX8_give 13 rfl) ?_
      obtain ⟨h15, hf⟩ := gd_s hf
      obtain ⟨h16, hf⟩ := gd_s hf
      refine g_icmp_ne C (tgt := 33) h15 h16 (by decide) (gdec kX8_give 14 rfl) (fun c17 => ?_) (fun c17 => ?_)
      · replace hf := ifp c17 hf
        refine g_aload_n C hl 0 rfl rfl (gdec kX8_give 15 rfl) ?_
        refine g_iconst C (gdec kX8_give 16 rfl) ?_
        obtain ⟨G18, r19, q20, hf⟩ := bnd_s hf
        refine g_ci h (g_runV C h ho (by decide) rfl (c_X8_throwing l E _ _ ho _ _ q20) wM_X8_64 wI_X8_throwing wS_X8_throwing wN_X8 wC_X8_throwing rfl ny_X8_throwing rfl ⟨Nat.le_of_ble_eq_true rfl, Nat.le_of_ble_eq_true rfl⟩ hl.1 rfl (Nat.le_of_ble_eq_true rfl) (gdec kX8_give 17 rfl) ⟨Nat.zero_le _, Nat.zero_le _⟩) (fun H locs h => ?_)
        exact g_iret C h hf (gdec kX8_give 18 rfl)
      · replace hf := ifn c17 hf
        refine g_aload_n C hl 0 rfl rfl (gdec kX8_give 19 rfl) ?_
        refine gf_X8_7 C h ho (gdec kX8_give 20 rfl) ?_
        refine g_bipush C (gdec kX8_give 21 rfl) rfl ?_
        refine g_iald C h (gcl_8_0 C ho) (n := 260) rfl (by decide) (⟨by decide, by decide⟩ : (0 : Int) ≤ 8 ∧ (8 : Int) < 260) (gdec kX8_give 22 rfl) ?_
        refine g_bipush C (gdec kX8_give 23 rfl) rfl ?_
        obtain ⟨h21, hf⟩ := gd_s hf
        refine g_icmp_ne C (tgt := 51) h21 (by decide) (by decide) (gdec kX8_give 24 rfl) (fun c22 => ?_) (fun c22 => ?_)
        · replace hf := ifp c22 hf
          refine g_aload_n C hl 0 rfl rfl (gdec kX8_give 25 rfl) ?_
          refine g_iconst C (gdec kX8_give 26 rfl) ?_
          obtain ⟨G23, r24, q25, hf⟩ := bnd_s hf
          refine g_ci h (g_runV C h ho (by decide) rfl (c_X8_throwing l E _ _ ho _ _ q25) wM_X8_64 wI_X8_throwing wS_X8_throwing wN_X8 wC_X8_throwing rfl ny_X8_throwing rfl ⟨Nat.le_of_ble_eq_true rfl, Nat.le_of_ble_eq_true rfl⟩ hl.1 rfl (Nat.le_of_ble_eq_true rfl) (gdec kX8_give 27 rfl) ⟨Nat.zero_le _, Nat.zero_le _⟩) (fun H locs h => ?_)
          exact g_iret C h hf (gdec kX8_give 28 rfl)
        · replace hf := ifn c22 hf
          refine g_aload_n C hl 0 rfl rfl (gdec kX8_give 29 rfl) ?_
          obtain ⟨G26, q27, hf⟩ := bn1_s hf
          refine g_cv h (g_runV C h ho (by decide) rfl (c_X8_save l E _ ho _ q27) wM_X8_73 wI_X8_save wS_X8_save wN_X8 wC_X8_save rfl ny_X8_save rfl ⟨Nat.le_of_ble_eq_true rfl, Nat.le_of_ble_eq_true rfl⟩ hl.1 rfl (Nat.le_of_ble_eq_true rfl) (gdec kX8_give 30 rfl) ⟨Nat.zero_le _, Nat.zero_le _⟩) (fun H locs h => ?_)
          refine g_aload_n C hl 0 rfl rfl (gdec kX8_give 31 rfl) ?_
          refine gf_X8_7 C h ho (gdec kX8_give 32 rfl) ?_
          refine g_bipush C (gdec kX8_give 33 rfl) rfl ?_
          refine g_iald C h (gcl_8_0 C ho) (n := 260) rfl (by decide) (⟨by decide, by decide⟩ : (0 : Int) ≤ 8 ∧ (8 : Int) < 260) (gdec kX8_give 34 rfl) ?_
          refine g_istore C [(4, vI (G26 10 0 8)), (0, .ref (eA E 8 0)), (1, vI p1), (2, vI p2), (3, vI p3)] hl (by decide) rfl (gdec kX8_give 35 rfl) (fun ls hl => ?_)
          refine g_aload_n C hl 1 rfl rfl (gdec kX8_give 36 rfl) ?_
          refine gf_X8_7 C h ho (gdec kX8_give 37 rfl) ?_
          refine g_iload C hl 0 rfl (gdec kX8_give 38 rfl) ?_
          refine g_iconst C (gdec kX8_give 39 rfl) ?_
          obtain ⟨r28, q29, hf⟩ := bn1_s hf
          refine g_ci h (g_runS C h (c_X8_letterAt l E _ _ _ _ q29) wM_X8_50 wT_X8_letterAt wN_X8 wC_X8_letterAt rfl ny_X8_letterAt rfl ⟨Nat.le_of_ble_eq_true rfl, Nat.le_of_ble_eq_true rfl⟩ hl.1 rfl (Nat.le_of_ble_eq_true rfl) (gdec kX8_give 40 rfl) ⟨Nat.zero_le _, Nat.zero_le _⟩) (fun H locs h => ?_)
          refine g_iload_n C hl 2 rfl rfl (gdec kX8_give 41 rfl) ?_
          obtain ⟨h30, hf⟩ := ga_s hf
          refine g_iast C h (gcl_8_0 C ho) (n := 260) rfl (by decide) h30 (gdec kX8_give 42 rfl) (fun H locs h => ?_)
          refine g_aload_n C hl 1 rfl rfl (gdec kX8_give 43 rfl) ?_
          refine gf_X8_7 C h ho (gdec kX8_give 44 rfl) ?_
          refine g_iload C hl 0 rfl (gdec kX8_give 45 rfl) ?_
          refine g_iconst C (gdec kX8_give 46 rfl) ?_
          obtain ⟨r31, q32, hf⟩ := bn1_s hf
          refine g_ci h (g_runS C h (c_X8_letterAt l E _ _ _ _ q32) wM_X8_50 wT_X8_letterAt wN_X8 wC_X8_letterAt rfl ny_X8_letterAt rfl ⟨Nat.le_of_ble_eq_true rfl, Nat.le_of_ble_eq_true rfl⟩ hl.1 rfl (Nat.le_of_ble_eq_true rfl) (gdec kX8_give 47 rfl) ⟨Nat.zero_le _, Nat.zero_le _⟩) (fun H locs h => ?_)
          refine g_iload_n C hl 3 rfl rfl (gdec kX8_give 48 rfl) ?_
          obtain ⟨h33, hf⟩ := ga_s hf
          refine g_iast C h (gcl_8_0 C ho) (n := 260) rfl (by decide) h33 (gdec kX8_give 49 rfl) (fun H locs h => ?_)
          refine g_aload_n C hl 1 rfl rfl (gdec kX8_give 50 rfl) ?_
          refine gf_X8_7 C h ho (gdec kX8_give 51 rfl) ?_
          refine g_iload C hl 0 rfl (gdec kX8_give 52 rfl) ?_
          refine g_iconst C (gdec kX8_give 53 rfl) ?_
          obtain ⟨r34, q35, hf⟩ := bn1_s hf
          refine g_ci h (g_runS C h (c_X8_letterAt l E _ _ _ _ q35) wM_X8_50 wT_X8_letterAt wN_X8 wC_X8_letterAt rfl ny_X8_letterAt rfl ⟨Nat.le_of_ble_eq_true rfl, Nat.le_of_ble_eq_true rfl⟩ hl.1 rfl (Nat.le_of_ble_eq_true rfl) (gdec kX8_give 54 rfl) ⟨Nat.zero_le _, Nat.zero_le _⟩) (fun H locs h => ?_)
          refine g_iload_n C hl 4 rfl rfl (gdec kX8_give 55 rfl) ?_
          obtain ⟨h36, hf⟩ := gd_s hf
          refine g_if_eq C (tgt := 106) h36 (by decide) (gdec kX8_give 56 rfl) (fun c37 => ?_) (fun c37 => ?_)
          · replace hf := ifp c37 hf
            refine g_iconst C (gdec kX8_give 59 rfl) ?_
            obtain ⟨h38, hf⟩ := ga_s hf
            refine g_iast C h (gcl_8_0 C ho) (n := 260) rfl (by decide) h38 (gdec kX8_give_1 0 rfl) (fun H locs h => ?_)
            refine g_aload_n C hl 1 rfl rfl (gdec kX8_give_1 1 rfl) ?_
            refine gf_X8_7 C h ho (gdec kX8_give_1 2 rfl) ?_
            refine g_iload C hl 0 rfl (gdec kX8_give_1 3 rfl) ?_
            refine g_iconst C (gdec kX8_give_1 4 rfl) ?_
            obtain ⟨r39, q40, hf⟩ := bn1_s hf
            refine g_ci h (g_runS C h (c_X8_letterAt l E _ _ _ _ q40) wM_X8_50 wT_X8_letterAt wN_X8 wC_X8_letterAt rfl ny_X8_letterAt rfl ⟨Nat.le_of_ble_eq_true rfl, Nat.le_of_ble_eq_true rfl⟩ hl.1 rfl (Nat.le_of_ble_eq_true rfl) (gdec kX8_give_1 5 rfl) ⟨Nat.zero_le _, Nat.zero_le _⟩) (fun H locs h => ?_)
            refine g_aload_n C hl 1 rfl rfl (gdec kX8_give_1 6 rfl) ?_
            refine gf_X8_7 C h ho (gdec kX8_give_1 7 rfl) ?_
            refine g_iconst C (gdec kX8_give_1 8 rfl) ?_
            refine g_iald C h (gcl_8_0 C ho) (n := 260) rfl (by decide) (⟨by decide, by decide⟩ : (0 : Int) ≤ 1 ∧ (1 : Int) < 260) (gdec kX8_give_1 9 rfl) ?_
            obtain ⟨h41, hf⟩ := ga_s hf
            refine g_iast C h (gcl_8_0 C ho) (n := 260) rfl (by decide) h41 (gdec kX8_give_1 10 rfl) (fun H locs h => ?_)
            refine g_aload_n C hl 1 rfl rfl (gdec kX8_give_1 11 rfl) ?_
            refine gf_X8_7 C h ho (gdec kX8_give_1 12 rfl) ?_
            refine g_iload C hl 0 rfl (gdec kX8_give_1 13 rfl) ?_
            refine g_iconst C (gdec kX8_give_1 14 rfl) ?_
            obtain ⟨r42, q43, hf⟩ := bn1_s hf
            refine g_ci h (g_runS C h (c_X8_letterAt l E _ _ _ _ q43) wM_X8_50 wT_X8_letterAt wN_X8 wC_X8_letterAt rfl ny_X8_letterAt rfl ⟨Nat.le_of_ble_eq_true rfl, Nat.le_of_ble_eq_true rfl⟩ hl.1 rfl (Nat.le_of_ble_eq_true rfl) (gdec kX8_give_1 15 rfl) ⟨Nat.zero_le _, Nat.zero_le _⟩) (fun H locs h => ?_)
            refine g_iload_n C hl 2 rfl rfl (gdec kX8_give_1 16 rfl) ?_
            obtain ⟨h44, hf⟩ := ga_s hf
            refine g_iast C h (gcl_8_0 C ho) (n := 260) rfl (by decide) h44 (gdec kX8_give_1 17 rfl) (fun H locs h => ?_)
            obtain ⟨G45, e46, hf⟩ := nm_s hf
            rw [e46] at h
            refine g_aload_n C hl 1 rfl rfl (gdec kX8_give_1 18 rfl) ?_
            refine gf_X8_7 C h ho (gdec kX8_give_1 19 rfl) ?_
            refine g_iload C hl 0 rfl (gdec kX8_give_1 20 rfl) ?_
            refine g_iconst C (gdec kX8_give_1 21 rfl) ?_
            obtain ⟨r47, q48, hf⟩ := bn1_s hf
            refine g_ci h (g_runS C h (c_X8_letterAt l E _ _ _ _ q48) wM_X8_50 wT_X8_letterAt wN_X8 wC_X8_letterAt rfl ny_X8_letterAt rfl ⟨Nat.le_of_ble_eq_true rfl, Nat.le_of_ble_eq_true rfl⟩ hl.1 rfl (Nat.le_of_ble_eq_true rfl) (gdec kX8_give_1 22 rfl) ⟨Nat.zero_le _, Nat.zero_le _⟩) (fun H locs h => ?_)
            refine g_iconst C (gdec kX8_give_1 23 rfl) ?_
            obtain ⟨h49, hf⟩ := ga_s hf
            refine g_iast C h (gcl_8_0 C ho) (n := 260) rfl (by decide) h49 (gdec kX8_give_1 24 rfl) (fun H locs h => ?_)
            refine g_aload_n C hl 1 rfl rfl (gdec kX8_give_1 25 rfl) ?_
            refine gf_X8_7 C h ho (gdec kX8_give_1 26 rfl) ?_
            refine g_iload C hl 0 rfl (gdec kX8_give_1 27 rfl) ?_
            refine g_bipush C (gdec kX8_give_1 28 rfl) rfl ?_
            obtain ⟨r50, q51, hf⟩ := bn1_s hf
            refine g_ci h (g_runS C h (c_X8_letterAt l E _ _ _ _ q51) wM_X8_50 wT_X8_letterAt wN_X8 wC_X8_letterAt rfl ny_X8_letterAt rfl ⟨Nat.le_of_ble_eq_true rfl, Nat.le_of_ble_eq_true rfl⟩ hl.1 rfl (Nat.le_of_ble_eq_true rfl) (gdec kX8_give_1 29 rfl) ⟨Nat.zero_le _, Nat.zero_le _⟩) (fun H locs h => ?_)
            refine g_iconst C (gdec kX8_give_1 30 rfl) ?_
            obtain ⟨h52, hf⟩ := ga_s hf
            refine g_iast C h (gcl_8_0 C ho) (n := 260) rfl (by decide) h52 (gdec kX8_give_1 31 rfl) (fun H locs h => ?_)
            refine g_aload_n C hl 1 rfl rfl (gdec kX8_give_1 32 rfl) ?_
            refine gf_X8_7 C h ho (gdec kX8_give_1 33 rfl) ?_
            refine g_iload C hl 0 rfl (gdec kX8_give_1 34 rfl) ?_
            refine g_bipush C (gdec kX8_give_1 35 rfl) rfl ?_
            obtain ⟨r53, q54, hf⟩ := bn1_s hf
            refine g_ci h (g_runS C h (c_X8_letterAt l E _ _ _ _ q54) wM_X8_50 wT_X8_letterAt wN_X8 wC_X8_letterAt rfl ny_X8_letterAt rfl ⟨Nat.le_of_ble_eq_true rfl, Nat.le_of_ble_eq_true rfl⟩ hl.1 rfl (Nat.le_of_ble_eq_true rfl) (gdec kX8_give_1 36 rfl) ⟨Nat.zero_le _, Nat.zero_le _⟩) (fun H locs h => ?_)
            refine g_iconst C (gdec kX8_give_1 37 rfl) ?_
            obtain ⟨h55, hf⟩ := ga_s hf
            refine g_iast C h (gcl_8_0 C ho) (n := 260) rfl (by decide) h55 (gdec kX8_give_1 38 rfl) (fun H locs h => ?_)
            refine g_aload_n C hl 1 rfl rfl (gdec kX8_give_1 39 rfl) ?_
            refine gf_X8_7 C h ho (gdec kX8_give_1 40 rfl) ?_
            refine g_bipush C (gdec kX8_give_1 41 rfl) rfl ?_
            refine g_dup2 C rfl rfl (gdec kX8_give_1 42 rfl) ?_
            refine g_iald C h (gcl_8_0 C ho) (n := 260) rfl (by decide) (⟨by decide, by decide⟩ : (0 : Int) ≤ 8 ∧ (8 : Int) < 260) (gdec kX8_give_1 43 rfl) ?_
            refine g_iconst C (gdec kX8_give_1 44 rfl) ?_
            refine g_iadd C (gdec kX8_give_1 45 rfl) ?_
            refine g_iast C h (gcl_8_0 C ho) (n := 260) rfl (by decide) (⟨by decide, by decide⟩ : (0 : Int) ≤ 8 ∧ (8 : Int) < 260) (gdec kX8_give_1 46 rfl) (fun H locs h => ?_)
            obtain ⟨G56, e57, hf⟩ := nm_s hf
            rw [e57] at h
            refine g_aload_n C hl 1 rfl rfl (gdec kX8_give_1 47 rfl) ?_
            refine g_iload C hl 0 rfl (gdec kX8_give_1 48 rfl) ?_
            obtain ⟨G58, r59, q60, hf⟩ := bnd_s hf
            refine g_ci h (g_runV C h ho (by decide) rfl (c_X8_fine l E _ _ ho _ _ q60) wM_X8_76 wI_X8_fine wS_X8_fine wN_X8 wC_X8_fine rfl ny_X8_fine rfl ⟨Nat.le_of_ble_eq_true rfl, Nat.le_of_ble_eq_true rfl⟩ hl.1 rfl (Nat.le_of_ble_eq_true rfl) (gdec kX8_give_1 49 rfl) ⟨Nat.zero_le _, Nat.zero_le _⟩) (fun H locs h => ?_)
            exact g_iret C h hf (gdec kX8_give_1 50 rfl)
          · replace hf := ifn c37 hf
            refine g_iconst C (gdec kX8_give 57 rfl) ?_
            refine g_goto C (tgt := 107) (by decide) (gdec kX8_give 58 rfl) ?_
            obtain ⟨h61, hf⟩ := ga_s hf
            refine g_iast C h (gcl_8_0 C ho) (n := 260) rfl (by decide) h61 (gdec kX8_give_1 0 rfl) (fun H locs h => ?_)
            refine g_aload_n C hl 1 rfl rfl (gdec kX8_give_1 1 rfl) ?_
            refine gf_X8_7 C h ho (gdec kX8_give_1 2 rfl) ?_
            refine g_iload C hl 0 rfl (gdec kX8_give_1 3 rfl) ?_
            refine g_iconst C (gdec kX8_give_1 4 rfl) ?_
            obtain ⟨r62, q63, hf⟩ := bn1_s hf
            refine g_ci h (g_runS C h (c_X8_letterAt l E _ _ _ _ q63) wM_X8_50 wT_X8_letterAt wN_X8 wC_X8_letterAt rfl ny_X8_letterAt rfl ⟨Nat.le_of_ble_eq_true rfl, Nat.le_of_ble_eq_true rfl⟩ hl.1 rfl (Nat.le_of_ble_eq_true rfl) (gdec kX8_give_1 5 rfl) ⟨Nat.zero_le _, Nat.zero_le _⟩) (fun H locs h => ?_)
            refine g_aload_n C hl 1 rfl rfl (gdec kX8_give_1 6 rfl) ?_
            refine gf_X8_7 C h ho (gdec kX8_give_1 7 rfl) ?_
            refine g_iconst C (gdec kX8_give_1 8 rfl) ?_
            refine g_iald C h (gcl_8_0 C ho) (n := 260) rfl (by decide) (⟨by decide, by decide⟩ : (0 : Int) ≤ 1 ∧ (1 : Int) < 260) (gdec kX8_give_1 9 rfl) ?_
            obtain ⟨h64, hf⟩ := ga_s hf
            refine g_iast C h (gcl_8_0 C ho) (n := 260) rfl (by decide) h64 (gdec kX8_give_1 10 rfl) (fun H locs h => ?_)
            refine g_aload_n C hl 1 rfl rfl (gdec kX8_give_1 11 rfl) ?_
            refine gf_X8_7 C h ho (gdec kX8_give_1 12 rfl) ?_
            refine g_iload C hl 0 rfl (gdec kX8_give_1 13 rfl) ?_
            refine g_iconst C (gdec kX8_give_1 14 rfl) ?_
            obtain ⟨r65, q66, hf⟩ := bn1_s hf
            refine g_ci h (g_runS C h (c_X8_letterAt l E _ _ _ _ q66) wM_X8_50 wT_X8_letterAt wN_X8 wC_X8_letterAt rfl ny_X8_letterAt rfl ⟨Nat.le_of_ble_eq_true rfl, Nat.le_of_ble_eq_true rfl⟩ hl.1 rfl (Nat.le_of_ble_eq_true rfl) (gdec kX8_give_1 15 rfl) ⟨Nat.zero_le _, Nat.zero_le _⟩) (fun H locs h => ?_)
            refine g_iload_n C hl 2 rfl rfl (gdec kX8_give_1 16 rfl) ?_
            obtain ⟨h67, hf⟩ := ga_s hf
            refine g_iast C h (gcl_8_0 C ho) (n := 260) rfl (by decide) h67 (gdec kX8_give_1 17 rfl) (fun H locs h => ?_)
            obtain ⟨G68, e69, hf⟩ := nm_s hf
            rw [e69] at h
            refine g_aload_n C hl 1 rfl rfl (gdec kX8_give_1 18 rfl) ?_
            refine gf_X8_7 C h ho (gdec kX8_give_1 19 rfl) ?_
            refine g_iload C hl 0 rfl (gdec kX8_give_1 20 rfl) ?_
            refine g_iconst C (gdec kX8_give_1 21 rfl) ?_
            obtain ⟨r70, q71, hf⟩ := bn1_s hf
            refine g_ci h (g_runS C h (c_X8_letterAt l E _ _ _ _ q71) wM_X8_50 wT_X8_letterAt wN_X8 wC_X8_letterAt rfl ny_X8_letterAt rfl ⟨Nat.le_of_ble_eq_true rfl, Nat.le_of_ble_eq_true rfl⟩ hl.1 rfl (Nat.le_of_ble_eq_true rfl) (gdec kX8_give_1 22 rfl) ⟨Nat.zero_le _, Nat.zero_le _⟩) (fun H locs h => ?_)
            refine g_iconst C (gdec kX8_give_1 23 rfl) ?_
            obtain ⟨h72, hf⟩ := ga_s hf
            refine g_iast C h (gcl_8_0 C ho) (n := 260) rfl (by decide) h72 (gdec kX8_give_1 24 rfl) (fun H locs h => ?_)
            refine g_aload_n C hl 1 rfl rfl (gdec kX8_give_1 25 rfl) ?_
            refine gf_X8_7 C h ho (gdec kX8_give_1 26 rfl) ?_
            refine g_iload C hl 0 rfl (gdec kX8_give_1 27 rfl) ?_
            refine g_bipush C (gdec kX8_give_1 28 rfl) rfl ?_
            obtain ⟨r73, q74, hf⟩ := bn1_s hf
            refine g_ci h (g_runS C h (c_X8_letterAt l E _ _ _ _ q74) wM_X8_50 wT_X8_letterAt wN_X8 wC_X8_letterAt rfl ny_X8_letterAt rfl ⟨Nat.le_of_ble_eq_true rfl, Nat.le_of_ble_eq_true rfl⟩ hl.1 rfl (Nat.le_of_ble_eq_true rfl) (gdec kX8_give_1 29 rfl) ⟨Nat.zero_le _, Nat.zero_le _⟩) (fun H locs h => ?_)
            refine g_iconst C (gdec kX8_give_1 30 rfl) ?_
            obtain ⟨h75, hf⟩ := ga_s hf
            refine g_iast C h (gcl_8_0 C ho) (n := 260) rfl (by decide) h75 (gdec kX8_give_1 31 rfl) (fun H locs h => ?_)
            refine g_aload_n C hl 1 rfl rfl (gdec kX8_give_1 32 rfl) ?_
            refine gf_X8_7 C h ho (gdec kX8_give_1 33 rfl) ?_
            refine g_iload C hl 0 rfl (gdec kX8_give_1 34 rfl) ?_
            refine g_bipush C (gdec kX8_give_1 35 rfl) rfl ?_
            obtain ⟨r76, q77, hf⟩ := bn1_s hf
            refine g_ci h (g_runS C h (c_X8_letterAt l E _ _ _ _ q77) wM_X8_50 wT_X8_letterAt wN_X8 wC_X8_letterAt rfl ny_X8_letterAt rfl ⟨Nat.le_of_ble_eq_true rfl, Nat.le_of_ble_eq_true rfl⟩ hl.1 rfl (Nat.le_of_ble_eq_true rfl) (gdec kX8_give_1 36 rfl) ⟨Nat.zero_le _, Nat.zero_le _⟩) (fun H locs h => ?_)
            refine g_iconst C (gdec kX8_give_1 37 rfl) ?_
            obtain ⟨h78, hf⟩ := ga_s hf
            refine g_iast C h (gcl_8_0 C ho) (n := 260) rfl (by decide) h78 (gdec kX8_give_1 38 rfl) (fun H locs h => ?_)
            refine g_aload_n C hl 1 rfl rfl (gdec kX8_give_1 39 rfl) ?_
            refine gf_X8_7 C h ho (gdec kX8_give_1 40 rfl) ?_
            refine g_bipush C (gdec kX8_give_1 41 rfl) rfl ?_
            refine g_dup2 C rfl rfl (gdec kX8_give_1 42 rfl) ?_
            refine g_iald C h (gcl_8_0 C ho) (n := 260) rfl (by decide) (⟨by decide, by decide⟩ : (0 : Int) ≤ 8 ∧ (8 : Int) < 260) (gdec kX8_give_1 43 rfl) ?_
            refine g_iconst C (gdec kX8_give_1 44 rfl) ?_
            refine g_iadd C (gdec kX8_give_1 45 rfl) ?_
            refine g_iast C h (gcl_8_0 C ho) (n := 260) rfl (by decide) (⟨by decide, by decide⟩ : (0 : Int) ≤ 8 ∧ (8 : Int) < 260) (gdec kX8_give_1 46 rfl) (fun H locs h => ?_)
            obtain ⟨G79, e80, hf⟩ := nm_s hf
            rw [e80] at h
            refine g_aload_n C hl 1 rfl rfl (gdec kX8_give_1 47 rfl) ?_
            refine g_iload C hl 0 rfl (gdec kX8_give_1 48 rfl) ?_
            obtain ⟨G81, r82, q83, hf⟩ := bnd_s hf
            refine g_ci h (g_runV C h ho (by decide) rfl (c_X8_fine l E _ _ ho _ _ q83) wM_X8_76 wI_X8_fine wS_X8_fine wN_X8 wC_X8_fine rfl ny_X8_fine rfl ⟨Nat.le_of_ble_eq_true rfl, Nat.le_of_ble_eq_true rfl⟩ hl.1 rfl (Nat.le_of_ble_eq_true rfl) (gdec kX8_give_1 49 rfl) ⟨Nat.zero_le _, Nat.zero_le _⟩) (fun H locs h => ?_)
            exact g_iret C h hf (gdec kX8_give_1 50 rfl)
def f_X8_ofLetter (G : GS) (p1 : Int) (p2 : Int) : Option (Int) :=
  bn1 (f_X8_letterAt G p1 p2) (fun r1 => ga r1 260 (some (G 10 0 r1)))
set_option maxHeartbeats 4000000 in
set_option maxRecDepth 100000 in
theorem c_X8_ofLetter (l : Launch) (E : gEnv) (G : GS) (p1 : Int) (p2 : Int) (ho : gOk E 8 0) (rz : Int) (hf : f_X8_ofLetter G p1 p2 = some rz) : gMet l yX8_ofLetter cX8_ofLetter 3 (some .int) 1 21 0 0 [.ref (eA E 8 0), vI p1, vI p2] E G (gQi E G rz) := by
  refine g_met (by decide +kernel) (Nat.le_of_ble_eq_true rfl) ?_
  intro p e s m below meth c C H locs h ls hl
  have C : gC p s m _ meth c RX8 cX8_ofLetter 3 (some .int) E := C
  have hl : lv_has ls 3 [(0, .ref (eA E 8 0)), (1, vI p1), (2, vI p2)] := hl
  unfold f_X8_ofLetter at hf
  refine g_aload_n C hl 0 rfl rfl (gdec kX8_ofLetter 0 rfl) ?_
  refine gf_X8_7 C h ho (gdec kX8_ofLetter 1 rfl) ?_
  refine g_iload_n C hl 1 rfl rfl (gdec kX8_ofLetter 2 rfl) ?_
  refine g_iload_n C hl 2 rfl rfl (gdec kX8_ofLetter 3 rfl) ?_
  obtain ⟨r1, q2, hf⟩ := bn1_s hf
  refine g_ci h (g_runS C h (c_X8_letterAt l E _ _ _ _ q2) wM_X8_50 wT_X8_letterAt wN_X8 wC_X8_letterAt rfl ny_X8_letterAt rfl ⟨Nat.le_of_ble_eq_true rfl, Nat.le_of_ble_eq_true rfl⟩ hl.1 rfl (Nat.le_of_ble_eq_true rfl) (gdec kX8_ofLetter 4 rfl) ⟨Nat.zero_le _, Nat.zero_le _⟩) (fun H locs h => ?_)
  obtain ⟨h3, hf⟩ := ga_s hf
  refine g_iald C h (gcl_8_0 C ho) (n := 260) rfl (by decide) h3 (gdec kX8_ofLetter 5 rfl) ?_
  exact g_iret C h (congrArg (Option.map (Prod.mk _)) hf) (gdec kX8_ofLetter 6 rfl)
def f_X8_isDelivered (G : GS) (p1 : Int) : Option (Int) :=
  bn1 (f_X8_ofLetter G p1 6) (fun r1 => gd r1 (if r1 = (-1) then some 0 else some 1))
set_option maxHeartbeats 4000000 in
set_option maxRecDepth 100000 in
theorem c_X8_isDelivered (l : Launch) (E : gEnv) (G : GS) (p1 : Int) (ho : gOk E 8 0) (rz : Int) (hf : f_X8_isDelivered G p1 = some rz) : gMet l yX8_isDelivered cX8_isDelivered 2 (some .boolean) 2 43 0 0 [.ref (eA E 8 0), vI p1] E G (gQi E G rz) := by
  refine g_met (by decide +kernel) (Nat.le_of_ble_eq_true rfl) ?_
  intro p e s m below meth c C H locs h ls hl
  have C : gC p s m _ meth c RX8 cX8_isDelivered 2 (some .boolean) E := C
  have hl : lv_has ls 2 [(0, .ref (eA E 8 0)), (1, vI p1)] := hl
  unfold f_X8_isDelivered at hf
  refine g_aload_n C hl 0 rfl rfl (gdec kX8_isDelivered 0 rfl) ?_
  refine g_iload_n C hl 1 rfl rfl (gdec kX8_isDelivered 1 rfl) ?_
  refine g_bipush C (gdec kX8_isDelivered 2 rfl) rfl ?_
  obtain ⟨r1, q2, hf⟩ := bn1_s hf
  refine g_ci h (g_runV C h ho (by decide) rfl (c_X8_ofLetter l E _ _ _ ho _ q2) wM_X8_92 wI_X8_ofLetter wS_X8_ofLetter wN_X8 wC_X8_ofLetter rfl ny_X8_ofLetter rfl ⟨Nat.le_of_ble_eq_true rfl, Nat.le_of_ble_eq_true rfl⟩ hl.1 rfl (Nat.le_of_ble_eq_true rfl) (gdec kX8_isDelivered 3 rfl) ⟨Nat.zero_le _, Nat.zero_le _⟩) (fun H locs h => ?_)
  refine g_iconst C (gdec kX8_isDelivered 4 rfl) ?_
  obtain ⟨h3, hf⟩ := gd_s hf
  refine g_icmp_eq C (tgt := 15) h3 (by decide) (by decide) (gdec kX8_isDelivered 5 rfl) (fun c4 => ?_) (fun c4 => ?_)
  · replace hf := ifp c4 hf
    refine g_iconst C (gdec kX8_isDelivered 8 rfl) ?_
    exact g_zret C h (Or.inl rfl) (congrArg (Option.map (Prod.mk _)) hf) (gdec kX8_isDelivered 9 rfl)
  · replace hf := ifn c4 hf
    refine g_iconst C (gdec kX8_isDelivered 6 rfl) ?_
    refine g_goto C (tgt := 16) (by decide) (gdec kX8_isDelivered 7 rfl) ?_
    exact g_zret C h (Or.inr rfl) (congrArg (Option.map (Prod.mk _)) hf) (gdec kX8_isDelivered 9 rfl)
def f_X8_collect_L40 : Nat → GS → Int → Int → Int → Int → Int → (GS → Int → Int → Int → Int → Int → Option (GS × Int)) → Option (GS × Int)
  | 0, _, _, _, _, _, _, _ => none
  | n + 1, G, x1, x2, x3, x4, x5, k => gd x5 (if x5 < 8 then bn1 (f_X8_letterAt G x1 x5) (fun r14 => bn1 (f_X8_ofLetter G x3 x5) (fun r16 => ga r14 260 (f_X8_collect_L40 n (gup G 10 0 r14 r16) x1 x2 x3 x4 (x5 + 1) k))) else k G x1 x2 x3 x4 x5)
def f_X8_collect_L16 : Nat → GS → Int → Int → Int → (GS → Int → Int → Int → Option (GS × Int)) → Option (GS × Int)
  | 0, _, _, _, _, _ => none
  | n + 1, G, x1, x2, x3, k => gd x3 (gd x2 (if x3 < x2 then bn1 (f_X8_isDelivered G x3) (fun r6 => gd r6 (if r6 = 0 then bn1 (f_X8_ofLetter G x3 5) (fun r10 => f_X8_collect_L40 gFuel G x1 x2 x3 r10 0 (fun G20 y1_19 y2_19 y3_19 y4_19 y5_19 => gd y4_19 (if y4_19 = (-1) then f_X8_collect_L16 n G20 (y1_19 + 1) y2_19 (y3_19 + 1) k else bn1 (f_X8_teamAt G20 y4_19 4) (fun r23 => ga r23 260 (f_X8_collect_L16 n (gup G20 10 0 r23 y1_19) (y1_19 + 1) y2_19 (y3_19 + 1) k))))) else f_X8_collect_L16 n G x1 x2 (x3 + 1) k)) else k G x1 x2 x3))
def f_X8_collect_L108 : Nat → GS → Int → Int → Int → Int → (GS → Int → Int → Int → Int → Option (GS × Int)) → Option (GS × Int)
  | 0, _, _, _, _, _, _ => none
  | n + 1, G, x1, x2, x3, x4, k => gd x4 (if x4 < 8 then bn1 (f_X8_letterAt G x3 x4) (fun r33 => ga r33 260 (f_X8_collect_L108 n (gup G 10 0 r33 0) x1 x2 x3 (x4 + 1) k)) else k G x1 x2 x3 x4)
def f_X8_collect_L100 : Nat → GS → Int → Int → Int → (GS → Int → Int → Int → Option (GS × Int)) → Option (GS × Int)
  | 0, _, _, _, _, _ => none
  | n + 1, G, x1, x2, x3, k => gd x3 (gd x2 (if x3 < x2 then f_X8_collect_L108 gFuel G x1 x2 x3 0 (fun G37 y1_36 y2_36 y3_36 y4_36 => f_X8_collect_L100 n G37 y1_36 y2_36 (y3_36 + 1) k) else k G x1 x2 x3))
def f_X8_collect (G : GS) : Option (GS × Int) :=
  bn1 (f_X8_save G) (fun G1 => f_X8_collect_L16 gFuel G1 0 (G1 10 0 8) 0 (fun G27 y1_26 y2_26 y3_26 => f_X8_collect_L100 gFuel G27 y1_26 y2_26 y1_26 (fun G39 y1_38 y2_38 y3_38 => bnd (f_X8_fine (gup G39 10 0 8 y1_38) (y2_38 - y1_38)) (fun G40 r41 => some (G40, r41)))))
set_option maxHeartbeats 4000000 in
set_option maxRecDepth 100000 in
theorem c_X8_collect (l : Launch) (E : gEnv) (G : GS) (ho : gOk E 8 0) (Gz : GS) (rz : Int) (hf : f_X8_collect G = some (Gz, rz)) : gMet l yX8_collect cX8_collect 6 (some .int) 3 64 0 0 [.ref (eA E 8 0)] E G (gQi E Gz rz) := by
  refine g_met (by decide +kernel) (Nat.le_of_ble_eq_true rfl) ?_
  intro p e s m below meth c C H locs h ls hl
  have C : gC p s m _ meth c RX8 cX8_collect 6 (some .int) E := C
  have hl : lv_has ls 6 [(0, .ref (eA E 8 0))] := hl
  have L40 : ∀ (n : Nat) (G : GS) (x1 : Int) (x2 : Int) (x3 : Int) (x4 : Int) (x5 : Int) (k : (GS → Int → Int → Int → Int → Int → Option (GS × Int))) (hK : ∀ (G : GS) (x1 : Int) (x2 : Int) (x3 : Int) (x4 : Int) (x5 : Int), k G x1 x2 x3 x4 x5 = some (Gz, rz) → ∀ (H : Heap) (locs : List Loc), gH E s G H locs → ∀ ls, lv_has ls 6 [(0, .ref (eA E 8 0)), (1, vI x1), (2, vI x2), (3, vI x3), (4, vI x4), (5, vI x5)] → W p l e (gRm 3 64 0 0) s m ([.ref (eA E 8 0)] : List Value).toArray below meth c H locs 0 0 (MQ below (gQi E Gz rz) ([.ref (eA E 8 0)] : List Value).toArray s 0 0 (eF E)) (F0 m 71 ls [])), ∀ (H : Heap) (locs : List Loc), gH E s G H locs → ∀ ls, lv_has ls 6 [(0, .ref (eA E 8 0)), (1, vI x1), (2, vI x2), (3, vI x3), (4, vI x4), (5, vI x5)] → f_X8_collect_L40 n G x1 x2 x3 x4 x5 k = some (Gz, rz) → W p l e (gRm 3 64 0 0) s m ([.ref (eA E 8 0)] : List Value).toArray below meth c H locs 0 0 (MQ below (gQi E Gz rz) ([.ref (eA E 8 0)] : List Value).toArray s 0 0 (eF E)) (F0 m 40 ls []) := by
    intro n
    induction n with
    | zero =>
      intro G x1 x2 x3 x4 x5 k hK H locs h ls hl hf
      exact absurd hf (by simp [f_X8_collect_L40])
    | succ n ih =>
      intro G x1 x2 x3 x4 x5 k hK H locs h ls hl hf
      unfold f_X8_collect_L40 at hf
      refine g_iload C hl 5 rfl (gdec kX8_collect 25 rfl) ?_
      refine g_bipush C (gdec kX8_collect 26 rfl) rfl ?_
      obtain ⟨h12, hf⟩ := gd_s hf
      refine g_icmp_ge C (tgt := 71) h12 (by decide) (by decide) (gdec kX8_collect 27 rfl) (fun c13 => ?_) (fun c13 => ?_)
      · replace hf := ifp c13 hf
        refine g_aload_n C hl 0 rfl rfl (gdec kX8_collect 28 rfl) ?_
        refine gf_X8_7 C h ho (gdec kX8_collect 29 rfl) ?_
        refine g_iload_n C hl 1 rfl rfl (gdec kX8_collect 30 rfl) ?_
        refine g_iload C hl 5 rfl (gdec kX8_collect 31 rfl) ?_
        obtain ⟨r14, q15, hf⟩ := bn1_s hf
        refine g_ci h (g_runS C h (c_X8_letterAt l E _ _ _ _ q15) wM_X8_50 wT_X8_letterAt wN_X8 wC_X8_letterAt rfl ny_X8_letterAt rfl ⟨Nat.le_of_ble_eq_true rfl, Nat.le_of_ble_eq_true rfl⟩ hl.1 rfl (Nat.le_of_ble_eq_true rfl) (gdec kX8_collect 32 rfl) ⟨Nat.zero_le _, Nat.zero_le _⟩) (fun H locs h => ?_)
        refine g_aload_n C hl 0 rfl rfl (gdec kX8_collect 33 rfl) ?_
        refine g_iload_n C hl 3 rfl rfl (gdec kX8_collect 34 rfl) ?_
        refine g_iload C hl 5 rfl (gdec kX8_collect 35 rfl) ?_
        obtain ⟨r16, q17, hf⟩ := bn1_s hf
        refine g_ci h (g_runV C h ho (by decide) rfl (c_X8_ofLetter l E _ _ _ ho _ q17) wM_X8_92 wI_X8_ofLetter wS_X8_ofLetter wN_X8 wC_X8_ofLetter rfl ny_X8_ofLetter rfl ⟨Nat.le_of_ble_eq_true rfl, Nat.le_of_ble_eq_true rfl⟩ hl.1 rfl (Nat.le_of_ble_eq_true rfl) (gdec kX8_collect 36 rfl) ⟨Nat.zero_le _, Nat.zero_le _⟩) (fun H locs h => ?_)
        obtain ⟨h18, hf⟩ := ga_s hf
        refine g_iast C h (gcl_8_0 C ho) (n := 260) rfl (by decide) h18 (gdec kX8_collect 37 rfl) (fun H locs h => ?_)
        refine g_iinc C (k := 5) [(5, vI (x5 + 1)), (0, .ref (eA E 8 0)), (1, vI x1), (2, vI x2), (3, vI x3), (4, vI x4)] hl rfl (by decide) rfl (gdec kX8_collect 38 rfl) (fun ls hl => ?_)
        refine g_goto C (tgt := 40) (by decide) (gdec kX8_collect 39 rfl) ?_
        exact ih _ _ _ _ _ _ k hK H locs h ls (lv_sub hl [1, 2, 3, 4, 5, 0] rfl) hf
      · replace hf := ifn c13 hf
        exact hK _ _ _ _ _ _ hf H locs h ls (lv_sub hl [0, 1, 2, 3, 4, 5] rfl)
  have L16 : ∀ (n : Nat) (G : GS) (x1 : Int) (x2 : Int) (x3 : Int) (k : (GS → Int → Int → Int → Option (GS × Int))) (hK : ∀ (G : GS) (x1 : Int) (x2 : Int) (x3 : Int), k G x1 x2 x3 = some (Gz, rz) → ∀ (H : Heap) (locs : List Loc), gH E s G H locs → ∀ ls, lv_has ls 6 [(0, .ref (eA E 8 0)), (1, vI x1), (2, vI x2), (3, vI x3)] → W p l e (gRm 3 64 0 0) s m ([.ref (eA E 8 0)] : List Value).toArray below meth c H locs 0 0 (MQ below (gQi E Gz rz) ([.ref (eA E 8 0)] : List Value).toArray s 0 0 (eF E)) (F0 m 98 ls [])), ∀ (H : Heap) (locs : List Loc), gH E s G H locs → ∀ ls, lv_has ls 6 [(0, .ref (eA E 8 0)), (1, vI x1), (2, vI x2), (3, vI x3)] → f_X8_collect_L16 n G x1 x2 x3 k = some (Gz, rz) → W p l e (gRm 3 64 0 0) s m ([.ref (eA E 8 0)] : List Value).toArray below meth c H locs 0 0 (MQ below (gQi E Gz rz) ([.ref (eA E 8 0)] : List Value).toArray s 0 0 (eF E)) (F0 m 16 ls []) := by
    intro n
    induction n with
    | zero =>
      intro G x1 x2 x3 k hK H locs h ls hl hf
      exact absurd hf (by simp [f_X8_collect_L16])
    | succ n ih =>
      intro G x1 x2 x3 k hK H locs h ls hl hf
      unfold f_X8_collect_L16 at hf
      refine g_iload_n C hl 3 rfl rfl (gdec kX8_collect 11 rfl) ?_
      refine g_iload_n C hl 2 rfl rfl (gdec kX8_collect 12 rfl) ?_
      obtain ⟨h3, hf⟩ := gd_s hf
      obtain ⟨h4, hf⟩ := gd_s hf
      refine g_icmp_ge C (tgt := 98) h3 h4 (by decide) (gdec kX8_collect 13 rfl) (fun c5 => ?_) (fun c5 => ?_)
      · replace hf := ifp c5 hf
        refine g_aload_n C hl 0 rfl rfl (gdec kX8_collect 14 rfl) ?_
        refine g_iload_n C hl 3 rfl rfl (gdec kX8_collect 15 rfl) ?_
        obtain ⟨r6, q7, hf⟩ := bn1_s hf
        refine g_ci h (g_runV C h ho (by decide) rfl (c_X8_isDelivered l E _ _ ho _ q7) wM_X8_95 wI_X8_isDelivered wS_X8_isDelivered wN_X8 wC_X8_isDelivered rfl ny_X8_isDelivered rfl ⟨Nat.le_of_ble_eq_true rfl, Nat.le_of_ble_eq_true rfl⟩ hl.1 rfl (Nat.le_of_ble_eq_true rfl) (gdec kX8_collect 16 rfl) ⟨Nat.zero_le _, Nat.zero_le _⟩) (fun H locs h => ?_)
        obtain ⟨h8, hf⟩ := gd_s hf
        refine g_if_ne C (tgt := 92) h8 (by decide) (gdec kX8_collect 17 rfl) (fun c9 => ?_) (fun c9 => ?_)
        · replace hf := ifp c9 hf
          refine g_aload_n C hl 0 rfl rfl (gdec kX8_collect 18 rfl) ?_
          refine g_iload_n C hl 3 rfl rfl (gdec kX8_collect 19 rfl) ?_
          refine g_iconst C (gdec kX8_collect 20 rfl) ?_
          obtain ⟨r10, q11, hf⟩ := bn1_s hf
          refine g_ci h (g_runV C h ho (by decide) rfl (c_X8_ofLetter l E _ _ _ ho _ q11) wM_X8_92 wI_X8_ofLetter wS_X8_ofLetter wN_X8 wC_X8_ofLetter rfl ny_X8_ofLetter rfl ⟨Nat.le_of_ble_eq_true rfl, Nat.le_of_ble_eq_true rfl⟩ hl.1 rfl (Nat.le_of_ble_eq_true rfl) (gdec kX8_collect 21 rfl) ⟨Nat.zero_le _, Nat.zero_le _⟩) (fun H locs h => ?_)
          refine g_istore C [(4, vI r10), (0, .ref (eA E 8 0)), (1, vI x1), (2, vI x2), (3, vI x3)] hl (by decide) rfl (gdec kX8_collect 22 rfl) (fun ls hl => ?_)
          refine g_iconst C (gdec kX8_collect 23 rfl) ?_
          refine g_istore C [(5, vI 0), (4, vI r10), (0, .ref (eA E 8 0)), (1, vI x1), (2, vI x2), (3, vI x3)] hl (by decide) rfl (gdec kX8_collect 24 rfl) (fun ls hl => ?_)
          refine L40 gFuel _ _ _ _ _ _ _ (fun G20 y1_19 y2_19 y3_19 y4_19 y5_19 hf H locs h ls hl => ?_) H locs h ls (lv_sub hl [2, 3, 4, 5, 1, 0] rfl) hf
          refine g_iload C hl 4 rfl (gdec kX8_collect 40 rfl) ?_
          refine g_iconst C (gdec kX8_collect 41 rfl) ?_
          obtain ⟨h21, hf⟩ := gd_s hf
          refine g_icmp_eq C (tgt := 89) h21 (by decide) (by decide) (gdec kX8_collect 42 rfl) (fun c22 => ?_) (fun c22 => ?_)
          · replace hf := ifp c22 hf
            refine g_iinc C (k := 1) [(1, vI (y1_19 + 1)), (0, .ref (eA E 8 0)), (2, vI y2_19), (3, vI y3_19), (4, vI y4_19), (5, vI y5_19)] hl rfl (by decide) rfl (gdec kX8_collect 50 rfl) (fun ls hl => ?_)
            refine g_iinc C (k := 3) [(3, vI (y3_19 + 1)), (1, vI (y1_19 + 1)), (0, .ref (eA E 8 0)), (2, vI y2_19), (4, vI y4_19), (5, vI y5_19)] hl rfl (by decide) rfl (gdec kX8_collect 51 rfl) (fun ls hl => ?_)
            refine g_goto C (tgt := 16) (by decide) (gdec kX8_collect 52 rfl) ?_
            exact ih _ _ _ _ k hK H locs h ls (lv_sub hl [2, 1, 3, 0] rfl) hf
          · replace hf := ifn c22 hf
            refine g_aload_n C hl 0 rfl rfl (gdec kX8_collect 43 rfl) ?_
            refine gf_X8_7 C h ho (gdec kX8_collect 44 rfl) ?_
            refine g_iload C hl 4 rfl (gdec kX8_collect 45 rfl) ?_
            refine g_iconst C (gdec kX8_collect 46 rfl) ?_
            obtain ⟨r23, q24, hf⟩ := bn1_s hf
            refine g_ci h (g_runS C h (c_X8_teamAt l E _ _ _ _ q24) wM_X8_46 wT_X8_teamAt wN_X8 wC_X8_teamAt rfl ny_X8_teamAt rfl ⟨Nat.le_of_ble_eq_true rfl, Nat.le_of_ble_eq_true rfl⟩ hl.1 rfl (Nat.le_of_ble_eq_true rfl) (gdec kX8_collect 47 rfl) ⟨Nat.zero_le _, Nat.zero_le _⟩) (fun H locs h => ?_)
            refine g_iload_n C hl 1 rfl rfl (gdec kX8_collect 48 rfl) ?_
            obtain ⟨h25, hf⟩ := ga_s hf
            refine g_iast C h (gcl_8_0 C ho) (n := 260) rfl (by decide) h25 (gdec kX8_collect 49 rfl) (fun H locs h => ?_)
            refine g_iinc C (k := 1) [(1, vI (y1_19 + 1)), (0, .ref (eA E 8 0)), (2, vI y2_19), (3, vI y3_19), (4, vI y4_19), (5, vI y5_19)] hl rfl (by decide) rfl (gdec kX8_collect 50 rfl) (fun ls hl => ?_)
            refine g_iinc C (k := 3) [(3, vI (y3_19 + 1)), (1, vI (y1_19 + 1)), (0, .ref (eA E 8 0)), (2, vI y2_19), (4, vI y4_19), (5, vI y5_19)] hl rfl (by decide) rfl (gdec kX8_collect 51 rfl) (fun ls hl => ?_)
            refine g_goto C (tgt := 16) (by decide) (gdec kX8_collect 52 rfl) ?_
            exact ih _ _ _ _ k hK H locs h ls (lv_sub hl [2, 1, 3, 0] rfl) hf
        · replace hf := ifn c9 hf
          refine g_iinc C (k := 3) [(3, vI (x3 + 1)), (0, .ref (eA E 8 0)), (1, vI x1), (2, vI x2)] hl rfl (by decide) rfl (gdec kX8_collect 51 rfl) (fun ls hl => ?_)
          refine g_goto C (tgt := 16) (by decide) (gdec kX8_collect 52 rfl) ?_
          exact ih _ _ _ _ k hK H locs h ls (lv_sub hl [1, 2, 3, 0] rfl) hf
      · replace hf := ifn c5 hf
        exact hK _ _ _ _ hf H locs h ls (lv_sub hl [0, 1, 2, 3] rfl)
  have L108 : ∀ (n : Nat) (G : GS) (x1 : Int) (x2 : Int) (x3 : Int) (x4 : Int) (k : (GS → Int → Int → Int → Int → Option (GS × Int))) (hK : ∀ (G : GS) (x1 : Int) (x2 : Int) (x3 : Int) (x4 : Int), k G x1 x2 x3 x4 = some (Gz, rz) → ∀ (H : Heap) (locs : List Loc), gH E s G H locs → ∀ ls, lv_has ls 6 [(0, .ref (eA E 8 0)), (1, vI x1), (2, vI x2), (3, vI x3), (4, vI x4)] → W p l e (gRm 3 64 0 0) s m ([.ref (eA E 8 0)] : List Value).toArray below meth c H locs 0 0 (MQ below (gQi E Gz rz) ([.ref (eA E 8 0)] : List Value).toArray s 0 0 (eF E)) (F0 m 133 ls [])), ∀ (H : Heap) (locs : List Loc), gH E s G H locs → ∀ ls, lv_has ls 6 [(0, .ref (eA E 8 0)), (1, vI x1), (2, vI x2), (3, vI x3), (4, vI x4)] → f_X8_collect_L108 n G x1 x2 x3 x4 k = some (Gz, rz) → W p l e (gRm 3 64 0 0) s m ([.ref (eA E 8 0)] : List Value).toArray below meth c H locs 0 0 (MQ below (gQi E Gz rz) ([.ref (eA E 8 0)] : List Value).toArray s 0 0 (eF E)) (F0 m 108 ls []) := by
    intro n
    induction n with
    | zero =>
      intro G x1 x2 x3 x4 k hK H locs h ls hl hf
      exact absurd hf (by simp [f_X8_collect_L108])
    | succ n ih =>
      intro G x1 x2 x3 x4 k hK H locs h ls hl hf
      unfold f_X8_collect_L108 at hf
      refine g_iload C hl 4 rfl (gdec kX8_collect_1 0 rfl) ?_
      refine g_bipush C (gdec kX8_collect_1 1 rfl) rfl ?_
      obtain ⟨h31, hf⟩ := gd_s hf
      refine g_icmp_ge C (tgt := 133) h31 (by decide) (by decide) (gdec kX8_collect_1 2 rfl) (fun c32 => ?_) (fun c32 => ?_)
      · replace hf := ifp c32 hf
        refine g_aload_n C hl 0 rfl rfl (gdec kX8_collect_1 3 rfl) ?_
        refine gf_X8_7 C h ho (gdec kX8_collect_1 4 rfl) ?_
        refine g_iload_n C hl 3 rfl rfl (gdec kX8_collect_1 5 rfl) ?_
        refine g_iload C hl 4 rfl (gdec kX8_collect_1 6 rfl) ?_
        obtain ⟨r33, q34, hf⟩ := bn1_s hf
        refine g_ci h (g_runS C h (c_X8_letterAt l E _ _ _ _ q34) wM_X8_50 wT_X8_letterAt wN_X8 wC_X8_letterAt rfl ny_X8_letterAt rfl ⟨Nat.le_of_ble_eq_true rfl, Nat.le_of_ble_eq_true rfl⟩ hl.1 rfl (Nat.le_of_ble_eq_true rfl) (gdec kX8_collect_1 7 rfl) ⟨Nat.zero_le _, Nat.zero_le _⟩) (fun H locs h => ?_)
        refine g_iconst C (gdec kX8_collect_1 8 rfl) ?_
        obtain ⟨h35, hf⟩ := ga_s hf
        refine g_iast C h (gcl_8_0 C ho) (n := 260) rfl (by decide) h35 (gdec kX8_collect_1 9 rfl) (fun H locs h => ?_)
        refine g_iinc C (k := 4) [(4, vI (x4 + 1)), (0, .ref (eA E 8 0)), (1, vI x1), (2, vI x2), (3, vI x3)] hl rfl (by decide) rfl (gdec kX8_collect_1 10 rfl) (fun ls hl => ?_)
        refine g_goto C (tgt := 108) (by decide) (gdec kX8_collect_1 11 rfl) ?_
        exact ih _ _ _ _ _ k hK H locs h ls (lv_sub hl [1, 2, 3, 4, 0] rfl) hf
      · replace hf := ifn c32 hf
        exact hK _ _ _ _ _ hf H locs h ls (lv_sub hl [0, 1, 2, 3, 4] rfl)
  have L100 : ∀ (n : Nat) (G : GS) (x1 : Int) (x2 : Int) (x3 : Int) (k : (GS → Int → Int → Int → Option (GS × Int))) (hK : ∀ (G : GS) (x1 : Int) (x2 : Int) (x3 : Int), k G x1 x2 x3 = some (Gz, rz) → ∀ (H : Heap) (locs : List Loc), gH E s G H locs → ∀ ls, lv_has ls 6 [(0, .ref (eA E 8 0)), (1, vI x1), (2, vI x2), (3, vI x3)] → W p l e (gRm 3 64 0 0) s m ([.ref (eA E 8 0)] : List Value).toArray below meth c H locs 0 0 (MQ below (gQi E Gz rz) ([.ref (eA E 8 0)] : List Value).toArray s 0 0 (eF E)) (F0 m 139 ls [])), ∀ (H : Heap) (locs : List Loc), gH E s G H locs → ∀ ls, lv_has ls 6 [(0, .ref (eA E 8 0)), (1, vI x1), (2, vI x2), (3, vI x3)] → f_X8_collect_L100 n G x1 x2 x3 k = some (Gz, rz) → W p l e (gRm 3 64 0 0) s m ([.ref (eA E 8 0)] : List Value).toArray below meth c H locs 0 0 (MQ below (gQi E Gz rz) ([.ref (eA E 8 0)] : List Value).toArray s 0 0 (eF E)) (F0 m 100 ls []) := by
    intro n
    induction n with
    | zero =>
      intro G x1 x2 x3 k hK H locs h ls hl hf
      exact absurd hf (by simp [f_X8_collect_L100])
    | succ n ih =>
      intro G x1 x2 x3 k hK H locs h ls hl hf
      unfold f_X8_collect_L100 at hf
      refine g_iload_n C hl 3 rfl rfl (gdec kX8_collect 55 rfl) ?_
      refine g_iload_n C hl 2 rfl rfl (gdec kX8_collect 56 rfl) ?_
      obtain ⟨h28, hf⟩ := gd_s hf
      obtain ⟨h29, hf⟩ := gd_s hf
      refine g_icmp_ge C (tgt := 139) h28 h29 (by decide) (gdec kX8_collect 57 rfl) (fun c30 => ?_) (fun c30 => ?_)
      · replace hf := ifp c30 hf
        refine g_iconst C (gdec kX8_collect 58 rfl) ?_
        refine g_istore C [(4, vI 0), (0, .ref (eA E 8 0)), (1, vI x1), (2, vI x2), (3, vI x3)] hl (by decide) rfl (gdec kX8_collect 59 rfl) (fun ls hl => ?_)
        refine L108 gFuel _ _ _ _ _ _ (fun G37 y1_36 y2_36 y3_36 y4_36 hf H locs h ls hl => ?_) H locs h ls (lv_sub hl [1, 2, 3, 4, 0] rfl) hf
        refine g_iinc C (k := 3) [(3, vI (y3_36 + 1)), (0, .ref (eA E 8 0)), (1, vI y1_36), (2, vI y2_36), (4, vI y4_36)] hl rfl (by decide) rfl (gdec kX8_collect_1 12 rfl) (fun ls hl => ?_)
        refine g_goto C (tgt := 100) (by decide) (gdec kX8_collect_1 13 rfl) ?_
        exact ih _ _ _ _ k hK H locs h ls (lv_sub hl [1, 2, 3, 0] rfl) hf
      · replace hf := ifn c30 hf
        exact hK _ _ _ _ hf H locs h ls (lv_sub hl [0, 1, 2, 3] rfl)
  unfold f_X8_collect at hf
  refine g_aload_n C hl 0 rfl rfl (gdec kX8_collect 0 rfl) ?_
  obtain ⟨G1, q2, hf⟩ := bn1_s hf
  refine g_cv h (g_runV C h ho (by decide) rfl (c_X8_save l E _ ho _ q2) wM_X8_73 wI_X8_save wS_X8_save wN_X8 wC_X8_save rfl ny_X8_save rfl ⟨Nat.le_of_ble_eq_true rfl, Nat.le_of_ble_eq_true rfl⟩ hl.1 rfl (Nat.le_of_ble_eq_true rfl) (gdec kX8_collect 1 rfl) ⟨Nat.zero_le _, Nat.zero_le _⟩) (fun H locs h => ?_)
  refine g_iconst C (gdec kX8_collect 2 rfl) ?_
  refine g_istore_n C [(1, vI 0), (0, .ref (eA E 8 0))] hl rfl (by decide) rfl (gdec kX8_collect 3 rfl) (fun ls hl => ?_)
  refine g_aload_n C hl 1 rfl rfl (gdec kX8_collect 4 rfl) ?_
  refine gf_X8_7 C h ho (gdec kX8_collect 5 rfl) ?_
  refine g_bipush C (gdec kX8_collect 6 rfl) rfl ?_
  refine g_iald C h (gcl_8_0 C ho) (n := 260) rfl (by decide) (⟨by decide, by decide⟩ : (0 : Int) ≤ 8 ∧ (8 : Int) < 260) (gdec kX8_collect 7 rfl) ?_
  refine g_istore_n C [(2, vI (G1 10 0 8)), (1, vI 0), (0, .ref (eA E 8 0))] hl rfl (by decide) rfl (gdec kX8_collect 8 rfl) (fun ls hl => ?_)
  refine g_iconst C (gdec kX8_collect 9 rfl) ?_
  refine g_istore_n C [(3, vI 0), (2, vI (G1 10 0 8)), (1, vI 0), (0, .ref (eA E 8 0))] hl rfl (by decide) rfl (gdec kX8_collect 10 rfl) (fun ls hl => ?_)
  refine L16 gFuel _ _ _ _ _ (fun G27 y1_26 y2_26 y3_26 hf H locs h ls hl => ?_) H locs h ls (lv_sub hl [3, 2, 1, 0] rfl) hf
  refine g_iload_n C hl 1 rfl rfl (gdec kX8_collect 53 rfl) ?_
  refine g_istore_n C [(3, vI y1_26), (0, .ref (eA E 8 0)), (1, vI y1_26), (2, vI y2_26)] hl rfl (by decide) rfl (gdec kX8_collect 54 rfl) (fun ls hl => ?_)
  refine L100 gFuel _ _ _ _ _ (fun G39 y1_38 y2_38 y3_38 hf H locs h ls hl => ?_) H locs h ls (lv_sub hl [1, 2, 3, 0] rfl) hf
  refine g_aload_n C hl 0 rfl rfl (gdec kX8_collect_1 14 rfl) ?_
  refine gf_X8_7 C h ho (gdec kX8_collect_1 15 rfl) ?_
  refine g_bipush C (gdec kX8_collect_1 16 rfl) rfl ?_
  refine g_iload_n C hl 1 rfl rfl (gdec kX8_collect_1 17 rfl) ?_
  refine g_iast C h (gcl_8_0 C ho) (n := 260) rfl (by decide) (⟨by decide, by decide⟩ : (0 : Int) ≤ 8 ∧ (8 : Int) < 260) (gdec kX8_collect_1 18 rfl) (fun H locs h => ?_)
  refine g_aload_n C hl 0 rfl rfl (gdec kX8_collect_1 19 rfl) ?_
  refine g_iload_n C hl 2 rfl rfl (gdec kX8_collect_1 20 rfl) ?_
  refine g_iload_n C hl 1 rfl rfl (gdec kX8_collect_1 21 rfl) ?_
  refine g_isub C (gdec kX8_collect_1 22 rfl) ?_
  obtain ⟨G40, r41, q42, hf⟩ := bnd_s hf
  refine g_ci h (g_runV C h ho (by decide) rfl (c_X8_fine l E _ _ ho _ _ q42) wM_X8_76 wI_X8_fine wS_X8_fine wN_X8 wC_X8_fine rfl ny_X8_fine rfl ⟨Nat.le_of_ble_eq_true rfl, Nat.le_of_ble_eq_true rfl⟩ hl.1 rfl (Nat.le_of_ble_eq_true rfl) (gdec kX8_collect_1 23 rfl) ⟨Nat.zero_le _, Nat.zero_le _⟩) (fun H locs h => ?_)
  exact g_iret C h hf (gdec kX8_collect_1 24 rfl)
def f_X8_of (G : GS) (p1 : Int) (p2 : Int) : Option (Int) :=
  bn1 (f_X8_teamAt G p1 p2) (fun r1 => ga r1 260 (some (G 10 0 r1)))
set_option maxHeartbeats 4000000 in
set_option maxRecDepth 100000 in
theorem c_X8_of (l : Launch) (E : gEnv) (G : GS) (p1 : Int) (p2 : Int) (ho : gOk E 8 0) (rz : Int) (hf : f_X8_of G p1 p2 = some rz) : gMet l yX8_of cX8_of 3 (some .int) 1 21 0 0 [.ref (eA E 8 0), vI p1, vI p2] E G (gQi E G rz) := by
  refine g_met (by decide +kernel) (Nat.le_of_ble_eq_true rfl) ?_
  intro p e s m below meth c C H locs h ls hl
  have C : gC p s m _ meth c RX8 cX8_of 3 (some .int) E := C
  have hl : lv_has ls 3 [(0, .ref (eA E 8 0)), (1, vI p1), (2, vI p2)] := hl
  unfold f_X8_of at hf
  refine g_aload_n C hl 0 rfl rfl (gdec kX8_of 0 rfl) ?_
  refine gf_X8_7 C h ho (gdec kX8_of 1 rfl) ?_
  refine g_iload_n C hl 1 rfl rfl (gdec kX8_of 2 rfl) ?_
  refine g_iload_n C hl 2 rfl rfl (gdec kX8_of 3 rfl) ?_
  obtain ⟨r1, q2, hf⟩ := bn1_s hf
  refine g_ci h (g_runS C h (c_X8_teamAt l E _ _ _ _ q2) wM_X8_46 wT_X8_teamAt wN_X8 wC_X8_teamAt rfl ny_X8_teamAt rfl ⟨Nat.le_of_ble_eq_true rfl, Nat.le_of_ble_eq_true rfl⟩ hl.1 rfl (Nat.le_of_ble_eq_true rfl) (gdec kX8_of 4 rfl) ⟨Nat.zero_le _, Nat.zero_le _⟩) (fun H locs h => ?_)
  obtain ⟨h3, hf⟩ := ga_s hf
  refine g_iald C h (gcl_8_0 C ho) (n := 260) rfl (by decide) h3 (gdec kX8_of 5 rfl) ?_
  exact g_iret C h (congrArg (Option.map (Prod.mk _)) hf) (gdec kX8_of 6 rfl)
def f_X8_rests_L2 : Nat → GS → Int → (GS → Int → Option (GS)) → Option (GS)
  | 0, _, _, _ => none
  | n + 1, G, x1, k => gd x1 (gd (G 10 0 7) (if x1 < (G 10 0 7) then bn1 (f_X8_of G x1 3) (fun r4 => gd r4 (if r4 = 0 then bn1 (f_X8_of G x1 2) (fun r8 => bn1 (f_X8_of G x1 1) (fun r10 => gd r10 (if 0 < r10 then ga ((30 + (3 * r8)) + 1) 260 (gd (G 10 0 ((30 + (3 * r8)) + 1)) (if 0 < (G 10 0 ((30 + (3 * r8)) + 1)) then bn1 (f_X8_of G x1 1) (fun r17 => nm (gup (gup G 10 0 ((30 + (3 * r8)) + 1) ((G 10 0 ((30 + (3 * r8)) + 1)) - 1)) 10 0 6 (((gup G 10 0 ((30 + (3 * r8)) + 1) ((G 10 0 ((30 + (3 * r8)) + 1)) - 1)) 10 0 6) + 1)) (fun G22 => bn1 (f_X8_teamAt G22 x1 9) (fun r24 => ga r24 260 (bn1 (f_X8_teamAt (gup G22 10 0 r24 ((G22 10 0 r24) + 1)) x1 1) (fun r28 => gd (r17 - 6) (if (r17 - 6) < 0 then ga r28 260 (f_X8_rests_L2 n (gup (gup G22 10 0 r24 ((G22 10 0 r24) + 1)) 10 0 r28 0) (x1 + 1) k) else ga r28 260 (f_X8_rests_L2 n (gup (gup G22 10 0 r24 ((G22 10 0 r24) + 1)) 10 0 r28 (r17 - 6)) (x1 + 1) k))))))) else bn1 (f_X8_of G x1 1) (fun r34 => nm (gup (gup G 10 0 ((30 + (3 * r8)) + 1) ((G 10 0 ((30 + (3 * r8)) + 1)) - 0)) 10 0 6 (((gup G 10 0 ((30 + (3 * r8)) + 1) ((G 10 0 ((30 + (3 * r8)) + 1)) - 0)) 10 0 6) + 0)) (fun G39 => bn1 (f_X8_teamAt G39 x1 9) (fun r41 => ga r41 260 (bn1 (f_X8_teamAt (gup G39 10 0 r41 ((G39 10 0 r41) + 0)) x1 1) (fun r45 => gd (r34 - 1) (if (r34 - 1) < 0 then ga r45 260 (f_X8_rests_L2 n (gup (gup G39 10 0 r41 ((G39 10 0 r41) + 0)) 10 0 r45 0) (x1 + 1) k) else ga r45 260 (f_X8_rests_L2 n (gup (gup G39 10 0 r41 ((G39 10 0 r41) + 0)) 10 0 r45 (r34 - 1)) (x1 + 1) k))))))))) else bn1 (f_X8_of G x1 1) (fun r51 => ga ((30 + (3 * r8)) + 1) 260 (nm (gup (gup G 10 0 ((30 + (3 * r8)) + 1) ((G 10 0 ((30 + (3 * r8)) + 1)) - 0)) 10 0 6 (((gup G 10 0 ((30 + (3 * r8)) + 1) ((G 10 0 ((30 + (3 * r8)) + 1)) - 0)) 10 0 6) + 0)) (fun G57 => bn1 (f_X8_teamAt G57 x1 9) (fun r59 => ga r59 260 (bn1 (f_X8_teamAt (gup G57 10 0 r59 ((G57 10 0 r59) + 0)) x1 1) (fun r63 => gd (r51 - 1) (if (r51 - 1) < 0 then ga r63 260 (f_X8_rests_L2 n (gup (gup G57 10 0 r59 ((G57 10 0 r59) + 0)) 10 0 r63 0) (x1 + 1) k) else ga r63 260 (f_X8_rests_L2 n (gup (gup G57 10 0 r59 ((G57 10 0 r59) + 0)) 10 0 r63 (r51 - 1)) (x1 + 1) k))))))))))) else f_X8_rests_L2 n G (x1 + 1) k)) else k G x1))
def f_X8_rests (G : GS) : Option (GS) :=
  f_X8_rests_L2 gFuel G 0 (fun G70 y1_69 => some G70)
set_option maxHeartbeats 4000000 in
set_option maxRecDepth 100000 in
theorem c_X8_rests (l : Launch) (E : gEnv) (G : GS) (ho : gOk E 8 0) (Gz : GS) (hf : f_X8_rests G = some Gz) : gMet l yX8_rests cX8_rests 5 none 2 43 0 0 [.ref (eA E 8 0)] E G (gQv E Gz) := by
  refine g_met (by decide +kernel) (Nat.le_of_ble_eq_true rfl) ?_
  intro p e s m below meth c C H locs h ls hl
  have C : gC p s m _ meth c RX8 cX8_rests 5 none E := C
  have hl : lv_has ls 5 [(0, .ref (eA E 8 0))] := hl
  have L2 : ∀ (n : Nat) (G : GS) (x1 : Int) (k : (GS → Int → Option (GS))) (hK : ∀ (G : GS) (x1 : Int), k G x1 = some Gz → ∀ (H : Heap) (locs : List Loc), gH E s G H locs → ∀ ls, lv_has ls 5 [(0, .ref (eA E 8 0)), (1, vI x1)] → W p l e (gRm 2 43 0 0) s m ([.ref (eA E 8 0)] : List Value).toArray below meth c H locs 0 0 (MQ below (gQv E Gz) ([.ref (eA E 8 0)] : List Value).toArray s 0 0 (eF E)) (F0 m 166 ls [])), ∀ (H : Heap) (locs : List Loc), gH E s G H locs → ∀ ls, lv_has ls 5 [(0, .ref (eA E 8 0)), (1, vI x1)] → f_X8_rests_L2 n G x1 k = some Gz → W p l e (gRm 2 43 0 0) s m ([.ref (eA E 8 0)] : List Value).toArray below meth c H locs 0 0 (MQ below (gQv E Gz) ([.ref (eA E 8 0)] : List Value).toArray s 0 0 (eF E)) (F0 m 2 ls []) := by
    intro n
    induction n with
    | zero =>
      intro G x1 k hK H locs h ls hl hf
      exact absurd hf (by simp [f_X8_rests_L2])
    | succ n ih =>
      intro G x1 k hK H locs h ls hl hf
      unfold f_X8_rests_L2 at hf
      refine g_iload_n C hl 1 rfl rfl (gdec kX8_rests 2 rfl) ?_
      refine g_aload_n C hl 0 rfl rfl (gdec kX8_rests 3 rfl) ?_
      refine gf_X8_7 C h ho (gdec kX8_rests 4 rfl) ?_
      refine g_bipush C (gdec kX8_rests 5 rfl) rfl ?_
      refine g_iald C h (gcl_8_0 C ho) (n := 260) rfl (by decide) (⟨by decide, by decide⟩ : (0 : Int) ≤ 7 ∧ (7 : Int) < 260) (gdec kX8_rests 6 rfl) ?_
      obtain ⟨h1, hf⟩ := gd_s hf
      obtain ⟨h2, hf⟩ := gd_s hf
      refine g_icmp_ge C (tgt := 166) h1 h2 (by decide) (gdec kX8_rests 7 rfl) (fun c3 => ?_) (fun c3 => ?_)
      · replace hf := ifp c3 hf
        refine g_aload_n C hl 0 rfl rfl (gdec kX8_rests 8 rfl) ?_
        refine g_iload_n C hl 1 rfl rfl (gdec kX8_rests 9 rfl) ?_
        refine g_iconst C (gdec kX8_rests 10 rfl) ?_
        obtain ⟨r4, q5, hf⟩ := bn1_s hf
        refine g_ci h (g_runV C h ho (by decide) rfl (c_X8_of l E _ _ _ ho _ q5) wM_X8_98 wI_X8_of wS_X8_of wN_X8 wC_X8_of rfl ny_X8_of rfl ⟨Nat.le_of_ble_eq_true rfl, Nat.le_of_ble_eq_true rfl⟩ hl.1 rfl (Nat.le_of_ble_eq_true rfl) (gdec kX8_rests 11 rfl) ⟨Nat.zero_le _, Nat.zero_le _⟩) (fun H locs h => ?_)
        obtain ⟨h6, hf⟩ := gd_s hf
        refine g_if_ne C (tgt := 160) h6 (by decide) (gdec kX8_rests 12 rfl) (fun c7 => ?_) (fun c7 => ?_)
        · replace hf := ifp c7 hf
          refine g_bipush C (gdec kX8_rests 13 rfl) rfl ?_
          refine g_iconst C (gdec kX8_rests 14 rfl) ?_
          refine g_aload_n C hl 0 rfl rfl (gdec kX8_rests 15 rfl) ?_
          refine g_iload_n C hl 1 rfl rfl (gdec kX8_rests 16 rfl) ?_
          refine g_iconst C (gdec kX8_rests 17 rfl) ?_
          obtain ⟨r8, q9, hf⟩ := bn1_s hf
          refine g_ci h (g_runV C h ho (by decide) rfl (c_X8_of l E _ _ _ ho _ q9) wM_X8_98 wI_X8_of wS_X8_of wN_X8 wC_X8_of rfl ny_X8_of rfl ⟨Nat.le_of_ble_eq_true rfl, Nat.le_of_ble_eq_true rfl⟩ hl.1 rfl (Nat.le_of_ble_eq_true rfl) (gdec kX8_rests 18 rfl) ⟨Nat.zero_le _, Nat.zero_le _⟩) (fun H locs h => ?_)
          refine g_imul C (gdec kX8_rests 19 rfl) ?_
          refine g_iadd C (gdec kX8_rests 20 rfl) ?_
          refine g_iconst C (gdec kX8_rests 21 rfl) ?_
          refine g_iadd C (gdec kX8_rests 22 rfl) ?_
          refine g_istore_n C [(2, vI ((30 + (3 * r8)) + 1)), (0, .ref (eA E 8 0)), (1, vI x1)] hl rfl (by decide) rfl (gdec kX8_rests 23 rfl) (fun ls hl => ?_)
          refine g_aload_n C hl 1 rfl rfl (gdec kX8_rests 24 rfl) ?_
          refine g_iload_n C hl 2 rfl rfl (gdec kX8_rests 25 rfl) ?_
          refine g_iconst C (gdec kX8_rests 26 rfl) ?_
          obtain ⟨r10, q11, hf⟩ := bn1_s hf
          refine g_ci h (g_runV C h ho (by decide) rfl (c_X8_of l E _ _ _ ho _ q11) wM_X8_98 wI_X8_of wS_X8_of wN_X8 wC_X8_of rfl ny_X8_of rfl ⟨Nat.le_of_ble_eq_true rfl, Nat.le_of_ble_eq_true rfl⟩ hl.1 rfl (Nat.le_of_ble_eq_true rfl) (gdec kX8_rests 27 rfl) ⟨Nat.zero_le _, Nat.zero_le _⟩) (fun H locs h => ?_)
          obtain ⟨h12, hf⟩ := gd_s hf
          refine g_if_le C (tgt := 58) h12 (by decide) (gdec kX8_rests 28 rfl) (fun c13 => ?_) (fun c13 => ?_)
          · replace hf := ifp c13 hf
            refine g_aload_n C hl 1 rfl rfl (gdec kX8_rests 29 rfl) ?_
            refine gf_X8_7 C h ho (gdec kX8_rests 30 rfl) ?_
            refine g_iload_n C hl 0 rfl rfl (gdec kX8_rests 31 rfl) ?_
            obtain ⟨h14, hf⟩ := ga_s hf
            refine g_iald C h (gcl_8_0 C ho) (n := 260) rfl (by decide) h14 (gdec kX8_rests 32 rfl) ?_
            obtain ⟨h15, hf⟩ := gd_s hf
            refine g_if_le C (tgt := 58) h15 (by decide) (gdec kX8_rests 33 rfl) (fun c16 => ?_) (fun c16 => ?_)
            · replace hf := ifp c16 hf
              refine g_iconst C (gdec kX8_rests 34 rfl) ?_
              refine g_goto C (tgt := 59) (by decide) (gdec kX8_rests 35 rfl) ?_
              refine g_istore_n C [(3, vI 1), (2, vI ((30 + (3 * r8)) + 1)), (0, .ref (eA E 8 0)), (1, vI x1)] hl rfl (by decide) rfl (gdec kX8_rests 37 rfl) (fun ls hl => ?_)
              refine g_aload_n C hl 2 rfl rfl (gdec kX8_rests 38 rfl) ?_
              refine g_iload_n C hl 3 rfl rfl (gdec kX8_rests 39 rfl) ?_
              refine g_iconst C (gdec kX8_rests 40 rfl) ?_
              obtain ⟨r17, q18, hf⟩ := bn1_s hf
              refine g_ci h (g_runV C h ho (by decide) rfl (c_X8_of l E _ _ _ ho _ q18) wM_X8_98 wI_X8_of wS_X8_of wN_X8 wC_X8_of rfl ny_X8_of rfl ⟨Nat.le_of_ble_eq_true rfl, Nat.le_of_ble_eq_true rfl⟩ hl.1 rfl (Nat.le_of_ble_eq_true rfl) (gdec kX8_rests 41 rfl) ⟨Nat.zero_le _, Nat.zero_le _⟩) (fun H locs h => ?_)
              refine g_iload_n C hl 0 rfl rfl (gdec kX8_rests 42 rfl) ?_
              refine g_if_eq C (tgt := 75) (by decide) (by decide) (gdec kX8_rests 43 rfl) (fun c19 => absurd c19 (by decide)) (fun c19 => ?_)
              refine g_bipush C (gdec kX8_rests 44 rfl) rfl ?_
              refine g_goto C (tgt := 76) (by decide) (gdec kX8_rests 45 rfl) ?_
              refine g_isub C (gdec kX8_rests 47 rfl) ?_
              refine g_istore C [(4, vI (r17 - 6)), (3, vI 1), (2, vI ((30 + (3 * r8)) + 1)), (0, .ref (eA E 8 0)), (1, vI x1)] hl (by decide) rfl (gdec kX8_rests 48 rfl) (fun ls hl => ?_)
              refine g_aload_n C hl 3 rfl rfl (gdec kX8_rests 49 rfl) ?_
              refine gf_X8_7 C h ho (gdec kX8_rests 50 rfl) ?_
              refine g_iload_n C hl 2 rfl rfl (gdec kX8_rests 51 rfl) ?_
              refine g_dup2 C rfl rfl (gdec kX8_rests 52 rfl) ?_
              refine g_iald C h (gcl_8_0 C ho) (n := 260) rfl (by decide) h14 (gdec kX8_rests 53 rfl) ?_
              refine g_iload_n C hl 1 rfl rfl (gdec kX8_rests 54 rfl) ?_
              refine g_if_eq C (tgt := 94) (by decide) (by decide) (gdec kX8_rests 55 rfl) (fun c20 => absurd c20 (by decide)) (fun c20 => ?_)
              refine g_iconst C (gdec kX8_rests 56 rfl) ?_
              refine g_goto C (tgt := 95) (by decide) (gdec kX8_rests 57 rfl) ?_
              refine g_isub C (gdec kX8_rests 59 rfl) ?_
              refine g_iast C h (gcl_8_0 C ho) (n := 260) rfl (by decide) h14 (gdec kX8_rests_1 0 rfl) (fun H locs h => ?_)
              refine g_aload_n C hl 3 rfl rfl (gdec kX8_rests_1 1 rfl) ?_
              refine gf_X8_7 C h ho (gdec kX8_rests_1 2 rfl) ?_
              refine g_bipush C (gdec kX8_rests_1 3 rfl) rfl ?_
              refine g_dup2 C rfl rfl (gdec kX8_rests_1 4 rfl) ?_
              refine g_iald C h (gcl_8_0 C ho) (n := 260) rfl (by decide) (⟨by decide, by decide⟩ : (0 : Int) ≤ 6 ∧ (6 : Int) < 260) (gdec kX8_rests_1 5 rfl) ?_
              refine g_iload_n C hl 1 rfl rfl (gdec kX8_rests_1 6 rfl) ?_
              refine g_if_eq C (tgt := 113) (by decide) (by decide) (gdec kX8_rests_1 7 rfl) (fun c21 => absurd c21 (by decide)) (fun c21 => ?_)
              refine g_iconst C (gdec kX8_rests_1 8 rfl) ?_
              refine g_goto C (tgt := 114) (by decide) (gdec kX8_rests_1 9 rfl) ?_
              refine g_iadd C (gdec kX8_rests_1 11 rfl) ?_
              refine g_iast C h (gcl_8_0 C ho) (n := 260) rfl (by decide) (⟨by decide, by decide⟩ : (0 : Int) ≤ 6 ∧ (6 : Int) < 260) (gdec kX8_rests_1 12 rfl) (fun H locs h => ?_)
              obtain ⟨G22, e23, hf⟩ := nm_s hf
              rw [e23] at h
              refine g_aload_n C hl 3 rfl rfl (gdec kX8_rests_1 13 rfl) ?_
              refine gf_X8_7 C h ho (gdec kX8_rests_1 14 rfl) ?_
              refine g_iload_n C hl 4 rfl rfl (gdec kX8_rests_1 15 rfl) ?_
              refine g_bipush C (gdec kX8_rests_1 16 rfl) rfl ?_
              obtain ⟨r24, q25, hf⟩ := bn1_s hf
              refine g_ci h (g_runS C h (c_X8_teamAt l E _ _ _ _ q25) wM_X8_46 wT_X8_teamAt wN_X8 wC_X8_teamAt rfl ny_X8_teamAt rfl ⟨Nat.le_of_ble_eq_true rfl, Nat.le_of_ble_eq_true rfl⟩ hl.1 rfl (Nat.le_of_ble_eq_true rfl) (gdec kX8_rests_1 17 rfl) ⟨Nat.zero_le _, Nat.zero_le _⟩) (fun H locs h => ?_)
              refine g_dup2 C rfl rfl (gdec kX8_rests_1 18 rfl) ?_
              obtain ⟨h26, hf⟩ := ga_s hf
              refine g_iald C h (gcl_8_0 C ho) (n := 260) rfl (by decide) h26 (gdec kX8_rests_1 19 rfl) ?_
              refine g_iload_n C hl 1 rfl rfl (gdec kX8_rests_1 20 rfl) ?_
              refine g_if_eq C (tgt := 136) (by decide) (by decide) (gdec kX8_rests_1 21 rfl) (fun c27 => absurd c27 (by decide)) (fun c27 => ?_)
              refine g_iconst C (gdec kX8_rests_1 22 rfl) ?_
              refine g_goto C (tgt := 137) (by decide) (gdec kX8_rests_1 23 rfl) ?_
              refine g_iadd C (gdec kX8_rests_1 25 rfl) ?_
              refine g_iast C h (gcl_8_0 C ho) (n := 260) rfl (by decide) h26 (gdec kX8_rests_1 26 rfl) (fun H locs h => ?_)
              refine g_aload_n C hl 3 rfl rfl (gdec kX8_rests_1 27 rfl) ?_
              refine gf_X8_7 C h ho (gdec kX8_rests_1 28 rfl) ?_
              refine g_iload_n C hl 4 rfl rfl (gdec kX8_rests_1 29 rfl) ?_
              refine g_iconst C (gdec kX8_rests_1 30 rfl) ?_
              obtain ⟨r28, q29, hf⟩ := bn1_s hf
              refine g_ci h (g_runS C h (c_X8_teamAt l E _ _ _ _ q29) wM_X8_46 wT_X8_teamAt wN_X8 wC_X8_teamAt rfl ny_X8_teamAt rfl ⟨Nat.le_of_ble_eq_true rfl, Nat.le_of_ble_eq_true rfl⟩ hl.1 rfl (Nat.le_of_ble_eq_true rfl) (gdec kX8_rests_1 31 rfl) ⟨Nat.zero_le _, Nat.zero_le _⟩) (fun H locs h => ?_)
              refine g_iload C hl 0 rfl (gdec kX8_rests_1 32 rfl) ?_
              obtain ⟨h30, hf⟩ := gd_s hf
              refine g_if_ge C (tgt := 157) h30 (by decide) (gdec kX8_rests_1 33 rfl) (fun c31 => ?_) (fun c31 => ?_)
              · replace hf := ifp c31 hf
                refine g_iconst C (gdec kX8_rests_1 34 rfl) ?_
                refine g_goto C (tgt := 159) (by decide) (gdec kX8_rests_1 35 rfl) ?_
                obtain ⟨h32, hf⟩ := ga_s hf
                refine g_iast C h (gcl_8_0 C ho) (n := 260) rfl (by decide) h32 (gdec kX8_rests_1 37 rfl) (fun H locs h => ?_)
                refine g_iinc C (k := 4) [(1, vI (x1 + 1)), (4, vI (r17 - 6)), (3, vI 1), (2, vI ((30 + (3 * r8)) + 1)), (0, .ref (eA E 8 0))] hl rfl (by decide) rfl (gdec kX8_rests_1 38 rfl) (fun ls hl => ?_)
                refine g_goto C (tgt := 2) (by decide) (gdec kX8_rests_1 39 rfl) ?_
                exact ih _ _ k hK H locs h ls (lv_sub hl [4, 0] rfl) hf
              · replace hf := ifn c31 hf
                refine g_iload C hl 0 rfl (gdec kX8_rests_1 36 rfl) ?_
                obtain ⟨h33, hf⟩ := ga_s hf
                refine g_iast C h (gcl_8_0 C ho) (n := 260) rfl (by decide) h33 (gdec kX8_rests_1 37 rfl) (fun H locs h => ?_)
                refine g_iinc C (k := 4) [(1, vI (x1 + 1)), (4, vI (r17 - 6)), (3, vI 1), (2, vI ((30 + (3 * r8)) + 1)), (0, .ref (eA E 8 0))] hl rfl (by decide) rfl (gdec kX8_rests_1 38 rfl) (fun ls hl => ?_)
                refine g_goto C (tgt := 2) (by decide) (gdec kX8_rests_1 39 rfl) ?_
                exact ih _ _ k hK H locs h ls (lv_sub hl [4, 0] rfl) hf
            · replace hf := ifn c16 hf
              refine g_iconst C (gdec kX8_rests 36 rfl) ?_
              refine g_istore_n C [(3, vI 0), (2, vI ((30 + (3 * r8)) + 1)), (0, .ref (eA E 8 0)), (1, vI x1)] hl rfl (by decide) rfl (gdec kX8_rests 37 rfl) (fun ls hl => ?_)
              refine g_aload_n C hl 2 rfl rfl (gdec kX8_rests 38 rfl) ?_
              refine g_iload_n C hl 3 rfl rfl (gdec kX8_rests 39 rfl) ?_
              refine g_iconst C (gdec kX8_rests 40 rfl) ?_
              obtain ⟨r34, q35, hf⟩ := bn1_s hf
              refine g_ci h (g_runV C h ho (by decide) rfl (c_X8_of l E _ _ _ ho _ q35) wM_X8_98 wI_X8_of wS_X8_of wN_X8 wC_X8_of rfl ny_X8_of rfl ⟨Nat.le_of_ble_eq_true rfl, Nat.le_of_ble_eq_true rfl⟩ hl.1 rfl (Nat.le_of_ble_eq_true rfl) (gdec kX8_rests 41 rfl) ⟨Nat.zero_le _, Nat.zero_le _⟩) (fun H locs h => ?_)
              refine g_iload_n C hl 0 rfl rfl (gdec kX8_rests 42 rfl) ?_
              refine g_if_eq C (tgt := 75) (by decide) (by decide) (gdec kX8_rests 43 rfl) (fun c36 => ?_) (fun c36 => absurd (by decide) c36)
              refine g_iconst C (gdec kX8_rests 46 rfl) ?_
              refine g_isub C (gdec kX8_rests 47 rfl) ?_
              refine g_istore C [(4, vI (r34 - 1)), (3, vI 0), (2, vI ((30 + (3 * r8)) + 1)), (0, .ref (eA E 8 0)), (1, vI x1)] hl (by decide) rfl (gdec kX8_rests 48 rfl) (fun ls hl => ?_)
              refine g_aload_n C hl 3 rfl rfl (gdec kX8_rests 49 rfl) ?_
              refine gf_X8_7 C h ho (gdec kX8_rests 50 rfl) ?_
              refine g_iload_n C hl 2 rfl rfl (gdec kX8_rests 51 rfl) ?_
              refine g_dup2 C rfl rfl (gdec kX8_rests 52 rfl) ?_
              refine g_iald C h (gcl_8_0 C ho) (n := 260) rfl (by decide) h14 (gdec kX8_rests 53 rfl) ?_
              refine g_iload_n C hl 1 rfl rfl (gdec kX8_rests 54 rfl) ?_
              refine g_if_eq C (tgt := 94) (by decide) (by decide) (gdec kX8_rests 55 rfl) (fun c37 => ?_) (fun c37 => absurd (by decide) c37)
              refine g_iconst C (gdec kX8_rests 58 rfl) ?_
              refine g_isub C (gdec kX8_rests 59 rfl) ?_
              refine g_iast C h (gcl_8_0 C ho) (n := 260) rfl (by decide) h14 (gdec kX8_rests_1 0 rfl) (fun H locs h => ?_)
              refine g_aload_n C hl 3 rfl rfl (gdec kX8_rests_1 1 rfl) ?_
              refine gf_X8_7 C h ho (gdec kX8_rests_1 2 rfl) ?_
              refine g_bipush C (gdec kX8_rests_1 3 rfl) rfl ?_
              refine g_dup2 C rfl rfl (gdec kX8_rests_1 4 rfl) ?_
              refine g_iald C h (gcl_8_0 C ho) (n := 260) rfl (by decide) (⟨by decide, by decide⟩ : (0 : Int) ≤ 6 ∧ (6 : Int) < 260) (gdec kX8_rests_1 5 rfl) ?_
              refine g_iload_n C hl 1 rfl rfl (gdec kX8_rests_1 6 rfl) ?_
              refine g_if_eq C (tgt := 113) (by decide) (by decide) (gdec kX8_rests_1 7 rfl) (fun c38 => ?_) (fun c38 => absurd (by decide) c38)
              refine g_iconst C (gdec kX8_rests_1 10 rfl) ?_
              refine g_iadd C (gdec kX8_rests_1 11 rfl) ?_
              refine g_iast C h (gcl_8_0 C ho) (n := 260) rfl (by decide) (⟨by decide, by decide⟩ : (0 : Int) ≤ 6 ∧ (6 : Int) < 260) (gdec kX8_rests_1 12 rfl) (fun H locs h => ?_)
              obtain ⟨G39, e40, hf⟩ := nm_s hf
              rw [e40] at h
              refine g_aload_n C hl 3 rfl rfl (gdec kX8_rests_1 13 rfl) ?_
              refine gf_X8_7 C h ho (gdec kX8_rests_1 14 rfl) ?_
              refine g_iload_n C hl 4 rfl rfl (gdec kX8_rests_1 15 rfl) ?_
              refine g_bipush C (gdec kX8_rests_1 16 rfl) rfl ?_
              obtain ⟨r41, q42, hf⟩ := bn1_s hf
              refine g_ci h (g_runS C h (c_X8_teamAt l E _ _ _ _ q42) wM_X8_46 wT_X8_teamAt wN_X8 wC_X8_teamAt rfl ny_X8_teamAt rfl ⟨Nat.le_of_ble_eq_true rfl, Nat.le_of_ble_eq_true rfl⟩ hl.1 rfl (Nat.le_of_ble_eq_true rfl) (gdec kX8_rests_1 17 rfl) ⟨Nat.zero_le _, Nat.zero_le _⟩) (fun H locs h => ?_)
              refine g_dup2 C rfl rfl (gdec kX8_rests_1 18 rfl) ?_
              obtain ⟨h43, hf⟩ := ga_s hf
              refine g_iald C h (gcl_8_0 C ho) (n := 260) rfl (by decide) h43 (gdec kX8_rests_1 19 rfl) ?_
              refine g_iload_n C hl 1 rfl rfl (gdec kX8_rests_1 20 rfl) ?_
              refine g_if_eq C (tgt := 136) (by decide) (by decide) (gdec kX8_rests_1 21 rfl) (fun c44 => ?_) (fun c44 => absurd (by decide) c44)
              refine g_iconst C (gdec kX8_rests_1 24 rfl) ?_
              refine g_iadd C (gdec kX8_rests_1 25 rfl) ?_
              refine g_iast C h (gcl_8_0 C ho) (n := 260) rfl (by decide) h43 (gdec kX8_rests_1 26 rfl) (fun H locs h => ?_)
              refine g_aload_n C hl 3 rfl rfl (gdec kX8_rests_1 27 rfl) ?_
              refine gf_X8_7 C h ho (gdec kX8_rests_1 28 rfl) ?_
              refine g_iload_n C hl 4 rfl rfl (gdec kX8_rests_1 29 rfl) ?_
              refine g_iconst C (gdec kX8_rests_1 30 rfl) ?_
              obtain ⟨r45, q46, hf⟩ := bn1_s hf
              refine g_ci h (g_runS C h (c_X8_teamAt l E _ _ _ _ q46) wM_X8_46 wT_X8_teamAt wN_X8 wC_X8_teamAt rfl ny_X8_teamAt rfl ⟨Nat.le_of_ble_eq_true rfl, Nat.le_of_ble_eq_true rfl⟩ hl.1 rfl (Nat.le_of_ble_eq_true rfl) (gdec kX8_rests_1 31 rfl) ⟨Nat.zero_le _, Nat.zero_le _⟩) (fun H locs h => ?_)
              refine g_iload C hl 0 rfl (gdec kX8_rests_1 32 rfl) ?_
              obtain ⟨h47, hf⟩ := gd_s hf
              refine g_if_ge C (tgt := 157) h47 (by decide) (gdec kX8_rests_1 33 rfl) (fun c48 => ?_) (fun c48 => ?_)
              · replace hf := ifp c48 hf
                refine g_iconst C (gdec kX8_rests_1 34 rfl) ?_
                refine g_goto C (tgt := 159) (by decide) (gdec kX8_rests_1 35 rfl) ?_
                obtain ⟨h49, hf⟩ := ga_s hf
                refine g_iast C h (gcl_8_0 C ho) (n := 260) rfl (by decide) h49 (gdec kX8_rests_1 37 rfl) (fun H locs h => ?_)
                refine g_iinc C (k := 4) [(1, vI (x1 + 1)), (4, vI (r34 - 1)), (3, vI 0), (2, vI ((30 + (3 * r8)) + 1)), (0, .ref (eA E 8 0))] hl rfl (by decide) rfl (gdec kX8_rests_1 38 rfl) (fun ls hl => ?_)
                refine g_goto C (tgt := 2) (by decide) (gdec kX8_rests_1 39 rfl) ?_
                exact ih _ _ k hK H locs h ls (lv_sub hl [4, 0] rfl) hf
              · replace hf := ifn c48 hf
                refine g_iload C hl 0 rfl (gdec kX8_rests_1 36 rfl) ?_
                obtain ⟨h50, hf⟩ := ga_s hf
                refine g_iast C h (gcl_8_0 C ho) (n := 260) rfl (by decide) h50 (gdec kX8_rests_1 37 rfl) (fun H locs h => ?_)
                refine g_iinc C (k := 4) [(1, vI (x1 + 1)), (4, vI (r34 - 1)), (3, vI 0), (2, vI ((30 + (3 * r8)) + 1)), (0, .ref (eA E 8 0))] hl rfl (by decide) rfl (gdec kX8_rests_1 38 rfl) (fun ls hl => ?_)
                refine g_goto C (tgt := 2) (by decide) (gdec kX8_rests_1 39 rfl) ?_
                exact ih _ _ k hK H locs h ls (lv_sub hl [4, 0] rfl) hf
          · replace hf := ifn c13 hf
            refine g_iconst C (gdec kX8_rests 36 rfl) ?_
            refine g_istore_n C [(3, vI 0), (2, vI ((30 + (3 * r8)) + 1)), (0, .ref (eA E 8 0)), (1, vI x1)] hl rfl (by decide) rfl (gdec kX8_rests 37 rfl) (fun ls hl => ?_)
            refine g_aload_n C hl 2 rfl rfl (gdec kX8_rests 38 rfl) ?_
            refine g_iload_n C hl 3 rfl rfl (gdec kX8_rests 39 rfl) ?_
            refine g_iconst C (gdec kX8_rests 40 rfl) ?_
            obtain ⟨r51, q52, hf⟩ := bn1_s hf
            refine g_ci h (g_runV C h ho (by decide) rfl (c_X8_of l E _ _ _ ho _ q52) wM_X8_98 wI_X8_of wS_X8_of wN_X8 wC_X8_of rfl ny_X8_of rfl ⟨Nat.le_of_ble_eq_true rfl, Nat.le_of_ble_eq_true rfl⟩ hl.1 rfl (Nat.le_of_ble_eq_true rfl) (gdec kX8_rests 41 rfl) ⟨Nat.zero_le _, Nat.zero_le _⟩) (fun H locs h => ?_)
            refine g_iload_n C hl 0 rfl rfl (gdec kX8_rests 42 rfl) ?_
            refine g_if_eq C (tgt := 75) (by decide) (by decide) (gdec kX8_rests 43 rfl) (fun c53 => ?_) (fun c53 => absurd (by decide) c53)
            refine g_iconst C (gdec kX8_rests 46 rfl) ?_
            refine g_isub C (gdec kX8_rests 47 rfl) ?_
            refine g_istore C [(4, vI (r51 - 1)), (3, vI 0), (2, vI ((30 + (3 * r8)) + 1)), (0, .ref (eA E 8 0)), (1, vI x1)] hl (by decide) rfl (gdec kX8_rests 48 rfl) (fun ls hl => ?_)
            refine g_aload_n C hl 3 rfl rfl (gdec kX8_rests 49 rfl) ?_
            refine gf_X8_7 C h ho (gdec kX8_rests 50 rfl) ?_
            refine g_iload_n C hl 2 rfl rfl (gdec kX8_rests 51 rfl) ?_
            refine g_dup2 C rfl rfl (gdec kX8_rests 52 rfl) ?_
            obtain ⟨h54, hf⟩ := ga_s hf
            refine g_iald C h (gcl_8_0 C ho) (n := 260) rfl (by decide) h54 (gdec kX8_rests 53 rfl) ?_
            refine g_iload_n C hl 1 rfl rfl (gdec kX8_rests 54 rfl) ?_
            refine g_if_eq C (tgt := 94) (by decide) (by decide) (gdec kX8_rests 55 rfl) (fun c55 => ?_) (fun c55 => absurd (by decide) c55)
            refine g_iconst C (gdec kX8_rests 58 rfl) ?_
            refine g_isub C (gdec kX8_rests 59 rfl) ?_
            refine g_iast C h (gcl_8_0 C ho) (n := 260) rfl (by decide) h54 (gdec kX8_rests_1 0 rfl) (fun H locs h => ?_)
            refine g_aload_n C hl 3 rfl rfl (gdec kX8_rests_1 1 rfl) ?_
            refine gf_X8_7 C h ho (gdec kX8_rests_1 2 rfl) ?_
            refine g_bipush C (gdec kX8_rests_1 3 rfl) rfl ?_
            refine g_dup2 C rfl rfl (gdec kX8_rests_1 4 rfl) ?_
            refine g_iald C h (gcl_8_0 C ho) (n := 260) rfl (by decide) (⟨by decide, by decide⟩ : (0 : Int) ≤ 6 ∧ (6 : Int) < 260) (gdec kX8_rests_1 5 rfl) ?_
            refine g_iload_n C hl 1 rfl rfl (gdec kX8_rests_1 6 rfl) ?_
            refine g_if_eq C (tgt := 113) (by decide) (by decide) (gdec kX8_rests_1 7 rfl) (fun c56 => ?_) (fun c56 => absurd (by decide) c56)
            refine g_iconst C (gdec kX8_rests_1 10 rfl) ?_
            refine g_iadd C (gdec kX8_rests_1 11 rfl) ?_
            refine g_iast C h (gcl_8_0 C ho) (n := 260) rfl (by decide) (⟨by decide, by decide⟩ : (0 : Int) ≤ 6 ∧ (6 : Int) < 260) (gdec kX8_rests_1 12 rfl) (fun H locs h => ?_)
            obtain ⟨G57, e58, hf⟩ := nm_s hf
            rw [e58] at h
            refine g_aload_n C hl 3 rfl rfl (gdec kX8_rests_1 13 rfl) ?_
            refine gf_X8_7 C h ho (gdec kX8_rests_1 14 rfl) ?_
            refine g_iload_n C hl 4 rfl rfl (gdec kX8_rests_1 15 rfl) ?_
            refine g_bipush C (gdec kX8_rests_1 16 rfl) rfl ?_
            obtain ⟨r59, q60, hf⟩ := bn1_s hf
            refine g_ci h (g_runS C h (c_X8_teamAt l E _ _ _ _ q60) wM_X8_46 wT_X8_teamAt wN_X8 wC_X8_teamAt rfl ny_X8_teamAt rfl ⟨Nat.le_of_ble_eq_true rfl, Nat.le_of_ble_eq_true rfl⟩ hl.1 rfl (Nat.le_of_ble_eq_true rfl) (gdec kX8_rests_1 17 rfl) ⟨Nat.zero_le _, Nat.zero_le _⟩) (fun H locs h => ?_)
            refine g_dup2 C rfl rfl (gdec kX8_rests_1 18 rfl) ?_
            obtain ⟨h61, hf⟩ := ga_s hf
            refine g_iald C h (gcl_8_0 C ho) (n := 260) rfl (by decide) h61 (gdec kX8_rests_1 19 rfl) ?_
            refine g_iload_n C hl 1 rfl rfl (gdec kX8_rests_1 20 rfl) ?_
            refine g_if_eq C (tgt := 136) (by decide) (by decide) (gdec kX8_rests_1 21 rfl) (fun c62 => ?_) (fun c62 => absurd (by decide) c62)
            refine g_iconst C (gdec kX8_rests_1 24 rfl) ?_
            refine g_iadd C (gdec kX8_rests_1 25 rfl) ?_
            refine g_iast C h (gcl_8_0 C ho) (n := 260) rfl (by decide) h61 (gdec kX8_rests_1 26 rfl) (fun H locs h => ?_)
            refine g_aload_n C hl 3 rfl rfl (gdec kX8_rests_1 27 rfl) ?_
            refine gf_X8_7 C h ho (gdec kX8_rests_1 28 rfl) ?_
            refine g_iload_n C hl 4 rfl rfl (gdec kX8_rests_1 29 rfl) ?_
            refine g_iconst C (gdec kX8_rests_1 30 rfl) ?_
            obtain ⟨r63, q64, hf⟩ := bn1_s hf
            refine g_ci h (g_runS C h (c_X8_teamAt l E _ _ _ _ q64) wM_X8_46 wT_X8_teamAt wN_X8 wC_X8_teamAt rfl ny_X8_teamAt rfl ⟨Nat.le_of_ble_eq_true rfl, Nat.le_of_ble_eq_true rfl⟩ hl.1 rfl (Nat.le_of_ble_eq_true rfl) (gdec kX8_rests_1 31 rfl) ⟨Nat.zero_le _, Nat.zero_le _⟩) (fun H locs h => ?_)
            refine g_iload C hl 0 rfl (gdec kX8_rests_1 32 rfl) ?_
            obtain ⟨h65, hf⟩ := gd_s hf
            refine g_if_ge C (tgt := 157) h65 (by decide) (gdec kX8_rests_1 33 rfl) (fun c66 => ?_) (fun c66 => ?_)
            · replace hf := ifp c66 hf
              refine g_iconst C (gdec kX8_rests_1 34 rfl) ?_
              refine g_goto C (tgt := 159) (by decide) (gdec kX8_rests_1 35 rfl) ?_
              obtain ⟨h67, hf⟩ := ga_s hf
              refine g_iast C h (gcl_8_0 C ho) (n := 260) rfl (by decide) h67 (gdec kX8_rests_1 37 rfl) (fun H locs h => ?_)
              refine g_iinc C (k := 4) [(1, vI (x1 + 1)), (4, vI (r51 - 1)), (3, vI 0), (2, vI ((30 + (3 * r8)) + 1)), (0, .ref (eA E 8 0))] hl rfl (by decide) rfl (gdec kX8_rests_1 38 rfl) (fun ls hl => ?_)
              refine g_goto C (tgt := 2) (by decide) (gdec kX8_rests_1 39 rfl) ?_
              exact ih _ _ k hK H locs h ls (lv_sub hl [4, 0] rfl) hf
            · replace hf := ifn c66 hf
              refine g_iload C hl 0 rfl (gdec kX8_rests_1 36 rfl) ?_
              obtain ⟨h68, hf⟩ := ga_s hf
              refine g_iast C h (gcl_8_0 C ho) (n := 260) rfl (by decide) h68 (gdec kX8_rests_1 37 rfl) (fun H locs h => ?_)
              refine g_iinc C (k := 4) [(1, vI (x1 + 1)), (4, vI (r51 - 1)), (3, vI 0), (2, vI ((30 + (3 * r8)) + 1)), (0, .ref (eA E 8 0))] hl rfl (by decide) rfl (gdec kX8_rests_1 38 rfl) (fun ls hl => ?_)
              refine g_goto C (tgt := 2) (by decide) (gdec kX8_rests_1 39 rfl) ?_
              exact ih _ _ k hK H locs h ls (lv_sub hl [4, 0] rfl) hf
        · replace hf := ifn c7 hf
          refine g_iinc C (k := 1) [(1, vI (x1 + 1)), (0, .ref (eA E 8 0))] hl rfl (by decide) rfl (gdec kX8_rests_1 38 rfl) (fun ls hl => ?_)
          refine g_goto C (tgt := 2) (by decide) (gdec kX8_rests_1 39 rfl) ?_
          exact ih _ _ k hK H locs h ls (lv_sub hl [1, 0] rfl) hf
      · replace hf := ifn c3 hf
        exact hK _ _ hf H locs h ls (lv_sub hl [0, 1] rfl)
  unfold f_X8_rests at hf
  refine g_iconst C (gdec kX8_rests 0 rfl) ?_
  refine g_istore_n C [(1, vI 0), (0, .ref (eA E 8 0))] hl rfl (by decide) rfl (gdec kX8_rests 1 rfl) (fun ls hl => ?_)
  refine L2 gFuel _ _ _ (fun G70 y1_69 hf H locs h ls hl => ?_) H locs h ls (lv_sub hl [1, 0] rfl) hf
  exact g_vret C h hf (gdec kX8_rests_1 40 rfl)
def f_X8_between (G : GS) (p1 : Int) (p2 : Int) : Option (Int) :=
  gd p1 (gd p2 (if p1 < p2 then some p1 else some p2))
set_option maxHeartbeats 4000000 in
set_option maxRecDepth 100000 in
theorem c_X8_between (l : Launch) (E : gEnv) (G : GS) (p1 : Int) (p2 : Int) (rz : Int) (hf : f_X8_between G p1 p2 = some rz) : gMet l yX8_between cX8_between 2 (some .int) 0 0 0 0 [vI p1, vI p2] E G (gQi E G rz) := by
  refine g_met (by decide +kernel) (Nat.le_of_ble_eq_true rfl) ?_
  intro p e s m below meth c C H locs h ls hl
  have C : gC p s m _ meth c RX8 cX8_between 2 (some .int) E := C
  have hl : lv_has ls 2 [(0, vI p1), (1, vI p2)] := hl
  unfold f_X8_between at hf
  refine g_iload_n C hl 0 rfl rfl (gdec kX8_between 0 rfl) ?_
  refine g_iload_n C hl 1 rfl rfl (gdec kX8_between 1 rfl) ?_
  obtain ⟨h1, hf⟩ := gd_s hf
  obtain ⟨h2, hf⟩ := gd_s hf
  refine g_icmp_ge C (tgt := 9) h1 h2 (by decide) (gdec kX8_between 2 rfl) (fun c3 => ?_) (fun c3 => ?_)
  · replace hf := ifp c3 hf
    refine g_iload_n C hl 0 rfl rfl (gdec kX8_between 3 rfl) ?_
    refine g_goto C (tgt := 10) (by decide) (gdec kX8_between 4 rfl) ?_
    exact g_iret C h (congrArg (Option.map (Prod.mk _)) hf) (gdec kX8_between 6 rfl)
  · replace hf := ifn c3 hf
    refine g_iload_n C hl 1 rfl rfl (gdec kX8_between 5 rfl) ?_
    exact g_iret C h (congrArg (Option.map (Prod.mk _)) hf) (gdec kX8_between 6 rfl)
def f_X8_effort (G : GS) (p1 : Int) (p2 : Int) : Option (Int) :=
  bn1 (f_X8_between G p1 p2) (fun r1 => ga ((9 + (3 * r1)) + 1) 260 (bn1 (f_X8_hoursOf G r1) (fun r4 => gd p1 (gd p2 (if p1 < p2 then gd ((5 * r4) + (4 * (G 10 0 ((9 + (3 * r1)) + 1)))) (if ((5 * r4) + (4 * (G 10 0 ((9 + (3 * r1)) + 1)))) < 5 then some 5 else some ((5 * r4) + (4 * (G 10 0 ((9 + (3 * r1)) + 1))))) else gd ((5 * r4) + (-(4 * (G 10 0 ((9 + (3 * r1)) + 1))))) (if ((5 * r4) + (-(4 * (G 10 0 ((9 + (3 * r1)) + 1))))) < 5 then some 5 else some ((5 * r4) + (-(4 * (G 10 0 ((9 + (3 * r1)) + 1)))))))))))
set_option maxHeartbeats 4000000 in
set_option maxRecDepth 100000 in
theorem c_X8_effort (l : Launch) (E : gEnv) (G : GS) (p1 : Int) (p2 : Int) (ho : gOk E 8 0) (rz : Int) (hf : f_X8_effort G p1 p2 = some rz) : gMet l yX8_effort cX8_effort 6 (some .int) 1 21 0 0 [.ref (eA E 8 0), vI p1, vI p2] E G (gQi E G rz) := by
  refine g_met (by decide +kernel) (Nat.le_of_ble_eq_true rfl) ?_
  intro p e s m below meth c C H locs h ls hl
  have C : gC p s m _ meth c RX8 cX8_effort 6 (some .int) E := C
  have hl : lv_has ls 6 [(0, .ref (eA E 8 0)), (1, vI p1), (2, vI p2)] := hl
  unfold f_X8_effort at hf
  refine g_iload_n C hl 1 rfl rfl (gdec kX8_effort 0 rfl) ?_
  refine g_iload_n C hl 2 rfl rfl (gdec kX8_effort 1 rfl) ?_
  obtain ⟨r1, q2, hf⟩ := bn1_s hf
  refine g_ci h (g_runS C h (c_X8_between l E _ _ _ _ q2) wM_X8_53 wT_X8_between wN_X8 wC_X8_between rfl ny_X8_between rfl ⟨Nat.le_of_ble_eq_true rfl, Nat.le_of_ble_eq_true rfl⟩ hl.1 rfl (Nat.le_of_ble_eq_true rfl) (gdec kX8_effort 2 rfl) ⟨Nat.zero_le _, Nat.zero_le _⟩) (fun H locs h => ?_)
  refine g_istore_n C [(3, vI r1), (0, .ref (eA E 8 0)), (1, vI p1), (2, vI p2)] hl rfl (by decide) rfl (gdec kX8_effort 3 rfl) (fun ls hl => ?_)
  refine g_iconst C (gdec kX8_effort 4 rfl) ?_
  refine g_aload_n C hl 1 rfl rfl (gdec kX8_effort 5 rfl) ?_
  refine gf_X8_7 C h ho (gdec kX8_effort 6 rfl) ?_
  refine g_bipush C (gdec kX8_effort 7 rfl) rfl ?_
  refine g_iconst C (gdec kX8_effort 8 rfl) ?_
  refine g_iload_n C hl 0 rfl rfl (gdec kX8_effort 9 rfl) ?_
  refine g_imul C (gdec kX8_effort 10 rfl) ?_
  refine g_iadd C (gdec kX8_effort 11 rfl) ?_
  refine g_iconst C (gdec kX8_effort 12 rfl) ?_
  refine g_iadd C (gdec kX8_effort 13 rfl) ?_
  obtain ⟨h3, hf⟩ := ga_s hf
  refine g_iald C h (gcl_8_0 C ho) (n := 260) rfl (by decide) h3 (gdec kX8_effort 14 rfl) ?_
  refine g_imul C (gdec kX8_effort 15 rfl) ?_
  refine g_istore C [(4, vI (4 * (G 10 0 ((9 + (3 * r1)) + 1)))), (3, vI r1), (0, .ref (eA E 8 0)), (1, vI p1), (2, vI p2)] hl (by decide) rfl (gdec kX8_effort 16 rfl) (fun ls hl => ?_)
  refine g_iconst C (gdec kX8_effort 17 rfl) ?_
  refine g_aload_n C hl 2 rfl rfl (gdec kX8_effort 18 rfl) ?_
  refine g_iload_n C hl 1 rfl rfl (gdec kX8_effort 19 rfl) ?_
  obtain ⟨r4, q5, hf⟩ := bn1_s hf
  refine g_ci h (g_runV C h ho (by decide) rfl (c_X8_hoursOf l E _ _ ho _ q5) wM_X8_56 wI_X8_hoursOf wS_X8_hoursOf wN_X8 wC_X8_hoursOf rfl ny_X8_hoursOf rfl ⟨Nat.le_of_ble_eq_true rfl, Nat.le_of_ble_eq_true rfl⟩ hl.1 rfl (Nat.le_of_ble_eq_true rfl) (gdec kX8_effort 20 rfl) ⟨Nat.zero_le _, Nat.zero_le _⟩) (fun H locs h => ?_)
  refine g_imul C (gdec kX8_effort 21 rfl) ?_
  refine g_iload_n C hl 3 rfl rfl (gdec kX8_effort 22 rfl) ?_
  refine g_iload_n C hl 4 rfl rfl (gdec kX8_effort 23 rfl) ?_
  obtain ⟨h6, hf⟩ := gd_s hf
  obtain ⟨h7, hf⟩ := gd_s hf
  refine g_icmp_ge C (tgt := 40) h6 h7 (by decide) (gdec kX8_effort 24 rfl) (fun c8 => ?_) (fun c8 => ?_)
  · replace hf := ifp c8 hf
    refine g_iload C hl 0 rfl (gdec kX8_effort 25 rfl) ?_
    refine g_goto C (tgt := 43) (by decide) (gdec kX8_effort 26 rfl) ?_
    refine g_iadd C (gdec kX8_effort 29 rfl) ?_
    refine g_istore C [(5, vI ((5 * r4) + (4 * (G 10 0 ((9 + (3 * r1)) + 1))))), (4, vI (4 * (G 10 0 ((9 + (3 * r1)) + 1)))), (3, vI r1), (0, .ref (eA E 8 0)), (1, vI p1), (2, vI p2)] hl (by decide) rfl (gdec kX8_effort 30 rfl) (fun ls hl => ?_)
    refine g_iload C hl 0 rfl (gdec kX8_effort 31 rfl) ?_
    refine g_iconst C (gdec kX8_effort 32 rfl) ?_
    obtain ⟨h9, hf⟩ := gd_s hf
    refine g_icmp_ge C (tgt := 56) h9 (by decide) (by decide) (gdec kX8_effort 33 rfl) (fun c10 => ?_) (fun c10 => ?_)
    · replace hf := ifp c10 hf
      refine g_iconst C (gdec kX8_effort 34 rfl) ?_
      refine g_goto C (tgt := 58) (by decide) (gdec kX8_effort 35 rfl) ?_
      exact g_iret C h (congrArg (Option.map (Prod.mk _)) hf) (gdec kX8_effort 37 rfl)
    · replace hf := ifn c10 hf
      refine g_iload C hl 0 rfl (gdec kX8_effort 36 rfl) ?_
      exact g_iret C h (congrArg (Option.map (Prod.mk _)) hf) (gdec kX8_effort 37 rfl)
  · replace hf := ifn c8 hf
    refine g_iload C hl 0 rfl (gdec kX8_effort 27 rfl) ?_
    refine g_ineg C (gdec kX8_effort 28 rfl) ?_
    refine g_iadd C (gdec kX8_effort 29 rfl) ?_
    refine g_istore C [(5, vI ((5 * r4) + (-(4 * (G 10 0 ((9 + (3 * r1)) + 1)))))), (4, vI (4 * (G 10 0 ((9 + (3 * r1)) + 1)))), (3, vI r1), (0, .ref (eA E 8 0)), (1, vI p1), (2, vI p2)] hl (by decide) rfl (gdec kX8_effort 30 rfl) (fun ls hl => ?_)
    refine g_iload C hl 0 rfl (gdec kX8_effort 31 rfl) ?_
    refine g_iconst C (gdec kX8_effort 32 rfl) ?_
    obtain ⟨h11, hf⟩ := gd_s hf
    refine g_icmp_ge C (tgt := 56) h11 (by decide) (by decide) (gdec kX8_effort 33 rfl) (fun c12 => ?_) (fun c12 => ?_)
    · replace hf := ifp c12 hf
      refine g_iconst C (gdec kX8_effort 34 rfl) ?_
      refine g_goto C (tgt := 58) (by decide) (gdec kX8_effort 35 rfl) ?_
      exact g_iret C h (congrArg (Option.map (Prod.mk _)) hf) (gdec kX8_effort 37 rfl)
    · replace hf := ifn c12 hf
      refine g_iload C hl 0 rfl (gdec kX8_effort 36 rfl) ?_
      exact g_iret C h (congrArg (Option.map (Prod.mk _)) hf) (gdec kX8_effort 37 rfl)
def f_X8_comes (G : GS) (p1 : Int) (p2 : Int) : Option (GS) :=
  bn1 (f_X8_letterAt G p1 5) (fun r1 => ga r1 260 (bn1 (f_X8_ofLetter (gup G 10 0 r1 (-1)) p1 1) (fun r4 => gd p2 (gd r4 (if p2 = r4 then bn1 (f_X8_ofLetter (gup G 10 0 r1 (-1)) p1 3) (fun r9 => bn1 (f_X8_letterAt (gup G 10 0 r1 (-1)) p1 6) (fun r11 => ga r11 260 (nm (gup (gup (gup G 10 0 r1 (-1)) 10 0 r11 (((gup G 10 0 r1 (-1)) 10 0 1) + 1)) 10 0 2 (((gup (gup G 10 0 r1 (-1)) 10 0 r11 (((gup G 10 0 r1 (-1)) 10 0 1) + 1)) 10 0 2) + 1)) (fun G14 => bn1 (f_X8_ofLetter (gup G14 10 0 3 ((G14 10 0 3) + ((((gup G 10 0 r1 (-1)) 10 0 1) + 1) - r9))) p1 2) (fun r16 => nm (gup (gup G14 10 0 3 ((G14 10 0 3) + ((((gup G 10 0 r1 (-1)) 10 0 1) + 1) - r9))) 10 0 4 (((gup G14 10 0 3 ((G14 10 0 3) + ((((gup G 10 0 r1 (-1)) 10 0 1) + 1) - r9))) 10 0 4) + r16)) (fun G18 => bn1 (f_X8_ofLetter G18 p1 2) (fun r20 => gd r20 (if r20 = 1 then some (gup G18 10 0 5 ((G18 10 0 5) + ((((gup G 10 0 r1 (-1)) 10 0 1) + 1) - r9))) else some (gup G18 10 0 5 ((G18 10 0 5) + 0)))))))))) else some (gup G 10 0 r1 (-1)))))))
set_option maxHeartbeats 4000000 in
set_option maxRecDepth 100000 in
theorem c_X8_comes (l : Launch) (E : gEnv) (G : GS) (p1 : Int) (p2 : Int) (ho : gOk E 8 0) (Gz : GS) (hf : f_X8_comes G p1 p2 = some Gz) : gMet l yX8_comes cX8_comes 4 none 2 43 0 0 [.ref (eA E 8 0), vI p1, vI p2] E G (gQv E Gz) := by
  refine g_met (by decide +kernel) (Nat.le_of_ble_eq_true rfl) ?_
  intro p e s m below meth c C H locs h ls hl
  have C : gC p s m _ meth c RX8 cX8_comes 4 none E := C
  have hl : lv_has ls 4 [(0, .ref (eA E 8 0)), (1, vI p1), (2, vI p2)] := hl
  unfold f_X8_comes at hf
  refine g_aload_n C hl 0 rfl rfl (gdec kX8_comes 0 rfl) ?_
  refine gf_X8_7 C h ho (gdec kX8_comes 1 rfl) ?_
  refine g_iload_n C hl 1 rfl rfl (gdec kX8_comes 2 rfl) ?_
  refine g_iconst C (gdec kX8_comes 3 rfl) ?_
  obtain ⟨r1, q2, hf⟩ := bn1_s hf
  refine g_ci h (g_runS C h (c_X8_letterAt l E _ _ _ _ q2) wM_X8_50 wT_X8_letterAt wN_X8 wC_X8_letterAt rfl ny_X8_letterAt rfl ⟨Nat.le_of_ble_eq_true rfl, Nat.le_of_ble_eq_true rfl⟩ hl.1 rfl (Nat.le_of_ble_eq_true rfl) (gdec kX8_comes 4 rfl) ⟨Nat.zero_le _, Nat.zero_le _⟩) (fun H locs h => ?_)
  refine g_iconst C (gdec kX8_comes 5 rfl) ?_
  obtain ⟨h3, hf⟩ := ga_s hf
  refine g_iast C h (gcl_8_0 C ho) (n := 260) rfl (by decide) h3 (gdec kX8_comes 6 rfl) (fun H locs h => ?_)
  refine g_iload_n C hl 2 rfl rfl (gdec kX8_comes 7 rfl) ?_
  refine g_aload_n C hl 0 rfl rfl (gdec kX8_comes 8 rfl) ?_
  refine g_iload_n C hl 1 rfl rfl (gdec kX8_comes 9 rfl) ?_
  refine g_iconst C (gdec kX8_comes 10 rfl) ?_
  obtain ⟨r4, q5, hf⟩ := bn1_s hf
  refine g_ci h (g_runV C h ho (by decide) rfl (c_X8_ofLetter l E _ _ _ ho _ q5) wM_X8_92 wI_X8_ofLetter wS_X8_ofLetter wN_X8 wC_X8_ofLetter rfl ny_X8_ofLetter rfl ⟨Nat.le_of_ble_eq_true rfl, Nat.le_of_ble_eq_true rfl⟩ hl.1 rfl (Nat.le_of_ble_eq_true rfl) (gdec kX8_comes 11 rfl) ⟨Nat.zero_le _, Nat.zero_le _⟩) (fun H locs h => ?_)
  obtain ⟨h6, hf⟩ := gd_s hf
  obtain ⟨h7, hf⟩ := gd_s hf
  refine g_icmp_ne C (tgt := 115) h6 h7 (by decide) (gdec kX8_comes 12 rfl) (fun c8 => ?_) (fun c8 => ?_)
  · replace hf := ifp c8 hf
    refine g_aload_n C hl 0 rfl rfl (gdec kX8_comes 13 rfl) ?_
    refine gf_X8_7 C h ho (gdec kX8_comes 14 rfl) ?_
    refine g_iconst C (gdec kX8_comes 15 rfl) ?_
    refine g_iald C h (gcl_8_0 C ho) (n := 260) rfl (by decide) (⟨by decide, by decide⟩ : (0 : Int) ≤ 1 ∧ (1 : Int) < 260) (gdec kX8_comes 16 rfl) ?_
    refine g_iconst C (gdec kX8_comes 17 rfl) ?_
    refine g_iadd C (gdec kX8_comes 18 rfl) ?_
    refine g_aload_n C hl 0 rfl rfl (gdec kX8_comes 19 rfl) ?_
    refine g_iload_n C hl 1 rfl rfl (gdec kX8_comes 20 rfl) ?_
    refine g_iconst C (gdec kX8_comes 21 rfl) ?_
    obtain ⟨r9, q10, hf⟩ := bn1_s hf
    refine g_ci h (g_runV C h ho (by decide) rfl (c_X8_ofLetter l E _ _ _ ho _ q10) wM_X8_92 wI_X8_ofLetter wS_X8_ofLetter wN_X8 wC_X8_ofLetter rfl ny_X8_ofLetter rfl ⟨Nat.le_of_ble_eq_true rfl, Nat.le_of_ble_eq_true rfl⟩ hl.1 rfl (Nat.le_of_ble_eq_true rfl) (gdec kX8_comes 22 rfl) ⟨Nat.zero_le _, Nat.zero_le _⟩) (fun H locs h => ?_)
    refine g_isub C (gdec kX8_comes 23 rfl) ?_
    refine g_istore_n C [(3, vI ((((gup G 10 0 r1 (-1)) 10 0 1) + 1) - r9)), (0, .ref (eA E 8 0)), (1, vI p1), (2, vI p2)] hl rfl (by decide) rfl (gdec kX8_comes 24 rfl) (fun ls hl => ?_)
    refine g_aload_n C hl 1 rfl rfl (gdec kX8_comes 25 rfl) ?_
    refine gf_X8_7 C h ho (gdec kX8_comes 26 rfl) ?_
    refine g_iload_n C hl 2 rfl rfl (gdec kX8_comes 27 rfl) ?_
    refine g_bipush C (gdec kX8_comes 28 rfl) rfl ?_
    obtain ⟨r11, q12, hf⟩ := bn1_s hf
    refine g_ci h (g_runS C h (c_X8_letterAt l E _ _ _ _ q12) wM_X8_50 wT_X8_letterAt wN_X8 wC_X8_letterAt rfl ny_X8_letterAt rfl ⟨Nat.le_of_ble_eq_true rfl, Nat.le_of_ble_eq_true rfl⟩ hl.1 rfl (Nat.le_of_ble_eq_true rfl) (gdec kX8_comes 29 rfl) ⟨Nat.zero_le _, Nat.zero_le _⟩) (fun H locs h => ?_)
    refine g_aload_n C hl 1 rfl rfl (gdec kX8_comes 30 rfl) ?_
    refine gf_X8_7 C h ho (gdec kX8_comes 31 rfl) ?_
    refine g_iconst C (gdec kX8_comes 32 rfl) ?_
    refine g_iald C h (gcl_8_0 C ho) (n := 260) rfl (by decide) (⟨by decide, by decide⟩ : (0 : Int) ≤ 1 ∧ (1 : Int) < 260) (gdec kX8_comes 33 rfl) ?_
    refine g_iconst C (gdec kX8_comes 34 rfl) ?_
    refine g_iadd C (gdec kX8_comes 35 rfl) ?_
    obtain ⟨h13, hf⟩ := ga_s hf
    refine g_iast C h (gcl_8_0 C ho) (n := 260) rfl (by decide) h13 (gdec kX8_comes 36 rfl) (fun H locs h => ?_)
    refine g_aload_n C hl 1 rfl rfl (gdec kX8_comes 37 rfl) ?_
    refine gf_X8_7 C h ho (gdec kX8_comes 38 rfl) ?_
    refine g_iconst C (gdec kX8_comes 39 rfl) ?_
    refine g_dup2 C rfl rfl (gdec kX8_comes 40 rfl) ?_
    refine g_iald C h (gcl_8_0 C ho) (n := 260) rfl (by decide) (⟨by decide, by decide⟩ : (0 : Int) ≤ 2 ∧ (2 : Int) < 260) (gdec kX8_comes 41 rfl) ?_
    refine g_iconst C (gdec kX8_comes 42 rfl) ?_
    refine g_iadd C (gdec kX8_comes 43 rfl) ?_
    refine g_iast C h (gcl_8_0 C ho) (n := 260) rfl (by decide) (⟨by decide, by decide⟩ : (0 : Int) ≤ 2 ∧ (2 : Int) < 260) (gdec kX8_comes 44 rfl) (fun H locs h => ?_)
    obtain ⟨G14, e15, hf⟩ := nm_s hf
    rw [e15] at h
    refine g_aload_n C hl 1 rfl rfl (gdec kX8_comes 45 rfl) ?_
    refine gf_X8_7 C h ho (gdec kX8_comes 46 rfl) ?_
    refine g_iconst C (gdec kX8_comes 47 rfl) ?_
    refine g_dup2 C rfl rfl (gdec kX8_comes 48 rfl) ?_
    refine g_iald C h (gcl_8_0 C ho) (n := 260) rfl (by decide) (⟨by decide, by decide⟩ : (0 : Int) ≤ 3 ∧ (3 : Int) < 260) (gdec kX8_comes 49 rfl) ?_
    refine g_iload_n C hl 0 rfl rfl (gdec kX8_comes 50 rfl) ?_
    refine g_iadd C (gdec kX8_comes 51 rfl) ?_
    refine g_iast C h (gcl_8_0 C ho) (n := 260) rfl (by decide) (⟨by decide, by decide⟩ : (0 : Int) ≤ 3 ∧ (3 : Int) < 260) (gdec kX8_comes 52 rfl) (fun H locs h => ?_)
    refine g_aload_n C hl 1 rfl rfl (gdec kX8_comes 53 rfl) ?_
    refine gf_X8_7 C h ho (gdec kX8_comes 54 rfl) ?_
    refine g_iconst C (gdec kX8_comes 55 rfl) ?_
    refine g_dup2 C rfl rfl (gdec kX8_comes 56 rfl) ?_
    refine g_iald C h (gcl_8_0 C ho) (n := 260) rfl (by decide) (⟨by decide, by decide⟩ : (0 : Int) ≤ 4 ∧ (4 : Int) < 260) (gdec kX8_comes 57 rfl) ?_
    refine g_aload_n C hl 1 rfl rfl (gdec kX8_comes 58 rfl) ?_
    refine g_iload_n C hl 2 rfl rfl (gdec kX8_comes 59 rfl) ?_
    refine g_iconst C (gdec kX8_comes_1 0 rfl) ?_
    obtain ⟨r16, q17, hf⟩ := bn1_s hf
    refine g_ci h (g_runV C h ho (by decide) rfl (c_X8_ofLetter l E _ _ _ ho _ q17) wM_X8_92 wI_X8_ofLetter wS_X8_ofLetter wN_X8 wC_X8_ofLetter rfl ny_X8_ofLetter rfl ⟨Nat.le_of_ble_eq_true rfl, Nat.le_of_ble_eq_true rfl⟩ hl.1 rfl (Nat.le_of_ble_eq_true rfl) (gdec kX8_comes_1 1 rfl) ⟨Nat.zero_le _, Nat.zero_le _⟩) (fun H locs h => ?_)
    refine g_iadd C (gdec kX8_comes_1 2 rfl) ?_
    refine g_iast C h (gcl_8_0 C ho) (n := 260) rfl (by decide) (⟨by decide, by decide⟩ : (0 : Int) ≤ 4 ∧ (4 : Int) < 260) (gdec kX8_comes_1 3 rfl) (fun H locs h => ?_)
    obtain ⟨G18, e19, hf⟩ := nm_s hf
    rw [e19] at h
    refine g_aload_n C hl 1 rfl rfl (gdec kX8_comes_1 4 rfl) ?_
    refine gf_X8_7 C h ho (gdec kX8_comes_1 5 rfl) ?_
    refine g_iconst C (gdec kX8_comes_1 6 rfl) ?_
    refine g_dup2 C rfl rfl (gdec kX8_comes_1 7 rfl) ?_
    refine g_iald C h (gcl_8_0 C ho) (n := 260) rfl (by decide) (⟨by decide, by decide⟩ : (0 : Int) ≤ 5 ∧ (5 : Int) < 260) (gdec kX8_comes_1 8 rfl) ?_
    refine g_aload_n C hl 1 rfl rfl (gdec kX8_comes_1 9 rfl) ?_
    refine g_iload_n C hl 2 rfl rfl (gdec kX8_comes_1 10 rfl) ?_
    refine g_iconst C (gdec kX8_comes_1 11 rfl) ?_
    obtain ⟨r20, q21, hf⟩ := bn1_s hf
    refine g_ci h (g_runV C h ho (by decide) rfl (c_X8_ofLetter l E _ _ _ ho _ q21) wM_X8_92 wI_X8_ofLetter wS_X8_ofLetter wN_X8 wC_X8_ofLetter rfl ny_X8_ofLetter rfl ⟨Nat.le_of_ble_eq_true rfl, Nat.le_of_ble_eq_true rfl⟩ hl.1 rfl (Nat.le_of_ble_eq_true rfl) (gdec kX8_comes_1 12 rfl) ⟨Nat.zero_le _, Nat.zero_le _⟩) (fun H locs h => ?_)
    refine g_iconst C (gdec kX8_comes_1 13 rfl) ?_
    obtain ⟨h22, hf⟩ := gd_s hf
    refine g_icmp_ne C (tgt := 112) h22 (by decide) (by decide) (gdec kX8_comes_1 14 rfl) (fun c23 => ?_) (fun c23 => ?_)
    · replace hf := ifp c23 hf
      refine g_iload_n C hl 0 rfl rfl (gdec kX8_comes_1 15 rfl) ?_
      refine g_goto C (tgt := 113) (by decide) (gdec kX8_comes_1 16 rfl) ?_
      refine g_iadd C (gdec kX8_comes_1 18 rfl) ?_
      refine g_iast C h (gcl_8_0 C ho) (n := 260) rfl (by decide) (⟨by decide, by decide⟩ : (0 : Int) ≤ 5 ∧ (5 : Int) < 260) (gdec kX8_comes_1 19 rfl) (fun H locs h => ?_)
      exact g_vret C h hf (gdec kX8_comes_1 20 rfl)
    · replace hf := ifn c23 hf
      refine g_iconst C (gdec kX8_comes_1 17 rfl) ?_
      refine g_iadd C (gdec kX8_comes_1 18 rfl) ?_
      refine g_iast C h (gcl_8_0 C ho) (n := 260) rfl (by decide) (⟨by decide, by decide⟩ : (0 : Int) ≤ 5 ∧ (5 : Int) < 260) (gdec kX8_comes_1 19 rfl) (fun H locs h => ?_)
      exact g_vret C h hf (gdec kX8_comes_1 20 rfl)
  · replace hf := ifn c8 hf
    exact g_vret C h hf (gdec kX8_comes_1 20 rfl)
def f_X8_arrives (G : GS) (p1 : Int) : Option (GS) :=
  bn1 (f_X8_of G p1 2) (fun r1 => bn1 (f_X8_of G p1 5) (fun r3 => gd r3 (if r3 = 1 then bn1 (f_X8_teamAt G p1 8) (fun r7 => ga r7 260 (bn1 (f_X8_teamAt (gup G 10 0 r7 ((G 10 0 r7) + 1)) p1 5) (fun r10 => ga r10 260 (some (gup (gup G 10 0 r7 ((G 10 0 r7) + 1)) 10 0 r10 0))))) else bn1 (f_X8_of G p1 10) (fun r13 => bn1 (f_X8_effort G r13 r1) (fun r15 => bn1 (f_X8_of G p1 1) (fun r17 => bn1 (f_X8_teamAt G p1 1) (fun r19 => gd (r17 + r15) (if 100 < (r17 + r15) then ga r19 260 (bn1 (f_X8_teamAt (gup G 10 0 r19 100) p1 6) (fun r24 => ga r24 260 (bn1 (f_X8_teamAt (gup (gup G 10 0 r19 100) 10 0 r24 (((gup G 10 0 r19 100) 10 0 r24) + 1)) p1 7) (fun r27 => ga r27 260 (nm (gup (gup (gup G 10 0 r19 100) 10 0 r24 (((gup G 10 0 r19 100) 10 0 r24) + 1)) 10 0 r27 (((gup (gup G 10 0 r19 100) 10 0 r24 (((gup G 10 0 r19 100) 10 0 r24) + 1)) 10 0 r27) + r15)) (fun G30 => bn1 (f_X8_of G30 p1 4) (fun r32 => bn1 (f_X8_comes G30 r32 r1) (fun G34 => bn1 (f_X8_teamAt G34 p1 4) (fun r36 => ga r36 260 (some (gup G34 10 0 r36 (-1)))))))))))) else ga r19 260 (bn1 (f_X8_teamAt (gup G 10 0 r19 (r17 + r15)) p1 6) (fun r40 => ga r40 260 (bn1 (f_X8_teamAt (gup (gup G 10 0 r19 (r17 + r15)) 10 0 r40 (((gup G 10 0 r19 (r17 + r15)) 10 0 r40) + 1)) p1 7) (fun r43 => ga r43 260 (nm (gup (gup (gup G 10 0 r19 (r17 + r15)) 10 0 r40 (((gup G 10 0 r19 (r17 + r15)) 10 0 r40) + 1)) 10 0 r43 (((gup (gup G 10 0 r19 (r17 + r15)) 10 0 r40 (((gup G 10 0 r19 (r17 + r15)) 10 0 r40) + 1)) 10 0 r43) + r15)) (fun G46 => bn1 (f_X8_of G46 p1 4) (fun r48 => bn1 (f_X8_comes G46 r48 r1) (fun G50 => bn1 (f_X8_teamAt G50 p1 4) (fun r52 => ga r52 260 (some (gup G50 10 0 r52 (-1))))))))))))))))))))
set_option maxHeartbeats 4000000 in
set_option maxRecDepth 100000 in
theorem c_X8_arrives (l : Launch) (E : gEnv) (G : GS) (p1 : Int) (ho : gOk E 8 0) (Gz : GS) (hf : f_X8_arrives G p1 = some Gz) : gMet l yX8_arrives cX8_arrives 5 none 3 66 0 0 [.ref (eA E 8 0), vI p1] E G (gQv E Gz) := by
  refine g_met (by decide +kernel) (Nat.le_of_ble_eq_true rfl) ?_
  intro p e s m below meth c C H locs h ls hl
  have C : gC p s m _ meth c RX8 cX8_arrives 5 none E := C
  have hl : lv_has ls 5 [(0, .ref (eA E 8 0)), (1, vI p1)] := hl
  unfold f_X8_arrives at hf
  refine g_aload_n C hl 0 rfl rfl (gdec kX8_arrives 0 rfl) ?_
  refine g_iload_n C hl 1 rfl rfl (gdec kX8_arrives 1 rfl) ?_
  refine g_iconst C (gdec kX8_arrives 2 rfl) ?_
  obtain ⟨r1, q2, hf⟩ := bn1_s hf
  refine g_ci h (g_runV C h ho (by decide) rfl (c_X8_of l E _ _ _ ho _ q2) wM_X8_98 wI_X8_of wS_X8_of wN_X8 wC_X8_of rfl ny_X8_of rfl ⟨Nat.le_of_ble_eq_true rfl, Nat.le_of_ble_eq_true rfl⟩ hl.1 rfl (Nat.le_of_ble_eq_true rfl) (gdec kX8_arrives 3 rfl) ⟨Nat.zero_le _, Nat.zero_le _⟩) (fun H locs h => ?_)
  refine g_istore_n C [(2, vI r1), (0, .ref (eA E 8 0)), (1, vI p1)] hl rfl (by decide) rfl (gdec kX8_arrives 4 rfl) (fun ls hl => ?_)
  refine g_aload_n C hl 1 rfl rfl (gdec kX8_arrives 5 rfl) ?_
  refine g_iload_n C hl 2 rfl rfl (gdec kX8_arrives 6 rfl) ?_
  refine g_iconst C (gdec kX8_arrives 7 rfl) ?_
  obtain ⟨r3, q4, hf⟩ := bn1_s hf
  refine g_ci h (g_runV C h ho (by decide) rfl (c_X8_of l E _ _ _ ho _ q4) wM_X8_98 wI_X8_of wS_X8_of wN_X8 wC_X8_of rfl ny_X8_of rfl ⟨Nat.le_of_ble_eq_true rfl, Nat.le_of_ble_eq_true rfl⟩ hl.1 rfl (Nat.le_of_ble_eq_true rfl) (gdec kX8_arrives 8 rfl) ⟨Nat.zero_le _, Nat.zero_le _⟩) (fun H locs h => ?_)
  refine g_iconst C (gdec kX8_arrives 9 rfl) ?_
  obtain ⟨h5, hf⟩ := gd_s hf
  refine g_icmp_ne C (tgt := 44) h5 (by decide) (by decide) (gdec kX8_arrives 10 rfl) (fun c6 => ?_) (fun c6 => ?_)
  · replace hf := ifp c6 hf
    refine g_aload_n C hl 1 rfl rfl (gdec kX8_arrives 11 rfl) ?_
    refine gf_X8_7 C h ho (gdec kX8_arrives 12 rfl) ?_
    refine g_iload_n C hl 2 rfl rfl (gdec kX8_arrives 13 rfl) ?_
    refine g_bipush C (gdec kX8_arrives 14 rfl) rfl ?_
    obtain ⟨r7, q8, hf⟩ := bn1_s hf
    refine g_ci h (g_runS C h (c_X8_teamAt l E _ _ _ _ q8) wM_X8_46 wT_X8_teamAt wN_X8 wC_X8_teamAt rfl ny_X8_teamAt rfl ⟨Nat.le_of_ble_eq_true rfl, Nat.le_of_ble_eq_true rfl⟩ hl.1 rfl (Nat.le_of_ble_eq_true rfl) (gdec kX8_arrives 15 rfl) ⟨Nat.zero_le _, Nat.zero_le _⟩) (fun H locs h => ?_)
    refine g_dup2 C rfl rfl (gdec kX8_arrives 16 rfl) ?_
    obtain ⟨h9, hf⟩ := ga_s hf
    refine g_iald C h (gcl_8_0 C ho) (n := 260) rfl (by decide) h9 (gdec kX8_arrives 17 rfl) ?_
    refine g_iconst C (gdec kX8_arrives 18 rfl) ?_
    refine g_iadd C (gdec kX8_arrives 19 rfl) ?_
    refine g_iast C h (gcl_8_0 C ho) (n := 260) rfl (by decide) h9 (gdec kX8_arrives 20 rfl) (fun H locs h => ?_)
    refine g_aload_n C hl 1 rfl rfl (gdec kX8_arrives 21 rfl) ?_
    refine gf_X8_7 C h ho (gdec kX8_arrives 22 rfl) ?_
    refine g_iload_n C hl 2 rfl rfl (gdec kX8_arrives 23 rfl) ?_
    refine g_iconst C (gdec kX8_arrives 24 rfl) ?_
    obtain ⟨r10, q11, hf⟩ := bn1_s hf
    refine g_ci h (g_runS C h (c_X8_teamAt l E _ _ _ _ q11) wM_X8_46 wT_X8_teamAt wN_X8 wC_X8_teamAt rfl ny_X8_teamAt rfl ⟨Nat.le_of_ble_eq_true rfl, Nat.le_of_ble_eq_true rfl⟩ hl.1 rfl (Nat.le_of_ble_eq_true rfl) (gdec kX8_arrives 25 rfl) ⟨Nat.zero_le _, Nat.zero_le _⟩) (fun H locs h => ?_)
    refine g_iconst C (gdec kX8_arrives 26 rfl) ?_
    obtain ⟨h12, hf⟩ := ga_s hf
    refine g_iast C h (gcl_8_0 C ho) (n := 260) rfl (by decide) h12 (gdec kX8_arrives 27 rfl) (fun H locs h => ?_)
    exact g_vret C h hf (gdec kX8_arrives 28 rfl)
  · replace hf := ifn c6 hf
    refine g_aload_n C hl 1 rfl rfl (gdec kX8_arrives 29 rfl) ?_
    refine g_aload_n C hl 1 rfl rfl (gdec kX8_arrives 30 rfl) ?_
    refine g_iload_n C hl 2 rfl rfl (gdec kX8_arrives 31 rfl) ?_
    refine g_bipush C (gdec kX8_arrives 32 rfl) rfl ?_
    obtain ⟨r13, q14, hf⟩ := bn1_s hf
    refine g_ci h (g_runV C h ho (by decide) rfl (c_X8_of l E _ _ _ ho _ q14) wM_X8_98 wI_X8_of wS_X8_of wN_X8 wC_X8_of rfl ny_X8_of rfl ⟨Nat.le_of_ble_eq_true rfl, Nat.le_of_ble_eq_true rfl⟩ hl.1 rfl (Nat.le_of_ble_eq_true rfl) (gdec kX8_arrives 33 rfl) ⟨Nat.zero_le _, Nat.zero_le _⟩) (fun H locs h => ?_)
    refine g_iload_n C hl 0 rfl rfl (gdec kX8_arrives 34 rfl) ?_
    obtain ⟨r15, q16, hf⟩ := bn1_s hf
    refine g_ci h (g_runV C h ho (by decide) rfl (c_X8_effort l E _ _ _ ho _ q16) wM_X8_107 wI_X8_effort wS_X8_effort wN_X8 wC_X8_effort rfl ny_X8_effort rfl ⟨Nat.le_of_ble_eq_true rfl, Nat.le_of_ble_eq_true rfl⟩ hl.1 rfl (Nat.le_of_ble_eq_true rfl) (gdec kX8_arrives 35 rfl) ⟨Nat.zero_le _, Nat.zero_le _⟩) (fun H locs h => ?_)
    refine g_istore_n C [(3, vI r15), (2, vI r1), (0, .ref (eA E 8 0)), (1, vI p1)] hl rfl (by decide) rfl (gdec kX8_arrives 36 rfl) (fun ls hl => ?_)
    refine g_aload_n C hl 2 rfl rfl (gdec kX8_arrives 37 rfl) ?_
    refine g_iload_n C hl 3 rfl rfl (gdec kX8_arrives 38 rfl) ?_
    refine g_iconst C (gdec kX8_arrives 39 rfl) ?_
    obtain ⟨r17, q18, hf⟩ := bn1_s hf
    refine g_ci h (g_runV C h ho (by decide) rfl (c_X8_of l E _ _ _ ho _ q18) wM_X8_98 wI_X8_of wS_X8_of wN_X8 wC_X8_of rfl ny_X8_of rfl ⟨Nat.le_of_ble_eq_true rfl, Nat.le_of_ble_eq_true rfl⟩ hl.1 rfl (Nat.le_of_ble_eq_true rfl) (gdec kX8_arrives 40 rfl) ⟨Nat.zero_le _, Nat.zero_le _⟩) (fun H locs h => ?_)
    refine g_iload_n C hl 0 rfl rfl (gdec kX8_arrives 41 rfl) ?_
    refine g_iadd C (gdec kX8_arrives 42 rfl) ?_
    refine g_istore C [(4, vI (r17 + r15)), (3, vI r15), (2, vI r1), (0, .ref (eA E 8 0)), (1, vI p1)] hl (by decide) rfl (gdec kX8_arrives 43 rfl) (fun ls hl => ?_)
    refine g_aload_n C hl 3 rfl rfl (gdec kX8_arrives 44 rfl) ?_
    refine gf_X8_7 C h ho (gdec kX8_arrives 45 rfl) ?_
    refine g_iload_n C hl 4 rfl rfl (gdec kX8_arrives 46 rfl) ?_
    refine g_iconst C (gdec kX8_arrives 47 rfl) ?_
    obtain ⟨r19, q20, hf⟩ := bn1_s hf
    refine g_ci h (g_runS C h (c_X8_teamAt l E _ _ _ _ q20) wM_X8_46 wT_X8_teamAt wN_X8 wC_X8_teamAt rfl ny_X8_teamAt rfl ⟨Nat.le_of_ble_eq_true rfl, Nat.le_of_ble_eq_true rfl⟩ hl.1 rfl (Nat.le_of_ble_eq_true rfl) (gdec kX8_arrives 48 rfl) ⟨Nat.zero_le _, Nat.zero_le _⟩) (fun H locs h => ?_)
    refine g_iload C hl 0 rfl (gdec kX8_arrives 49 rfl) ?_
    refine g_bipush C (gdec kX8_arrives 50 rfl) rfl ?_
    obtain ⟨h21, hf⟩ := gd_s hf
    refine g_icmp_le C (tgt := 88) h21 (by decide) (by decide) (gdec kX8_arrives 51 rfl) (fun c22 => ?_) (fun c22 => ?_)
    · replace hf := ifp c22 hf
      refine g_bipush C (gdec kX8_arrives 52 rfl) rfl ?_
      refine g_goto C (tgt := 90) (by decide) (gdec kX8_arrives 53 rfl) ?_
      obtain ⟨h23, hf⟩ := ga_s hf
      refine g_iast C h (gcl_8_0 C ho) (n := 260) rfl (by decide) h23 (gdec kX8_arrives 55 rfl) (fun H locs h => ?_)
      refine g_aload_n C hl 3 rfl rfl (gdec kX8_arrives 56 rfl) ?_
      refine gf_X8_7 C h ho (gdec kX8_arrives 57 rfl) ?_
      refine g_iload_n C hl 4 rfl rfl (gdec kX8_arrives 58 rfl) ?_
      refine g_bipush C (gdec kX8_arrives 59 rfl) rfl ?_
      obtain ⟨r24, q25, hf⟩ := bn1_s hf
      refine g_ci h (g_runS C h (c_X8_teamAt l E _ _ _ _ q25) wM_X8_46 wT_X8_teamAt wN_X8 wC_X8_teamAt rfl ny_X8_teamAt rfl ⟨Nat.le_of_ble_eq_true rfl, Nat.le_of_ble_eq_true rfl⟩ hl.1 rfl (Nat.le_of_ble_eq_true rfl) (gdec kX8_arrives_1 0 rfl) ⟨Nat.zero_le _, Nat.zero_le _⟩) (fun H locs h => ?_)
      refine g_dup2 C rfl rfl (gdec kX8_arrives_1 1 rfl) ?_
      obtain ⟨h26, hf⟩ := ga_s hf
      refine g_iald C h (gcl_8_0 C ho) (n := 260) rfl (by decide) h26 (gdec kX8_arrives_1 2 rfl) ?_
      refine g_iconst C (gdec kX8_arrives_1 3 rfl) ?_
      refine g_iadd C (gdec kX8_arrives_1 4 rfl) ?_
      refine g_iast C h (gcl_8_0 C ho) (n := 260) rfl (by decide) h26 (gdec kX8_arrives_1 5 rfl) (fun H locs h => ?_)
      refine g_aload_n C hl 3 rfl rfl (gdec kX8_arrives_1 6 rfl) ?_
      refine gf_X8_7 C h ho (gdec kX8_arrives_1 7 rfl) ?_
      refine g_iload_n C hl 4 rfl rfl (gdec kX8_arrives_1 8 rfl) ?_
      refine g_bipush C (gdec kX8_arrives_1 9 rfl) rfl ?_
      obtain ⟨r27, q28, hf⟩ := bn1_s hf
      refine g_ci h (g_runS C h (c_X8_teamAt l E _ _ _ _ q28) wM_X8_46 wT_X8_teamAt wN_X8 wC_X8_teamAt rfl ny_X8_teamAt rfl ⟨Nat.le_of_ble_eq_true rfl, Nat.le_of_ble_eq_true rfl⟩ hl.1 rfl (Nat.le_of_ble_eq_true rfl) (gdec kX8_arrives_1 10 rfl) ⟨Nat.zero_le _, Nat.zero_le _⟩) (fun H locs h => ?_)
      refine g_dup2 C rfl rfl (gdec kX8_arrives_1 11 rfl) ?_
      obtain ⟨h29, hf⟩ := ga_s hf
      refine g_iald C h (gcl_8_0 C ho) (n := 260) rfl (by decide) h29 (gdec kX8_arrives_1 12 rfl) ?_
      refine g_iload_n C hl 1 rfl rfl (gdec kX8_arrives_1 13 rfl) ?_
      refine g_iadd C (gdec kX8_arrives_1 14 rfl) ?_
      refine g_iast C h (gcl_8_0 C ho) (n := 260) rfl (by decide) h29 (gdec kX8_arrives_1 15 rfl) (fun H locs h => ?_)
      obtain ⟨G30, e31, hf⟩ := nm_s hf
      rw [e31] at h
      refine g_aload_n C hl 3 rfl rfl (gdec kX8_arrives_1 16 rfl) ?_
      refine g_aload_n C hl 3 rfl rfl (gdec kX8_arrives_1 17 rfl) ?_
      refine g_iload_n C hl 4 rfl rfl (gdec kX8_arrives_1 18 rfl) ?_
      refine g_iconst C (gdec kX8_arrives_1 19 rfl) ?_
      obtain ⟨r32, q33, hf⟩ := bn1_s hf
      refine g_ci h (g_runV C h ho (by decide) rfl (c_X8_of l E _ _ _ ho _ q33) wM_X8_98 wI_X8_of wS_X8_of wN_X8 wC_X8_of rfl ny_X8_of rfl ⟨Nat.le_of_ble_eq_true rfl, Nat.le_of_ble_eq_true rfl⟩ hl.1 rfl (Nat.le_of_ble_eq_true rfl) (gdec kX8_arrives_1 20 rfl) ⟨Nat.zero_le _, Nat.zero_le _⟩) (fun H locs h => ?_)
      refine g_iload_n C hl 2 rfl rfl (gdec kX8_arrives_1 21 rfl) ?_
      obtain ⟨G34, q35, hf⟩ := bn1_s hf
      refine g_cv h (g_runV C h ho (by decide) rfl (c_X8_comes l E _ _ _ ho _ q35) wM_X8_110 wI_X8_comes wS_X8_comes wN_X8 wC_X8_comes rfl ny_X8_comes rfl ⟨Nat.le_of_ble_eq_true rfl, Nat.le_of_ble_eq_true rfl⟩ hl.1 rfl (Nat.le_of_ble_eq_true rfl) (gdec kX8_arrives_1 22 rfl) ⟨Nat.zero_le _, Nat.zero_le _⟩) (fun H locs h => ?_)
      refine g_aload_n C hl 3 rfl rfl (gdec kX8_arrives_1 23 rfl) ?_
      refine gf_X8_7 C h ho (gdec kX8_arrives_1 24 rfl) ?_
      refine g_iload_n C hl 4 rfl rfl (gdec kX8_arrives_1 25 rfl) ?_
      refine g_iconst C (gdec kX8_arrives_1 26 rfl) ?_
      obtain ⟨r36, q37, hf⟩ := bn1_s hf
      refine g_ci h (g_runS C h (c_X8_teamAt l E _ _ _ _ q37) wM_X8_46 wT_X8_teamAt wN_X8 wC_X8_teamAt rfl ny_X8_teamAt rfl ⟨Nat.le_of_ble_eq_true rfl, Nat.le_of_ble_eq_true rfl⟩ hl.1 rfl (Nat.le_of_ble_eq_true rfl) (gdec kX8_arrives_1 27 rfl) ⟨Nat.zero_le _, Nat.zero_le _⟩) (fun H locs h => ?_)
      refine g_iconst C (gdec kX8_arrives_1 28 rfl) ?_
      obtain ⟨h38, hf⟩ := ga_s hf
      refine g_iast C h (gcl_8_0 C ho) (n := 260) rfl (by decide) h38 (gdec kX8_arrives_1 29 rfl) (fun H locs h => ?_)
      exact g_vret C h hf (gdec kX8_arrives_1 30 rfl)
    · replace hf := ifn c22 hf
      refine g_iload C hl 0 rfl (gdec kX8_arrives 54 rfl) ?_
      obtain ⟨h39, hf⟩ := ga_s hf
      refine g_iast C h (gcl_8_0 C ho) (n := 260) rfl (by decide) h39 (gdec kX8_arrives 55 rfl) (fun H locs h => ?_)
      refine g_aload_n C hl 3 rfl rfl (gdec kX8_arrives 56 rfl) ?_
      refine gf_X8_7 C h ho (gdec kX8_arrives 57 rfl) ?_
      refine g_iload_n C hl 4 rfl rfl (gdec kX8_arrives 58 rfl) ?_
      refine g_bipush C (gdec kX8_arrives 59 rfl) rfl ?_
      obtain ⟨r40, q41, hf⟩ := bn1_s hf
      refine g_ci h (g_runS C h (c_X8_teamAt l E _ _ _ _ q41) wM_X8_46 wT_X8_teamAt wN_X8 wC_X8_teamAt rfl ny_X8_teamAt rfl ⟨Nat.le_of_ble_eq_true rfl, Nat.le_of_ble_eq_true rfl⟩ hl.1 rfl (Nat.le_of_ble_eq_true rfl) (gdec kX8_arrives_1 0 rfl) ⟨Nat.zero_le _, Nat.zero_le _⟩) (fun H locs h => ?_)
      refine g_dup2 C rfl rfl (gdec kX8_arrives_1 1 rfl) ?_
      obtain ⟨h42, hf⟩ := ga_s hf
      refine g_iald C h (gcl_8_0 C ho) (n := 260) rfl (by decide) h42 (gdec kX8_arrives_1 2 rfl) ?_
      refine g_iconst C (gdec kX8_arrives_1 3 rfl) ?_
      refine g_iadd C (gdec kX8_arrives_1 4 rfl) ?_
      refine g_iast C h (gcl_8_0 C ho) (n := 260) rfl (by decide) h42 (gdec kX8_arrives_1 5 rfl) (fun H locs h => ?_)
      refine g_aload_n C hl 3 rfl rfl (gdec kX8_arrives_1 6 rfl) ?_
      refine gf_X8_7 C h ho (gdec kX8_arrives_1 7 rfl) ?_
      refine g_iload_n C hl 4 rfl rfl (gdec kX8_arrives_1 8 rfl) ?_
      refine g_bipush C (gdec kX8_arrives_1 9 rfl) rfl ?_
      obtain ⟨r43, q44, hf⟩ := bn1_s hf
      refine g_ci h (g_runS C h (c_X8_teamAt l E _ _ _ _ q44) wM_X8_46 wT_X8_teamAt wN_X8 wC_X8_teamAt rfl ny_X8_teamAt rfl ⟨Nat.le_of_ble_eq_true rfl, Nat.le_of_ble_eq_true rfl⟩ hl.1 rfl (Nat.le_of_ble_eq_true rfl) (gdec kX8_arrives_1 10 rfl) ⟨Nat.zero_le _, Nat.zero_le _⟩) (fun H locs h => ?_)
      refine g_dup2 C rfl rfl (gdec kX8_arrives_1 11 rfl) ?_
      obtain ⟨h45, hf⟩ := ga_s hf
      refine g_iald C h (gcl_8_0 C ho) (n := 260) rfl (by decide) h45 (gdec kX8_arrives_1 12 rfl) ?_
      refine g_iload_n C hl 1 rfl rfl (gdec kX8_arrives_1 13 rfl) ?_
      refine g_iadd C (gdec kX8_arrives_1 14 rfl) ?_
      refine g_iast C h (gcl_8_0 C ho) (n := 260) rfl (by decide) h45 (gdec kX8_arrives_1 15 rfl) (fun H locs h => ?_)
      obtain ⟨G46, e47, hf⟩ := nm_s hf
      rw [e47] at h
      refine g_aload_n C hl 3 rfl rfl (gdec kX8_arrives_1 16 rfl) ?_
      refine g_aload_n C hl 3 rfl rfl (gdec kX8_arrives_1 17 rfl) ?_
      refine g_iload_n C hl 4 rfl rfl (gdec kX8_arrives_1 18 rfl) ?_
      refine g_iconst C (gdec kX8_arrives_1 19 rfl) ?_
      obtain ⟨r48, q49, hf⟩ := bn1_s hf
      refine g_ci h (g_runV C h ho (by decide) rfl (c_X8_of l E _ _ _ ho _ q49) wM_X8_98 wI_X8_of wS_X8_of wN_X8 wC_X8_of rfl ny_X8_of rfl ⟨Nat.le_of_ble_eq_true rfl, Nat.le_of_ble_eq_true rfl⟩ hl.1 rfl (Nat.le_of_ble_eq_true rfl) (gdec kX8_arrives_1 20 rfl) ⟨Nat.zero_le _, Nat.zero_le _⟩) (fun H locs h => ?_)
      refine g_iload_n C hl 2 rfl rfl (gdec kX8_arrives_1 21 rfl) ?_
      obtain ⟨G50, q51, hf⟩ := bn1_s hf
      refine g_cv h (g_runV C h ho (by decide) rfl (c_X8_comes l E _ _ _ ho _ q51) wM_X8_110 wI_X8_comes wS_X8_comes wN_X8 wC_X8_comes rfl ny_X8_comes rfl ⟨Nat.le_of_ble_eq_true rfl, Nat.le_of_ble_eq_true rfl⟩ hl.1 rfl (Nat.le_of_ble_eq_true rfl) (gdec kX8_arrives_1 22 rfl) ⟨Nat.zero_le _, Nat.zero_le _⟩) (fun H locs h => ?_)
      refine g_aload_n C hl 3 rfl rfl (gdec kX8_arrives_1 23 rfl) ?_
      refine gf_X8_7 C h ho (gdec kX8_arrives_1 24 rfl) ?_
      refine g_iload_n C hl 4 rfl rfl (gdec kX8_arrives_1 25 rfl) ?_
      refine g_iconst C (gdec kX8_arrives_1 26 rfl) ?_
      obtain ⟨r52, q53, hf⟩ := bn1_s hf
      refine g_ci h (g_runS C h (c_X8_teamAt l E _ _ _ _ q53) wM_X8_46 wT_X8_teamAt wN_X8 wC_X8_teamAt rfl ny_X8_teamAt rfl ⟨Nat.le_of_ble_eq_true rfl, Nat.le_of_ble_eq_true rfl⟩ hl.1 rfl (Nat.le_of_ble_eq_true rfl) (gdec kX8_arrives_1 27 rfl) ⟨Nat.zero_le _, Nat.zero_le _⟩) (fun H locs h => ?_)
      refine g_iconst C (gdec kX8_arrives_1 28 rfl) ?_
      obtain ⟨h54, hf⟩ := ga_s hf
      refine g_iast C h (gcl_8_0 C ho) (n := 260) rfl (by decide) h54 (gdec kX8_arrives_1 29 rfl) (fun H locs h => ?_)
      exact g_vret C h hf (gdec kX8_arrives_1 30 rfl)
def f_X8_roads_L2 : Nat → GS → Int → (GS → Int → Option (GS)) → Option (GS)
  | 0, _, _, _ => none
  | n + 1, G, x1, k => gd x1 (gd (G 10 0 7) (if x1 < (G 10 0 7) then bn1 (f_X8_of G x1 3) (fun r4 => gd r4 (if 0 < r4 then bn1 (f_X8_teamAt G x1 3) (fun r8 => ga r8 260 (bn1 (f_X8_of (gup G 10 0 r8 ((G 10 0 r8) - 1)) x1 3) (fun r11 => gd r11 (if r11 = 0 then bn1 (f_X8_arrives (gup G 10 0 r8 ((G 10 0 r8) - 1)) x1) (fun G15 => f_X8_roads_L2 n G15 (x1 + 1) k) else f_X8_roads_L2 n (gup G 10 0 r8 ((G 10 0 r8) - 1)) (x1 + 1) k)))) else f_X8_roads_L2 n G (x1 + 1) k)) else k G x1))
def f_X8_roads (G : GS) : Option (GS) :=
  f_X8_roads_L2 gFuel G 0 (fun G18 y1_17 => some G18)
set_option maxHeartbeats 4000000 in
set_option maxRecDepth 100000 in
theorem c_X8_roads (l : Launch) (E : gEnv) (G : GS) (ho : gOk E 8 0) (Gz : GS) (hf : f_X8_roads G = some Gz) : gMet l yX8_roads cX8_roads 2 none 4 90 0 0 [.ref (eA E 8 0)] E G (gQv E Gz) := by
  refine g_met (by decide +kernel) (Nat.le_of_ble_eq_true rfl) ?_
  intro p e s m below meth c C H locs h ls hl
  have C : gC p s m _ meth c RX8 cX8_roads 2 none E := C
  have hl : lv_has ls 2 [(0, .ref (eA E 8 0))] := hl
  have L2 : ∀ (n : Nat) (G : GS) (x1 : Int) (k : (GS → Int → Option (GS))) (hK : ∀ (G : GS) (x1 : Int), k G x1 = some Gz → ∀ (H : Heap) (locs : List Loc), gH E s G H locs → ∀ ls, lv_has ls 2 [(0, .ref (eA E 8 0)), (1, vI x1)] → W p l e (gRm 4 90 0 0) s m ([.ref (eA E 8 0)] : List Value).toArray below meth c H locs 0 0 (MQ below (gQv E Gz) ([.ref (eA E 8 0)] : List Value).toArray s 0 0 (eF E)) (F0 m 56 ls [])), ∀ (H : Heap) (locs : List Loc), gH E s G H locs → ∀ ls, lv_has ls 2 [(0, .ref (eA E 8 0)), (1, vI x1)] → f_X8_roads_L2 n G x1 k = some Gz → W p l e (gRm 4 90 0 0) s m ([.ref (eA E 8 0)] : List Value).toArray below meth c H locs 0 0 (MQ below (gQv E Gz) ([.ref (eA E 8 0)] : List Value).toArray s 0 0 (eF E)) (F0 m 2 ls []) := by
    intro n
    induction n with
    | zero =>
      intro G x1 k hK H locs h ls hl hf
      exact absurd hf (by simp [f_X8_roads_L2])
    | succ n ih =>
      intro G x1 k hK H locs h ls hl hf
      unfold f_X8_roads_L2 at hf
      refine g_iload_n C hl 1 rfl rfl (gdec kX8_roads 2 rfl) ?_
      refine g_aload_n C hl 0 rfl rfl (gdec kX8_roads 3 rfl) ?_
      refine gf_X8_7 C h ho (gdec kX8_roads 4 rfl) ?_
      refine g_bipush C (gdec kX8_roads 5 rfl) rfl ?_
      refine g_iald C h (gcl_8_0 C ho) (n := 260) rfl (by decide) (⟨by decide, by decide⟩ : (0 : Int) ≤ 7 ∧ (7 : Int) < 260) (gdec kX8_roads 6 rfl) ?_
      obtain ⟨h1, hf⟩ := gd_s hf
      obtain ⟨h2, hf⟩ := gd_s hf
      refine g_icmp_ge C (tgt := 56) h1 h2 (by decide) (gdec kX8_roads 7 rfl) (fun c3 => ?_) (fun c3 => ?_)
      · replace hf := ifp c3 hf
        refine g_aload_n C hl 0 rfl rfl (gdec kX8_roads 8 rfl) ?_
        refine g_iload_n C hl 1 rfl rfl (gdec kX8_roads 9 rfl) ?_
        refine g_iconst C (gdec kX8_roads 10 rfl) ?_
        obtain ⟨r4, q5, hf⟩ := bn1_s hf
        refine g_ci h (g_runV C h ho (by decide) rfl (c_X8_of l E _ _ _ ho _ q5) wM_X8_98 wI_X8_of wS_X8_of wN_X8 wC_X8_of rfl ny_X8_of rfl ⟨Nat.le_of_ble_eq_true rfl, Nat.le_of_ble_eq_true rfl⟩ hl.1 rfl (Nat.le_of_ble_eq_true rfl) (gdec kX8_roads 11 rfl) ⟨Nat.zero_le _, Nat.zero_le _⟩) (fun H locs h => ?_)
        obtain ⟨h6, hf⟩ := gd_s hf
        refine g_if_le C (tgt := 50) h6 (by decide) (gdec kX8_roads 12 rfl) (fun c7 => ?_) (fun c7 => ?_)
        · replace hf := ifp c7 hf
          refine g_aload_n C hl 0 rfl rfl (gdec kX8_roads 13 rfl) ?_
          refine gf_X8_7 C h ho (gdec kX8_roads 14 rfl) ?_
          refine g_iload_n C hl 1 rfl rfl (gdec kX8_roads 15 rfl) ?_
          refine g_iconst C (gdec kX8_roads 16 rfl) ?_
          obtain ⟨r8, q9, hf⟩ := bn1_s hf
          refine g_ci h (g_runS C h (c_X8_teamAt l E _ _ _ _ q9) wM_X8_46 wT_X8_teamAt wN_X8 wC_X8_teamAt rfl ny_X8_teamAt rfl ⟨Nat.le_of_ble_eq_true rfl, Nat.le_of_ble_eq_true rfl⟩ hl.1 rfl (Nat.le_of_ble_eq_true rfl) (gdec kX8_roads 17 rfl) ⟨Nat.zero_le _, Nat.zero_le _⟩) (fun H locs h => ?_)
          refine g_dup2 C rfl rfl (gdec kX8_roads 18 rfl) ?_
          obtain ⟨h10, hf⟩ := ga_s hf
          refine g_iald C h (gcl_8_0 C ho) (n := 260) rfl (by decide) h10 (gdec kX8_roads 19 rfl) ?_
          refine g_iconst C (gdec kX8_roads 20 rfl) ?_
          refine g_isub C (gdec kX8_roads 21 rfl) ?_
          refine g_iast C h (gcl_8_0 C ho) (n := 260) rfl (by decide) h10 (gdec kX8_roads 22 rfl) (fun H locs h => ?_)
          refine g_aload_n C hl 0 rfl rfl (gdec kX8_roads 23 rfl) ?_
          refine g_iload_n C hl 1 rfl rfl (gdec kX8_roads 24 rfl) ?_
          refine g_iconst C (gdec kX8_roads 25 rfl) ?_
          obtain ⟨r11, q12, hf⟩ := bn1_s hf
          refine g_ci h (g_runV C h ho (by decide) rfl (c_X8_of l E _ _ _ ho _ q12) wM_X8_98 wI_X8_of wS_X8_of wN_X8 wC_X8_of rfl ny_X8_of rfl ⟨Nat.le_of_ble_eq_true rfl, Nat.le_of_ble_eq_true rfl⟩ hl.1 rfl (Nat.le_of_ble_eq_true rfl) (gdec kX8_roads 26 rfl) ⟨Nat.zero_le _, Nat.zero_le _⟩) (fun H locs h => ?_)
          obtain ⟨h13, hf⟩ := gd_s hf
          refine g_if_ne C (tgt := 50) h13 (by decide) (gdec kX8_roads 27 rfl) (fun c14 => ?_) (fun c14 => ?_)
          · replace hf := ifp c14 hf
            refine g_aload_n C hl 0 rfl rfl (gdec kX8_roads 28 rfl) ?_
            refine g_iload_n C hl 1 rfl rfl (gdec kX8_roads 29 rfl) ?_
            obtain ⟨G15, q16, hf⟩ := bn1_s hf
            refine g_cv h (g_runV C h ho (by decide) rfl (c_X8_arrives l E _ _ ho _ q16) wM_X8_113 wI_X8_arrives wS_X8_arrives wN_X8 wC_X8_arrives rfl ny_X8_arrives rfl ⟨Nat.le_of_ble_eq_true rfl, Nat.le_of_ble_eq_true rfl⟩ hl.1 rfl (Nat.le_of_ble_eq_true rfl) (gdec kX8_roads 30 rfl) ⟨Nat.zero_le _, Nat.zero_le _⟩) (fun H locs h => ?_)
            refine g_iinc C (k := 1) [(1, vI (x1 + 1)), (0, .ref (eA E 8 0))] hl rfl (by decide) rfl (gdec kX8_roads 31 rfl) (fun ls hl => ?_)
            refine g_goto C (tgt := 2) (by decide) (gdec kX8_roads 32 rfl) ?_
            exact ih _ _ k hK H locs h ls (lv_sub hl [1, 0] rfl) hf
          · replace hf := ifn c14 hf
            refine g_iinc C (k := 1) [(1, vI (x1 + 1)), (0, .ref (eA E 8 0))] hl rfl (by decide) rfl (gdec kX8_roads 31 rfl) (fun ls hl => ?_)
            refine g_goto C (tgt := 2) (by decide) (gdec kX8_roads 32 rfl) ?_
            exact ih _ _ k hK H locs h ls (lv_sub hl [1, 0] rfl) hf
        · replace hf := ifn c7 hf
          refine g_iinc C (k := 1) [(1, vI (x1 + 1)), (0, .ref (eA E 8 0))] hl rfl (by decide) rfl (gdec kX8_roads 31 rfl) (fun ls hl => ?_)
          refine g_goto C (tgt := 2) (by decide) (gdec kX8_roads 32 rfl) ?_
          exact ih _ _ k hK H locs h ls (lv_sub hl [1, 0] rfl) hf
      · replace hf := ifn c3 hf
        exact hK _ _ hf H locs h ls (lv_sub hl [0, 1] rfl)
  unfold f_X8_roads at hf
  refine g_iconst C (gdec kX8_roads 0 rfl) ?_
  refine g_istore_n C [(1, vI 0), (0, .ref (eA E 8 0))] hl rfl (by decide) rfl (gdec kX8_roads 1 rfl) (fun ls hl => ?_)
  refine L2 gFuel _ _ _ (fun G18 y1_17 hf H locs h ls hl => ?_) H locs h ls (lv_sub hl [1, 0] rfl) hf
  exact g_vret C h hf (gdec kX8_roads 33 rfl)
def f_X8_lies (G : GS) (p1 : Int) : Option (Int) :=
  bn1 (f_X8_isDelivered G p1) (fun r1 => gd r1 (if r1 = 0 then bn1 (f_X8_ofLetter G p1 5) (fun r5 => gd r5 (if r5 = (-1) then some 1 else some 0)) else some 0))
set_option maxHeartbeats 4000000 in
set_option maxRecDepth 100000 in
theorem c_X8_lies (l : Launch) (E : gEnv) (G : GS) (p1 : Int) (ho : gOk E 8 0) (rz : Int) (hf : f_X8_lies G p1 = some rz) : gMet l yX8_lies cX8_lies 2 (some .boolean) 3 64 0 0 [.ref (eA E 8 0), vI p1] E G (gQi E G rz) := by
  refine g_met (by decide +kernel) (Nat.le_of_ble_eq_true rfl) ?_
  intro p e s m below meth c C H locs h ls hl
  have C : gC p s m _ meth c RX8 cX8_lies 2 (some .boolean) E := C
  have hl : lv_has ls 2 [(0, .ref (eA E 8 0)), (1, vI p1)] := hl
  unfold f_X8_lies at hf
  refine g_aload_n C hl 0 rfl rfl (gdec kX8_lies 0 rfl) ?_
  refine g_iload_n C hl 1 rfl rfl (gdec kX8_lies 1 rfl) ?_
  obtain ⟨r1, q2, hf⟩ := bn1_s hf
  refine g_ci h (g_runV C h ho (by decide) rfl (c_X8_isDelivered l E _ _ ho _ q2) wM_X8_95 wI_X8_isDelivered wS_X8_isDelivered wN_X8 wC_X8_isDelivered rfl ny_X8_isDelivered rfl ⟨Nat.le_of_ble_eq_true rfl, Nat.le_of_ble_eq_true rfl⟩ hl.1 rfl (Nat.le_of_ble_eq_true rfl) (gdec kX8_lies 2 rfl) ⟨Nat.zero_le _, Nat.zero_le _⟩) (fun H locs h => ?_)
  obtain ⟨h3, hf⟩ := gd_s hf
  refine g_if_ne C (tgt := 22) h3 (by decide) (gdec kX8_lies 3 rfl) (fun c4 => ?_) (fun c4 => ?_)
  · replace hf := ifp c4 hf
    refine g_aload_n C hl 0 rfl rfl (gdec kX8_lies 4 rfl) ?_
    refine g_iload_n C hl 1 rfl rfl (gdec kX8_lies 5 rfl) ?_
    refine g_iconst C (gdec kX8_lies 6 rfl) ?_
    obtain ⟨r5, q6, hf⟩ := bn1_s hf
    refine g_ci h (g_runV C h ho (by decide) rfl (c_X8_ofLetter l E _ _ _ ho _ q6) wM_X8_92 wI_X8_ofLetter wS_X8_ofLetter wN_X8 wC_X8_ofLetter rfl ny_X8_ofLetter rfl ⟨Nat.le_of_ble_eq_true rfl, Nat.le_of_ble_eq_true rfl⟩ hl.1 rfl (Nat.le_of_ble_eq_true rfl) (gdec kX8_lies 7 rfl) ⟨Nat.zero_le _, Nat.zero_le _⟩) (fun H locs h => ?_)
    refine g_iconst C (gdec kX8_lies 8 rfl) ?_
    obtain ⟨h7, hf⟩ := gd_s hf
    refine g_icmp_ne C (tgt := 22) h7 (by decide) (by decide) (gdec kX8_lies 9 rfl) (fun c8 => ?_) (fun c8 => ?_)
    · replace hf := ifp c8 hf
      refine g_iconst C (gdec kX8_lies 10 rfl) ?_
      refine g_goto C (tgt := 23) (by decide) (gdec kX8_lies 11 rfl) ?_
      exact g_zret C h (Or.inr rfl) (congrArg (Option.map (Prod.mk _)) hf) (gdec kX8_lies 13 rfl)
    · replace hf := ifn c8 hf
      refine g_iconst C (gdec kX8_lies 12 rfl) ?_
      exact g_zret C h (Or.inl rfl) (congrArg (Option.map (Prod.mk _)) hf) (gdec kX8_lies 13 rfl)
  · replace hf := ifn c4 hf
    refine g_iconst C (gdec kX8_lies 12 rfl) ?_
    exact g_zret C h (Or.inl rfl) (congrArg (Option.map (Prod.mk _)) hf) (gdec kX8_lies 13 rfl)
def f_X8_isAhead (G : GS) (p1 : Int) (p2 : Int) : Option (Int) :=
  bn1 (f_X8_ofLetter G p2 2) (fun r1 => bn1 (f_X8_ofLetter G p1 2) (fun r3 => gd (r1 - r3) (if (r1 - r3) = 0 then bn1 (f_X8_ofLetter G p1 3) (fun r7 => bn1 (f_X8_ofLetter G p2 3) (fun r9 => gd (r7 - r9) (if (r7 - r9) < 0 then some 1 else if (r7 - r9) = 0 then gd p1 (gd p2 (if p1 < p2 then some 1 else some 0)) else some 0))) else if (r1 - r3) < 0 then some 1 else some 0)))
set_option maxHeartbeats 4000000 in
set_option maxRecDepth 100000 in
theorem c_X8_isAhead (l : Launch) (E : gEnv) (G : GS) (p1 : Int) (p2 : Int) (ho : gOk E 8 0) (rz : Int) (hf : f_X8_isAhead G p1 p2 = some rz) : gMet l yX8_isAhead cX8_isAhead 4 (some .boolean) 2 43 0 0 [.ref (eA E 8 0), vI p1, vI p2] E G (gQi E G rz) := by
  refine g_met (by decide +kernel) (Nat.le_of_ble_eq_true rfl) ?_
  intro p e s m below meth c C H locs h ls hl
  have C : gC p s m _ meth c RX8 cX8_isAhead 4 (some .boolean) E := C
  have hl : lv_has ls 4 [(0, .ref (eA E 8 0)), (1, vI p1), (2, vI p2)] := hl
  unfold f_X8_isAhead at hf
  refine g_aload_n C hl 0 rfl rfl (gdec kX8_isAhead 0 rfl) ?_
  refine g_iload_n C hl 2 rfl rfl (gdec kX8_isAhead 1 rfl) ?_
  refine g_iconst C (gdec kX8_isAhead 2 rfl) ?_
  obtain ⟨r1, q2, hf⟩ := bn1_s hf
  refine g_ci h (g_runV C h ho (by decide) rfl (c_X8_ofLetter l E _ _ _ ho _ q2) wM_X8_92 wI_X8_ofLetter wS_X8_ofLetter wN_X8 wC_X8_ofLetter rfl ny_X8_ofLetter rfl ⟨Nat.le_of_ble_eq_true rfl, Nat.le_of_ble_eq_true rfl⟩ hl.1 rfl (Nat.le_of_ble_eq_true rfl) (gdec kX8_isAhead 3 rfl) ⟨Nat.zero_le _, Nat.zero_le _⟩) (fun H locs h => ?_)
  refine g_aload_n C hl 0 rfl rfl (gdec kX8_isAhead 4 rfl) ?_
  refine g_iload_n C hl 1 rfl rfl (gdec kX8_isAhead 5 rfl) ?_
  refine g_iconst C (gdec kX8_isAhead 6 rfl) ?_
  obtain ⟨r3, q4, hf⟩ := bn1_s hf
  refine g_ci h (g_runV C h ho (by decide) rfl (c_X8_ofLetter l E _ _ _ ho _ q4) wM_X8_92 wI_X8_ofLetter wS_X8_ofLetter wN_X8 wC_X8_ofLetter rfl ny_X8_ofLetter rfl ⟨Nat.le_of_ble_eq_true rfl, Nat.le_of_ble_eq_true rfl⟩ hl.1 rfl (Nat.le_of_ble_eq_true rfl) (gdec kX8_isAhead 7 rfl) ⟨Nat.zero_le _, Nat.zero_le _⟩) (fun H locs h => ?_)
  refine g_isub C (gdec kX8_isAhead 8 rfl) ?_
  refine g_istore_n C [(3, vI (r1 - r3)), (0, .ref (eA E 8 0)), (1, vI p1), (2, vI p2)] hl rfl (by decide) rfl (gdec kX8_isAhead 9 rfl) (fun ls hl => ?_)
  refine g_iload_n C hl 0 rfl rfl (gdec kX8_isAhead 10 rfl) ?_
  obtain ⟨h5, hf⟩ := gd_s hf
  refine g_if_ne C (tgt := 34) h5 (by decide) (gdec kX8_isAhead 11 rfl) (fun c6 => ?_) (fun c6 => ?_)
  · replace hf := ifp c6 hf
    refine g_aload_n C hl 1 rfl rfl (gdec kX8_isAhead 12 rfl) ?_
    refine g_iload_n C hl 2 rfl rfl (gdec kX8_isAhead 13 rfl) ?_
    refine g_iconst C (gdec kX8_isAhead 14 rfl) ?_
    obtain ⟨r7, q8, hf⟩ := bn1_s hf
    refine g_ci h (g_runV C h ho (by decide) rfl (c_X8_ofLetter l E _ _ _ ho _ q8) wM_X8_92 wI_X8_ofLetter wS_X8_ofLetter wN_X8 wC_X8_ofLetter rfl ny_X8_ofLetter rfl ⟨Nat.le_of_ble_eq_true rfl, Nat.le_of_ble_eq_true rfl⟩ hl.1 rfl (Nat.le_of_ble_eq_true rfl) (gdec kX8_isAhead 15 rfl) ⟨Nat.zero_le _, Nat.zero_le _⟩) (fun H locs h => ?_)
    refine g_aload_n C hl 1 rfl rfl (gdec kX8_isAhead 16 rfl) ?_
    refine g_iload_n C hl 3 rfl rfl (gdec kX8_isAhead 17 rfl) ?_
    refine g_iconst C (gdec kX8_isAhead 18 rfl) ?_
    obtain ⟨r9, q10, hf⟩ := bn1_s hf
    refine g_ci h (g_runV C h ho (by decide) rfl (c_X8_ofLetter l E _ _ _ ho _ q10) wM_X8_92 wI_X8_ofLetter wS_X8_ofLetter wN_X8 wC_X8_ofLetter rfl ny_X8_ofLetter rfl ⟨Nat.le_of_ble_eq_true rfl, Nat.le_of_ble_eq_true rfl⟩ hl.1 rfl (Nat.le_of_ble_eq_true rfl) (gdec kX8_isAhead 19 rfl) ⟨Nat.zero_le _, Nat.zero_le _⟩) (fun H locs h => ?_)
    refine g_isub C (gdec kX8_isAhead 20 rfl) ?_
    refine g_goto C (tgt := 35) (by decide) (gdec kX8_isAhead 21 rfl) ?_
    refine g_istore_n C [(3, vI (r7 - r9)), (0, .ref (eA E 8 0)), (1, vI p1), (2, vI p2)] hl rfl (by decide) rfl (gdec kX8_isAhead 23 rfl) (fun ls hl => ?_)
    refine g_iload_n C hl 0 rfl rfl (gdec kX8_isAhead 24 rfl) ?_
    obtain ⟨h11, hf⟩ := gd_s hf
    refine g_if_lt C (tgt := 49) h11 (by decide) (gdec kX8_isAhead 25 rfl) (fun c12 => ?_) (fun c12 => ?_)
    · replace hf := ifp c12 hf
      refine g_iconst C (gdec kX8_isAhead 31 rfl) ?_
      refine g_goto C (tgt := 54) (by decide) (gdec kX8_isAhead 32 rfl) ?_
      exact g_zret C h (Or.inr rfl) (congrArg (Option.map (Prod.mk _)) hf) (gdec kX8_isAhead 34 rfl)
    · replace hf := ifn c12 hf
      refine g_iload_n C hl 0 rfl rfl (gdec kX8_isAhead 26 rfl) ?_
      refine g_if_ne C (tgt := 53) h11 (by decide) (gdec kX8_isAhead 27 rfl) (fun c13 => ?_) (fun c13 => ?_)
      · replace hf := ifp c13 hf
        refine g_iload_n C hl 2 rfl rfl (gdec kX8_isAhead 28 rfl) ?_
        refine g_iload_n C hl 3 rfl rfl (gdec kX8_isAhead 29 rfl) ?_
        obtain ⟨h14, hf⟩ := gd_s hf
        obtain ⟨h15, hf⟩ := gd_s hf
        refine g_icmp_ge C (tgt := 53) h14 h15 (by decide) (gdec kX8_isAhead 30 rfl) (fun c16 => ?_) (fun c16 => ?_)
        · replace hf := ifp c16 hf
          refine g_iconst C (gdec kX8_isAhead 31 rfl) ?_
          refine g_goto C (tgt := 54) (by decide) (gdec kX8_isAhead 32 rfl) ?_
          exact g_zret C h (Or.inr rfl) (congrArg (Option.map (Prod.mk _)) hf) (gdec kX8_isAhead 34 rfl)
        · replace hf := ifn c16 hf
          refine g_iconst C (gdec kX8_isAhead 33 rfl) ?_
          exact g_zret C h (Or.inl rfl) (congrArg (Option.map (Prod.mk _)) hf) (gdec kX8_isAhead 34 rfl)
      · replace hf := ifn c13 hf
        refine g_iconst C (gdec kX8_isAhead 33 rfl) ?_
        exact g_zret C h (Or.inl rfl) (congrArg (Option.map (Prod.mk _)) hf) (gdec kX8_isAhead 34 rfl)
  · replace hf := ifn c6 hf
    refine g_iload_n C hl 0 rfl rfl (gdec kX8_isAhead 22 rfl) ?_
    refine g_istore_n C [(3, vI (r1 - r3)), (0, .ref (eA E 8 0)), (1, vI p1), (2, vI p2)] hl rfl (by decide) rfl (gdec kX8_isAhead 23 rfl) (fun ls hl => ?_)
    refine g_iload_n C hl 0 rfl rfl (gdec kX8_isAhead 24 rfl) ?_
    refine g_if_lt C (tgt := 49) h5 (by decide) (gdec kX8_isAhead 25 rfl) (fun c17 => ?_) (fun c17 => ?_)
    · replace hf := ifp c17 hf
      refine g_iconst C (gdec kX8_isAhead 31 rfl) ?_
      refine g_goto C (tgt := 54) (by decide) (gdec kX8_isAhead 32 rfl) ?_
      exact g_zret C h (Or.inr rfl) (congrArg (Option.map (Prod.mk _)) hf) (gdec kX8_isAhead 34 rfl)
    · replace hf := ifn c17 hf
      refine g_iload_n C hl 0 rfl rfl (gdec kX8_isAhead 26 rfl) ?_
      refine g_if_ne C (tgt := 53) h5 (by decide) (gdec kX8_isAhead 27 rfl) (fun c0 => absurd c0 c6) (fun c0 => ?_)
      refine g_iconst C (gdec kX8_isAhead 33 rfl) ?_
      exact g_zret C h (Or.inl rfl) (congrArg (Option.map (Prod.mk _)) hf) (gdec kX8_isAhead 34 rfl)

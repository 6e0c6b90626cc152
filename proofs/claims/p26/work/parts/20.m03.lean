def f_X4_readInto_L7 (p1 : Int) : Nat → GS → Int → (GS → Int → Option (GS × Int)) → Option (GS × Int)
  | 0, _, _, _ => none
  | n + 1, G, x2, k => gd x2 (if x2 < 7 then ga x2 7 (bnd (f_X4_readStage G (7 * p1 + x2)) (fun G5 r6 => gd r6 (if r6 = 0 then some (G5, G5 4 0 2) else gd (G5 4 0 2) (gd (G5 4 0 1) (if (G5 4 0 2) = (G5 4 0 1) then some ((gup G5 3 p1 4 (x2 + 2)), (-1)) else f_X4_readInto_L7 p1 n G5 (x2 + 1) k))))) else k G x2)
def f_X4_readInto (G : GS) (p1 : Int) : Option (GS × Int) :=
  f_X4_readInto_L7 p1 gFuel (gup G 4 0 2 0) 0 (fun G14 y2_13 => some (G14, G14 4 0 2))
set_option maxHeartbeats 4000000 in
set_option maxRecDepth 100000 in
theorem c_X4_readInto (l : Launch) (E : gEnv) (G : GS) (p1 : Int) (ho : gOk E 4 0) (hp1 : gOk E 3 p1) (Gz : GS) (rz : Int) (hf : f_X4_readInto G p1 = some (Gz, rz)) : gMet l yX4_readInto cX4_readInto 3 (some .int) 3 65 0 0 [.ref (eA E 4 0), .ref (eA E 3 p1)] E G (gQi E Gz rz) := by
  refine g_met (by decide +kernel) (Nat.le_of_ble_eq_true rfl) ?_
  intro p e s m below meth c C H locs h ls hl
  have C : gC p s m _ meth c RX4 cX4_readInto 3 (some .int) E := C
  have hl : lv_has ls 3 [(0, .ref (eA E 4 0)), (1, .ref (eA E 3 p1))] := hl
  have L7 : ∀ (n : Nat) (G : GS) (x2 : Int) (k : (GS → Int → Option (GS × Int))) (hK : ∀ (G : GS) (x2 : Int), k G x2 = some (Gz, rz) → ∀ (H : Heap) (locs : List Loc), gH E s G H locs → ∀ ls, lv_has ls 3 [(0, .ref (eA E 4 0)), (1, .ref (eA E 3 p1)), (2, vI x2)] → W p l e (gRm 3 65 0 0) s m ([.ref (eA E 4 0), .ref (eA E 3 p1)] : List Value).toArray below meth c H locs 0 0 (MQ below (gQi E Gz rz) ([.ref (eA E 4 0), .ref (eA E 3 p1)] : List Value).toArray s 0 0 (eF E)) (F0 m 56 ls [])), ∀ (H : Heap) (locs : List Loc), gH E s G H locs → ∀ ls, lv_has ls 3 [(0, .ref (eA E 4 0)), (1, .ref (eA E 3 p1)), (2, vI x2)] → f_X4_readInto_L7 p1 n G x2 k = some (Gz, rz) → W p l e (gRm 3 65 0 0) s m ([.ref (eA E 4 0), .ref (eA E 3 p1)] : List Value).toArray below meth c H locs 0 0 (MQ below (gQi E Gz rz) ([.ref (eA E 4 0), .ref (eA E 3 p1)] : List Value).toArray s 0 0 (eF E)) (F0 m 7 ls []) := by
    intro n
    induction n with
    | zero =>
      intro G x2 k hK H locs h ls hl hf
      exact absurd hf (by simp [f_X4_readInto_L7])
    | succ n ih =>
      intro G x2 k hK H locs h ls hl hf
      unfold f_X4_readInto_L7 at hf
      refine g_iload_n C hl 2 rfl rfl (gdec kX4_readInto 5 rfl) ?_
      refine g_bipush C (gdec kX4_readInto 6 rfl) rfl ?_
      obtain ⟨h1, hf⟩ := gd_s hf
      refine g_icmp_ge C (tgt := 56) h1 (by decide) (by decide) (gdec kX4_readInto 7 rfl) (fun c2 => ?_) (fun c2 => ?_)
      · replace hf := ifp c2 hf
        refine g_aload_n C hl 0 rfl rfl (gdec kX4_readInto 8 rfl) ?_
        refine g_aload_n C hl 1 rfl rfl (gdec kX4_readInto 9 rfl) ?_
        refine g_iload_n C hl 2 rfl rfl (gdec kX4_readInto 10 rfl) ?_
        obtain ⟨h3, hf⟩ := ga_s hf
        refine g_cr h (g_runV C h hp1 (by decide) rfl (c_X3_stageRow l E _ _ _ hp1 _ (e_X3_stageRow _ _ _ h3)) wM_X4_22 wI_X3_stageRow wS_X3_stageRow wN_X3 wC_X3_stageRow rfl ny_X3_stageRow rfl ⟨Nat.le_of_ble_eq_true rfl, Nat.le_of_ble_eq_true rfl⟩ hl.1 rfl (Nat.le_of_ble_eq_true rfl) (gdec kX4_readInto 11 rfl) ⟨Nat.zero_le _, Nat.zero_le _⟩) (fun H locs h => ?_)
        have k4 : gOk E 5 (7 * p1 + x2) := gok5 C (gcl_3_0 C hp1) h3
        obtain ⟨G5, r6, q7, hf⟩ := bnd_s hf
        refine g_ci h (g_runV C h ho (by decide) rfl (c_X4_readStage l E _ _ ho k4 _ _ q7) wM_X4_28 wI_X4_readStage wS_X4_readStage wN_X4 wC_X4_readStage rfl ny_X4_readStage rfl ⟨Nat.le_of_ble_eq_true rfl, Nat.le_of_ble_eq_true rfl⟩ hl.1 rfl (Nat.le_of_ble_eq_true rfl) (gdec kX4_readInto 12 rfl) ⟨Nat.zero_le _, Nat.zero_le _⟩) (fun H locs h => ?_)
        obtain ⟨h8, hf⟩ := gd_s hf
        refine g_if_ne C (tgt := 30) h8 (by decide) (gdec kX4_readInto 13 rfl) (fun c9 => ?_) (fun c9 => ?_)
        · replace hf := ifp c9 hf
          refine g_aload_n C hl 0 rfl rfl (gdec kX4_readInto 14 rfl) ?_
          refine gf_X4_19 C h ho (gdec kX4_readInto 15 rfl) ?_
          exact g_iret C h hf (gdec kX4_readInto 16 rfl)
        · replace hf := ifn c9 hf
          refine g_aload_n C hl 0 rfl rfl (gdec kX4_readInto 17 rfl) ?_
          refine gf_X4_19 C h ho (gdec kX4_readInto 18 rfl) ?_
          refine g_aload_n C hl 0 rfl rfl (gdec kX4_readInto 19 rfl) ?_
          refine gf_X4_15 C h ho (gdec kX4_readInto 20 rfl) ?_
          obtain ⟨h10, hf⟩ := gd_s hf
          obtain ⟨h11, hf⟩ := gd_s hf
          refine g_icmp_ne C (tgt := 50) h10 h11 (by decide) (gdec kX4_readInto 21 rfl) (fun c12 => ?_) (fun c12 => ?_)
          · replace hf := ifp c12 hf
            refine g_aload_n C hl 1 rfl rfl (gdec kX4_readInto 22 rfl) ?_
            refine g_iload_n C hl 2 rfl rfl (gdec kX4_readInto 23 rfl) ?_
            refine g_iconst C (gdec kX4_readInto 24 rfl) ?_
            refine g_iadd C (gdec kX4_readInto 25 rfl) ?_
            refine gp_X4_32 C h hp1 (gdec kX4_readInto 26 rfl) (fun H locs h => ?_)
            refine g_iconst C (gdec kX4_readInto 27 rfl) ?_
            exact g_iret C h hf (gdec kX4_readInto 28 rfl)
          · replace hf := ifn c12 hf
            refine g_iinc C (k := 2) [(2, vI (x2 + 1)), (0, .ref (eA E 4 0)), (1, .ref (eA E 3 p1))] hl rfl (by decide) rfl (gdec kX4_readInto 29 rfl) (fun ls hl => ?_)
            refine g_goto C (tgt := 7) (by decide) (gdec kX4_readInto 30 rfl) ?_
            exact ih _ _ k hK H locs h ls (lv_sub hl [1, 2, 0] rfl) hf
      · replace hf := ifn c2 hf
        exact hK _ _ hf H locs h ls (lv_sub hl [0, 1, 2] rfl)
  unfold f_X4_readInto at hf
  refine g_aload_n C hl 0 rfl rfl (gdec kX4_readInto 0 rfl) ?_
  refine g_iconst C (gdec kX4_readInto 1 rfl) ?_
  refine gp_X4_19 C h ho (gdec kX4_readInto 2 rfl) (fun H locs h => ?_)
  refine g_iconst C (gdec kX4_readInto 3 rfl) ?_
  refine g_istore_n C [(2, vI 0), (0, .ref (eA E 4 0)), (1, .ref (eA E 3 p1))] hl rfl (by decide) rfl (gdec kX4_readInto 4 rfl) (fun ls hl => ?_)
  refine L7 gFuel _ _ _ (fun G14 y2_13 hf H locs h ls hl => ?_) H locs h ls (lv_sub hl [1, 2, 0] rfl) hf
  refine g_aload_n C hl 0 rfl rfl (gdec kX4_readInto 31 rfl) ?_
  refine gf_X4_19 C h ho (gdec kX4_readInto 32 rfl) ?_
  exact g_iret C h hf (gdec kX4_readInto 33 rfl)
def f_X7_parse (G : GS) : Option (GS × Int) :=
  bn1 (f_X3_restart G 1) (fun G1 => bnd (f_X4_readInto G1 1) (fun G3 r4 => gd r4 (if r4 = (-1) then bn1 (f_X0_save G3 0) (fun G8 => bn1 (f_X3_copyFrom G8 0 1) (fun G10 => some (G10, G10 3 0 4))) else some (G3, (-10) - r4))))
set_option maxHeartbeats 4000000 in
set_option maxRecDepth 100000 in
theorem c_X7_parse (l : Launch) (E : gEnv) (G : GS) (ho : gOk E 7 0) (Gz : GS) (rz : Int) (hf : f_X7_parse G = some (Gz, rz)) : gMet l yX7_parse cX7_parse 2 (some .int) 4 87 0 0 [.ref (eA E 7 0)] E G (gQi E Gz rz) := by
  refine g_met (by decide +kernel) (Nat.le_of_ble_eq_true rfl) ?_
  intro p e s m below meth c C H locs h ls hl
  have C : gC p s m _ meth c RX7 cX7_parse 2 (some .int) E := C
  have hl : lv_has ls 2 [(0, .ref (eA E 7 0))] := hl
  unfold f_X7_parse at hf
  refine g_aload_n C hl 0 rfl rfl (gdec kX7_parse 0 rfl) ?_
  refine gf_X7_16 C h ho (gdec kX7_parse 1 rfl) ?_
  obtain ⟨G1, q2, hf⟩ := bn1_s hf
  refine g_cv h (g_runV C h (gcl_7_1 C ho) (by decide) rfl (c_X3_restart l E _ _ (gcl_7_1 C ho) _ q2) wM_X7_181 wI_X3_restart wS_X3_restart wN_X3 wC_X3_restart rfl ny_X3_restart rfl ⟨Nat.le_of_ble_eq_true rfl, Nat.le_of_ble_eq_true rfl⟩ hl.1 rfl (Nat.le_of_ble_eq_true rfl) (gdec kX7_parse 2 rfl) ⟨Nat.zero_le _, Nat.zero_le _⟩) (fun H locs h => ?_)
  refine g_aload_n C hl 0 rfl rfl (gdec kX7_parse 3 rfl) ?_
  refine gf_X7_29 C h ho (gdec kX7_parse 4 rfl) ?_
  refine g_aload_n C hl 0 rfl rfl (gdec kX7_parse 5 rfl) ?_
  refine gf_X7_16 C h ho (gdec kX7_parse 6 rfl) ?_
  obtain ⟨G3, r4, q5, hf⟩ := bnd_s hf
  refine g_ci h (g_runV C h (gcl_7_3 C ho) (by decide) rfl (c_X4_readInto l E _ _ (gcl_7_3 C ho) (gcl_7_1 C ho) _ _ q5) wM_X7_184 wI_X4_readInto wS_X4_readInto wN_X4 wC_X4_readInto rfl ny_X4_readInto rfl ⟨Nat.le_of_ble_eq_true rfl, Nat.le_of_ble_eq_true rfl⟩ hl.1 rfl (Nat.le_of_ble_eq_true rfl) (gdec kX7_parse 7 rfl) ⟨Nat.zero_le _, Nat.zero_le _⟩) (fun H locs h => ?_)
  refine g_istore_n C [(1, vI r4), (0, .ref (eA E 7 0))] hl rfl (by decide) rfl (gdec kX7_parse 8 rfl) (fun ls hl => ?_)
  refine g_iload_n C hl 0 rfl rfl (gdec kX7_parse 9 rfl) ?_
  refine g_iconst C (gdec kX7_parse 10 rfl) ?_
  obtain ⟨h6, hf⟩ := gd_s hf
  refine g_icmp_eq C (tgt := 29) h6 (by decide) (by decide) (gdec kX7_parse 11 rfl) (fun c7 => ?_) (fun c7 => ?_)
  · replace hf := ifp c7 hf
    refine g_aload_n C hl 1 rfl rfl (gdec kX7_parse 16 rfl) ?_
    refine gf_X7_22 C h ho (gdec kX7_parse 17 rfl) ?_
    refine g_aload_n C hl 1 rfl rfl (gdec kX7_parse 18 rfl) ?_
    refine gf_X7_12 C h ho (gdec kX7_parse 19 rfl) ?_
    obtain ⟨G8, q9, hf⟩ := bn1_s hf
    refine g_cv h (g_runV C h (gcl_7_2 C ho) (by decide) rfl (c_X0_save l E _ _ (gcl_7_2 C ho) (gcl_7_0 C ho) _ q9) wM_X7_45 wI_X0_save wS_X0_save wN_X0 wC_X0_save rfl ny_X0_save rfl ⟨Nat.le_of_ble_eq_true rfl, Nat.le_of_ble_eq_true rfl⟩ hl.1 rfl (Nat.le_of_ble_eq_true rfl) (gdec kX7_parse 20 rfl) ⟨Nat.zero_le _, Nat.zero_le _⟩) (fun H locs h => ?_)
    refine g_aload_n C hl 1 rfl rfl (gdec kX7_parse 21 rfl) ?_
    refine gf_X7_12 C h ho (gdec kX7_parse 22 rfl) ?_
    refine g_aload_n C hl 1 rfl rfl (gdec kX7_parse 23 rfl) ?_
    refine gf_X7_16 C h ho (gdec kX7_parse 24 rfl) ?_
    obtain ⟨G10, q11, hf⟩ := bn1_s hf
    refine g_cv h (g_runV C h (gcl_7_0 C ho) (by decide) rfl (c_X3_copyFrom l E _ _ _ (gcl_7_0 C ho) (gcl_7_1 C ho) _ q11) wM_X7_143 wI_X3_copyFrom wS_X3_copyFrom wN_X3 wC_X3_copyFrom rfl ny_X3_copyFrom rfl ⟨Nat.le_of_ble_eq_true rfl, Nat.le_of_ble_eq_true rfl⟩ hl.1 rfl (Nat.le_of_ble_eq_true rfl) (gdec kX7_parse 25 rfl) ⟨Nat.zero_le _, Nat.zero_le _⟩) (fun H locs h => ?_)
    refine g_aload_n C hl 1 rfl rfl (gdec kX7_parse 26 rfl) ?_
    refine gf_X7_12 C h ho (gdec kX7_parse 27 rfl) ?_
    refine gf_X7_33 C h (gcl_7_0 C ho) (gdec kX7_parse 28 rfl) ?_
    exact g_iret C h hf (gdec kX7_parse 29 rfl)
  · replace hf := ifn c7 hf
    refine g_bipush C (gdec kX7_parse 12 rfl) rfl ?_
    refine g_iload_n C hl 0 rfl rfl (gdec kX7_parse 13 rfl) ?_
    refine g_isub C (gdec kX7_parse 14 rfl) ?_
    exact g_iret C h hf (gdec kX7_parse 15 rfl)
def f_X0_restore (G : GS) (p1 : Int) : Option (GS) :=
  ga ((gup G 0 0 1 ((G 0 0 1) - 1)) 0 0 1) 4 (ga ((gup G 0 0 1 ((G 0 0 1) - 1)) 12 0 ((gup G 0 0 1 ((G 0 0 1) - 1)) 0 0 1)) 6 (bn1 (f_X3_copyFrom (gup G 0 0 1 ((G 0 0 1) - 1)) p1 ((gup G 0 0 1 ((G 0 0 1) - 1)) 12 0 ((gup G 0 0 1 ((G 0 0 1) - 1)) 0 0 1))) (fun G4 => some G4)))
set_option maxHeartbeats 4000000 in
set_option maxRecDepth 100000 in
theorem c_X0_restore (l : Launch) (E : gEnv) (G : GS) (p1 : Int) (ho : gOk E 0 0) (hp1 : gOk E 3 p1) (Gz : GS) (hf : f_X0_restore G p1 = some Gz) : gMet l yX0_restore cX0_restore 2 none 3 66 0 0 [.ref (eA E 0 0), .ref (eA E 3 p1)] E G (gQv E Gz) := by
  refine g_met (by decide +kernel) (Nat.le_of_ble_eq_true rfl) ?_
  intro p e s m below meth c C H locs h ls hl
  have C : gC p s m _ meth c RX0 cX0_restore 2 none E := C
  have hl : lv_has ls 2 [(0, .ref (eA E 0 0)), (1, .ref (eA E 3 p1))] := hl
  unfold f_X0_restore at hf
  refine g_aload_n C hl 0 rfl rfl (gdec kX0_restore 0 rfl) ?_
  refine g_dup C rfl (gdec kX0_restore 1 rfl) ?_
  refine gf_X0_18 C h ho (gdec kX0_restore 2 rfl) ?_
  refine g_iconst C (gdec kX0_restore 3 rfl) ?_
  refine g_isub C (gdec kX0_restore 4 rfl) ?_
  refine gp_X0_18 C h ho (gdec kX0_restore 5 rfl) (fun H locs h => ?_)
  refine g_aload_n C hl 1 rfl rfl (gdec kX0_restore 6 rfl) ?_
  refine g_aload_n C hl 0 rfl rfl (gdec kX0_restore 7 rfl) ?_
  refine g_aload_n C hl 0 rfl rfl (gdec kX0_restore 8 rfl) ?_
  refine gf_X0_18 C h ho (gdec kX0_restore 9 rfl) ?_
  obtain ⟨h1, hf⟩ := ga_s hf
  obtain ⟨h2, hf⟩ := ga_s hf
  refine g_cr h (g_runV C h ho (by decide) rfl (c_X0_state l E _ _ ho _ (e_X0_state _ _ h1 h2)) wM_X0_25 wI_X0_state wS_X0_state wN_X0 wC_X0_state rfl ny_X0_state rfl ⟨Nat.le_of_ble_eq_true rfl, Nat.le_of_ble_eq_true rfl⟩ hl.1 rfl (Nat.le_of_ble_eq_true rfl) (gdec kX0_restore 10 rfl) ⟨Nat.zero_le _, Nat.zero_le _⟩) (fun H locs h => ?_)
  have k3 : gOk E 3 ((gup G 0 0 1 ((G 0 0 1) - 1)) 12 0 ((gup G 0 0 1 ((G 0 0 1) - 1)) 0 0 1)) := gok3 C (gcl_0_0 C ho) h2
  obtain ⟨G4, q5, hf⟩ := bn1_s hf
  refine g_cv h (g_runV C h hp1 (by decide) rfl (c_X3_copyFrom l E _ _ _ hp1 k3 _ q5) wM_X0_29 wI_X3_copyFrom wS_X3_copyFrom wN_X3 wC_X3_copyFrom rfl ny_X3_copyFrom rfl ⟨Nat.le_of_ble_eq_true rfl, Nat.le_of_ble_eq_true rfl⟩ hl.1 rfl (Nat.le_of_ble_eq_true rfl) (gdec kX0_restore 11 rfl) ⟨Nat.zero_le _, Nat.zero_le _⟩) (fun H locs h => ?_)
  exact g_vret C h hf (gdec kX0_restore 12 rfl)
def f_X7_undo (G : GS) : Option (GS × (Int × Int)) :=
  gd (G 0 0 1) (if (G 0 0 1) = 0 then some (G, (3, 0)) else bn1 (f_X0_restore G 0) (fun G3 => some (G3, (0, G3 0 0 1))))
set_option maxHeartbeats 4000000 in
set_option maxRecDepth 100000 in
theorem c_X7_undo (l : Launch) (E : gEnv) (G : GS) (ho : gOk E 7 0) (Gz : GS) (rz : Int) (hf : f_X7_undo G = some (Gz, (0, rz))) : gMet l yX7_undo cX7_undo 1 (some .int) 4 87 0 0 [.ref (eA E 7 0)] E G (gQi E Gz rz) := by
  refine g_met (by decide +kernel) (Nat.le_of_ble_eq_true rfl) ?_
  intro p e s m below meth c C H locs h ls hl
  have C : gC p s m _ meth c RX7 cX7_undo 1 (some .int) E := C
  have hl : lv_has ls 1 [(0, .ref (eA E 7 0))] := hl
  unfold f_X7_undo at hf
  refine g_aload_n C hl 0 rfl rfl (gdec kX7_undo 0 rfl) ?_
  refine gf_X7_22 C h ho (gdec kX7_undo 1 rfl) ?_
  refine gf_X7_188 C h (gcl_7_2 C ho) (gdec kX7_undo 2 rfl) ?_
  obtain ⟨h1, hf⟩ := gd_s hf
  refine g_if_ne C (tgt := 20) h1 (by decide) (gdec kX7_undo 3 rfl) (fun c2 => ?_) (fun c2 => ?_)
  · replace hf := ifp c2 hf
    exact absurd hf (gx_nw (by decide))
  · replace hf := ifn c2 hf
    refine g_aload_n C hl 0 rfl rfl (gdec kX7_undo 9 rfl) ?_
    refine gf_X7_22 C h ho (gdec kX7_undo 10 rfl) ?_
    refine g_aload_n C hl 0 rfl rfl (gdec kX7_undo 11 rfl) ?_
    refine gf_X7_12 C h ho (gdec kX7_undo 12 rfl) ?_
    obtain ⟨G3, q4, hf⟩ := bn1_s hf
    refine g_cv h (g_runV C h (gcl_7_2 C ho) (by decide) rfl (c_X0_restore l E _ _ (gcl_7_2 C ho) (gcl_7_0 C ho) _ q4) wM_X7_193 wI_X0_restore wS_X0_restore wN_X0 wC_X0_restore rfl ny_X0_restore rfl ⟨Nat.le_of_ble_eq_true rfl, Nat.le_of_ble_eq_true rfl⟩ hl.1 rfl (Nat.le_of_ble_eq_true rfl) (gdec kX7_undo 13 rfl) ⟨Nat.zero_le _, Nat.zero_le _⟩) (fun H locs h => ?_)
    refine g_aload_n C hl 0 rfl rfl (gdec kX7_undo 14 rfl) ?_
    refine gf_X7_22 C h ho (gdec kX7_undo 15 rfl) ?_
    refine gf_X7_188 C h (gcl_7_2 C ho) (gdec kX7_undo 16 rfl) ?_
    exact g_iret C h (gx_w hf) (gdec kX7_undo 17 rfl)
def f_X7_checkNumber (G : GS) (p1 : Int) (p2 : Int) : Option (Int) :=
  gd p1 (if p1 < 0 then some 1 else gd p2 (if p1 < p2 then some 0 else some 1))
set_option maxHeartbeats 4000000 in
set_option maxRecDepth 100000 in
theorem c_X7_checkNumber (l : Launch) (E : gEnv) (G : GS) (p1 : Int) (p2 : Int)  (hf : f_X7_checkNumber G p1 p2 = some 0) : gMet l yX7_checkNumber cX7_checkNumber 2 none 0 0 0 0 [vI p1, vI p2] E G (gQv E G) := by
  refine g_met (by decide +kernel) (Nat.le_of_ble_eq_true rfl) ?_
  intro p e s m below meth c C H locs h ls hl
  have C : gC p s m _ meth c RX7 cX7_checkNumber 2 none E := C
  have hl : lv_has ls 2 [(0, vI p1), (1, vI p2)] := hl
  unfold f_X7_checkNumber at hf
  refine g_iload_n C hl 0 rfl rfl (gdec kX7_checkNumber 0 rfl) ?_
  obtain ⟨h1, hf⟩ := gd_s hf
  refine g_if_lt C (tgt := 9) h1 (by decide) (gdec kX7_checkNumber 1 rfl) (fun c2 => ?_) (fun c2 => ?_)
  · replace hf := ifp c2 hf
    exact absurd hf (gx_n1 (by decide))
  · replace hf := ifn c2 hf
    refine g_iload_n C hl 0 rfl rfl (gdec kX7_checkNumber 2 rfl) ?_
    refine g_iload_n C hl 1 rfl rfl (gdec kX7_checkNumber 3 rfl) ?_
    obtain ⟨h3, hf⟩ := gd_s hf
    refine g_icmp_lt C (tgt := 19) h1 h3 (by decide) (gdec kX7_checkNumber 4 rfl) (fun c4 => ?_) (fun c4 => ?_)
    · replace hf := ifp c4 hf
      exact g_vret C h rfl (gdec kX7_checkNumber 10 rfl)
    · replace hf := ifn c4 hf
      exact absurd hf (gx_n1 (by decide))
def f_X7_setInn (G : GS) (p1 : Int) (p2 : Int) (p3 : Int) (p4 : Int) : Option (GS × (Int × Int)) :=
  bn1 (f_X7_checkNumber G p1 (G 3 0 4)) (fun x1 => if x1 = 0 then bn1 (f_X7_checkRange G p2 0 6) (fun x3 => if x3 = 0 then bn1 (f_X7_checkRange G p3 0 999) (fun x5 => if x5 = 0 then bn1 (f_X0_save G 0) (fun G7 => ga p1 8 (bn1 (f_X1_set G7 (8 * 0 + p1) p2 p3 p4) (fun G11 => some (G11, (0, G7 1 (8 * 0 + p1) 1))))) else some (G, (x5, 0))) else some (G, (x3, 0))) else some (G, (x1, 0)))
set_option maxHeartbeats 4000000 in
set_option maxRecDepth 100000 in
theorem c_X7_setInn (l : Launch) (E : gEnv) (G : GS) (p1 : Int) (p2 : Int) (p3 : Int) (p4 : Int) (ho : gOk E 7 0) (Gz : GS) (rz : Int) (hf : f_X7_setInn G p1 p2 p3 p4 = some (Gz, (0, rz))) : gMet l yX7_setInn cX7_setInn 7 (some .int) 4 87 0 0 [.ref (eA E 7 0), vI p1, vI p2, vI p3, vI p4] E G (gQi E Gz rz) := by
  refine g_met (by decide +kernel) (Nat.le_of_ble_eq_true rfl) ?_
  intro p e s m below meth c C H locs h ls hl
  have C : gC p s m _ meth c RX7 cX7_setInn 7 (some .int) E := C
  have hl : lv_has ls 7 [(0, .ref (eA E 7 0)), (1, vI p1), (2, vI p2), (3, vI p3), (4, vI p4)] := hl
  unfold f_X7_setInn at hf
  refine g_iload_n C hl 1 rfl rfl (gdec kX7_setInn 0 rfl) ?_
  refine g_aload_n C hl 0 rfl rfl (gdec kX7_setInn 1 rfl) ?_
  refine gf_X7_12 C h ho (gdec kX7_setInn 2 rfl) ?_
  refine gf_X7_33 C h (gcl_7_0 C ho) (gdec kX7_setInn 3 rfl) ?_
  obtain ⟨x1, q2, hf⟩ := bn1_s hf
  by_cases hx : x1 = 0
  rotate_left
  · exact absurd (ifn hx hf) (gx_nw hx)
  · subst hx
    replace hf := ifp rfl hf
    refine g_cv h (g_runS C h (c_X7_checkNumber l E _ _ _ q2) wM_X7_37 wT_X7_checkNumber wN_X7 wC_X7_checkNumber rfl ny_X7_checkNumber rfl ⟨Nat.le_of_ble_eq_true rfl, Nat.le_of_ble_eq_true rfl⟩ hl.1 rfl (Nat.le_of_ble_eq_true rfl) (gdec kX7_setInn 4 rfl) ⟨Nat.zero_le _, Nat.zero_le _⟩) (fun H locs h => ?_)
    refine g_iload_n C hl 2 rfl rfl (gdec kX7_setInn 5 rfl) ?_
    refine g_iconst C (gdec kX7_setInn 6 rfl) ?_
    refine g_bipush C (gdec kX7_setInn 7 rfl) rfl ?_
    obtain ⟨x3, q4, hf⟩ := bn1_s hf
    by_cases hx : x3 = 0
    rotate_left
    · exact absurd (ifn hx hf) (gx_nw hx)
    · subst hx
      replace hf := ifp rfl hf
      refine g_cv h (g_runS C h (c_X7_checkRange l E _ _ _ _ q4) wM_X7_41 wT_X7_checkRange wN_X7 wC_X7_checkRange rfl ny_X7_checkRange rfl ⟨Nat.le_of_ble_eq_true rfl, Nat.le_of_ble_eq_true rfl⟩ hl.1 rfl (Nat.le_of_ble_eq_true rfl) (gdec kX7_setInn 8 rfl) ⟨Nat.zero_le _, Nat.zero_le _⟩) (fun H locs h => ?_)
      refine g_iload_n C hl 3 rfl rfl (gdec kX7_setInn 9 rfl) ?_
      refine g_iconst C (gdec kX7_setInn 10 rfl) ?_
      refine g_sipush C (gdec kX7_setInn 11 rfl) rfl ?_
      obtain ⟨x5, q6, hf⟩ := bn1_s hf
      by_cases hx : x5 = 0
      rotate_left
      · exact absurd (ifn hx hf) (gx_nw hx)
      · subst hx
        replace hf := ifp rfl hf
        refine g_cv h (g_runS C h (c_X7_checkRange l E _ _ _ _ q6) wM_X7_41 wT_X7_checkRange wN_X7 wC_X7_checkRange rfl ny_X7_checkRange rfl ⟨Nat.le_of_ble_eq_true rfl, Nat.le_of_ble_eq_true rfl⟩ hl.1 rfl (Nat.le_of_ble_eq_true rfl) (gdec kX7_setInn 12 rfl) ⟨Nat.zero_le _, Nat.zero_le _⟩) (fun H locs h => ?_)
        refine g_aload_n C hl 0 rfl rfl (gdec kX7_setInn 13 rfl) ?_
        refine gf_X7_22 C h ho (gdec kX7_setInn 14 rfl) ?_
        refine g_aload_n C hl 0 rfl rfl (gdec kX7_setInn 15 rfl) ?_
        refine gf_X7_12 C h ho (gdec kX7_setInn 16 rfl) ?_
        obtain ⟨G7, q8, hf⟩ := bn1_s hf
        refine g_cv h (g_runV C h (gcl_7_2 C ho) (by decide) rfl (c_X0_save l E _ _ (gcl_7_2 C ho) (gcl_7_0 C ho) _ q8) wM_X7_45 wI_X0_save wS_X0_save wN_X0 wC_X0_save rfl ny_X0_save rfl ⟨Nat.le_of_ble_eq_true rfl, Nat.le_of_ble_eq_true rfl⟩ hl.1 rfl (Nat.le_of_ble_eq_true rfl) (gdec kX7_setInn 17 rfl) ⟨Nat.zero_le _, Nat.zero_le _⟩) (fun H locs h => ?_)
        refine g_aload_n C hl 0 rfl rfl (gdec kX7_setInn 18 rfl) ?_
        refine gf_X7_12 C h ho (gdec kX7_setInn 19 rfl) ?_
        refine g_iload_n C hl 1 rfl rfl (gdec kX7_setInn 20 rfl) ?_
        obtain ⟨h9, hf⟩ := ga_s hf
        refine g_cr h (g_runV C h (gcl_7_0 C ho) (by decide) rfl (c_X3_innRow l E _ _ _ (gcl_7_0 C ho) _ (e_X3_innRow _ _ _ h9)) wM_X7_62 wI_X3_innRow wS_X3_innRow wN_X3 wC_X3_innRow rfl ny_X3_innRow rfl ⟨Nat.le_of_ble_eq_true rfl, Nat.le_of_ble_eq_true rfl⟩ hl.1 rfl (Nat.le_of_ble_eq_true rfl) (gdec kX7_setInn 21 rfl) ⟨Nat.zero_le _, Nat.zero_le _⟩) (fun H locs h => ?_)
        have k10 : gOk E 1 (8 * 0 + p1) := gok1 C (gcl_3_1 C (gcl_7_0 C ho)) h9
        refine g_astore C [(5, .ref (eA E 1 (8 * 0 + p1))), (0, .ref (eA E 7 0)), (1, vI p1), (2, vI p2), (3, vI p3), (4, vI p4)] hl (by decide) rfl (gdec kX7_setInn 22 rfl) (fun ls hl => ?_)
        refine g_aload C hl 0 rfl (gdec kX7_setInn 23 rfl) ?_
        refine gf_X7_66 C h k10 (gdec kX7_setInn 24 rfl) ?_
        refine g_istore C [(6, vI (G7 1 (8 * 0 + p1) 1)), (5, .ref (eA E 1 (8 * 0 + p1))), (0, .ref (eA E 7 0)), (1, vI p1), (2, vI p2), (3, vI p3), (4, vI p4)] hl (by decide) rfl (gdec kX7_setInn 25 rfl) (fun ls hl => ?_)
        refine g_aload C hl 1 rfl (gdec kX7_setInn 26 rfl) ?_
        refine g_iload_n C hl 4 rfl rfl (gdec kX7_setInn 27 rfl) ?_
        refine g_iload_n C hl 5 rfl rfl (gdec kX7_setInn 28 rfl) ?_
        refine g_iload C hl 6 rfl (gdec kX7_setInn 29 rfl) ?_
        obtain ⟨G11, q12, hf⟩ := bn1_s hf
        refine g_cv h (g_runV C h k10 (by decide) rfl (c_X1_set l E _ _ _ _ _ k10 _ q12) wM_X7_71 wI_X1_set wS_X1_set wN_X1 wC_X1_set rfl ny_X1_set rfl ⟨Nat.le_of_ble_eq_true rfl, Nat.le_of_ble_eq_true rfl⟩ hl.1 rfl (Nat.le_of_ble_eq_true rfl) (gdec kX7_setInn 30 rfl) ⟨Nat.zero_le _, Nat.zero_le _⟩) (fun H locs h => ?_)
        refine g_iload C hl 0 rfl (gdec kX7_setInn 31 rfl) ?_
        exact g_iret C h (gx_w hf) (gdec kX7_setInn 32 rfl)
def f_X7_setStage (G : GS) (p1 : Int) (p2 : Int) (p3 : Int) (p4 : Int) : Option (GS × (Int × Int)) :=
  bn1 (f_X7_checkNumber G p1 ((G 3 0 4) - 1)) (fun x1 => if x1 = 0 then bn1 (f_X7_checkRange G p2 1 9) (fun x3 => if x3 = 0 then bn1 (f_X7_checkRange G p3 (-5) 5) (fun x5 => if x5 = 0 then bn1 (f_X0_save G 0) (fun G7 => ga p1 7 (bn1 (f_X5_set G7 (7 * 0 + p1) p2 p3 p4) (fun G11 => some (G11, (0, G7 5 (7 * 0 + p1) 0))))) else some (G, (x5, 0))) else some (G, (x3, 0))) else some (G, (x1, 0)))
set_option maxHeartbeats 4000000 in
set_option maxRecDepth 100000 in
theorem c_X7_setStage (l : Launch) (E : gEnv) (G : GS) (p1 : Int) (p2 : Int) (p3 : Int) (p4 : Int) (ho : gOk E 7 0) (Gz : GS) (rz : Int) (hf : f_X7_setStage G p1 p2 p3 p4 = some (Gz, (0, rz))) : gMet l yX7_setStage cX7_setStage 7 (some .int) 4 87 0 0 [.ref (eA E 7 0), vI p1, vI p2, vI p3, vI p4] E G (gQi E Gz rz) := by
  refine g_met (by decide +kernel) (Nat.le_of_ble_eq_true rfl) ?_
  intro p e s m below meth c C H locs h ls hl
  have C : gC p s m _ meth c RX7 cX7_setStage 7 (some .int) E := C
  have hl : lv_has ls 7 [(0, .ref (eA E 7 0)), (1, vI p1), (2, vI p2), (3, vI p3), (4, vI p4)] := hl
  unfold f_X7_setStage at hf
  refine g_iload_n C hl 1 rfl rfl (gdec kX7_setStage 0 rfl) ?_
  refine g_aload_n C hl 0 rfl rfl (gdec kX7_setStage 1 rfl) ?_
  refine gf_X7_12 C h ho (gdec kX7_setStage 2 rfl) ?_
  refine gf_X7_33 C h (gcl_7_0 C ho) (gdec kX7_setStage 3 rfl) ?_
  refine g_iconst C (gdec kX7_setStage 4 rfl) ?_
  refine g_isub C (gdec kX7_setStage 5 rfl) ?_
  obtain ⟨x1, q2, hf⟩ := bn1_s hf
  by_cases hx : x1 = 0
  rotate_left
  · exact absurd (ifn hx hf) (gx_nw hx)
  · subst hx
    replace hf := ifp rfl hf
    refine g_cv h (g_runS C h (c_X7_checkNumber l E _ _ _ q2) wM_X7_37 wT_X7_checkNumber wN_X7 wC_X7_checkNumber rfl ny_X7_checkNumber rfl ⟨Nat.le_of_ble_eq_true rfl, Nat.le_of_ble_eq_true rfl⟩ hl.1 rfl (Nat.le_of_ble_eq_true rfl) (gdec kX7_setStage 6 rfl) ⟨Nat.zero_le _, Nat.zero_le _⟩) (fun H locs h => ?_)
    refine g_iload_n C hl 2 rfl rfl (gdec kX7_setStage 7 rfl) ?_
    refine g_iconst C (gdec kX7_setStage 8 rfl) ?_
    refine g_bipush C (gdec kX7_setStage 9 rfl) rfl ?_
    obtain ⟨x3, q4, hf⟩ := bn1_s hf
    by_cases hx : x3 = 0
    rotate_left
    · exact absurd (ifn hx hf) (gx_nw hx)
    · subst hx
      replace hf := ifp rfl hf
      refine g_cv h (g_runS C h (c_X7_checkRange l E _ _ _ _ q4) wM_X7_41 wT_X7_checkRange wN_X7 wC_X7_checkRange rfl ny_X7_checkRange rfl ⟨Nat.le_of_ble_eq_true rfl, Nat.le_of_ble_eq_true rfl⟩ hl.1 rfl (Nat.le_of_ble_eq_true rfl) (gdec kX7_setStage 10 rfl) ⟨Nat.zero_le _, Nat.zero_le _⟩) (fun H locs h => ?_)
      refine g_iload_n C hl 3 rfl rfl (gdec kX7_setStage 11 rfl) ?_
      refine g_bipush C (gdec kX7_setStage 12 rfl) rfl ?_
      refine g_iconst C (gdec kX7_setStage 13 rfl) ?_
      obtain ⟨x5, q6, hf⟩ := bn1_s hf
      by_cases hx : x5 = 0
      rotate_left
      · exact absurd (ifn hx hf) (gx_nw hx)
      · subst hx
        replace hf := ifp rfl hf
        refine g_cv h (g_runS C h (c_X7_checkRange l E _ _ _ _ q6) wM_X7_41 wT_X7_checkRange wN_X7 wC_X7_checkRange rfl ny_X7_checkRange rfl ⟨Nat.le_of_ble_eq_true rfl, Nat.le_of_ble_eq_true rfl⟩ hl.1 rfl (Nat.le_of_ble_eq_true rfl) (gdec kX7_setStage 14 rfl) ⟨Nat.zero_le _, Nat.zero_le _⟩) (fun H locs h => ?_)
        refine g_aload_n C hl 0 rfl rfl (gdec kX7_setStage 15 rfl) ?_
        refine gf_X7_22 C h ho (gdec kX7_setStage 16 rfl) ?_
        refine g_aload_n C hl 0 rfl rfl (gdec kX7_setStage 17 rfl) ?_
        refine gf_X7_12 C h ho (gdec kX7_setStage 18 rfl) ?_
        obtain ⟨G7, q8, hf⟩ := bn1_s hf
        refine g_cv h (g_runV C h (gcl_7_2 C ho) (by decide) rfl (c_X0_save l E _ _ (gcl_7_2 C ho) (gcl_7_0 C ho) _ q8) wM_X7_45 wI_X0_save wS_X0_save wN_X0 wC_X0_save rfl ny_X0_save rfl ⟨Nat.le_of_ble_eq_true rfl, Nat.le_of_ble_eq_true rfl⟩ hl.1 rfl (Nat.le_of_ble_eq_true rfl) (gdec kX7_setStage 19 rfl) ⟨Nat.zero_le _, Nat.zero_le _⟩) (fun H locs h => ?_)
        refine g_aload_n C hl 0 rfl rfl (gdec kX7_setStage 20 rfl) ?_
        refine gf_X7_12 C h ho (gdec kX7_setStage 21 rfl) ?_
        refine g_iload_n C hl 1 rfl rfl (gdec kX7_setStage 22 rfl) ?_
        obtain ⟨h9, hf⟩ := ga_s hf
        refine g_cr h (g_runV C h (gcl_7_0 C ho) (by decide) rfl (c_X3_stageRow l E _ _ _ (gcl_7_0 C ho) _ (e_X3_stageRow _ _ _ h9)) wM_X7_49 wI_X3_stageRow wS_X3_stageRow wN_X3 wC_X3_stageRow rfl ny_X3_stageRow rfl ⟨Nat.le_of_ble_eq_true rfl, Nat.le_of_ble_eq_true rfl⟩ hl.1 rfl (Nat.le_of_ble_eq_true rfl) (gdec kX7_setStage 23 rfl) ⟨Nat.zero_le _, Nat.zero_le _⟩) (fun H locs h => ?_)
        have k10 : gOk E 5 (7 * 0 + p1) := gok5 C (gcl_3_0 C (gcl_7_0 C ho)) h9
        refine g_astore C [(5, .ref (eA E 5 (7 * 0 + p1))), (0, .ref (eA E 7 0)), (1, vI p1), (2, vI p2), (3, vI p3), (4, vI p4)] hl (by decide) rfl (gdec kX7_setStage 24 rfl) (fun ls hl => ?_)
        refine g_aload C hl 0 rfl (gdec kX7_setStage 25 rfl) ?_
        refine gf_X7_53 C h k10 (gdec kX7_setStage 26 rfl) ?_
        refine g_istore C [(6, vI (G7 5 (7 * 0 + p1) 0)), (5, .ref (eA E 5 (7 * 0 + p1))), (0, .ref (eA E 7 0)), (1, vI p1), (2, vI p2), (3, vI p3), (4, vI p4)] hl (by decide) rfl (gdec kX7_setStage 27 rfl) (fun ls hl => ?_)
        refine g_aload C hl 1 rfl (gdec kX7_setStage 28 rfl) ?_
        refine g_iload_n C hl 4 rfl rfl (gdec kX7_setStage 29 rfl) ?_
        refine g_iload_n C hl 5 rfl rfl (gdec kX7_setStage 30 rfl) ?_
        refine g_iload C hl 6 rfl (gdec kX7_setStage 31 rfl) ?_
        obtain ⟨G11, q12, hf⟩ := bn1_s hf
        refine g_cv h (g_runV C h k10 (by decide) rfl (c_X5_set l E _ _ _ _ _ k10 _ q12) wM_X7_58 wI_X5_set wS_X5_set wN_X5 wC_X5_set rfl ny_X5_set rfl ⟨Nat.le_of_ble_eq_true rfl, Nat.le_of_ble_eq_true rfl⟩ hl.1 rfl (Nat.le_of_ble_eq_true rfl) (gdec kX7_setStage 32 rfl) ⟨Nat.zero_le _, Nat.zero_le _⟩) (fun H locs h => ?_)
        refine g_iload C hl 0 rfl (gdec kX7_setStage 33 rfl) ?_
        exact g_iret C h (gx_w hf) (gdec kX7_setStage 34 rfl)
def f_X7_checkRoom (G : GS) (p1 : Int) (p2 : Int) : Option (Int) :=
  gd p1 (gd p2 (if p1 < p2 then some 0 else some 3))
set_option maxHeartbeats 4000000 in
set_option maxRecDepth 100000 in
theorem c_X7_checkRoom (l : Launch) (E : gEnv) (G : GS) (p1 : Int) (p2 : Int)  (hf : f_X7_checkRoom G p1 p2 = some 0) : gMet l yX7_checkRoom cX7_checkRoom 2 none 0 0 0 0 [vI p1, vI p2] E G (gQv E G) := by
  refine g_met (by decide +kernel) (Nat.le_of_ble_eq_true rfl) ?_
  intro p e s m below meth c C H locs h ls hl
  have C : gC p s m _ meth c RX7 cX7_checkRoom 2 none E := C
  have hl : lv_has ls 2 [(0, vI p1), (1, vI p2)] := hl
  unfold f_X7_checkRoom at hf
  refine g_iload_n C hl 0 rfl rfl (gdec kX7_checkRoom 0 rfl) ?_
  refine g_iload_n C hl 1 rfl rfl (gdec kX7_checkRoom 1 rfl) ?_
  obtain ⟨h1, hf⟩ := gd_s hf
  obtain ⟨h2, hf⟩ := gd_s hf
  refine g_icmp_lt C (tgt := 15) h1 h2 (by decide) (gdec kX7_checkRoom 2 rfl) (fun c3 => ?_) (fun c3 => ?_)
  · replace hf := ifp c3 hf
    exact g_vret C h rfl (gdec kX7_checkRoom 8 rfl)
  · replace hf := ifn c3 hf
    exact absurd hf (gx_n1 (by decide))
def f_X6_begin (G : GS) (o : Int) (p1 : Int) (p2 : Int) : Option (GS) :=
  bn1 (f_X6_stand (gup (gup G 6 o 0 p1) 6 o 1 p2) o p1) (fun G1 => some (gup (gup (gup (gup (gup G1 6 o 4 0) 6 o 8 0) 6 o 9 0) 6 o 10 0) 6 o 11 0))
set_option maxHeartbeats 4000000 in
set_option maxRecDepth 100000 in
theorem c_X6_begin (l : Launch) (E : gEnv) (G : GS) (o : Int) (p1 : Int) (p2 : Int) (ho : gOk E 6 o) (Gz : GS) (hf : f_X6_begin G o p1 p2 = some Gz) : gMet l yX6_begin cX6_begin 3 none 1 21 0 0 [.ref (eA E 6 o), vI p1, vI p2] E G (gQv E Gz) := by
  refine g_met (by decide +kernel) (Nat.le_of_ble_eq_true rfl) ?_
  intro p e s m below meth c C H locs h ls hl
  have C : gC p s m _ meth c RX6 cX6_begin 3 none E := C
  have hl : lv_has ls 3 [(0, .ref (eA E 6 o)), (1, vI p1), (2, vI p2)] := hl
  unfold f_X6_begin at hf
  refine g_aload_n C hl 0 rfl rfl (gdec kX6_begin 0 rfl) ?_
  refine g_iload_n C hl 1 rfl rfl (gdec kX6_begin 1 rfl) ?_
  refine gp_X6_9 C h ho (gdec kX6_begin 2 rfl) (fun H locs h => ?_)
  refine g_aload_n C hl 0 rfl rfl (gdec kX6_begin 3 rfl) ?_
  refine g_iload_n C hl 2 rfl rfl (gdec kX6_begin 4 rfl) ?_
  refine gp_X6_15 C h ho (gdec kX6_begin 5 rfl) (fun H locs h => ?_)
  refine g_aload_n C hl 0 rfl rfl (gdec kX6_begin 6 rfl) ?_
  refine g_iload_n C hl 1 rfl rfl (gdec kX6_begin 7 rfl) ?_
  obtain ⟨G1, q2, hf⟩ := bn1_s hf
  refine g_cv h (g_runV C h ho (by decide) rfl (c_X6_stand l E _ _ _ ho _ q2) wM_X6_18 wI_X6_stand wS_X6_stand wN_X6 wC_X6_stand rfl ny_X6_stand rfl ⟨Nat.le_of_ble_eq_true rfl, Nat.le_of_ble_eq_true rfl⟩ hl.1 rfl (Nat.le_of_ble_eq_true rfl) (gdec kX6_begin 8 rfl) ⟨Nat.zero_le _, Nat.zero_le _⟩) (fun H locs h => ?_)
  refine g_aload_n C hl 0 rfl rfl (gdec kX6_begin 9 rfl) ?_
  refine g_iconst C (gdec kX6_begin 10 rfl) ?_
  refine gp_X6_22 C h ho (Or.inl rfl) (gdec kX6_begin 11 rfl) (fun H locs h => ?_)
  refine g_aload_n C hl 0 rfl rfl (gdec kX6_begin 12 rfl) ?_
  refine g_iconst C (gdec kX6_begin 13 rfl) ?_
  refine gp_X6_26 C h ho (gdec kX6_begin 14 rfl) (fun H locs h => ?_)
  refine g_aload_n C hl 0 rfl rfl (gdec kX6_begin 15 rfl) ?_
  refine g_iconst C (gdec kX6_begin 16 rfl) ?_
  refine gp_X6_29 C h ho (gdec kX6_begin 17 rfl) (fun H locs h => ?_)
  refine g_aload_n C hl 0 rfl rfl (gdec kX6_begin 18 rfl) ?_
  refine g_iconst C (gdec kX6_begin 19 rfl) ?_
  refine gp_X6_32 C h ho (gdec kX6_begin 20 rfl) (fun H locs h => ?_)
  refine g_aload_n C hl 0 rfl rfl (gdec kX6_begin 21 rfl) ?_
  refine g_iconst C (gdec kX6_begin 22 rfl) ?_
  refine gp_X6_35 C h ho (gdec kX6_begin 23 rfl) (fun H locs h => ?_)
  exact g_vret C h hf (gdec kX6_begin 24 rfl)
def f_X3_placeTeam (G : GS) (o : Int) (p1 : Int) (p2 : Int) : Option (GS × Int) :=
  ga (G 3 o 5) 10 (bn1 (f_X6_begin G (10 * o + (G 3 o 5)) p1 p2) (fun G3 => some ((gup G3 3 o 5 ((G3 3 o 5) + 1)), ((gup G3 3 o 5 ((G3 3 o 5) + 1)) 3 o 5) - 1)))
set_option maxHeartbeats 4000000 in
set_option maxRecDepth 100000 in
theorem c_X3_placeTeam (l : Launch) (E : gEnv) (G : GS) (o : Int) (p1 : Int) (p2 : Int) (ho : gOk E 3 o) (Gz : GS) (rz : Int) (hf : f_X3_placeTeam G o p1 p2 = some (Gz, rz)) : gMet l yX3_placeTeam cX3_placeTeam 3 (some .int) 2 43 0 0 [.ref (eA E 3 o), vI p1, vI p2] E G (gQi E Gz rz) := by
  refine g_met (by decide +kernel) (Nat.le_of_ble_eq_true rfl) ?_
  intro p e s m below meth c C H locs h ls hl
  have C : gC p s m _ meth c RX3 cX3_placeTeam 3 (some .int) E := C
  have hl : lv_has ls 3 [(0, .ref (eA E 3 o)), (1, vI p1), (2, vI p2)] := hl
  unfold f_X3_placeTeam at hf
  refine g_aload_n C hl 0 rfl rfl (gdec kX3_placeTeam 0 rfl) ?_
  refine g_aload_n C hl 0 rfl rfl (gdec kX3_placeTeam 1 rfl) ?_
  refine gf_X3_51 C h ho (gdec kX3_placeTeam 2 rfl) ?_
  obtain ⟨h1, hf⟩ := ga_s hf
  refine g_cr h (g_runV C h ho (by decide) rfl (c_X3_teamRow l E _ _ _ ho _ (e_X3_teamRow _ _ _ h1)) wM_X3_82 wI_X3_teamRow wS_X3_teamRow wN_X3 wC_X3_teamRow rfl ny_X3_teamRow rfl ⟨Nat.le_of_ble_eq_true rfl, Nat.le_of_ble_eq_true rfl⟩ hl.1 rfl (Nat.le_of_ble_eq_true rfl) (gdec kX3_placeTeam 3 rfl) ⟨Nat.zero_le _, Nat.zero_le _⟩) (fun H locs h => ?_)
  have k2 : gOk E 6 (10 * o + (G 3 o 5)) := gok6 C (gcl_3_2 C ho) h1
  refine g_iload_n C hl 1 rfl rfl (gdec kX3_placeTeam 4 rfl) ?_
  refine g_iload_n C hl 2 rfl rfl (gdec kX3_placeTeam 5 rfl) ?_
  obtain ⟨G3, q4, hf⟩ := bn1_s hf
  refine g_cv h (g_runV C h k2 (by decide) rfl (c_X6_begin l E _ _ _ _ k2 _ q4) wM_X3_96 wI_X6_begin wS_X6_begin wN_X6 wC_X6_begin rfl ny_X6_begin rfl ⟨Nat.le_of_ble_eq_true rfl, Nat.le_of_ble_eq_true rfl⟩ hl.1 rfl (Nat.le_of_ble_eq_true rfl) (gdec kX3_placeTeam 6 rfl) ⟨Nat.zero_le _, Nat.zero_le _⟩) (fun H locs h => ?_)
  refine g_aload_n C hl 0 rfl rfl (gdec kX3_placeTeam 7 rfl) ?_
  refine g_dup C rfl (gdec kX3_placeTeam 8 rfl) ?_
  refine gf_X3_51 C h ho (gdec kX3_placeTeam 9 rfl) ?_
  refine g_iconst C (gdec kX3_placeTeam 10 rfl) ?_
  refine g_iadd C (gdec kX3_placeTeam 11 rfl) ?_
  refine gp_X3_51 C h ho (gdec kX3_placeTeam 12 rfl) (fun H locs h => ?_)
  refine g_aload_n C hl 0 rfl rfl (gdec kX3_placeTeam 13 rfl) ?_
  refine gf_X3_51 C h ho (gdec kX3_placeTeam 14 rfl) ?_
  refine g_iconst C (gdec kX3_placeTeam 15 rfl) ?_
  refine g_isub C (gdec kX3_placeTeam 16 rfl) ?_
  exact g_iret C h hf (gdec kX3_placeTeam 17 rfl)
def f_X7_addTeam (G : GS) (p1 : Int) (p2 : Int) : Option (GS × (Int × Int)) :=
  bn1 (f_X7_checkNumber G p1 (G 3 0 4)) (fun x1 => if x1 = 0 then bn1 (f_X7_checkRange G p2 0 100) (fun x3 => if x3 = 0 then bn1 (f_X7_checkRoom G (G 3 0 5) 10) (fun x5 => if x5 = 0 then bn1 (f_X0_save G 0) (fun G7 => bnd (f_X3_placeTeam G7 0 p1 p2) (fun G9 r10 => some (G9, (0, r10)))) else some (G, (x5, 0))) else some (G, (x3, 0))) else some (G, (x1, 0)))
set_option maxHeartbeats 4000000 in
set_option maxRecDepth 100000 in
theorem c_X7_addTeam (l : Launch) (E : gEnv) (G : GS) (p1 : Int) (p2 : Int) (ho : gOk E 7 0) (Gz : GS) (rz : Int) (hf : f_X7_addTeam G p1 p2 = some (Gz, (0, rz))) : gMet l yX7_addTeam cX7_addTeam 3 (some .int) 4 87 0 0 [.ref (eA E 7 0), vI p1, vI p2] E G (gQi E Gz rz) := by
  refine g_met (by decide +kernel) (Nat.le_of_ble_eq_true rfl) ?_
  intro p e s m below meth c C H locs h ls hl
  have C : gC p s m _ meth c RX7 cX7_addTeam 3 (some .int) E := C
  have hl : lv_has ls 3 [(0, .ref (eA E 7 0)), (1, vI p1), (2, vI p2)] := hl
  unfold f_X7_addTeam at hf
  refine g_iload_n C hl 1 rfl rfl (gdec kX7_addTeam 0 rfl) ?_
  refine g_aload_n C hl 0 rfl rfl (gdec kX7_addTeam 1 rfl) ?_
  refine gf_X7_12 C h ho (gdec kX7_addTeam 2 rfl) ?_
  refine gf_X7_33 C h (gcl_7_0 C ho) (gdec kX7_addTeam 3 rfl) ?_
  obtain ⟨x1, q2, hf⟩ := bn1_s hf
  by_cases hx : x1 = 0
  rotate_left
  · exact absurd (ifn hx hf) (gx_nw hx)
  · subst hx
    replace hf := ifp rfl hf
    refine g_cv h (g_runS C h (c_X7_checkNumber l E _ _ _ q2) wM_X7_37 wT_X7_checkNumber wN_X7 wC_X7_checkNumber rfl ny_X7_checkNumber rfl ⟨Nat.le_of_ble_eq_true rfl, Nat.le_of_ble_eq_true rfl⟩ hl.1 rfl (Nat.le_of_ble_eq_true rfl) (gdec kX7_addTeam 4 rfl) ⟨Nat.zero_le _, Nat.zero_le _⟩) (fun H locs h => ?_)
    refine g_iload_n C hl 2 rfl rfl (gdec kX7_addTeam 5 rfl) ?_
    refine g_iconst C (gdec kX7_addTeam 6 rfl) ?_
    refine g_bipush C (gdec kX7_addTeam 7 rfl) rfl ?_
    obtain ⟨x3, q4, hf⟩ := bn1_s hf
    by_cases hx : x3 = 0
    rotate_left
    · exact absurd (ifn hx hf) (gx_nw hx)
    · subst hx
      replace hf := ifp rfl hf
      refine g_cv h (g_runS C h (c_X7_checkRange l E _ _ _ _ q4) wM_X7_41 wT_X7_checkRange wN_X7 wC_X7_checkRange rfl ny_X7_checkRange rfl ⟨Nat.le_of_ble_eq_true rfl, Nat.le_of_ble_eq_true rfl⟩ hl.1 rfl (Nat.le_of_ble_eq_true rfl) (gdec kX7_addTeam 8 rfl) ⟨Nat.zero_le _, Nat.zero_le _⟩) (fun H locs h => ?_)
      refine g_aload_n C hl 0 rfl rfl (gdec kX7_addTeam 9 rfl) ?_
      refine gf_X7_12 C h ho (gdec kX7_addTeam 10 rfl) ?_
      refine gf_X7_72 C h (gcl_7_0 C ho) (gdec kX7_addTeam 11 rfl) ?_
      refine g_bipush C (gdec kX7_addTeam 12 rfl) rfl ?_
      obtain ⟨x5, q6, hf⟩ := bn1_s hf
      by_cases hx : x5 = 0
      rotate_left
      · exact absurd (ifn hx hf) (gx_nw hx)
      · subst hx
        replace hf := ifp rfl hf
        refine g_cv h (g_runS C h (c_X7_checkRoom l E _ _ _ q6) wM_X7_75 wT_X7_checkRoom wN_X7 wC_X7_checkRoom rfl ny_X7_checkRoom rfl ⟨Nat.le_of_ble_eq_true rfl, Nat.le_of_ble_eq_true rfl⟩ hl.1 rfl (Nat.le_of_ble_eq_true rfl) (gdec kX7_addTeam 13 rfl) ⟨Nat.zero_le _, Nat.zero_le _⟩) (fun H locs h => ?_)
        refine g_aload_n C hl 0 rfl rfl (gdec kX7_addTeam 14 rfl) ?_
        refine gf_X7_22 C h ho (gdec kX7_addTeam 15 rfl) ?_
        refine g_aload_n C hl 0 rfl rfl (gdec kX7_addTeam 16 rfl) ?_
        refine gf_X7_12 C h ho (gdec kX7_addTeam 17 rfl) ?_
        obtain ⟨G7, q8, hf⟩ := bn1_s hf
        refine g_cv h (g_runV C h (gcl_7_2 C ho) (by decide) rfl (c_X0_save l E _ _ (gcl_7_2 C ho) (gcl_7_0 C ho) _ q8) wM_X7_45 wI_X0_save wS_X0_save wN_X0 wC_X0_save rfl ny_X0_save rfl ⟨Nat.le_of_ble_eq_true rfl, Nat.le_of_ble_eq_true rfl⟩ hl.1 rfl (Nat.le_of_ble_eq_true rfl) (gdec kX7_addTeam 18 rfl) ⟨Nat.zero_le _, Nat.zero_le _⟩) (fun H locs h => ?_)
        refine g_aload_n C hl 0 rfl rfl (gdec kX7_addTeam 19 rfl) ?_
        refine gf_X7_12 C h ho (gdec kX7_addTeam 20 rfl) ?_
        refine g_iload_n C hl 1 rfl rfl (gdec kX7_addTeam 21 rfl) ?_
        refine g_iload_n C hl 2 rfl rfl (gdec kX7_addTeam 22 rfl) ?_
        obtain ⟨G9, r10, q11, hf⟩ := bnd_s hf
        refine g_ci h (g_runV C h (gcl_7_0 C ho) (by decide) rfl (c_X3_placeTeam l E _ _ _ _ (gcl_7_0 C ho) _ _ q11) wM_X7_78 wI_X3_placeTeam wS_X3_placeTeam wN_X3 wC_X3_placeTeam rfl ny_X3_placeTeam rfl ⟨Nat.le_of_ble_eq_true rfl, Nat.le_of_ble_eq_true rfl⟩ hl.1 rfl (Nat.le_of_ble_eq_true rfl) (gdec kX7_addTeam 23 rfl) ⟨Nat.zero_le _, Nat.zero_le _⟩) (fun H locs h => ?_)
        exact g_iret C h (gx_w hf) (gdec kX7_addTeam 24 rfl)
def f_X2_begin (G : GS) (o : Int) (p1 : Int) (p2 : Int) (p3 : Int) (p4 : Int) : Option (GS) :=
  gb p3 (some (gup (gup (gup (gup (gup (gup (gup (gup G 2 o 0 p1) 2 o 1 p2) 2 o 2 p3) 2 o 3 p4) 2 o 4 p1) 2 o 5 (-1)) 2 o 6 (-1)) 2 o 7 0))
set_option maxHeartbeats 4000000 in
set_option maxRecDepth 100000 in
theorem c_X2_begin (l : Launch) (E : gEnv) (G : GS) (o : Int) (p1 : Int) (p2 : Int) (p3 : Int) (p4 : Int) (ho : gOk E 2 o) (Gz : GS) (hf : f_X2_begin G o p1 p2 p3 p4 = some Gz) : gMet l yX2_begin cX2_begin 5 none 0 0 0 0 [.ref (eA E 2 o), vI p1, vI p2, vI p3, vI p4] E G (gQv E Gz) := by
  refine g_met (by decide +kernel) (Nat.le_of_ble_eq_true rfl) ?_
  intro p e s m below meth c C H locs h ls hl
  have C : gC p s m _ meth c RX2 cX2_begin 5 none E := C
  have hl : lv_has ls 5 [(0, .ref (eA E 2 o)), (1, vI p1), (2, vI p2), (3, vI p3), (4, vI p4)] := hl
  unfold f_X2_begin at hf
  refine g_aload_n C hl 0 rfl rfl (gdec kX2_begin 0 rfl) ?_
  refine g_iload_n C hl 1 rfl rfl (gdec kX2_begin 1 rfl) ?_
  refine gp_X2_9 C h ho (gdec kX2_begin 2 rfl) (fun H locs h => ?_)
  refine g_aload_n C hl 0 rfl rfl (gdec kX2_begin 3 rfl) ?_
  refine g_iload_n C hl 2 rfl rfl (gdec kX2_begin 4 rfl) ?_
  refine gp_X2_15 C h ho (gdec kX2_begin 5 rfl) (fun H locs h => ?_)
  refine g_aload_n C hl 0 rfl rfl (gdec kX2_begin 6 rfl) ?_
  refine g_iload_n C hl 3 rfl rfl (gdec kX2_begin 7 rfl) ?_
  obtain ⟨h1, hf⟩ := gb_s hf
  refine gp_X2_18 C h ho h1 (gdec kX2_begin 8 rfl) (fun H locs h => ?_)
  refine g_aload_n C hl 0 rfl rfl (gdec kX2_begin 9 rfl) ?_
  refine g_iload C hl 4 rfl (gdec kX2_begin 10 rfl) ?_
  refine gp_X2_22 C h ho (gdec kX2_begin 11 rfl) (fun H locs h => ?_)
  refine g_aload_n C hl 0 rfl rfl (gdec kX2_begin 12 rfl) ?_
  refine g_iload_n C hl 1 rfl rfl (gdec kX2_begin 13 rfl) ?_
  refine gp_X2_25 C h ho (gdec kX2_begin 14 rfl) (fun H locs h => ?_)
  refine g_aload_n C hl 0 rfl rfl (gdec kX2_begin 15 rfl) ?_
  refine g_iconst C (gdec kX2_begin 16 rfl) ?_
  refine gp_X2_28 C h ho (gdec kX2_begin 17 rfl) (fun H locs h => ?_)
  refine g_aload_n C hl 0 rfl rfl (gdec kX2_begin 18 rfl) ?_
  refine g_iconst C (gdec kX2_begin 19 rfl) ?_
  refine gp_X2_31 C h ho (gdec kX2_begin 20 rfl) (fun H locs h => ?_)
  refine g_aload_n C hl 0 rfl rfl (gdec kX2_begin 21 rfl) ?_
  refine g_iconst C (gdec kX2_begin 22 rfl) ?_
  refine gp_X2_34 C h ho (gdec kX2_begin 23 rfl) (fun H locs h => ?_)
  exact g_vret C h hf (gdec kX2_begin 24 rfl)
def f_X3_placeLetter (G : GS) (o : Int) (p1 : Int) (p2 : Int) (p3 : Int) : Option (GS × Int) :=
  ga (G 3 o 6) 12 (bn1 (f_X2_begin G (12 * o + (G 3 o 6)) p1 p2 p3 (G 3 o 7)) (fun G3 => some ((gup G3 3 o 6 ((G3 3 o 6) + 1)), ((gup G3 3 o 6 ((G3 3 o 6) + 1)) 3 o 6) - 1)))
set_option maxHeartbeats 4000000 in
set_option maxRecDepth 100000 in
theorem c_X3_placeLetter (l : Launch) (E : gEnv) (G : GS) (o : Int) (p1 : Int) (p2 : Int) (p3 : Int) (ho : gOk E 3 o) (Gz : GS) (rz : Int) (hf : f_X3_placeLetter G o p1 p2 p3 = some (Gz, rz)) : gMet l yX3_placeLetter cX3_placeLetter 4 (some .int) 1 24 0 0 [.ref (eA E 3 o), vI p1, vI p2, vI p3] E G (gQi E Gz rz) := by
  refine g_met (by decide +kernel) (Nat.le_of_ble_eq_true rfl) ?_
  intro p e s m below meth c C H locs h ls hl
  have C : gC p s m _ meth c RX3 cX3_placeLetter 4 (some .int) E := C
  have hl : lv_has ls 4 [(0, .ref (eA E 3 o)), (1, vI p1), (2, vI p2), (3, vI p3)] := hl
  unfold f_X3_placeLetter at hf
  refine g_aload_n C hl 0 rfl rfl (gdec kX3_placeLetter 0 rfl) ?_
  refine g_aload_n C hl 0 rfl rfl (gdec kX3_placeLetter 1 rfl) ?_
  refine gf_X3_54 C h ho (gdec kX3_placeLetter 2 rfl) ?_
  obtain ⟨h1, hf⟩ := ga_s hf
  refine g_cr h (g_runV C h ho (by decide) rfl (c_X3_letterRow l E _ _ _ ho _ (e_X3_letterRow _ _ _ h1)) wM_X3_89 wI_X3_letterRow wS_X3_letterRow wN_X3 wC_X3_letterRow rfl ny_X3_letterRow rfl ⟨Nat.le_of_ble_eq_true rfl, Nat.le_of_ble_eq_true rfl⟩ hl.1 rfl (Nat.le_of_ble_eq_true rfl) (gdec kX3_placeLetter 3 rfl) ⟨Nat.zero_le _, Nat.zero_le _⟩) (fun H locs h => ?_)
  have k2 : gOk E 2 (12 * o + (G 3 o 6)) := gok2 C (gcl_3_3 C ho) h1
  refine g_iload_n C hl 1 rfl rfl (gdec kX3_placeLetter 4 rfl) ?_
  refine g_iload_n C hl 2 rfl rfl (gdec kX3_placeLetter 5 rfl) ?_
  refine g_iload_n C hl 3 rfl rfl (gdec kX3_placeLetter 6 rfl) ?_
  refine g_aload_n C hl 0 rfl rfl (gdec kX3_placeLetter 7 rfl) ?_
  refine gf_X3_57 C h ho (gdec kX3_placeLetter 8 rfl) ?_
  obtain ⟨G3, q4, hf⟩ := bn1_s hf
  refine g_cv h (g_runV C h k2 (by decide) rfl (c_X2_begin l E _ _ _ _ _ _ k2 _ q4) wM_X3_100 wI_X2_begin wS_X2_begin wN_X2 wC_X2_begin rfl ny_X2_begin rfl ⟨Nat.le_of_ble_eq_true rfl, Nat.le_of_ble_eq_true rfl⟩ hl.1 rfl (Nat.le_of_ble_eq_true rfl) (gdec kX3_placeLetter 9 rfl) ⟨Nat.zero_le _, Nat.zero_le _⟩) (fun H locs h => ?_)
  refine g_aload_n C hl 0 rfl rfl (gdec kX3_placeLetter 10 rfl) ?_
  refine g_dup C rfl (gdec kX3_placeLetter 11 rfl) ?_
  refine gf_X3_54 C h ho (gdec kX3_placeLetter 12 rfl) ?_
  refine g_iconst C (gdec kX3_placeLetter 13 rfl) ?_
  refine g_iadd C (gdec kX3_placeLetter 14 rfl) ?_
  refine gp_X3_54 C h ho (gdec kX3_placeLetter 15 rfl) (fun H locs h => ?_)
  refine g_aload_n C hl 0 rfl rfl (gdec kX3_placeLetter 16 rfl) ?_
  refine gf_X3_54 C h ho (gdec kX3_placeLetter 17 rfl) ?_
  refine g_iconst C (gdec kX3_placeLetter 18 rfl) ?_
  refine g_isub C (gdec kX3_placeLetter 19 rfl) ?_
  exact g_iret C h hf (gdec kX3_placeLetter 20 rfl)
def f_X7_give (G : GS) (p1 : Int) (p2 : Int) (p3 : Int) : Option (GS × (Int × Int)) :=
  bn1 (f_X7_checkNumber G p1 (G 3 0 4)) (fun x1 => if x1 = 0 then bn1 (f_X7_checkNumber G p2 (G 3 0 4)) (fun x3 => if x3 = 0 then gd p1 (gd p2 (if p1 = p2 then some (G, (2, 0)) else bn1 (f_X7_checkRoom G (G 3 0 6) 12) (fun x8 => if x8 = 0 then bn1 (f_X0_save G 0) (fun G10 => bnd (f_X3_placeLetter G10 0 p1 p2 p3) (fun G12 r13 => some (G12, (0, r13)))) else some (G, (x8, 0))))) else some (G, (x3, 0))) else some (G, (x1, 0)))
set_option maxHeartbeats 4000000 in
set_option maxRecDepth 100000 in
theorem c_X7_give (l : Launch) (E : gEnv) (G : GS) (p1 : Int) (p2 : Int) (p3 : Int) (ho : gOk E 7 0) (Gz : GS) (rz : Int) (hf : f_X7_give G p1 p2 p3 = some (Gz, (0, rz))) : gMet l yX7_give cX7_give 4 (some .int) 4 87 0 0 [.ref (eA E 7 0), vI p1, vI p2, vI p3] E G (gQi E Gz rz) := by
  refine g_met (by decide +kernel) (Nat.le_of_ble_eq_true rfl) ?_
  intro p e s m below meth c C H locs h ls hl
  have C : gC p s m _ meth c RX7 cX7_give 4 (some .int) E := C
  have hl : lv_has ls 4 [(0, .ref (eA E 7 0)), (1, vI p1), (2, vI p2), (3, vI p3)] := hl
  unfold f_X7_give at hf
  refine g_iload_n C hl 1 rfl rfl (gdec kX7_give 0 rfl) ?_
  refine g_aload_n C hl 0 rfl rfl (gdec kX7_give 1 rfl) ?_
  refine gf_X7_12 C h ho (gdec kX7_give 2 rfl) ?_
  refine gf_X7_33 C h (gcl_7_0 C ho) (gdec kX7_give 3 rfl) ?_
  obtain ⟨x1, q2, hf⟩ := bn1_s hf
  by_cases hx : x1 = 0
  rotate_left
  · exact absurd (ifn hx hf) (gx_nw hx)
  · subst hx
    replace hf := ifp rfl hf
    refine g_cv h (g_runS C h (c_X7_checkNumber l E _ _ _ q2) wM_X7_37 wT_X7_checkNumber wN_X7 wC_X7_checkNumber rfl ny_X7_checkNumber rfl ⟨Nat.le_of_ble_eq_true rfl, Nat.le_of_ble_eq_true rfl⟩ hl.1 rfl (Nat.le_of_ble_eq_true rfl) (gdec kX7_give 4 rfl) ⟨Nat.zero_le _, Nat.zero_le _⟩) (fun H locs h => ?_)
    refine g_iload_n C hl 2 rfl rfl (gdec kX7_give 5 rfl) ?_
    refine g_aload_n C hl 0 rfl rfl (gdec kX7_give 6 rfl) ?_
    refine gf_X7_12 C h ho (gdec kX7_give 7 rfl) ?_
    refine gf_X7_33 C h (gcl_7_0 C ho) (gdec kX7_give 8 rfl) ?_
    obtain ⟨x3, q4, hf⟩ := bn1_s hf
    by_cases hx : x3 = 0
    rotate_left
    · exact absurd (ifn hx hf) (gx_nw hx)
    · subst hx
      replace hf := ifp rfl hf
      refine g_cv h (g_runS C h (c_X7_checkNumber l E _ _ _ q4) wM_X7_37 wT_X7_checkNumber wN_X7 wC_X7_checkNumber rfl ny_X7_checkNumber rfl ⟨Nat.le_of_ble_eq_true rfl, Nat.le_of_ble_eq_true rfl⟩ hl.1 rfl (Nat.le_of_ble_eq_true rfl) (gdec kX7_give 9 rfl) ⟨Nat.zero_le _, Nat.zero_le _⟩) (fun H locs h => ?_)
      refine g_iload_n C hl 1 rfl rfl (gdec kX7_give 10 rfl) ?_
      refine g_iload_n C hl 2 rfl rfl (gdec kX7_give 11 rfl) ?_
      obtain ⟨h5, hf⟩ := gd_s hf
      obtain ⟨h6, hf⟩ := gd_s hf
      refine g_icmp_ne C (tgt := 37) h5 h6 (by decide) (gdec kX7_give 12 rfl) (fun c7 => ?_) (fun c7 => ?_)
      · replace hf := ifp c7 hf
        exact absurd hf (gx_nw (by decide))
      · replace hf := ifn c7 hf
        refine g_aload_n C hl 0 rfl rfl (gdec kX7_give 18 rfl) ?_
        refine gf_X7_12 C h ho (gdec kX7_give 19 rfl) ?_
        refine gf_X7_89 C h (gcl_7_0 C ho) (gdec kX7_give 20 rfl) ?_
        refine g_bipush C (gdec kX7_give 21 rfl) rfl ?_
        obtain ⟨x8, q9, hf⟩ := bn1_s hf
        by_cases hx : x8 = 0
        rotate_left
        · exact absurd (ifn hx hf) (gx_nw hx)
        · subst hx
          replace hf := ifp rfl hf
          refine g_cv h (g_runS C h (c_X7_checkRoom l E _ _ _ q9) wM_X7_75 wT_X7_checkRoom wN_X7 wC_X7_checkRoom rfl ny_X7_checkRoom rfl ⟨Nat.le_of_ble_eq_true rfl, Nat.le_of_ble_eq_true rfl⟩ hl.1 rfl (Nat.le_of_ble_eq_true rfl) (gdec kX7_give 22 rfl) ⟨Nat.zero_le _, Nat.zero_le _⟩) (fun H locs h => ?_)
          refine g_aload_n C hl 0 rfl rfl (gdec kX7_give 23 rfl) ?_
          refine gf_X7_22 C h ho (gdec kX7_give 24 rfl) ?_
          refine g_aload_n C hl 0 rfl rfl (gdec kX7_give 25 rfl) ?_
          refine gf_X7_12 C h ho (gdec kX7_give 26 rfl) ?_
          obtain ⟨G10, q11, hf⟩ := bn1_s hf
          refine g_cv h (g_runV C h (gcl_7_2 C ho) (by decide) rfl (c_X0_save l E _ _ (gcl_7_2 C ho) (gcl_7_0 C ho) _ q11) wM_X7_45 wI_X0_save wS_X0_save wN_X0 wC_X0_save rfl ny_X0_save rfl ⟨Nat.le_of_ble_eq_true rfl, Nat.le_of_ble_eq_true rfl⟩ hl.1 rfl (Nat.le_of_ble_eq_true rfl) (gdec kX7_give 27 rfl) ⟨Nat.zero_le _, Nat.zero_le _⟩) (fun H locs h => ?_)
          refine g_aload_n C hl 0 rfl rfl (gdec kX7_give 28 rfl) ?_
          refine gf_X7_12 C h ho (gdec kX7_give 29 rfl) ?_
          refine g_iload_n C hl 1 rfl rfl (gdec kX7_give 30 rfl) ?_
          refine g_iload_n C hl 2 rfl rfl (gdec kX7_give 31 rfl) ?_
          refine g_iload_n C hl 3 rfl rfl (gdec kX7_give 32 rfl) ?_
          obtain ⟨G12, r13, q14, hf⟩ := bnd_s hf
          refine g_ci h (g_runV C h (gcl_7_0 C ho) (by decide) rfl (c_X3_placeLetter l E _ _ _ _ _ (gcl_7_0 C ho) _ _ q14) wM_X7_92 wI_X3_placeLetter wS_X3_placeLetter wN_X3 wC_X3_placeLetter rfl ny_X3_placeLetter rfl ⟨Nat.le_of_ble_eq_true rfl, Nat.le_of_ble_eq_true rfl⟩ hl.1 rfl (Nat.le_of_ble_eq_true rfl) (gdec kX7_give 33 rfl) ⟨Nat.zero_le _, Nat.zero_le _⟩) (fun H locs h => ?_)
          exact g_iret C h (gx_w hf) (gdec kX7_give 34 rfl)
def f_X3_takeDelivered_L4 (o : Int) : Nat → GS → Int → Int → (GS → Int → Int → Option (GS × Int)) → Option (GS × Int)
  | 0, _, _, _, _ => none
  | n + 1, G, x1, x2, k => gd x2 (gd (G 3 o 6) (if x2 < (G 3 o 6) then ga x2 12 (bn1 (f_X2_isDelivered G (12 * o + x2)) (fun r6 => gd r6 (if r6 = 0 then ga x1 12 (bn1 (f_X2_copyFrom G (12 * o + x1) (12 * o + x2)) (fun G12 => bn1 (f_X2_isOnStage G12 (12 * o + x2)) (fun r14 => gd r14 (if r14 = 0 then f_X3_takeDelivered_L4 o n G12 (x1 + 1) (x2 + 1) k else ga (G12 2 (12 * o + x2) 5) 10 (f_X3_takeDelivered_L4 o n (gup G12 6 (10 * o + (G12 2 (12 * o + x2) 5)) 6 x1) (x1 + 1) (x2 + 1) k))))) else f_X3_takeDelivered_L4 o n G x1 (x2 + 1) k))) else k G x1 x2))
def f_X3_takeDelivered (G : GS) (o : Int) : Option (GS × Int) :=
  f_X3_takeDelivered_L4 o gFuel G 0 0 (fun G21 y1_20 y2_20 => some ((gup G21 3 o 6 y1_20), (G21 3 o 6) - y1_20))
set_option maxHeartbeats 4000000 in
set_option maxRecDepth 100000 in
theorem c_X3_takeDelivered (l : Launch) (E : gEnv) (G : GS) (o : Int) (ho : gOk E 3 o) (Gz : GS) (rz : Int) (hf : f_X3_takeDelivered G o = some (Gz, rz)) : gMet l yX3_takeDelivered cX3_takeDelivered 4 (some .int) 1 21 0 0 [.ref (eA E 3 o)] E G (gQi E Gz rz) := by
  refine g_met (by decide +kernel) (Nat.le_of_ble_eq_true rfl) ?_
  intro p e s m below meth c C H locs h ls hl
  have C : gC p s m _ meth c RX3 cX3_takeDelivered 4 (some .int) E := C
  have hl : lv_has ls 4 [(0, .ref (eA E 3 o))] := hl
  have L4 : ∀ (n : Nat) (G : GS) (x1 : Int) (x2 : Int) (k : (GS → Int → Int → Option (GS × Int))) (hK : ∀ (G : GS) (x1 : Int) (x2 : Int), k G x1 x2 = some (Gz, rz) → ∀ (H : Heap) (locs : List Loc), gH E s G H locs → ∀ ls, lv_has ls 4 [(0, .ref (eA E 3 o)), (1, vI x1), (2, vI x2)] → W p l e (gRm 1 21 0 0) s m ([.ref (eA E 3 o)] : List Value).toArray below meth c H locs 0 0 (MQ below (gQi E Gz rz) ([.ref (eA E 3 o)] : List Value).toArray s 0 0 (eF E)) (F0 m 62 ls [])), ∀ (H : Heap) (locs : List Loc), gH E s G H locs → ∀ ls, lv_has ls 4 [(0, .ref (eA E 3 o)), (1, vI x1), (2, vI x2)] → f_X3_takeDelivered_L4 o n G x1 x2 k = some (Gz, rz) → W p l e (gRm 1 21 0 0) s m ([.ref (eA E 3 o)] : List Value).toArray below meth c H locs 0 0 (MQ below (gQi E Gz rz) ([.ref (eA E 3 o)] : List Value).toArray s 0 0 (eF E)) (F0 m 4 ls []) := by
    intro n
    induction n with
    | zero =>
      intro G x1 x2 k hK H locs h ls hl hf
      exact absurd hf (by simp [f_X3_takeDelivered_L4])
    | succ n ih =>
      intro G x1 x2 k hK H locs h ls hl hf
      unfold f_X3_takeDelivered_L4 at hf
      refine g_iload_n C hl 2 rfl rfl (gdec kX3_takeDelivered 4 rfl) ?_
      refine g_aload_n C hl 0 rfl rfl (gdec kX3_takeDelivered 5 rfl) ?_
      refine gf_X3_54 C h ho (gdec kX3_takeDelivered 6 rfl) ?_
      obtain ⟨h1, hf⟩ := gd_s hf
      obtain ⟨h2, hf⟩ := gd_s hf
      refine g_icmp_ge C (tgt := 62) h1 h2 (by decide) (gdec kX3_takeDelivered 7 rfl) (fun c3 => ?_) (fun c3 => ?_)
      · replace hf := ifp c3 hf
        refine g_aload_n C hl 0 rfl rfl (gdec kX3_takeDelivered 8 rfl) ?_
        refine g_iload_n C hl 2 rfl rfl (gdec kX3_takeDelivered 9 rfl) ?_
        obtain ⟨h4, hf⟩ := ga_s hf
        refine g_cr h (g_runV C h ho (by decide) rfl (c_X3_letterRow l E _ _ _ ho _ (e_X3_letterRow _ _ _ h4)) wM_X3_89 wI_X3_letterRow wS_X3_letterRow wN_X3 wC_X3_letterRow rfl ny_X3_letterRow rfl ⟨Nat.le_of_ble_eq_true rfl, Nat.le_of_ble_eq_true rfl⟩ hl.1 rfl (Nat.le_of_ble_eq_true rfl) (gdec kX3_takeDelivered 10 rfl) ⟨Nat.zero_le _, Nat.zero_le _⟩) (fun H locs h => ?_)
        have k5 : gOk E 2 (12 * o + x2) := gok2 C (gcl_3_3 C ho) h4
        refine g_astore_n C [(3, .ref (eA E 2 (12 * o + x2))), (0, .ref (eA E 3 o)), (1, vI x1), (2, vI x2)] hl rfl (by decide) rfl (gdec kX3_takeDelivered 11 rfl) (fun ls hl => ?_)
        refine g_aload_n C hl 0 rfl rfl (gdec kX3_takeDelivered 12 rfl) ?_
        obtain ⟨r6, q7, hf⟩ := bn1_s hf
        refine g_ci h (g_runV C h k5 (by decide) rfl (c_X2_isDelivered l E _ _ k5 _ q7) wM_X3_103 wI_X2_isDelivered wS_X2_isDelivered wN_X2 wC_X2_isDelivered rfl ny_X2_isDelivered rfl ⟨Nat.le_of_ble_eq_true rfl, Nat.le_of_ble_eq_true rfl⟩ hl.1 rfl (Nat.le_of_ble_eq_true rfl) (gdec kX3_takeDelivered 13 rfl) ⟨Nat.zero_le _, Nat.zero_le _⟩) (fun H locs h => ?_)
        obtain ⟨h8, hf⟩ := gd_s hf
        refine g_if_ne C (tgt := 56) h8 (by decide) (gdec kX3_takeDelivered 14 rfl) (fun c9 => ?_) (fun c9 => ?_)
        · replace hf := ifp c9 hf
          refine g_aload_n C hl 1 rfl rfl (gdec kX3_takeDelivered 15 rfl) ?_
          refine g_iload_n C hl 2 rfl rfl (gdec kX3_takeDelivered 16 rfl) ?_
          obtain ⟨h10, hf⟩ := ga_s hf
          refine g_cr h (g_runV C h ho (by decide) rfl (c_X3_letterRow l E _ _ _ ho _ (e_X3_letterRow _ _ _ h10)) wM_X3_89 wI_X3_letterRow wS_X3_letterRow wN_X3 wC_X3_letterRow rfl ny_X3_letterRow rfl ⟨Nat.le_of_ble_eq_true rfl, Nat.le_of_ble_eq_true rfl⟩ hl.1 rfl (Nat.le_of_ble_eq_true rfl) (gdec kX3_takeDelivered 17 rfl) ⟨Nat.zero_le _, Nat.zero_le _⟩) (fun H locs h => ?_)
          have k11 : gOk E 2 (12 * o + x1) := gok2 C (gcl_3_3 C ho) h10
          refine g_aload_n C hl 0 rfl rfl (gdec kX3_takeDelivered 18 rfl) ?_
          obtain ⟨G12, q13, hf⟩ := bn1_s hf
          refine g_cv h (g_runV C h k11 (by decide) rfl (c_X2_copyFrom l E _ _ _ k11 k5 _ q13) wM_X3_93 wI_X2_copyFrom wS_X2_copyFrom wN_X2 wC_X2_copyFrom rfl ny_X2_copyFrom rfl ⟨Nat.le_of_ble_eq_true rfl, Nat.le_of_ble_eq_true rfl⟩ hl.1 rfl (Nat.le_of_ble_eq_true rfl) (gdec kX3_takeDelivered 19 rfl) ⟨Nat.zero_le _, Nat.zero_le _⟩) (fun H locs h => ?_)
          refine g_aload_n C hl 0 rfl rfl (gdec kX3_takeDelivered 20 rfl) ?_
          obtain ⟨r14, q15, hf⟩ := bn1_s hf
          refine g_ci h (g_runV C h k5 (by decide) rfl (c_X2_isOnStage l E _ _ k5 _ q15) wM_X3_107 wI_X2_isOnStage wS_X2_isOnStage wN_X2 wC_X2_isOnStage rfl ny_X2_isOnStage rfl ⟨Nat.le_of_ble_eq_true rfl, Nat.le_of_ble_eq_true rfl⟩ hl.1 rfl (Nat.le_of_ble_eq_true rfl) (gdec kX3_takeDelivered 21 rfl) ⟨Nat.zero_le _, Nat.zero_le _⟩) (fun H locs h => ?_)
          obtain ⟨h16, hf⟩ := gd_s hf
          refine g_if_eq C (tgt := 53) h16 (by decide) (gdec kX3_takeDelivered 22 rfl) (fun c17 => ?_) (fun c17 => ?_)
          · replace hf := ifp c17 hf
            refine g_iinc C (k := 2) [(1, vI (x1 + 1)), (3, .ref (eA E 2 (12 * o + x2))), (0, .ref (eA E 3 o)), (2, vI x2)] hl rfl (by decide) rfl (gdec kX3_takeDelivered 29 rfl) (fun ls hl => ?_)
            refine g_iinc C (k := 3) [(2, vI (x2 + 1)), (1, vI (x1 + 1)), (3, .ref (eA E 2 (12 * o + x2))), (0, .ref (eA E 3 o))] hl rfl (by decide) rfl (gdec kX3_takeDelivered 30 rfl) (fun ls hl => ?_)
            refine g_goto C (tgt := 4) (by decide) (gdec kX3_takeDelivered 31 rfl) ?_
            exact ih _ _ _ k hK H locs h ls (lv_sub hl [3, 1, 0] rfl) hf
          · replace hf := ifn c17 hf
            refine g_aload_n C hl 1 rfl rfl (gdec kX3_takeDelivered 23 rfl) ?_
            refine g_aload_n C hl 0 rfl rfl (gdec kX3_takeDelivered 24 rfl) ?_
            refine gf_X3_110 C h k5 (gdec kX3_takeDelivered 25 rfl) ?_
            obtain ⟨h18, hf⟩ := ga_s hf
            refine g_cr h (g_runV C h ho (by decide) rfl (c_X3_teamRow l E _ _ _ ho _ (e_X3_teamRow _ _ _ h18)) wM_X3_82 wI_X3_teamRow wS_X3_teamRow wN_X3 wC_X3_teamRow rfl ny_X3_teamRow rfl ⟨Nat.le_of_ble_eq_true rfl, Nat.le_of_ble_eq_true rfl⟩ hl.1 rfl (Nat.le_of_ble_eq_true rfl) (gdec kX3_takeDelivered 26 rfl) ⟨Nat.zero_le _, Nat.zero_le _⟩) (fun H locs h => ?_)
            have k19 : gOk E 6 (10 * o + (G12 2 (12 * o + x2) 5)) := gok6 C (gcl_3_2 C ho) h18
            refine g_iload_n C hl 2 rfl rfl (gdec kX3_takeDelivered 27 rfl) ?_
            refine gp_X3_113 C h k19 (gdec kX3_takeDelivered 28 rfl) (fun H locs h => ?_)
            refine g_iinc C (k := 2) [(1, vI (x1 + 1)), (3, .ref (eA E 2 (12 * o + x2))), (0, .ref (eA E 3 o)), (2, vI x2)] hl rfl (by decide) rfl (gdec kX3_takeDelivered 29 rfl) (fun ls hl => ?_)
            refine g_iinc C (k := 3) [(2, vI (x2 + 1)), (1, vI (x1 + 1)), (3, .ref (eA E 2 (12 * o + x2))), (0, .ref (eA E 3 o))] hl rfl (by decide) rfl (gdec kX3_takeDelivered 30 rfl) (fun ls hl => ?_)
            refine g_goto C (tgt := 4) (by decide) (gdec kX3_takeDelivered 31 rfl) ?_
            exact ih _ _ _ k hK H locs h ls (lv_sub hl [3, 1, 0] rfl) hf
        · replace hf := ifn c9 hf
          refine g_iinc C (k := 3) [(2, vI (x2 + 1)), (3, .ref (eA E 2 (12 * o + x2))), (0, .ref (eA E 3 o)), (1, vI x1)] hl rfl (by decide) rfl (gdec kX3_takeDelivered 30 rfl) (fun ls hl => ?_)
          refine g_goto C (tgt := 4) (by decide) (gdec kX3_takeDelivered 31 rfl) ?_
          exact ih _ _ _ k hK H locs h ls (lv_sub hl [2, 3, 0] rfl) hf
      · replace hf := ifn c3 hf
        exact hK _ _ _ hf H locs h ls (lv_sub hl [0, 1, 2] rfl)
  unfold f_X3_takeDelivered at hf
  refine g_iconst C (gdec kX3_takeDelivered 0 rfl) ?_
  refine g_istore_n C [(1, vI 0), (0, .ref (eA E 3 o))] hl rfl (by decide) rfl (gdec kX3_takeDelivered 1 rfl) (fun ls hl => ?_)
  refine g_iconst C (gdec kX3_takeDelivered 2 rfl) ?_
  refine g_istore_n C [(2, vI 0), (1, vI 0), (0, .ref (eA E 3 o))] hl rfl (by decide) rfl (gdec kX3_takeDelivered 3 rfl) (fun ls hl => ?_)
  refine L4 gFuel _ _ _ _ (fun G21 y1_20 y2_20 hf H locs h ls hl => ?_) H locs h ls (lv_sub hl [2, 1, 0] rfl) hf
  refine g_aload_n C hl 0 rfl rfl (gdec kX3_takeDelivered 32 rfl) ?_
  refine gf_X3_54 C h ho (gdec kX3_takeDelivered 33 rfl) ?_
  refine g_iload_n C hl 1 rfl rfl (gdec kX3_takeDelivered 34 rfl) ?_
  refine g_isub C (gdec kX3_takeDelivered 35 rfl) ?_
  refine g_istore_n C [(2, vI ((G21 3 o 6) - y1_20)), (0, .ref (eA E 3 o)), (1, vI y1_20)] hl rfl (by decide) rfl (gdec kX3_takeDelivered 36 rfl) (fun ls hl => ?_)
  refine g_aload_n C hl 1 rfl rfl (gdec kX3_takeDelivered 37 rfl) ?_
  refine g_iload_n C hl 2 rfl rfl (gdec kX3_takeDelivered 38 rfl) ?_
  refine gp_X3_54 C h ho (gdec kX3_takeDelivered 39 rfl) (fun H locs h => ?_)
  refine g_iload_n C hl 0 rfl rfl (gdec kX3_takeDelivered 40 rfl) ?_
  exact g_iret C h hf (gdec kX3_takeDelivered 41 rfl)
def f_X7_collect (G : GS) : Option (GS × Int) :=
  bn1 (f_X0_save G 0) (fun G1 => bnd (f_X3_takeDelivered G1 0) (fun G3 r4 => some (G3, r4)))
set_option maxHeartbeats 4000000 in
set_option maxRecDepth 100000 in
theorem c_X7_collect (l : Launch) (E : gEnv) (G : GS) (ho : gOk E 7 0) (Gz : GS) (rz : Int) (hf : f_X7_collect G = some (Gz, rz)) : gMet l yX7_collect cX7_collect 1 (some .int) 4 87 0 0 [.ref (eA E 7 0)] E G (gQi E Gz rz) := by
  refine g_met (by decide +kernel) (Nat.le_of_ble_eq_true rfl) ?_
  intro p e s m below meth c C H locs h ls hl
  have C : gC p s m _ meth c RX7 cX7_collect 1 (some .int) E := C
  have hl : lv_has ls 1 [(0, .ref (eA E 7 0))] := hl
  unfold f_X7_collect at hf
  refine g_aload_n C hl 0 rfl rfl (gdec kX7_collect 0 rfl) ?_
  refine gf_X7_22 C h ho (gdec kX7_collect 1 rfl) ?_
  refine g_aload_n C hl 0 rfl rfl (gdec kX7_collect 2 rfl) ?_
  refine gf_X7_12 C h ho (gdec kX7_collect 3 rfl) ?_
  obtain ⟨G1, q2, hf⟩ := bn1_s hf
  refine g_cv h (g_runV C h (gcl_7_2 C ho) (by decide) rfl (c_X0_save l E _ _ (gcl_7_2 C ho) (gcl_7_0 C ho) _ q2) wM_X7_45 wI_X0_save wS_X0_save wN_X0 wC_X0_save rfl ny_X0_save rfl ⟨Nat.le_of_ble_eq_true rfl, Nat.le_of_ble_eq_true rfl⟩ hl.1 rfl (Nat.le_of_ble_eq_true rfl) (gdec kX7_collect 4 rfl) ⟨Nat.zero_le _, Nat.zero_le _⟩) (fun H locs h => ?_)
  refine g_aload_n C hl 0 rfl rfl (gdec kX7_collect 5 rfl) ?_
  refine gf_X7_12 C h ho (gdec kX7_collect 6 rfl) ?_
  obtain ⟨G3, r4, q5, hf⟩ := bnd_s hf
  refine g_ci h (g_runV C h (gcl_7_0 C ho) (by decide) rfl (c_X3_takeDelivered l E _ _ (gcl_7_0 C ho) _ _ q5) wM_X7_96 wI_X3_takeDelivered wS_X3_takeDelivered wN_X3 wC_X3_takeDelivered rfl ny_X3_takeDelivered rfl ⟨Nat.le_of_ble_eq_true rfl, Nat.le_of_ble_eq_true rfl⟩ hl.1 rfl (Nat.le_of_ble_eq_true rfl) (gdec kX7_collect 7 rfl) ⟨Nat.zero_le _, Nat.zero_le _⟩) (fun H locs h => ?_)
  exact g_iret C h hf (gdec kX7_collect 8 rfl)
def f_X7_meanTiredness_L16 (G : GS) : Nat → Int → Int → (Int → Int → Option (UInt64)) → Option (UInt64)
  | 0, _, _, _ => none
  | n + 1, x1, x2, k => gd x2 (gd (G 3 0 5) (if x2 < (G 3 0 5) then ga x2 10 (f_X7_meanTiredness_L16 G n (x1 + (G 6 (10 * 0 + x2) 1)) (x2 + 1) k) else k x1 x2))
def f_X7_meanTiredness (G : GS) : Option (UInt64) :=
  gd (G 3 0 5) (if (G 3 0 5) = 0 then some 0 else f_X7_meanTiredness_L16 G gFuel 0 0 (fun y1_8 y2_8 => gn (FP.ddiv (FP.i2d (Int32.ofInt y1_8)) (FP.i2d (Int32.ofInt (G 3 0 5)))) (some (FP.ddiv (FP.i2d (Int32.ofInt y1_8)) (FP.i2d (Int32.ofInt (G 3 0 5)))))))
set_option maxHeartbeats 4000000 in
set_option maxRecDepth 100000 in
theorem c_X7_meanTiredness (l : Launch) (E : gEnv) (G : GS) (ho : gOk E 7 0) (rz : UInt64) (hf : f_X7_meanTiredness G = some rz) : gMet l yX7_meanTiredness cX7_meanTiredness 3 (some .double) 1 21 0 0 [.ref (eA E 7 0)] E G (gQd E G rz) := by
  refine g_met (by decide +kernel) (Nat.le_of_ble_eq_true rfl) ?_
  intro p e s m below meth c C H locs h ls hl
  have C : gC p s m _ meth c RX7 cX7_meanTiredness 3 (some .double) E := C
  have hl : lv_has ls 3 [(0, .ref (eA E 7 0))] := hl
  have L16 : ∀ (n : Nat) (x1 : Int) (x2 : Int) (k : (Int → Int → Option (UInt64))) (hK : ∀ (x1 : Int) (x2 : Int), k x1 x2 = some rz → ∀ (H : Heap) (locs : List Loc), gH E s G H locs → ∀ ls, lv_has ls 3 [(0, .ref (eA E 7 0)), (1, vI x1), (2, vI x2)] → W p l e (gRm 1 21 0 0) s m ([.ref (eA E 7 0)] : List Value).toArray below meth c H locs 0 0 (MQ below (gQd E G rz) ([.ref (eA E 7 0)] : List Value).toArray s 0 0 (eF E)) (F0 m 47 ls [])), ∀ (H : Heap) (locs : List Loc), gH E s G H locs → ∀ ls, lv_has ls 3 [(0, .ref (eA E 7 0)), (1, vI x1), (2, vI x2)] → f_X7_meanTiredness_L16 G n x1 x2 k = some rz → W p l e (gRm 1 21 0 0) s m ([.ref (eA E 7 0)] : List Value).toArray below meth c H locs 0 0 (MQ below (gQd E G rz) ([.ref (eA E 7 0)] : List Value).toArray s 0 0 (eF E)) (F0 m 16 ls []) := by
    intro n
    induction n with
    | zero =>
      intro x1 x2 k hK H locs h ls hl hf
      exact absurd hf (by simp [f_X7_meanTiredness_L16])
    | succ n ih =>
      intro x1 x2 k hK H locs h ls hl hf
      unfold f_X7_meanTiredness_L16 at hf
      refine g_iload_n C hl 2 rfl rfl (gdec kX7_meanTiredness 10 rfl) ?_
      refine g_aload_n C hl 0 rfl rfl (gdec kX7_meanTiredness 11 rfl) ?_
      refine gf_X7_12 C h ho (gdec kX7_meanTiredness 12 rfl) ?_
      refine gf_X7_72 C h (gcl_7_0 C ho) (gdec kX7_meanTiredness 13 rfl) ?_
      obtain ⟨h3, hf⟩ := gd_s hf
      obtain ⟨h4, hf⟩ := gd_s hf
      refine g_icmp_ge C (tgt := 47) h3 h4 (by decide) (gdec kX7_meanTiredness 14 rfl) (fun c5 => ?_) (fun c5 => ?_)
      · replace hf := ifp c5 hf
        refine g_iload_n C hl 1 rfl rfl (gdec kX7_meanTiredness 15 rfl) ?_
        refine g_aload_n C hl 0 rfl rfl (gdec kX7_meanTiredness 16 rfl) ?_
        refine gf_X7_12 C h ho (gdec kX7_meanTiredness 17 rfl) ?_
        refine g_iload_n C hl 2 rfl rfl (gdec kX7_meanTiredness 18 rfl) ?_
        obtain ⟨h6, hf⟩ := ga_s hf
        refine g_cr h (g_runV C h (gcl_7_0 C ho) (by decide) rfl (c_X3_teamRow l E _ _ _ (gcl_7_0 C ho) _ (e_X3_teamRow _ _ _ h6)) wM_X7_120 wI_X3_teamRow wS_X3_teamRow wN_X3 wC_X3_teamRow rfl ny_X3_teamRow rfl ⟨Nat.le_of_ble_eq_true rfl, Nat.le_of_ble_eq_true rfl⟩ hl.1 rfl (Nat.le_of_ble_eq_true rfl) (gdec kX7_meanTiredness 19 rfl) ⟨Nat.zero_le _, Nat.zero_le _⟩) (fun H locs h => ?_)
        have k7 : gOk E 6 (10 * 0 + x2) := gok6 C (gcl_3_2 C (gcl_7_0 C ho)) h6
        refine gf_X7_169 C h k7 (gdec kX7_meanTiredness 20 rfl) ?_
        refine g_iadd C (gdec kX7_meanTiredness 21 rfl) ?_
        refine g_istore_n C [(1, vI (x1 + (G 6 (10 * 0 + x2) 1))), (0, .ref (eA E 7 0)), (2, vI x2)] hl rfl (by decide) rfl (gdec kX7_meanTiredness 22 rfl) (fun ls hl => ?_)
        refine g_iinc C (k := 2) [(2, vI (x2 + 1)), (1, vI (x1 + (G 6 (10 * 0 + x2) 1))), (0, .ref (eA E 7 0))] hl rfl (by decide) rfl (gdec kX7_meanTiredness 23 rfl) (fun ls hl => ?_)
        refine g_goto C (tgt := 16) (by decide) (gdec kX7_meanTiredness 24 rfl) ?_
        exact ih _ _ k hK H locs h ls (lv_sub hl [2, 1, 0] rfl) hf
      · replace hf := ifn c5 hf
        exact hK _ _ hf H locs h ls (lv_sub hl [0, 1, 2] rfl)
  unfold f_X7_meanTiredness at hf
  refine g_aload_n C hl 0 rfl rfl (gdec kX7_meanTiredness 0 rfl) ?_
  refine gf_X7_12 C h ho (gdec kX7_meanTiredness 1 rfl) ?_
  refine gf_X7_72 C h (gcl_7_0 C ho) (gdec kX7_meanTiredness 2 rfl) ?_
  obtain ⟨h1, hf⟩ := gd_s hf
  refine g_if_ne C (tgt := 12) h1 (by decide) (gdec kX7_meanTiredness 3 rfl) (fun c2 => ?_) (fun c2 => ?_)
  · replace hf := ifp c2 hf
    refine lv_dconst0 C.1 C.2.1 (gdec kX7_meanTiredness 4 rfl) ?_
    exact g_dret C h (congrArg (Option.map (Prod.mk _)) hf) (gdec kX7_meanTiredness 5 rfl)
  · replace hf := ifn c2 hf
    refine g_iconst C (gdec kX7_meanTiredness 6 rfl) ?_
    refine g_istore_n C [(1, vI 0), (0, .ref (eA E 7 0))] hl rfl (by decide) rfl (gdec kX7_meanTiredness 7 rfl) (fun ls hl => ?_)
    refine g_iconst C (gdec kX7_meanTiredness 8 rfl) ?_
    refine g_istore_n C [(2, vI 0), (1, vI 0), (0, .ref (eA E 7 0))] hl rfl (by decide) rfl (gdec kX7_meanTiredness 9 rfl) (fun ls hl => ?_)
    refine L16 gFuel _ _ _ (fun y1_8 y2_8 hf H locs h ls hl => ?_) H locs h ls (lv_sub hl [2, 1, 0] rfl) hf
    refine g_iload_n C hl 1 rfl rfl (gdec kX7_meanTiredness 25 rfl) ?_
    refine lv_i2d C.1 C.2.1 (gdec kX7_meanTiredness 26 rfl) ?_
    refine g_aload_n C hl 0 rfl rfl (gdec kX7_meanTiredness 27 rfl) ?_
    refine gf_X7_12 C h ho (gdec kX7_meanTiredness 28 rfl) ?_
    refine gf_X7_72 C h (gcl_7_0 C ho) (gdec kX7_meanTiredness 29 rfl) ?_
    refine lv_i2d C.1 C.2.1 (gdec kX7_meanTiredness 30 rfl) ?_
    obtain ⟨h10, hf⟩ := gn_s hf
    refine lv_ddiv C.1 C.2.1 (gdec kX7_meanTiredness 31 rfl) h10 ?_
    exact g_dret C h (congrArg (Option.map (Prod.mk _)) hf) (gdec kX7_meanTiredness 32 rfl)
def f_X7_oneIf (G : GS) (p1 : Int) : Option (Int) :=
  gd p1 (if p1 = 0 then some 0 else some 1)
set_option maxHeartbeats 4000000 in
set_option maxRecDepth 100000 in
theorem c_X7_oneIf (l : Launch) (E : gEnv) (G : GS) (p1 : Int) (rz : Int) (hf : f_X7_oneIf G p1 = some rz) : gMet l yX7_oneIf cX7_oneIf 1 (some .int) 0 0 0 0 [vI p1] E G (gQi E G rz) := by
  refine g_met (by decide +kernel) (Nat.le_of_ble_eq_true rfl) ?_
  intro p e s m below meth c C H locs h ls hl
  have C : gC p s m _ meth c RX7 cX7_oneIf 1 (some .int) E := C
  have hl : lv_has ls 1 [(0, vI p1)] := hl
  unfold f_X7_oneIf at hf
  refine g_iload_n C hl 0 rfl rfl (gdec kX7_oneIf 0 rfl) ?_
  obtain ⟨h1, hf⟩ := gd_s hf
  refine g_if_eq C (tgt := 8) h1 (by decide) (gdec kX7_oneIf 1 rfl) (fun c2 => ?_) (fun c2 => ?_)
  · replace hf := ifp c2 hf
    refine g_iconst C (gdec kX7_oneIf 4 rfl) ?_
    exact g_iret C h (congrArg (Option.map (Prod.mk _)) hf) (gdec kX7_oneIf 5 rfl)
  · replace hf := ifn c2 hf
    refine g_iconst C (gdec kX7_oneIf 2 rfl) ?_
    refine g_goto C (tgt := 9) (by decide) (gdec kX7_oneIf 3 rfl) ?_
    exact g_iret C h (congrArg (Option.map (Prod.mk _)) hf) (gdec kX7_oneIf 5 rfl)
def f_X6_about (G : GS) (o : Int) (p1 : Int) : Option (Int) :=
  gd p1 (if p1 = 0 then some (G 6 o 0) else if p1 = 1 then some (G 6 o 1) else if p1 = 2 then some (G 6 o 2) else if p1 = 3 then some (G 6 o 5) else if p1 = 4 then some (G 6 o 6) else if p1 = 5 then bn1 (f_X7_oneIf G (G 6 o 7)) (fun r8 => some r8) else if p1 = 6 then some (G 6 o 8) else if p1 = 7 then some (G 6 o 9) else if p1 = 8 then some (G 6 o 10) else some (G 6 o 11))
set_option maxHeartbeats 4000000 in
set_option maxRecDepth 100000 in
theorem c_X6_about (l : Launch) (E : gEnv) (G : GS) (o : Int) (p1 : Int) (ho : gOk E 6 o) (rz : Int) (hf : f_X6_about G o p1 = some rz) : gMet l yX6_about cX6_about 2 (some .int) 1 20 0 0 [.ref (eA E 6 o), vI p1] E G (gQi E G rz) := by
  refine g_met (by decide +kernel) (Nat.le_of_ble_eq_true rfl) ?_
  intro p e s m below meth c C H locs h ls hl
  have C : gC p s m _ meth c RX6 cX6_about 2 (some .int) E := C
  have hl : lv_has ls 2 [(0, .ref (eA E 6 o)), (1, vI p1)] := hl
  unfold f_X6_about at hf
  refine g_iload_n C hl 1 rfl rfl (gdec kX6_about 0 rfl) ?_
  obtain ⟨h1, hf⟩ := gd_s hf
  by_cases c2 : p1 = 0
  · replace hf := ifp c2 hf
    refine g_tableIn C (tgt := 52) c2 (by decide) (by decide) (by decide) rfl (by decide) (gdec kX6_about 1 rfl) ?_
    refine g_aload_n C hl 0 rfl rfl (gdec kX6_about 2 rfl) ?_
    refine gf_X6_9 C h ho (gdec kX6_about 3 rfl) ?_
    exact g_iret C h (congrArg (Option.map (Prod.mk _)) hf) (gdec kX6_about 4 rfl)
  replace hf := ifn c2 hf
  by_cases c3 : p1 = 1
  · replace hf := ifp c3 hf
    refine g_tableIn C (tgt := 57) c3 (by decide) (by decide) (by decide) rfl (by decide) (gdec kX6_about 1 rfl) ?_
    refine g_aload_n C hl 0 rfl rfl (gdec kX6_about 5 rfl) ?_
    refine gf_X6_15 C h ho (gdec kX6_about 6 rfl) ?_
    exact g_iret C h (congrArg (Option.map (Prod.mk _)) hf) (gdec kX6_about 7 rfl)
  replace hf := ifn c3 hf
  by_cases c4 : p1 = 2
  · replace hf := ifp c4 hf
    refine g_tableIn C (tgt := 62) c4 (by decide) (by decide) (by decide) rfl (by decide) (gdec kX6_about 1 rfl) ?_
    refine g_aload_n C hl 0 rfl rfl (gdec kX6_about 8 rfl) ?_
    refine gf_X6_38 C h ho (gdec kX6_about 9 rfl) ?_
    exact g_iret C h (congrArg (Option.map (Prod.mk _)) hf) (gdec kX6_about 10 rfl)
  replace hf := ifn c4 hf
  by_cases c5 : p1 = 3
  · replace hf := ifp c5 hf
    refine g_tableIn C (tgt := 67) c5 (by decide) (by decide) (by decide) rfl (by decide) (gdec kX6_about 1 rfl) ?_
    refine g_aload_n C hl 0 rfl rfl (gdec kX6_about 11 rfl) ?_
    refine gf_X6_44 C h ho (gdec kX6_about 12 rfl) ?_
    exact g_iret C h (congrArg (Option.map (Prod.mk _)) hf) (gdec kX6_about 13 rfl)
  replace hf := ifn c5 hf
  by_cases c6 : p1 = 4
  · replace hf := ifp c6 hf
    refine g_tableIn C (tgt := 72) c6 (by decide) (by decide) (by decide) rfl (by decide) (gdec kX6_about 1 rfl) ?_
    refine g_aload_n C hl 0 rfl rfl (gdec kX6_about 14 rfl) ?_
    refine gf_X6_47 C h ho (gdec kX6_about 15 rfl) ?_
    exact g_iret C h (congrArg (Option.map (Prod.mk _)) hf) (gdec kX6_about 16 rfl)
  replace hf := ifn c6 hf
  by_cases c7 : p1 = 5
  · replace hf := ifp c7 hf
    refine g_tableIn C (tgt := 77) c7 (by decide) (by decide) (by decide) rfl (by decide) (gdec kX6_about 1 rfl) ?_
    refine g_aload_n C hl 0 rfl rfl (gdec kX6_about 17 rfl) ?_
    refine gf_X6_50 C h ho (gdec kX6_about 18 rfl) ?_
    obtain ⟨r8, q9, hf⟩ := bn1_s hf
    refine g_ci h (g_runSN C h (c_X7_oneIf l E _ _ _ q9) wNest_X6_65 wT_X7_oneIf wN_X7 wC_X7_oneIf ny_X7_oneIf rfl ⟨Nat.le_of_ble_eq_true rfl, Nat.le_of_ble_eq_true rfl⟩ hl.1 rfl (Nat.le_of_ble_eq_true rfl) (gdec kX6_about 19 rfl) ⟨Nat.zero_le _, Nat.zero_le _⟩) (fun H locs h => ?_)
    exact g_iret C h (congrArg (Option.map (Prod.mk _)) hf) (gdec kX6_about 20 rfl)
  replace hf := ifn c7 hf
  by_cases c10 : p1 = 6
  · replace hf := ifp c10 hf
    refine g_tableIn C (tgt := 85) c10 (by decide) (by decide) (by decide) rfl (by decide) (gdec kX6_about 1 rfl) ?_
    refine g_aload_n C hl 0 rfl rfl (gdec kX6_about 21 rfl) ?_
    refine gf_X6_26 C h ho (gdec kX6_about 22 rfl) ?_
    exact g_iret C h (congrArg (Option.map (Prod.mk _)) hf) (gdec kX6_about 23 rfl)
  replace hf := ifn c10 hf
  by_cases c11 : p1 = 7
  · replace hf := ifp c11 hf
    refine g_tableIn C (tgt := 90) c11 (by decide) (by decide) (by decide) rfl (by decide) (gdec kX6_about 1 rfl) ?_
    refine g_aload_n C hl 0 rfl rfl (gdec kX6_about 24 rfl) ?_
    refine gf_X6_29 C h ho (gdec kX6_about 25 rfl) ?_
    exact g_iret C h (congrArg (Option.map (Prod.mk _)) hf) (gdec kX6_about 26 rfl)
  replace hf := ifn c11 hf
  by_cases c12 : p1 = 8
  · replace hf := ifp c12 hf
    refine g_tableIn C (tgt := 95) c12 (by decide) (by decide) (by decide) rfl (by decide) (gdec kX6_about 1 rfl) ?_
    refine g_aload_n C hl 0 rfl rfl (gdec kX6_about 27 rfl) ?_
    refine gf_X6_32 C h ho (gdec kX6_about 28 rfl) ?_
    exact g_iret C h (congrArg (Option.map (Prod.mk _)) hf) (gdec kX6_about 29 rfl)
  replace hf := ifn c12 hf
  refine g_tableOut C (tgt := 100) h1 (by omega) (by decide) (gdec kX6_about 1 rfl) ?_
  refine g_aload_n C hl 0 rfl rfl (gdec kX6_about 30 rfl) ?_
  refine gf_X6_35 C h ho (gdec kX6_about 31 rfl) ?_
  exact g_iret C h (congrArg (Option.map (Prod.mk _)) hf) (gdec kX6_about 32 rfl)
def f_X7_team (G : GS) (p1 : Int) (p2 : Int) : Option (Int × Int) :=
  bn1 (f_X7_checkNumber G p1 (G 3 0 5)) (fun x1 => if x1 = 0 then bn1 (f_X7_checkRange G p2 0 9) (fun x3 => if x3 = 0 then ga p1 10 (bn1 (f_X6_about G (10 * 0 + p1) p2) (fun r7 => some (0, r7))) else some (x3, 0)) else some (x1, 0))
set_option maxHeartbeats 4000000 in
set_option maxRecDepth 100000 in
theorem c_X7_team (l : Launch) (E : gEnv) (G : GS) (p1 : Int) (p2 : Int) (ho : gOk E 7 0) (rz : Int) (hf : f_X7_team G p1 p2 = some (0, rz)) : gMet l yX7_team cX7_team 3 (some .int) 2 41 0 0 [.ref (eA E 7 0), vI p1, vI p2] E G (gQi E G rz) := by
  refine g_met (by decide +kernel) (Nat.le_of_ble_eq_true rfl) ?_
  intro p e s m below meth c C H locs h ls hl
  have C : gC p s m _ meth c RX7 cX7_team 3 (some .int) E := C
  have hl : lv_has ls 3 [(0, .ref (eA E 7 0)), (1, vI p1), (2, vI p2)] := hl
  unfold f_X7_team at hf
  refine g_iload_n C hl 1 rfl rfl (gdec kX7_team 0 rfl) ?_
  refine g_aload_n C hl 0 rfl rfl (gdec kX7_team 1 rfl) ?_
  refine gf_X7_12 C h ho (gdec kX7_team 2 rfl) ?_
  refine gf_X7_72 C h (gcl_7_0 C ho) (gdec kX7_team 3 rfl) ?_
  obtain ⟨x1, q2, hf⟩ := bn1_s hf
  by_cases hx : x1 = 0
  rotate_left
  · exact absurd (ifn hx hf) (gx_nr hx)
  · subst hx
    replace hf := ifp rfl hf
    refine g_cv h (g_runS C h (c_X7_checkNumber l E _ _ _ q2) wM_X7_37 wT_X7_checkNumber wN_X7 wC_X7_checkNumber rfl ny_X7_checkNumber rfl ⟨Nat.le_of_ble_eq_true rfl, Nat.le_of_ble_eq_true rfl⟩ hl.1 rfl (Nat.le_of_ble_eq_true rfl) (gdec kX7_team 4 rfl) ⟨Nat.zero_le _, Nat.zero_le _⟩) (fun H locs h => ?_)
    refine g_iload_n C hl 2 rfl rfl (gdec kX7_team 5 rfl) ?_
    refine g_iconst C (gdec kX7_team 6 rfl) ?_
    refine g_bipush C (gdec kX7_team 7 rfl) rfl ?_
    obtain ⟨x3, q4, hf⟩ := bn1_s hf
    by_cases hx : x3 = 0
    rotate_left
    · exact absurd (ifn hx hf) (gx_nr hx)
    · subst hx
      replace hf := ifp rfl hf
      refine g_cv h (g_runS C h (c_X7_checkRange l E _ _ _ _ q4) wM_X7_41 wT_X7_checkRange wN_X7 wC_X7_checkRange rfl ny_X7_checkRange rfl ⟨Nat.le_of_ble_eq_true rfl, Nat.le_of_ble_eq_true rfl⟩ hl.1 rfl (Nat.le_of_ble_eq_true rfl) (gdec kX7_team 8 rfl) ⟨Nat.zero_le _, Nat.zero_le _⟩) (fun H locs h => ?_)
      refine g_aload_n C hl 0 rfl rfl (gdec kX7_team 9 rfl) ?_
      refine gf_X7_12 C h ho (gdec kX7_team 10 rfl) ?_
      refine g_iload_n C hl 1 rfl rfl (gdec kX7_team 11 rfl) ?_
      obtain ⟨h5, hf⟩ := ga_s hf
      refine g_cr h (g_runV C h (gcl_7_0 C ho) (by decide) rfl (c_X3_teamRow l E _ _ _ (gcl_7_0 C ho) _ (e_X3_teamRow _ _ _ h5)) wM_X7_120 wI_X3_teamRow wS_X3_teamRow wN_X3 wC_X3_teamRow rfl ny_X3_teamRow rfl ⟨Nat.le_of_ble_eq_true rfl, Nat.le_of_ble_eq_true rfl⟩ hl.1 rfl (Nat.le_of_ble_eq_true rfl) (gdec kX7_team 12 rfl) ⟨Nat.zero_le _, Nat.zero_le _⟩) (fun H locs h => ?_)
      have k6 : gOk E 6 (10 * 0 + p1) := gok6 C (gcl_3_2 C (gcl_7_0 C ho)) h5
      refine g_iload_n C hl 2 rfl rfl (gdec kX7_team 13 rfl) ?_
      obtain ⟨r7, q8, hf⟩ := bn1_s hf
      refine g_ci h (g_runV C h k6 (by decide) rfl (c_X6_about l E _ _ _ k6 _ q8) wM_X7_124 wI_X6_about wS_X6_about wN_X6 wC_X6_about rfl ny_X6_about rfl ⟨Nat.le_of_ble_eq_true rfl, Nat.le_of_ble_eq_true rfl⟩ hl.1 rfl (Nat.le_of_ble_eq_true rfl) (gdec kX7_team 14 rfl) ⟨Nat.zero_le _, Nat.zero_le _⟩) (fun H locs h => ?_)
      exact g_iret C h (gx_r hf) (gdec kX7_team 15 rfl)
def f_X3_effortBetween_L16 (G : GS) (o : Int) (p1 : Int) (p2 : Int) : Nat → Int → Int → Int → (Int → Int → Int → Option (Int)) → Option (Int)
  | 0, _, _, _, _ => none
  | n + 1, x3, x4, x5, k => gd x5 (gd x3 (if x5 < x3 then ga x5 7 (gd p2 (gd p1 (if p1 < p2 then bn1 (f_X5_effort G (7 * o + x5) 1) (fun r11 => f_X3_effortBetween_L16 G o p1 p2 n x3 (x4 + r11) (x5 + 1) k) else bn1 (f_X5_effort G (7 * o + x5) 0) (fun r13 => f_X3_effortBetween_L16 G o p1 p2 n x3 (x4 + r13) (x5 + 1) k)))) else k x3 x4 x5))
def f_X3_effortBetween (G : GS) (o : Int) (p1 : Int) (p2 : Int) : Option (Int) :=
  gd p1 (gd p2 (f_X3_effortBetween_L16 G o p1 p2 gFuel (if p1 < p2 then p2 else p1) 0 (if p2 < p1 then p2 else p1) (fun y3_15 y4_15 y5_15 => some y4_15)))
set_option maxHeartbeats 4000000 in
set_option maxRecDepth 100000 in
theorem c_X3_effortBetween (l : Launch) (E : gEnv) (G : GS) (o : Int) (p1 : Int) (p2 : Int) (ho : gOk E 3 o) (rz : Int) (hf : f_X3_effortBetween G o p1 p2 = some rz) : gMet l yX3_effortBetween cX3_effortBetween 6 (some .int) 2 43 0 0 [.ref (eA E 3 o), vI p1, vI p2] E G (gQi E G rz) := by
  refine g_met (by decide +kernel) (Nat.le_of_ble_eq_true rfl) ?_
  intro p e s m below meth c C H locs h ls hl
  have C : gC p s m _ meth c RX3 cX3_effortBetween 6 (some .int) E := C
  have hl : lv_has ls 6 [(0, .ref (eA E 3 o)), (1, vI p1), (2, vI p2)] := hl
  have L16 : ∀ (n : Nat) (x3 : Int) (x4 : Int) (x5 : Int) (k : (Int → Int → Int → Option (Int))) (hK : ∀ (x3 : Int) (x4 : Int) (x5 : Int), k x3 x4 x5 = some rz → ∀ (H : Heap) (locs : List Loc), gH E s G H locs → ∀ ls, lv_has ls 6 [(0, .ref (eA E 3 o)), (1, vI p1), (2, vI p2), (3, vI x3), (4, vI x4), (5, vI x5)] → W p l e (gRm 2 43 0 0) s m ([.ref (eA E 3 o), vI p1, vI p2] : List Value).toArray below meth c H locs 0 0 (MQ below (gQi E G rz) ([.ref (eA E 3 o), vI p1, vI p2] : List Value).toArray s 0 0 (eF E)) (F0 m 52 ls [])), ∀ (H : Heap) (locs : List Loc), gH E s G H locs → ∀ ls, lv_has ls 6 [(0, .ref (eA E 3 o)), (1, vI p1), (2, vI p2), (3, vI x3), (4, vI x4), (5, vI x5)] → f_X3_effortBetween_L16 G o p1 p2 n x3 x4 x5 k = some rz → W p l e (gRm 2 43 0 0) s m ([.ref (eA E 3 o), vI p1, vI p2] : List Value).toArray below meth c H locs 0 0 (MQ below (gQi E G rz) ([.ref (eA E 3 o), vI p1, vI p2] : List Value).toArray s 0 0 (eF E)) (F0 m 16 ls []) := by
    intro n
    induction n with
    | zero =>
      intro x3 x4 x5 k hK H locs h ls hl hf
      exact absurd hf (by simp [f_X3_effortBetween_L16])
    | succ n ih =>
      intro x3 x4 x5 k hK H locs h ls hl hf
      unfold f_X3_effortBetween_L16 at hf
      refine g_iload C hl 5 rfl (gdec kX3_effortBetween 10 rfl) ?_
      refine g_iload_n C hl 3 rfl rfl (gdec kX3_effortBetween 11 rfl) ?_
      obtain ⟨h3, hf⟩ := gd_s hf
      obtain ⟨h4, hf⟩ := gd_s hf
      refine g_icmp_ge C (tgt := 52) h3 h4 (by decide) (gdec kX3_effortBetween 12 rfl) (fun c5 => ?_) (fun c5 => ?_)
      · replace hf := ifp c5 hf
        refine g_iload C hl 4 rfl (gdec kX3_effortBetween 13 rfl) ?_
        refine g_aload_n C hl 0 rfl rfl (gdec kX3_effortBetween 14 rfl) ?_
        refine g_iload C hl 5 rfl (gdec kX3_effortBetween 15 rfl) ?_
        obtain ⟨h6, hf⟩ := ga_s hf
        refine g_cr h (g_runV C h ho (by decide) rfl (c_X3_stageRow l E _ _ _ ho _ (e_X3_stageRow _ _ _ h6)) wM_X3_169 wI_X3_stageRow wS_X3_stageRow wN_X3 wC_X3_stageRow rfl ny_X3_stageRow rfl ⟨Nat.le_of_ble_eq_true rfl, Nat.le_of_ble_eq_true rfl⟩ hl.1 rfl (Nat.le_of_ble_eq_true rfl) (gdec kX3_effortBetween 16 rfl) ⟨Nat.zero_le _, Nat.zero_le _⟩) (fun H locs h => ?_)
        have k7 : gOk E 5 (7 * o + x5) := gok5 C (gcl_3_0 C ho) h6
        refine g_iload_n C hl 2 rfl rfl (gdec kX3_effortBetween 17 rfl) ?_
        refine g_iload_n C hl 1 rfl rfl (gdec kX3_effortBetween 18 rfl) ?_
        obtain ⟨h8, hf⟩ := gd_s hf
        obtain ⟨h9, hf⟩ := gd_s hf
        refine g_icmp_le C (tgt := 39) h8 h9 (by decide) (gdec kX3_effortBetween 19 rfl) (fun c10 => ?_) (fun c10 => ?_)
        · replace hf := ifp c10 hf
          refine g_iconst C (gdec kX3_effortBetween 20 rfl) ?_
          refine g_goto C (tgt := 40) (by decide) (gdec kX3_effortBetween 21 rfl) ?_
          obtain ⟨r11, q12, hf⟩ := bn1_s hf
          refine g_ci h (g_runV C h k7 (by decide) rfl (c_X5_effort l E _ _ _ k7 _ q12) wM_X3_176 wI_X5_effort wS_X5_effort wN_X5 wC_X5_effort rfl ny_X5_effort rfl ⟨Nat.le_of_ble_eq_true rfl, Nat.le_of_ble_eq_true rfl⟩ hl.1 rfl (Nat.le_of_ble_eq_true rfl) (gdec kX3_effortBetween 23 rfl) ⟨Nat.zero_le _, Nat.zero_le _⟩) (fun H locs h => ?_)
          refine g_iadd C (gdec kX3_effortBetween 24 rfl) ?_
          refine g_istore C [(4, vI (x4 + r11)), (0, .ref (eA E 3 o)), (1, vI p1), (2, vI p2), (3, vI x3), (5, vI x5)] hl (by decide) rfl (gdec kX3_effortBetween 25 rfl) (fun ls hl => ?_)
          refine g_iinc C (k := 5) [(5, vI (x5 + 1)), (4, vI (x4 + r11)), (0, .ref (eA E 3 o)), (1, vI p1), (2, vI p2), (3, vI x3)] hl rfl (by decide) rfl (gdec kX3_effortBetween 26 rfl) (fun ls hl => ?_)
          refine g_goto C (tgt := 16) (by decide) (gdec kX3_effortBetween 27 rfl) ?_
          exact ih _ _ _ k hK H locs h ls (lv_sub hl [2, 3, 4, 5, 1, 0] rfl) hf
        · replace hf := ifn c10 hf
          refine g_iconst C (gdec kX3_effortBetween 22 rfl) ?_
          obtain ⟨r13, q14, hf⟩ := bn1_s hf
          refine g_ci h (g_runV C h k7 (by decide) rfl (c_X5_effort l E _ _ _ k7 _ q14) wM_X3_176 wI_X5_effort wS_X5_effort wN_X5 wC_X5_effort rfl ny_X5_effort rfl ⟨Nat.le_of_ble_eq_true rfl, Nat.le_of_ble_eq_true rfl⟩ hl.1 rfl (Nat.le_of_ble_eq_true rfl) (gdec kX3_effortBetween 23 rfl) ⟨Nat.zero_le _, Nat.zero_le _⟩) (fun H locs h => ?_)
          refine g_iadd C (gdec kX3_effortBetween 24 rfl) ?_
          refine g_istore C [(4, vI (x4 + r13)), (0, .ref (eA E 3 o)), (1, vI p1), (2, vI p2), (3, vI x3), (5, vI x5)] hl (by decide) rfl (gdec kX3_effortBetween 25 rfl) (fun ls hl => ?_)
          refine g_iinc C (k := 5) [(5, vI (x5 + 1)), (4, vI (x4 + r13)), (0, .ref (eA E 3 o)), (1, vI p1), (2, vI p2), (3, vI x3)] hl rfl (by decide) rfl (gdec kX3_effortBetween 26 rfl) (fun ls hl => ?_)
          refine g_goto C (tgt := 16) (by decide) (gdec kX3_effortBetween 27 rfl) ?_
          exact ih _ _ _ k hK H locs h ls (lv_sub hl [2, 3, 4, 5, 1, 0] rfl) hf
      · replace hf := ifn c5 hf
        exact hK _ _ _ hf H locs h ls (lv_sub hl [0, 1, 2, 3, 4, 5] rfl)
  unfold f_X3_effortBetween at hf
  refine g_iload_n C hl 1 rfl rfl (gdec kX3_effortBetween 0 rfl) ?_
  refine g_iload_n C hl 2 rfl rfl (gdec kX3_effortBetween 1 rfl) ?_
  obtain ⟨h1, hf⟩ := gd_s hf
  obtain ⟨h2, hf⟩ := gd_s hf
  refine g_max C h1 h2 wM_X3_272 wT_Math_max wN_java_lang_Math wC_Math_max hl.1 (by decide) (Nat.le_of_ble_eq_true rfl) (Nat.le_of_ble_eq_true rfl) (Nat.le_of_ble_eq_true rfl) (gdec kX3_effortBetween 2 rfl) ?_
  refine g_istore_n C [(3, vI (if p1 < p2 then p2 else p1)), (0, .ref (eA E 3 o)), (1, vI p1), (2, vI p2)] hl rfl (by decide) rfl (gdec kX3_effortBetween 3 rfl) (fun ls hl => ?_)
  refine g_iconst C (gdec kX3_effortBetween 4 rfl) ?_
  refine g_istore C [(4, vI 0), (3, vI (if p1 < p2 then p2 else p1)), (0, .ref (eA E 3 o)), (1, vI p1), (2, vI p2)] hl (by decide) rfl (gdec kX3_effortBetween 5 rfl) (fun ls hl => ?_)
  refine g_iload_n C hl 3 rfl rfl (gdec kX3_effortBetween 6 rfl) ?_
  refine g_iload_n C hl 4 rfl rfl (gdec kX3_effortBetween 7 rfl) ?_
  refine g_min C h1 h2 wM_X3_277 wT_Math_min wN_java_lang_Math wC_Math_min hl.1 (by decide) (Nat.le_of_ble_eq_true rfl) (Nat.le_of_ble_eq_true rfl) (Nat.le_of_ble_eq_true rfl) (gdec kX3_effortBetween 8 rfl) ?_
  refine g_istore C [(5, vI (if p2 < p1 then p2 else p1)), (4, vI 0), (3, vI (if p1 < p2 then p2 else p1)), (0, .ref (eA E 3 o)), (1, vI p1), (2, vI p2)] hl (by decide) rfl (gdec kX3_effortBetween 9 rfl) (fun ls hl => ?_)
  refine L16 gFuel _ _ _ _ (fun y3_15 y4_15 y5_15 hf H locs h ls hl => ?_) H locs h ls (lv_sub hl [3, 4, 5, 2, 1, 0] rfl) hf
  refine g_iload C hl 4 rfl (gdec kX3_effortBetween 28 rfl) ?_
  exact g_iret C h (congrArg (Option.map (Prod.mk _)) hf) (gdec kX3_effortBetween 29 rfl)
def f_X7_effortHome (G : GS) (p1 : Int) : Option (Int × Int) :=
  bn1 (f_X7_checkNumber G p1 (G 3 0 5)) (fun x1 => if x1 = 0 then ga p1 10 (bn1 (f_X3_effortBetween G 0 (G 6 (10 * 0 + p1) 2) (G 6 (10 * 0 + p1) 0)) (fun r5 => some (0, r5))) else some (x1, 0))
set_option maxHeartbeats 4000000 in
set_option maxRecDepth 100000 in
theorem c_X7_effortHome (l : Launch) (E : gEnv) (G : GS) (p1 : Int) (ho : gOk E 7 0) (rz : Int) (hf : f_X7_effortHome G p1 = some (0, rz)) : gMet l yX7_effortHome cX7_effortHome 3 (some .int) 3 68 0 0 [.ref (eA E 7 0), vI p1] E G (gQi E G rz) := by
  refine g_met (by decide +kernel) (Nat.le_of_ble_eq_true rfl) ?_
  intro p e s m below meth c C H locs h ls hl
  have C : gC p s m _ meth c RX7 cX7_effortHome 3 (some .int) E := C
  have hl : lv_has ls 3 [(0, .ref (eA E 7 0)), (1, vI p1)] := hl
  unfold f_X7_effortHome at hf
  refine g_iload_n C hl 1 rfl rfl (gdec kX7_effortHome 0 rfl) ?_
  refine g_aload_n C hl 0 rfl rfl (gdec kX7_effortHome 1 rfl) ?_
  refine gf_X7_12 C h ho (gdec kX7_effortHome 2 rfl) ?_
  refine gf_X7_72 C h (gcl_7_0 C ho) (gdec kX7_effortHome 3 rfl) ?_
  obtain ⟨x1, q2, hf⟩ := bn1_s hf
  by_cases hx : x1 = 0
  rotate_left
  · exact absurd (ifn hx hf) (gx_nr hx)
  · subst hx
    replace hf := ifp rfl hf
    refine g_cv h (g_runS C h (c_X7_checkNumber l E _ _ _ q2) wM_X7_37 wT_X7_checkNumber wN_X7 wC_X7_checkNumber rfl ny_X7_checkNumber rfl ⟨Nat.le_of_ble_eq_true rfl, Nat.le_of_ble_eq_true rfl⟩ hl.1 rfl (Nat.le_of_ble_eq_true rfl) (gdec kX7_effortHome 4 rfl) ⟨Nat.zero_le _, Nat.zero_le _⟩) (fun H locs h => ?_)
    refine g_aload_n C hl 0 rfl rfl (gdec kX7_effortHome 5 rfl) ?_
    refine gf_X7_12 C h ho (gdec kX7_effortHome 6 rfl) ?_
    refine g_iload_n C hl 1 rfl rfl (gdec kX7_effortHome 7 rfl) ?_
    obtain ⟨h3, hf⟩ := ga_s hf
    refine g_cr h (g_runV C h (gcl_7_0 C ho) (by decide) rfl (c_X3_teamRow l E _ _ _ (gcl_7_0 C ho) _ (e_X3_teamRow _ _ _ h3)) wM_X7_120 wI_X3_teamRow wS_X3_teamRow wN_X3 wC_X3_teamRow rfl ny_X3_teamRow rfl ⟨Nat.le_of_ble_eq_true rfl, Nat.le_of_ble_eq_true rfl⟩ hl.1 rfl (Nat.le_of_ble_eq_true rfl) (gdec kX7_effortHome 8 rfl) ⟨Nat.zero_le _, Nat.zero_le _⟩) (fun H locs h => ?_)
    have k4 : gOk E 6 (10 * 0 + p1) := gok6 C (gcl_3_2 C (gcl_7_0 C ho)) h3
    refine g_astore_n C [(2, .ref (eA E 6 (10 * 0 + p1))), (0, .ref (eA E 7 0)), (1, vI p1)] hl rfl (by decide) rfl (gdec kX7_effortHome 9 rfl) (fun ls hl => ?_)
    refine g_aload_n C hl 1 rfl rfl (gdec kX7_effortHome 10 rfl) ?_
    refine gf_X7_12 C h ho (gdec kX7_effortHome 11 rfl) ?_
    refine g_aload_n C hl 0 rfl rfl (gdec kX7_effortHome 12 rfl) ?_
    refine gf_X7_160 C h k4 (gdec kX7_effortHome 13 rfl) ?_
    refine g_aload_n C hl 0 rfl rfl (gdec kX7_effortHome 14 rfl) ?_
    refine gf_X7_163 C h k4 (gdec kX7_effortHome 15 rfl) ?_
    obtain ⟨r5, q6, hf⟩ := bn1_s hf
    refine g_ci h (g_runV C h (gcl_7_0 C ho) (by decide) rfl (c_X3_effortBetween l E _ _ _ _ (gcl_7_0 C ho) _ q6) wM_X7_166 wI_X3_effortBetween wS_X3_effortBetween wN_X3 wC_X3_effortBetween rfl ny_X3_effortBetween rfl ⟨Nat.le_of_ble_eq_true rfl, Nat.le_of_ble_eq_true rfl⟩ hl.1 rfl (Nat.le_of_ble_eq_true rfl) (gdec kX7_effortHome 16 rfl) ⟨Nat.zero_le _, Nat.zero_le _⟩) (fun H locs h => ?_)
    exact g_iret C h (gx_r hf) (gdec kX7_effortHome 17 rfl)
def f_X2_about (G : GS) (o : Int) (p1 : Int) : Option (Int) :=
  gd p1 (if p1 = 0 then some (G 2 o 0) else if p1 = 1 then some (G 2 o 1) else if p1 = 2 then bn1 (f_X7_oneIf G (G 2 o 2)) (fun r5 => some r5) else if p1 = 3 then some (G 2 o 3) else if p1 = 4 then some (G 2 o 4) else if p1 = 5 then some (G 2 o 5) else if p1 = 6 then some (G 2 o 6) else some (G 2 o 7))
set_option maxHeartbeats 4000000 in
set_option maxRecDepth 100000 in
theorem c_X2_about (l : Launch) (E : gEnv) (G : GS) (o : Int) (p1 : Int) (ho : gOk E 2 o) (rz : Int) (hf : f_X2_about G o p1 = some rz) : gMet l yX2_about cX2_about 2 (some .int) 1 20 0 0 [.ref (eA E 2 o), vI p1] E G (gQi E G rz) := by
  refine g_met (by decide +kernel) (Nat.le_of_ble_eq_true rfl) ?_
  intro p e s m below meth c C H locs h ls hl
  have C : gC p s m _ meth c RX2 cX2_about 2 (some .int) E := C
  have hl : lv_has ls 2 [(0, .ref (eA E 2 o)), (1, vI p1)] := hl
  unfold f_X2_about at hf
  refine g_iload_n C hl 1 rfl rfl (gdec kX2_about 0 rfl) ?_
  obtain ⟨h1, hf⟩ := gd_s hf
  by_cases c2 : p1 = 0
  · replace hf := ifp c2 hf
    refine g_tableIn C (tgt := 44) c2 (by decide) (by decide) (by decide) rfl (by decide) (gdec kX2_about 1 rfl) ?_
    refine g_aload_n C hl 0 rfl rfl (gdec kX2_about 2 rfl) ?_
    refine gf_X2_9 C h ho (gdec kX2_about 3 rfl) ?_
    exact g_iret C h (congrArg (Option.map (Prod.mk _)) hf) (gdec kX2_about 4 rfl)
  replace hf := ifn c2 hf
  by_cases c3 : p1 = 1
  · replace hf := ifp c3 hf
    refine g_tableIn C (tgt := 49) c3 (by decide) (by decide) (by decide) rfl (by decide) (gdec kX2_about 1 rfl) ?_
    refine g_aload_n C hl 0 rfl rfl (gdec kX2_about 5 rfl) ?_
    refine gf_X2_15 C h ho (gdec kX2_about 6 rfl) ?_
    exact g_iret C h (congrArg (Option.map (Prod.mk _)) hf) (gdec kX2_about 7 rfl)
  replace hf := ifn c3 hf
  by_cases c4 : p1 = 2
  · replace hf := ifp c4 hf
    refine g_tableIn C (tgt := 54) c4 (by decide) (by decide) (by decide) rfl (by decide) (gdec kX2_about 1 rfl) ?_
    refine g_aload_n C hl 0 rfl rfl (gdec kX2_about 8 rfl) ?_
    refine gf_X2_18 C h ho (gdec kX2_about 9 rfl) ?_
    obtain ⟨r5, q6, hf⟩ := bn1_s hf
    refine g_ci h (g_runSN C h (c_X7_oneIf l E _ _ _ q6) wNest_X2_44 wT_X7_oneIf wN_X7 wC_X7_oneIf ny_X7_oneIf rfl ⟨Nat.le_of_ble_eq_true rfl, Nat.le_of_ble_eq_true rfl⟩ hl.1 rfl (Nat.le_of_ble_eq_true rfl) (gdec kX2_about 10 rfl) ⟨Nat.zero_le _, Nat.zero_le _⟩) (fun H locs h => ?_)
    exact g_iret C h (congrArg (Option.map (Prod.mk _)) hf) (gdec kX2_about 11 rfl)
  replace hf := ifn c4 hf
  by_cases c7 : p1 = 3
  · replace hf := ifp c7 hf
    refine g_tableIn C (tgt := 62) c7 (by decide) (by decide) (by decide) rfl (by decide) (gdec kX2_about 1 rfl) ?_
    refine g_aload_n C hl 0 rfl rfl (gdec kX2_about 12 rfl) ?_
    refine gf_X2_22 C h ho (gdec kX2_about 13 rfl) ?_
    exact g_iret C h (congrArg (Option.map (Prod.mk _)) hf) (gdec kX2_about 14 rfl)
  replace hf := ifn c7 hf
  by_cases c8 : p1 = 4
  · replace hf := ifp c8 hf
    refine g_tableIn C (tgt := 67) c8 (by decide) (by decide) (by decide) rfl (by decide) (gdec kX2_about 1 rfl) ?_
    refine g_aload_n C hl 0 rfl rfl (gdec kX2_about 15 rfl) ?_
    refine gf_X2_25 C h ho (gdec kX2_about 16 rfl) ?_
    exact g_iret C h (congrArg (Option.map (Prod.mk _)) hf) (gdec kX2_about 17 rfl)
  replace hf := ifn c8 hf
  by_cases c9 : p1 = 5
  · replace hf := ifp c9 hf
    refine g_tableIn C (tgt := 72) c9 (by decide) (by decide) (by decide) rfl (by decide) (gdec kX2_about 1 rfl) ?_
    refine g_aload_n C hl 0 rfl rfl (gdec kX2_about 18 rfl) ?_
    refine gf_X2_28 C h ho (gdec kX2_about 19 rfl) ?_
    exact g_iret C h (congrArg (Option.map (Prod.mk _)) hf) (gdec kX2_about 20 rfl)
  replace hf := ifn c9 hf
  by_cases c10 : p1 = 6
  · replace hf := ifp c10 hf
    refine g_tableIn C (tgt := 77) c10 (by decide) (by decide) (by decide) rfl (by decide) (gdec kX2_about 1 rfl) ?_
    refine g_aload_n C hl 0 rfl rfl (gdec kX2_about 21 rfl) ?_
    refine gf_X2_31 C h ho (gdec kX2_about 22 rfl) ?_
    exact g_iret C h (congrArg (Option.map (Prod.mk _)) hf) (gdec kX2_about 23 rfl)
  replace hf := ifn c10 hf
  refine g_tableOut C (tgt := 82) h1 (by omega) (by decide) (gdec kX2_about 1 rfl) ?_
  refine g_aload_n C hl 0 rfl rfl (gdec kX2_about 24 rfl) ?_
  refine gf_X2_34 C h ho (gdec kX2_about 25 rfl) ?_
  exact g_iret C h (congrArg (Option.map (Prod.mk _)) hf) (gdec kX2_about 26 rfl)
def f_X7_letter (G : GS) (p1 : Int) (p2 : Int) : Option (Int × Int) :=
  bn1 (f_X7_checkNumber G p1 (G 3 0 6)) (fun x1 => if x1 = 0 then bn1 (f_X7_checkRange G p2 0 7) (fun x3 => if x3 = 0 then ga p1 12 (bn1 (f_X2_about G (12 * 0 + p1) p2) (fun r7 => some (0, r7))) else some (x3, 0)) else some (x1, 0))
set_option maxHeartbeats 4000000 in
set_option maxRecDepth 100000 in
theorem c_X7_letter (l : Launch) (E : gEnv) (G : GS) (p1 : Int) (p2 : Int) (ho : gOk E 7 0) (rz : Int) (hf : f_X7_letter G p1 p2 = some (0, rz)) : gMet l yX7_letter cX7_letter 3 (some .int) 2 41 0 0 [.ref (eA E 7 0), vI p1, vI p2] E G (gQi E G rz) := by
  refine g_met (by decide +kernel) (Nat.le_of_ble_eq_true rfl) ?_
  intro p e s m below meth c C H locs h ls hl
  have C : gC p s m _ meth c RX7 cX7_letter 3 (some .int) E := C
  have hl : lv_has ls 3 [(0, .ref (eA E 7 0)), (1, vI p1), (2, vI p2)] := hl
  unfold f_X7_letter at hf
  refine g_iload_n C hl 1 rfl rfl (gdec kX7_letter 0 rfl) ?_
  refine g_aload_n C hl 0 rfl rfl (gdec kX7_letter 1 rfl) ?_
  refine gf_X7_12 C h ho (gdec kX7_letter 2 rfl) ?_
  refine gf_X7_89 C h (gcl_7_0 C ho) (gdec kX7_letter 3 rfl) ?_
  obtain ⟨x1, q2, hf⟩ := bn1_s hf
  by_cases hx : x1 = 0
  rotate_left
  · exact absurd (ifn hx hf) (gx_nr hx)
  · subst hx
    replace hf := ifp rfl hf
    refine g_cv h (g_runS C h (c_X7_checkNumber l E _ _ _ q2) wM_X7_37 wT_X7_checkNumber wN_X7 wC_X7_checkNumber rfl ny_X7_checkNumber rfl ⟨Nat.le_of_ble_eq_true rfl, Nat.le_of_ble_eq_true rfl⟩ hl.1 rfl (Nat.le_of_ble_eq_true rfl) (gdec kX7_letter 4 rfl) ⟨Nat.zero_le _, Nat.zero_le _⟩) (fun H locs h => ?_)
    refine g_iload_n C hl 2 rfl rfl (gdec kX7_letter 5 rfl) ?_
    refine g_iconst C (gdec kX7_letter 6 rfl) ?_
    refine g_bipush C (gdec kX7_letter 7 rfl) rfl ?_
    obtain ⟨x3, q4, hf⟩ := bn1_s hf
    by_cases hx : x3 = 0
    rotate_left
    · exact absurd (ifn hx hf) (gx_nr hx)
    · subst hx
      replace hf := ifp rfl hf
      refine g_cv h (g_runS C h (c_X7_checkRange l E _ _ _ _ q4) wM_X7_41 wT_X7_checkRange wN_X7 wC_X7_checkRange rfl ny_X7_checkRange rfl ⟨Nat.le_of_ble_eq_true rfl, Nat.le_of_ble_eq_true rfl⟩ hl.1 rfl (Nat.le_of_ble_eq_true rfl) (gdec kX7_letter 8 rfl) ⟨Nat.zero_le _, Nat.zero_le _⟩) (fun H locs h => ?_)
      refine g_aload_n C hl 0 rfl rfl (gdec kX7_letter 9 rfl) ?_
      refine gf_X7_12 C h ho (gdec kX7_letter 10 rfl) ?_
      refine g_iload_n C hl 1 rfl rfl (gdec kX7_letter 11 rfl) ?_
      obtain ⟨h5, hf⟩ := ga_s hf
      refine g_cr h (g_runV C h (gcl_7_0 C ho) (by decide) rfl (c_X3_letterRow l E _ _ _ (gcl_7_0 C ho) _ (e_X3_letterRow _ _ _ h5)) wM_X7_130 wI_X3_letterRow wS_X3_letterRow wN_X3 wC_X3_letterRow rfl ny_X3_letterRow rfl ⟨Nat.le_of_ble_eq_true rfl, Nat.le_of_ble_eq_true rfl⟩ hl.1 rfl (Nat.le_of_ble_eq_true rfl) (gdec kX7_letter 12 rfl) ⟨Nat.zero_le _, Nat.zero_le _⟩) (fun H locs h => ?_)
      have k6 : gOk E 2 (12 * 0 + p1) := gok2 C (gcl_3_3 C (gcl_7_0 C ho)) h5
      refine g_iload_n C hl 2 rfl rfl (gdec kX7_letter 13 rfl) ?_
      obtain ⟨r7, q8, hf⟩ := bn1_s hf
      refine g_ci h (g_runV C h k6 (by decide) rfl (c_X2_about l E _ _ _ k6 _ q8) wM_X7_134 wI_X2_about wS_X2_about wN_X2 wC_X2_about rfl ny_X2_about rfl ⟨Nat.le_of_ble_eq_true rfl, Nat.le_of_ble_eq_true rfl⟩ hl.1 rfl (Nat.le_of_ble_eq_true rfl) (gdec kX7_letter 14 rfl) ⟨Nat.zero_le _, Nat.zero_le _⟩) (fun H locs h => ?_)
      exact g_iret C h (gx_r hf) (gdec kX7_letter 15 rfl)
def f_X7_why (G : GS) (p1 : Int) : Option (Int × Int) :=
  bn1 (f_X7_checkNumber G p1 (G 3 0 6)) (fun x1 => if x1 = 0 then bn1 (f_X3_hindrance G 0 p1) (fun r3 => some (0, r3)) else some (x1, 0))
set_option maxHeartbeats 4000000 in
set_option maxRecDepth 100000 in
theorem c_X7_why (l : Launch) (E : gEnv) (G : GS) (p1 : Int) (ho : gOk E 7 0) (rz : Int) (hf : f_X7_why G p1 = some (0, rz)) : gMet l yX7_why cX7_why 2 (some .int) 3 71 0 0 [.ref (eA E 7 0), vI p1] E G (gQi E G rz) := by
  refine g_met (by decide +kernel) (Nat.le_of_ble_eq_true rfl) ?_
  intro p e s m below meth c C H locs h ls hl
  have C : gC p s m _ meth c RX7 cX7_why 2 (some .int) E := C
  have hl : lv_has ls 2 [(0, .ref (eA E 7 0)), (1, vI p1)] := hl
  unfold f_X7_why at hf
  refine g_iload_n C hl 1 rfl rfl (gdec kX7_why 0 rfl) ?_
  refine g_aload_n C hl 0 rfl rfl (gdec kX7_why 1 rfl) ?_
  refine gf_X7_12 C h ho (gdec kX7_why 2 rfl) ?_
  refine gf_X7_89 C h (gcl_7_0 C ho) (gdec kX7_why 3 rfl) ?_
  obtain ⟨x1, q2, hf⟩ := bn1_s hf
  by_cases hx : x1 = 0
  rotate_left
  · exact absurd (ifn hx hf) (gx_nr hx)
  · subst hx
    replace hf := ifp rfl hf
    refine g_cv h (g_runS C h (c_X7_checkNumber l E _ _ _ q2) wM_X7_37 wT_X7_checkNumber wN_X7 wC_X7_checkNumber rfl ny_X7_checkNumber rfl ⟨Nat.le_of_ble_eq_true rfl, Nat.le_of_ble_eq_true rfl⟩ hl.1 rfl (Nat.le_of_ble_eq_true rfl) (gdec kX7_why 4 rfl) ⟨Nat.zero_le _, Nat.zero_le _⟩) (fun H locs h => ?_)
    refine g_aload_n C hl 0 rfl rfl (gdec kX7_why 5 rfl) ?_
    refine gf_X7_12 C h ho (gdec kX7_why 6 rfl) ?_
    refine g_iload_n C hl 1 rfl rfl (gdec kX7_why 7 rfl) ?_
    obtain ⟨r3, q4, hf⟩ := bn1_s hf
    refine g_ci h (g_runV C h (gcl_7_0 C ho) (by decide) rfl (c_X3_hindrance l E _ _ _ (gcl_7_0 C ho) _ q4) wM_X7_140 wI_X3_hindrance wS_X3_hindrance wN_X3 wC_X3_hindrance rfl ny_X3_hindrance rfl ⟨Nat.le_of_ble_eq_true rfl, Nat.le_of_ble_eq_true rfl⟩ hl.1 rfl (Nat.le_of_ble_eq_true rfl) (gdec kX7_why 8 rfl) ⟨Nat.zero_le _, Nat.zero_le _⟩) (fun H locs h => ?_)
    exact g_iret C h (gx_r hf) (gdec kX7_why 9 rfl)
def f_X3_teamsAt_L4 (G : GS) (o : Int) (p1 : Int) : Nat → Int → Int → (Int → Int → Option (Int)) → Option (Int)
  | 0, _, _, _ => none
  | n + 1, x2, x3, k => gd x3 (gd (G 3 o 5) (if x3 < (G 3 o 5) then ga x3 10 (bn1 (f_X6_standsAt G (10 * o + x3) p1) (fun r6 => gd r6 (if r6 = 0 then f_X3_teamsAt_L4 G o p1 n x2 (x3 + 1) k else f_X3_teamsAt_L4 G o p1 n (x2 + 1) (x3 + 1) k))) else k x2 x3))
def f_X3_teamsAt (G : GS) (o : Int) (p1 : Int) : Option (Int) :=
  f_X3_teamsAt_L4 G o p1 gFuel 0 0 (fun y2_10 y3_10 => some y2_10)
set_option maxHeartbeats 4000000 in
set_option maxRecDepth 100000 in
theorem c_X3_teamsAt (l : Launch) (E : gEnv) (G : GS) (o : Int) (p1 : Int) (ho : gOk E 3 o) (rz : Int) (hf : f_X3_teamsAt G o p1 = some rz) : gMet l yX3_teamsAt cX3_teamsAt 4 (some .int) 1 21 0 0 [.ref (eA E 3 o), vI p1] E G (gQi E G rz) := by
  refine g_met (by decide +kernel) (Nat.le_of_ble_eq_true rfl) ?_
  intro p e s m below meth c C H locs h ls hl
  have C : gC p s m _ meth c RX3 cX3_teamsAt 4 (some .int) E := C
  have hl : lv_has ls 4 [(0, .ref (eA E 3 o)), (1, vI p1)] := hl
  have L4 : ∀ (n : Nat) (x2 : Int) (x3 : Int) (k : (Int → Int → Option (Int))) (hK : ∀ (x2 : Int) (x3 : Int), k x2 x3 = some rz → ∀ (H : Heap) (locs : List Loc), gH E s G H locs → ∀ ls, lv_has ls 4 [(0, .ref (eA E 3 o)), (1, vI p1), (2, vI x2), (3, vI x3)] → W p l e (gRm 1 21 0 0) s m ([.ref (eA E 3 o), vI p1] : List Value).toArray below meth c H locs 0 0 (MQ below (gQi E G rz) ([.ref (eA E 3 o), vI p1] : List Value).toArray s 0 0 (eF E)) (F0 m 33 ls [])), ∀ (H : Heap) (locs : List Loc), gH E s G H locs → ∀ ls, lv_has ls 4 [(0, .ref (eA E 3 o)), (1, vI p1), (2, vI x2), (3, vI x3)] → f_X3_teamsAt_L4 G o p1 n x2 x3 k = some rz → W p l e (gRm 1 21 0 0) s m ([.ref (eA E 3 o), vI p1] : List Value).toArray below meth c H locs 0 0 (MQ below (gQi E G rz) ([.ref (eA E 3 o), vI p1] : List Value).toArray s 0 0 (eF E)) (F0 m 4 ls []) := by
    intro n
    induction n with
    | zero =>
      intro x2 x3 k hK H locs h ls hl hf
      exact absurd hf (by simp [f_X3_teamsAt_L4])
    | succ n ih =>
      intro x2 x3 k hK H locs h ls hl hf
      unfold f_X3_teamsAt_L4 at hf
      refine g_iload_n C hl 3 rfl rfl (gdec kX3_teamsAt 4 rfl) ?_
      refine g_aload_n C hl 0 rfl rfl (gdec kX3_teamsAt 5 rfl) ?_
      refine gf_X3_51 C h ho (gdec kX3_teamsAt 6 rfl) ?_
      obtain ⟨h1, hf⟩ := gd_s hf
      obtain ⟨h2, hf⟩ := gd_s hf
      refine g_icmp_ge C (tgt := 33) h1 h2 (by decide) (gdec kX3_teamsAt 7 rfl) (fun c3 => ?_) (fun c3 => ?_)
      · replace hf := ifp c3 hf
        refine g_aload_n C hl 0 rfl rfl (gdec kX3_teamsAt 8 rfl) ?_
        refine g_iload_n C hl 3 rfl rfl (gdec kX3_teamsAt 9 rfl) ?_
        obtain ⟨h4, hf⟩ := ga_s hf
        refine g_cr h (g_runV C h ho (by decide) rfl (c_X3_teamRow l E _ _ _ ho _ (e_X3_teamRow _ _ _ h4)) wM_X3_82 wI_X3_teamRow wS_X3_teamRow wN_X3 wC_X3_teamRow rfl ny_X3_teamRow rfl ⟨Nat.le_of_ble_eq_true rfl, Nat.le_of_ble_eq_true rfl⟩ hl.1 rfl (Nat.le_of_ble_eq_true rfl) (gdec kX3_teamsAt 10 rfl) ⟨Nat.zero_le _, Nat.zero_le _⟩) (fun H locs h => ?_)
        have k5 : gOk E 6 (10 * o + x3) := gok6 C (gcl_3_2 C ho) h4
        refine g_iload_n C hl 1 rfl rfl (gdec kX3_teamsAt 11 rfl) ?_
        obtain ⟨r6, q7, hf⟩ := bn1_s hf
        refine g_ci h (g_runV C h k5 (by decide) rfl (c_X6_standsAt l E _ _ _ k5 _ q7) wM_X3_243 wI_X6_standsAt wS_X6_standsAt wN_X6 wC_X6_standsAt rfl ny_X6_standsAt rfl ⟨Nat.le_of_ble_eq_true rfl, Nat.le_of_ble_eq_true rfl⟩ hl.1 rfl (Nat.le_of_ble_eq_true rfl) (gdec kX3_teamsAt 12 rfl) ⟨Nat.zero_le _, Nat.zero_le _⟩) (fun H locs h => ?_)
        obtain ⟨h8, hf⟩ := gd_s hf
        refine g_if_eq C (tgt := 27) h8 (by decide) (gdec kX3_teamsAt 13 rfl) (fun c9 => ?_) (fun c9 => ?_)
        · replace hf := ifp c9 hf
          refine g_iinc C (k := 3) [(3, vI (x3 + 1)), (0, .ref (eA E 3 o)), (1, vI p1), (2, vI x2)] hl rfl (by decide) rfl (gdec kX3_teamsAt 15 rfl) (fun ls hl => ?_)
          refine g_goto C (tgt := 4) (by decide) (gdec kX3_teamsAt 16 rfl) ?_
          exact ih _ _ k hK H locs h ls (lv_sub hl [1, 2, 3, 0] rfl) hf
        · replace hf := ifn c9 hf
          refine g_iinc C (k := 2) [(2, vI (x2 + 1)), (0, .ref (eA E 3 o)), (1, vI p1), (3, vI x3)] hl rfl (by decide) rfl (gdec kX3_teamsAt 14 rfl) (fun ls hl => ?_)
          refine g_iinc C (k := 3) [(3, vI (x3 + 1)), (2, vI (x2 + 1)), (0, .ref (eA E 3 o)), (1, vI p1)] hl rfl (by decide) rfl (gdec kX3_teamsAt 15 rfl) (fun ls hl => ?_)
          refine g_goto C (tgt := 4) (by decide) (gdec kX3_teamsAt 16 rfl) ?_
          exact ih _ _ k hK H locs h ls (lv_sub hl [2, 3, 1, 0] rfl) hf
      · replace hf := ifn c3 hf
        exact hK _ _ hf H locs h ls (lv_sub hl [0, 1, 2, 3] rfl)
  unfold f_X3_teamsAt at hf
  refine g_iconst C (gdec kX3_teamsAt 0 rfl) ?_
  refine g_istore_n C [(2, vI 0), (0, .ref (eA E 3 o)), (1, vI p1)] hl rfl (by decide) rfl (gdec kX3_teamsAt 1 rfl) (fun ls hl => ?_)
  refine g_iconst C (gdec kX3_teamsAt 2 rfl) ?_
  refine g_istore_n C [(3, vI 0), (2, vI 0), (0, .ref (eA E 3 o)), (1, vI p1)] hl rfl (by decide) rfl (gdec kX3_teamsAt 3 rfl) (fun ls hl => ?_)
  refine L4 gFuel _ _ _ (fun y2_10 y3_10 hf H locs h ls hl => ?_) H locs h ls (lv_sub hl [2, 3, 1, 0] rfl) hf
  refine g_iload_n C hl 2 rfl rfl (gdec kX3_teamsAt 17 rfl) ?_
  exact g_iret C h (congrArg (Option.map (Prod.mk _)) hf) (gdec kX3_teamsAt 18 rfl)
def f_X3_freeBeds (G : GS) (o : Int) (p1 : Int) : Option (Int) :=
  ga p1 8 (bn1 (f_X3_bedsTaken G o p1) (fun r3 => gd ((G 1 (8 * o + p1) 0) - r3) (some (if 0 < (G 1 (8 * o + p1) 0) - r3 then (G 1 (8 * o + p1) 0) - r3 else 0))))
set_option maxHeartbeats 4000000 in
set_option maxRecDepth 100000 in
theorem c_X3_freeBeds (l : Launch) (E : gEnv) (G : GS) (o : Int) (p1 : Int) (ho : gOk E 3 o) (rz : Int) (hf : f_X3_freeBeds G o p1 = some rz) : gMet l yX3_freeBeds cX3_freeBeds 2 (some .int) 2 44 0 0 [.ref (eA E 3 o), vI p1] E G (gQi E G rz) := by
  refine g_met (by decide +kernel) (Nat.le_of_ble_eq_true rfl) ?_
  intro p e s m below meth c C H locs h ls hl
  have C : gC p s m _ meth c RX3 cX3_freeBeds 2 (some .int) E := C
  have hl : lv_has ls 2 [(0, .ref (eA E 3 o)), (1, vI p1)] := hl
  unfold f_X3_freeBeds at hf
  refine g_iconst C (gdec kX3_freeBeds 0 rfl) ?_
  refine g_aload_n C hl 0 rfl rfl (gdec kX3_freeBeds 1 rfl) ?_
  refine g_iload_n C hl 1 rfl rfl (gdec kX3_freeBeds 2 rfl) ?_
  obtain ⟨h1, hf⟩ := ga_s hf
  refine g_cr h (g_runV C h ho (by decide) rfl (c_X3_innRow l E _ _ _ ho _ (e_X3_innRow _ _ _ h1)) wM_X3_138 wI_X3_innRow wS_X3_innRow wN_X3 wC_X3_innRow rfl ny_X3_innRow rfl ⟨Nat.le_of_ble_eq_true rfl, Nat.le_of_ble_eq_true rfl⟩ hl.1 rfl (Nat.le_of_ble_eq_true rfl) (gdec kX3_freeBeds 3 rfl) ⟨Nat.zero_le _, Nat.zero_le _⟩) (fun H locs h => ?_)
  have k2 : gOk E 1 (8 * o + p1) := gok1 C (gcl_3_1 C ho) h1
  refine gf_X3_240 C h k2 (gdec kX3_freeBeds 4 rfl) ?_
  refine g_aload_n C hl 0 rfl rfl (gdec kX3_freeBeds 5 rfl) ?_
  refine g_iload_n C hl 1 rfl rfl (gdec kX3_freeBeds 6 rfl) ?_
  obtain ⟨r3, q4, hf⟩ := bn1_s hf
  refine g_ci h (g_runV C h ho (by decide) rfl (c_X3_bedsTaken l E _ _ _ ho _ q4) wM_X3_237 wI_X3_bedsTaken wS_X3_bedsTaken wN_X3 wC_X3_bedsTaken rfl ny_X3_bedsTaken rfl ⟨Nat.le_of_ble_eq_true rfl, Nat.le_of_ble_eq_true rfl⟩ hl.1 rfl (Nat.le_of_ble_eq_true rfl) (gdec kX3_freeBeds 7 rfl) ⟨Nat.zero_le _, Nat.zero_le _⟩) (fun H locs h => ?_)
  refine g_isub C (gdec kX3_freeBeds 8 rfl) ?_
  obtain ⟨h5, hf⟩ := gd_s hf
  refine g_max C (by decide) h5 wM_X3_272 wT_Math_max wN_java_lang_Math wC_Math_max hl.1 (by decide) (Nat.le_of_ble_eq_true rfl) (Nat.le_of_ble_eq_true rfl) (Nat.le_of_ble_eq_true rfl) (gdec kX3_freeBeds 9 rfl) ?_
  exact g_iret C h (congrArg (Option.map (Prod.mk _)) hf) (gdec kX3_freeBeds 10 rfl)
def f_X3_aboutInn (G : GS) (o : Int) (p1 : Int) (p2 : Int) : Option (Int) :=
  ga p1 8 (gd p2 (if p2 = 0 then some (G 1 (8 * o + p1) 0) else if p2 = 1 then some (G 1 (8 * o + p1) 1) else if p2 = 2 then bn1 (f_X7_oneIf G (G 1 (8 * o + p1) 2)) (fun r7 => some r7) else if p2 = 3 then bn1 (f_X3_teamsAt G o p1) (fun r10 => some r10) else if p2 = 4 then bn1 (f_X3_bedsTaken G o p1) (fun r13 => bn1 (f_X3_teamsAt G o p1) (fun r15 => some (r13 - r15))) else if p2 = 5 then bn1 (f_X3_lettersAt G o p1) (fun r18 => some r18) else bn1 (f_X3_freeBeds G o p1) (fun r20 => some r20)))
set_option maxHeartbeats 4000000 in
set_option maxRecDepth 100000 in
theorem c_X3_aboutInn (l : Launch) (E : gEnv) (G : GS) (o : Int) (p1 : Int) (p2 : Int) (ho : gOk E 3 o) (rz : Int) (hf : f_X3_aboutInn G o p1 p2 = some rz) : gMet l yX3_aboutInn cX3_aboutInn 4 (some .int) 3 65 0 0 [.ref (eA E 3 o), vI p1, vI p2] E G (gQi E G rz) := by
  refine g_met (by decide +kernel) (Nat.le_of_ble_eq_true rfl) ?_
  intro p e s m below meth c C H locs h ls hl
  have C : gC p s m _ meth c RX3 cX3_aboutInn 4 (some .int) E := C
  have hl : lv_has ls 4 [(0, .ref (eA E 3 o)), (1, vI p1), (2, vI p2)] := hl
  unfold f_X3_aboutInn at hf
  refine g_aload_n C hl 0 rfl rfl (gdec kX3_aboutInn 0 rfl) ?_
  refine g_iload_n C hl 1 rfl rfl (gdec kX3_aboutInn 1 rfl) ?_
  obtain ⟨h1, hf⟩ := ga_s hf
  refine g_cr h (g_runV C h ho (by decide) rfl (c_X3_innRow l E _ _ _ ho _ (e_X3_innRow _ _ _ h1)) wM_X3_138 wI_X3_innRow wS_X3_innRow wN_X3 wC_X3_innRow rfl ny_X3_innRow rfl ⟨Nat.le_of_ble_eq_true rfl, Nat.le_of_ble_eq_true rfl⟩ hl.1 rfl (Nat.le_of_ble_eq_true rfl) (gdec kX3_aboutInn 2 rfl) ⟨Nat.zero_le _, Nat.zero_le _⟩) (fun H locs h => ?_)
  have k2 : gOk E 1 (8 * o + p1) := gok1 C (gcl_3_1 C ho) h1
  refine g_astore_n C [(3, .ref (eA E 1 (8 * o + p1))), (0, .ref (eA E 3 o)), (1, vI p1), (2, vI p2)] hl rfl (by decide) rfl (gdec kX3_aboutInn 3 rfl) (fun ls hl => ?_)
  refine g_iload_n C hl 3 rfl rfl (gdec kX3_aboutInn 4 rfl) ?_
  obtain ⟨h3, hf⟩ := gd_s hf
  by_cases c4 : p2 = 0
  · replace hf := ifp c4 hf
    refine g_tableIn C (tgt := 44) c4 (by decide) (by decide) (by decide) rfl (by decide) (gdec kX3_aboutInn 5 rfl) ?_
    refine g_aload_n C hl 0 rfl rfl (gdec kX3_aboutInn 6 rfl) ?_
    refine gf_X3_240 C h k2 (gdec kX3_aboutInn 7 rfl) ?_
    exact g_iret C h (congrArg (Option.map (Prod.mk _)) hf) (gdec kX3_aboutInn 8 rfl)
  replace hf := ifn c4 hf
  by_cases c5 : p2 = 1
  · replace hf := ifp c5 hf
    refine g_tableIn C (tgt := 49) c5 (by decide) (by decide) (by decide) rfl (by decide) (gdec kX3_aboutInn 5 rfl) ?_
    refine g_aload_n C hl 0 rfl rfl (gdec kX3_aboutInn 9 rfl) ?_
    refine gf_X3_145 C h k2 (gdec kX3_aboutInn 10 rfl) ?_
    exact g_iret C h (congrArg (Option.map (Prod.mk _)) hf) (gdec kX3_aboutInn 11 rfl)
  replace hf := ifn c5 hf
  by_cases c6 : p2 = 2
  · replace hf := ifp c6 hf
    refine g_tableIn C (tgt := 54) c6 (by decide) (by decide) (by decide) rfl (by decide) (gdec kX3_aboutInn 5 rfl) ?_
    refine g_aload_n C hl 0 rfl rfl (gdec kX3_aboutInn 12 rfl) ?_
    refine gf_X3_234 C h k2 (gdec kX3_aboutInn 13 rfl) ?_
    obtain ⟨r7, q8, hf⟩ := bn1_s hf
    refine g_ci h (g_runSN C h (c_X7_oneIf l E _ _ _ q8) wNest_X3_286 wT_X7_oneIf wN_X7 wC_X7_oneIf ny_X7_oneIf rfl ⟨Nat.le_of_ble_eq_true rfl, Nat.le_of_ble_eq_true rfl⟩ hl.1 rfl (Nat.le_of_ble_eq_true rfl) (gdec kX3_aboutInn 14 rfl) ⟨Nat.zero_le _, Nat.zero_le _⟩) (fun H locs h => ?_)
    exact g_iret C h (congrArg (Option.map (Prod.mk _)) hf) (gdec kX3_aboutInn 15 rfl)
  replace hf := ifn c6 hf
  by_cases c9 : p2 = 3
  · replace hf := ifp c9 hf
    refine g_tableIn C (tgt := 62) c9 (by decide) (by decide) (by decide) rfl (by decide) (gdec kX3_aboutInn 5 rfl) ?_
    refine g_aload_n C hl 1 rfl rfl (gdec kX3_aboutInn 16 rfl) ?_
    refine g_iload_n C hl 2 rfl rfl (gdec kX3_aboutInn 17 rfl) ?_
    obtain ⟨r10, q11, hf⟩ := bn1_s hf
    refine g_ci h (g_runV C h ho (by decide) rfl (c_X3_teamsAt l E _ _ _ ho _ q11) wM_X3_292 wI_X3_teamsAt wS_X3_teamsAt wN_X3 wC_X3_teamsAt rfl ny_X3_teamsAt rfl ⟨Nat.le_of_ble_eq_true rfl, Nat.le_of_ble_eq_true rfl⟩ hl.1 rfl (Nat.le_of_ble_eq_true rfl) (gdec kX3_aboutInn 18 rfl) ⟨Nat.zero_le _, Nat.zero_le _⟩) (fun H locs h => ?_)
    exact g_iret C h (congrArg (Option.map (Prod.mk _)) hf) (gdec kX3_aboutInn 19 rfl)
  replace hf := ifn c9 hf
  by_cases c12 : p2 = 4
  · replace hf := ifp c12 hf
    refine g_tableIn C (tgt := 68) c12 (by decide) (by decide) (by decide) rfl (by decide) (gdec kX3_aboutInn 5 rfl) ?_
    refine g_aload_n C hl 1 rfl rfl (gdec kX3_aboutInn 20 rfl) ?_
    refine g_iload_n C hl 2 rfl rfl (gdec kX3_aboutInn 21 rfl) ?_
    obtain ⟨r13, q14, hf⟩ := bn1_s hf
    refine g_ci h (g_runV C h ho (by decide) rfl (c_X3_bedsTaken l E _ _ _ ho _ q14) wM_X3_237 wI_X3_bedsTaken wS_X3_bedsTaken wN_X3 wC_X3_bedsTaken rfl ny_X3_bedsTaken rfl ⟨Nat.le_of_ble_eq_true rfl, Nat.le_of_ble_eq_true rfl⟩ hl.1 rfl (Nat.le_of_ble_eq_true rfl) (gdec kX3_aboutInn 22 rfl) ⟨Nat.zero_le _, Nat.zero_le _⟩) (fun H locs h => ?_)
    refine g_aload_n C hl 1 rfl rfl (gdec kX3_aboutInn 23 rfl) ?_
    refine g_iload_n C hl 2 rfl rfl (gdec kX3_aboutInn 24 rfl) ?_
    obtain ⟨r15, q16, hf⟩ := bn1_s hf
    refine g_ci h (g_runV C h ho (by decide) rfl (c_X3_teamsAt l E _ _ _ ho _ q16) wM_X3_292 wI_X3_teamsAt wS_X3_teamsAt wN_X3 wC_X3_teamsAt rfl ny_X3_teamsAt rfl ⟨Nat.le_of_ble_eq_true rfl, Nat.le_of_ble_eq_true rfl⟩ hl.1 rfl (Nat.le_of_ble_eq_true rfl) (gdec kX3_aboutInn 25 rfl) ⟨Nat.zero_le _, Nat.zero_le _⟩) (fun H locs h => ?_)
    refine g_isub C (gdec kX3_aboutInn 26 rfl) ?_
    exact g_iret C h (congrArg (Option.map (Prod.mk _)) hf) (gdec kX3_aboutInn 27 rfl)
  replace hf := ifn c12 hf
  by_cases c17 : p2 = 5
  · replace hf := ifp c17 hf
    refine g_tableIn C (tgt := 80) c17 (by decide) (by decide) (by decide) rfl (by decide) (gdec kX3_aboutInn 5 rfl) ?_
    refine g_aload_n C hl 1 rfl rfl (gdec kX3_aboutInn 28 rfl) ?_
    refine g_iload_n C hl 2 rfl rfl (gdec kX3_aboutInn 29 rfl) ?_
    obtain ⟨r18, q19, hf⟩ := bn1_s hf
    refine g_ci h (g_runV C h ho (by decide) rfl (c_X3_lettersAt l E _ _ _ ho _ q19) wM_X3_250 wI_X3_lettersAt wS_X3_lettersAt wN_X3 wC_X3_lettersAt rfl ny_X3_lettersAt rfl ⟨Nat.le_of_ble_eq_true rfl, Nat.le_of_ble_eq_true rfl⟩ hl.1 rfl (Nat.le_of_ble_eq_true rfl) (gdec kX3_aboutInn 30 rfl) ⟨Nat.zero_le _, Nat.zero_le _⟩) (fun H locs h => ?_)
    exact g_iret C h (congrArg (Option.map (Prod.mk _)) hf) (gdec kX3_aboutInn 31 rfl)
  replace hf := ifn c17 hf
  refine g_tableOut C (tgt := 86) h3 (by omega) (by decide) (gdec kX3_aboutInn 5 rfl) ?_
  refine g_aload_n C hl 1 rfl rfl (gdec kX3_aboutInn 32 rfl) ?_
  refine g_iload_n C hl 2 rfl rfl (gdec kX3_aboutInn 33 rfl) ?_
  obtain ⟨r20, q21, hf⟩ := bn1_s hf
  refine g_ci h (g_runV C h ho (by decide) rfl (c_X3_freeBeds l E _ _ _ ho _ q21) wM_X3_295 wI_X3_freeBeds wS_X3_freeBeds wN_X3 wC_X3_freeBeds rfl ny_X3_freeBeds rfl ⟨Nat.le_of_ble_eq_true rfl, Nat.le_of_ble_eq_true rfl⟩ hl.1 rfl (Nat.le_of_ble_eq_true rfl) (gdec kX3_aboutInn 34 rfl) ⟨Nat.zero_le _, Nat.zero_le _⟩) (fun H locs h => ?_)
  exact g_iret C h (congrArg (Option.map (Prod.mk _)) hf) (gdec kX3_aboutInn 35 rfl)
def f_X7_inn (G : GS) (p1 : Int) (p2 : Int) : Option (Int × Int) :=
  bn1 (f_X7_checkNumber G p1 (G 3 0 4)) (fun x1 => if x1 = 0 then bn1 (f_X7_checkRange G p2 0 6) (fun x3 => if x3 = 0 then bn1 (f_X3_aboutInn G 0 p1 p2) (fun r5 => some (0, r5)) else some (x3, 0)) else some (x1, 0))
set_option maxHeartbeats 4000000 in
set_option maxRecDepth 100000 in
theorem c_X7_inn (l : Launch) (E : gEnv) (G : GS) (p1 : Int) (p2 : Int) (ho : gOk E 7 0) (rz : Int) (hf : f_X7_inn G p1 p2 = some (0, rz)) : gMet l yX7_inn cX7_inn 3 (some .int) 4 88 0 0 [.ref (eA E 7 0), vI p1, vI p2] E G (gQi E G rz) := by
  refine g_met (by decide +kernel) (Nat.le_of_ble_eq_true rfl) ?_
  intro p e s m below meth c C H locs h ls hl
  have C : gC p s m _ meth c RX7 cX7_inn 3 (some .int) E := C
  have hl : lv_has ls 3 [(0, .ref (eA E 7 0)), (1, vI p1), (2, vI p2)] := hl
  unfold f_X7_inn at hf
  refine g_iload_n C hl 1 rfl rfl (gdec kX7_inn 0 rfl) ?_
  refine g_aload_n C hl 0 rfl rfl (gdec kX7_inn 1 rfl) ?_
  refine gf_X7_12 C h ho (gdec kX7_inn 2 rfl) ?_
  refine gf_X7_33 C h (gcl_7_0 C ho) (gdec kX7_inn 3 rfl) ?_
  obtain ⟨x1, q2, hf⟩ := bn1_s hf
  by_cases hx : x1 = 0
  rotate_left
  · exact absurd (ifn hx hf) (gx_nr hx)
  · subst hx
    replace hf := ifp rfl hf
    refine g_cv h (g_runS C h (c_X7_checkNumber l E _ _ _ q2) wM_X7_37 wT_X7_checkNumber wN_X7 wC_X7_checkNumber rfl ny_X7_checkNumber rfl ⟨Nat.le_of_ble_eq_true rfl, Nat.le_of_ble_eq_true rfl⟩ hl.1 rfl (Nat.le_of_ble_eq_true rfl) (gdec kX7_inn 4 rfl) ⟨Nat.zero_le _, Nat.zero_le _⟩) (fun H locs h => ?_)
    refine g_iload_n C hl 2 rfl rfl (gdec kX7_inn 5 rfl) ?_
    refine g_iconst C (gdec kX7_inn 6 rfl) ?_
    refine g_bipush C (gdec kX7_inn 7 rfl) rfl ?_
    obtain ⟨x3, q4, hf⟩ := bn1_s hf
    by_cases hx : x3 = 0
    rotate_left
    · exact absurd (ifn hx hf) (gx_nr hx)
    · subst hx
      replace hf := ifp rfl hf
      refine g_cv h (g_runS C h (c_X7_checkRange l E _ _ _ _ q4) wM_X7_41 wT_X7_checkRange wN_X7 wC_X7_checkRange rfl ny_X7_checkRange rfl ⟨Nat.le_of_ble_eq_true rfl, Nat.le_of_ble_eq_true rfl⟩ hl.1 rfl (Nat.le_of_ble_eq_true rfl) (gdec kX7_inn 8 rfl) ⟨Nat.zero_le _, Nat.zero_le _⟩) (fun H locs h => ?_)
      refine g_aload_n C hl 0 rfl rfl (gdec kX7_inn 9 rfl) ?_
      refine gf_X7_12 C h ho (gdec kX7_inn 10 rfl) ?_
      refine g_iload_n C hl 1 rfl rfl (gdec kX7_inn 11 rfl) ?_
      refine g_iload_n C hl 2 rfl rfl (gdec kX7_inn 12 rfl) ?_
      obtain ⟨r5, q6, hf⟩ := bn1_s hf
      refine g_ci h (g_runV C h (gcl_7_0 C ho) (by decide) rfl (c_X3_aboutInn l E _ _ _ _ (gcl_7_0 C ho) _ q6) wM_X7_117 wI_X3_aboutInn wS_X3_aboutInn wN_X3 wC_X3_aboutInn rfl ny_X3_aboutInn rfl ⟨Nat.le_of_ble_eq_true rfl, Nat.le_of_ble_eq_true rfl⟩ hl.1 rfl (Nat.le_of_ble_eq_true rfl) (gdec kX7_inn 13 rfl) ⟨Nat.zero_le _, Nat.zero_le _⟩) (fun H locs h => ?_)
      exact g_iret C h (gx_r hf) (gdec kX7_inn 14 rfl)
def f_X3_teamsOn_L4 (G : GS) (o : Int) (p1 : Int) : Nat → Int → Int → (Int → Int → Option (Int)) → Option (Int)
  | 0, _, _, _ => none
  | n + 1, x2, x3, k => gd x3 (gd (G 3 o 5) (if x3 < (G 3 o 5) then ga x3 10 (gd (G 6 (10 * o + x3) 3) (gd p1 (if (G 6 (10 * o + x3) 3) = p1 then f_X3_teamsOn_L4 G o p1 n (x2 + 1) (x3 + 1) k else f_X3_teamsOn_L4 G o p1 n x2 (x3 + 1) k))) else k x2 x3))
def f_X3_teamsOn (G : GS) (o : Int) (p1 : Int) : Option (Int) :=
  f_X3_teamsOn_L4 G o p1 gFuel 0 0 (fun y2_9 y3_9 => some y2_9)
set_option maxHeartbeats 4000000 in
set_option maxRecDepth 100000 in
theorem c_X3_teamsOn (l : Launch) (E : gEnv) (G : GS) (o : Int) (p1 : Int) (ho : gOk E 3 o) (rz : Int) (hf : f_X3_teamsOn G o p1 = some rz) : gMet l yX3_teamsOn cX3_teamsOn 4 (some .int) 1 21 0 0 [.ref (eA E 3 o), vI p1] E G (gQi E G rz) := by
  refine g_met (by decide +kernel) (Nat.le_of_ble_eq_true rfl) ?_
  intro p e s m below meth c C H locs h ls hl
  have C : gC p s m _ meth c RX3 cX3_teamsOn 4 (some .int) E := C
  have hl : lv_has ls 4 [(0, .ref (eA E 3 o)), (1, vI p1)] := hl
  have L4 : ∀ (n : Nat) (x2 : Int) (x3 : Int) (k : (Int → Int → Option (Int))) (hK : ∀ (x2 : Int) (x3 : Int), k x2 x3 = some rz → ∀ (H : Heap) (locs : List Loc), gH E s G H locs → ∀ ls, lv_has ls 4 [(0, .ref (eA E 3 o)), (1, vI p1), (2, vI x2), (3, vI x3)] → W p l e (gRm 1 21 0 0) s m ([.ref (eA E 3 o), vI p1] : List Value).toArray below meth c H locs 0 0 (MQ below (gQi E G rz) ([.ref (eA E 3 o), vI p1] : List Value).toArray s 0 0 (eF E)) (F0 m 33 ls [])), ∀ (H : Heap) (locs : List Loc), gH E s G H locs → ∀ ls, lv_has ls 4 [(0, .ref (eA E 3 o)), (1, vI p1), (2, vI x2), (3, vI x3)] → f_X3_teamsOn_L4 G o p1 n x2 x3 k = some rz → W p l e (gRm 1 21 0 0) s m ([.ref (eA E 3 o), vI p1] : List Value).toArray below meth c H locs 0 0 (MQ below (gQi E G rz) ([.ref (eA E 3 o), vI p1] : List Value).toArray s 0 0 (eF E)) (F0 m 4 ls []) := by
    intro n
    induction n with
    | zero =>
      intro x2 x3 k hK H locs h ls hl hf
      exact absurd hf (by simp [f_X3_teamsOn_L4])
    | succ n ih =>
      intro x2 x3 k hK H locs h ls hl hf
      unfold f_X3_teamsOn_L4 at hf
      refine g_iload_n C hl 3 rfl rfl (gdec kX3_teamsOn 4 rfl) ?_
      refine g_aload_n C hl 0 rfl rfl (gdec kX3_teamsOn 5 rfl) ?_
      refine gf_X3_51 C h ho (gdec kX3_teamsOn 6 rfl) ?_
      obtain ⟨h1, hf⟩ := gd_s hf
      obtain ⟨h2, hf⟩ := gd_s hf
      refine g_icmp_ge C (tgt := 33) h1 h2 (by decide) (gdec kX3_teamsOn 7 rfl) (fun c3 => ?_) (fun c3 => ?_)
      · replace hf := ifp c3 hf
        refine g_aload_n C hl 0 rfl rfl (gdec kX3_teamsOn 8 rfl) ?_
        refine g_iload_n C hl 3 rfl rfl (gdec kX3_teamsOn 9 rfl) ?_
        obtain ⟨h4, hf⟩ := ga_s hf
        refine g_cr h (g_runV C h ho (by decide) rfl (c_X3_teamRow l E _ _ _ ho _ (e_X3_teamRow _ _ _ h4)) wM_X3_82 wI_X3_teamRow wS_X3_teamRow wN_X3 wC_X3_teamRow rfl ny_X3_teamRow rfl ⟨Nat.le_of_ble_eq_true rfl, Nat.le_of_ble_eq_true rfl⟩ hl.1 rfl (Nat.le_of_ble_eq_true rfl) (gdec kX3_teamsOn 10 rfl) ⟨Nat.zero_le _, Nat.zero_le _⟩) (fun H locs h => ?_)
        have k5 : gOk E 6 (10 * o + x3) := gok6 C (gcl_3_2 C ho) h4
        refine gf_X3_166 C h k5 (gdec kX3_teamsOn 11 rfl) ?_
        refine g_iload_n C hl 1 rfl rfl (gdec kX3_teamsOn 12 rfl) ?_
        obtain ⟨h6, hf⟩ := gd_s hf
        obtain ⟨h7, hf⟩ := gd_s hf
        refine g_icmp_ne C (tgt := 27) h6 h7 (by decide) (gdec kX3_teamsOn 13 rfl) (fun c8 => ?_) (fun c8 => ?_)
        · replace hf := ifp c8 hf
          refine g_iinc C (k := 2) [(2, vI (x2 + 1)), (0, .ref (eA E 3 o)), (1, vI p1), (3, vI x3)] hl rfl (by decide) rfl (gdec kX3_teamsOn 14 rfl) (fun ls hl => ?_)
          refine g_iinc C (k := 3) [(3, vI (x3 + 1)), (2, vI (x2 + 1)), (0, .ref (eA E 3 o)), (1, vI p1)] hl rfl (by decide) rfl (gdec kX3_teamsOn 15 rfl) (fun ls hl => ?_)
          refine g_goto C (tgt := 4) (by decide) (gdec kX3_teamsOn 16 rfl) ?_
          exact ih _ _ k hK H locs h ls (lv_sub hl [2, 3, 1, 0] rfl) hf
        · replace hf := ifn c8 hf
          refine g_iinc C (k := 3) [(3, vI (x3 + 1)), (0, .ref (eA E 3 o)), (1, vI p1), (2, vI x2)] hl rfl (by decide) rfl (gdec kX3_teamsOn 15 rfl) (fun ls hl => ?_)
          refine g_goto C (tgt := 4) (by decide) (gdec kX3_teamsOn 16 rfl) ?_
          exact ih _ _ k hK H locs h ls (lv_sub hl [1, 2, 3, 0] rfl) hf
      · replace hf := ifn c3 hf
        exact hK _ _ hf H locs h ls (lv_sub hl [0, 1, 2, 3] rfl)
  unfold f_X3_teamsOn at hf
  refine g_iconst C (gdec kX3_teamsOn 0 rfl) ?_
  refine g_istore_n C [(2, vI 0), (0, .ref (eA E 3 o)), (1, vI p1)] hl rfl (by decide) rfl (gdec kX3_teamsOn 1 rfl) (fun ls hl => ?_)
  refine g_iconst C (gdec kX3_teamsOn 2 rfl) ?_
  refine g_istore_n C [(3, vI 0), (2, vI 0), (0, .ref (eA E 3 o)), (1, vI p1)] hl rfl (by decide) rfl (gdec kX3_teamsOn 3 rfl) (fun ls hl => ?_)
  refine L4 gFuel _ _ _ (fun y2_9 y3_9 hf H locs h ls hl => ?_) H locs h ls (lv_sub hl [2, 3, 1, 0] rfl) hf
  refine g_iload_n C hl 2 rfl rfl (gdec kX3_teamsOn 17 rfl) ?_
  exact g_iret C h (congrArg (Option.map (Prod.mk _)) hf) (gdec kX3_teamsOn 18 rfl)
def f_X3_aboutStage (G : GS) (o : Int) (p1 : Int) (p2 : Int) : Option (Int) :=
  ga p1 7 (gd p2 (if p2 = 0 then some (G 5 (7 * o + p1) 0) else if p2 = 1 then some (G 5 (7 * o + p1) 1) else if p2 = 2 then bn1 (f_X7_oneIf G (G 5 (7 * o + p1) 2)) (fun r7 => some r7) else if p2 = 3 then bn1 (f_X5_effort G (7 * o + p1) 1) (fun r10 => some r10) else if p2 = 4 then bn1 (f_X5_effort G (7 * o + p1) 0) (fun r13 => some r13) else bn1 (f_X3_teamsOn G o p1) (fun r15 => some r15)))
set_option maxHeartbeats 4000000 in
set_option maxRecDepth 100000 in
theorem c_X3_aboutStage (l : Launch) (E : gEnv) (G : GS) (o : Int) (p1 : Int) (p2 : Int) (ho : gOk E 3 o) (rz : Int) (hf : f_X3_aboutStage G o p1 p2 = some rz) : gMet l yX3_aboutStage cX3_aboutStage 4 (some .int) 2 44 0 0 [.ref (eA E 3 o), vI p1, vI p2] E G (gQi E G rz) := by
  refine g_met (by decide +kernel) (Nat.le_of_ble_eq_true rfl) ?_
  intro p e s m below meth c C H locs h ls hl
  have C : gC p s m _ meth c RX3 cX3_aboutStage 4 (some .int) E := C
  have hl : lv_has ls 4 [(0, .ref (eA E 3 o)), (1, vI p1), (2, vI p2)] := hl
  unfold f_X3_aboutStage at hf
  refine g_aload_n C hl 0 rfl rfl (gdec kX3_aboutStage 0 rfl) ?_
  refine g_iload_n C hl 1 rfl rfl (gdec kX3_aboutStage 1 rfl) ?_
  obtain ⟨h1, hf⟩ := ga_s hf
  refine g_cr h (g_runV C h ho (by decide) rfl (c_X3_stageRow l E _ _ _ ho _ (e_X3_stageRow _ _ _ h1)) wM_X3_169 wI_X3_stageRow wS_X3_stageRow wN_X3 wC_X3_stageRow rfl ny_X3_stageRow rfl ⟨Nat.le_of_ble_eq_true rfl, Nat.le_of_ble_eq_true rfl⟩ hl.1 rfl (Nat.le_of_ble_eq_true rfl) (gdec kX3_aboutStage 2 rfl) ⟨Nat.zero_le _, Nat.zero_le _⟩) (fun H locs h => ?_)
  have k2 : gOk E 5 (7 * o + p1) := gok5 C (gcl_3_0 C ho) h1
  refine g_astore_n C [(3, .ref (eA E 5 (7 * o + p1))), (0, .ref (eA E 3 o)), (1, vI p1), (2, vI p2)] hl rfl (by decide) rfl (gdec kX3_aboutStage 3 rfl) (fun ls hl => ?_)
  refine g_iload_n C hl 3 rfl rfl (gdec kX3_aboutStage 4 rfl) ?_
  obtain ⟨h3, hf⟩ := gd_s hf
  by_cases c4 : p2 = 0
  · replace hf := ifp c4 hf
    refine g_tableIn C (tgt := 40) c4 (by decide) (by decide) (by decide) rfl (by decide) (gdec kX3_aboutStage 5 rfl) ?_
    refine g_aload_n C hl 0 rfl rfl (gdec kX3_aboutStage 6 rfl) ?_
    refine gf_X3_222 C h k2 (gdec kX3_aboutStage 7 rfl) ?_
    exact g_iret C h (congrArg (Option.map (Prod.mk _)) hf) (gdec kX3_aboutStage 8 rfl)
  replace hf := ifn c4 hf
  by_cases c5 : p2 = 1
  · replace hf := ifp c5 hf
    refine g_tableIn C (tgt := 45) c5 (by decide) (by decide) (by decide) rfl (by decide) (gdec kX3_aboutStage 5 rfl) ?_
    refine g_aload_n C hl 0 rfl rfl (gdec kX3_aboutStage 9 rfl) ?_
    refine gf_X3_283 C h k2 (gdec kX3_aboutStage 10 rfl) ?_
    exact g_iret C h (congrArg (Option.map (Prod.mk _)) hf) (gdec kX3_aboutStage 11 rfl)
  replace hf := ifn c5 hf
  by_cases c6 : p2 = 2
  · replace hf := ifp c6 hf
    refine g_tableIn C (tgt := 50) c6 (by decide) (by decide) (by decide) rfl (by decide) (gdec kX3_aboutStage 5 rfl) ?_
    refine g_aload_n C hl 0 rfl rfl (gdec kX3_aboutStage 12 rfl) ?_
    refine gf_X3_231 C h k2 (gdec kX3_aboutStage 13 rfl) ?_
    obtain ⟨r7, q8, hf⟩ := bn1_s hf
    refine g_ci h (g_runSN C h (c_X7_oneIf l E _ _ _ q8) wNest_X3_286 wT_X7_oneIf wN_X7 wC_X7_oneIf ny_X7_oneIf rfl ⟨Nat.le_of_ble_eq_true rfl, Nat.le_of_ble_eq_true rfl⟩ hl.1 rfl (Nat.le_of_ble_eq_true rfl) (gdec kX3_aboutStage 14 rfl) ⟨Nat.zero_le _, Nat.zero_le _⟩) (fun H locs h => ?_)
    exact g_iret C h (congrArg (Option.map (Prod.mk _)) hf) (gdec kX3_aboutStage 15 rfl)
  replace hf := ifn c6 hf
  by_cases c9 : p2 = 3
  · replace hf := ifp c9 hf
    refine g_tableIn C (tgt := 58) c9 (by decide) (by decide) (by decide) rfl (by decide) (gdec kX3_aboutStage 5 rfl) ?_
    refine g_aload_n C hl 0 rfl rfl (gdec kX3_aboutStage 16 rfl) ?_
    refine g_iconst C (gdec kX3_aboutStage 17 rfl) ?_
    obtain ⟨r10, q11, hf⟩ := bn1_s hf
    refine g_ci h (g_runV C h k2 (by decide) rfl (c_X5_effort l E _ _ _ k2 _ q11) wM_X3_176 wI_X5_effort wS_X5_effort wN_X5 wC_X5_effort rfl ny_X5_effort rfl ⟨Nat.le_of_ble_eq_true rfl, Nat.le_of_ble_eq_true rfl⟩ hl.1 rfl (Nat.le_of_ble_eq_true rfl) (gdec kX3_aboutStage 18 rfl) ⟨Nat.zero_le _, Nat.zero_le _⟩) (fun H locs h => ?_)
    exact g_iret C h (congrArg (Option.map (Prod.mk _)) hf) (gdec kX3_aboutStage 19 rfl)
  replace hf := ifn c9 hf
  by_cases c12 : p2 = 4
  · replace hf := ifp c12 hf
    refine g_tableIn C (tgt := 64) c12 (by decide) (by decide) (by decide) rfl (by decide) (gdec kX3_aboutStage 5 rfl) ?_
    refine g_aload_n C hl 0 rfl rfl (gdec kX3_aboutStage 20 rfl) ?_
    refine g_iconst C (gdec kX3_aboutStage 21 rfl) ?_
    obtain ⟨r13, q14, hf⟩ := bn1_s hf
    refine g_ci h (g_runV C h k2 (by decide) rfl (c_X5_effort l E _ _ _ k2 _ q14) wM_X3_176 wI_X5_effort wS_X5_effort wN_X5 wC_X5_effort rfl ny_X5_effort rfl ⟨Nat.le_of_ble_eq_true rfl, Nat.le_of_ble_eq_true rfl⟩ hl.1 rfl (Nat.le_of_ble_eq_true rfl) (gdec kX3_aboutStage 22 rfl) ⟨Nat.zero_le _, Nat.zero_le _⟩) (fun H locs h => ?_)
    exact g_iret C h (congrArg (Option.map (Prod.mk _)) hf) (gdec kX3_aboutStage 23 rfl)
  replace hf := ifn c12 hf
  refine g_tableOut C (tgt := 70) h3 (by omega) (by decide) (gdec kX3_aboutStage 5 rfl) ?_
  refine g_aload_n C hl 1 rfl rfl (gdec kX3_aboutStage 24 rfl) ?_
  refine g_iload_n C hl 2 rfl rfl (gdec kX3_aboutStage 25 rfl) ?_
  obtain ⟨r15, q16, hf⟩ := bn1_s hf
  refine g_ci h (g_runV C h ho (by decide) rfl (c_X3_teamsOn l E _ _ _ ho _ q16) wM_X3_289 wI_X3_teamsOn wS_X3_teamsOn wN_X3 wC_X3_teamsOn rfl ny_X3_teamsOn rfl ⟨Nat.le_of_ble_eq_true rfl, Nat.le_of_ble_eq_true rfl⟩ hl.1 rfl (Nat.le_of_ble_eq_true rfl) (gdec kX3_aboutStage 26 rfl) ⟨Nat.zero_le _, Nat.zero_le _⟩) (fun H locs h => ?_)
  exact g_iret C h (congrArg (Option.map (Prod.mk _)) hf) (gdec kX3_aboutStage 27 rfl)
def f_X7_stage (G : GS) (p1 : Int) (p2 : Int) : Option (Int × Int) :=
  bn1 (f_X7_checkNumber G p1 ((G 3 0 4) - 1)) (fun x1 => if x1 = 0 then bn1 (f_X7_checkRange G p2 0 5) (fun x3 => if x3 = 0 then bn1 (f_X3_aboutStage G 0 p1 p2) (fun r5 => some (0, r5)) else some (x3, 0)) else some (x1, 0))
set_option maxHeartbeats 4000000 in
set_option maxRecDepth 100000 in
theorem c_X7_stage (l : Launch) (E : gEnv) (G : GS) (p1 : Int) (p2 : Int) (ho : gOk E 7 0) (rz : Int) (hf : f_X7_stage G p1 p2 = some (0, rz)) : gMet l yX7_stage cX7_stage 3 (some .int) 3 67 0 0 [.ref (eA E 7 0), vI p1, vI p2] E G (gQi E G rz) := by
  refine g_met (by decide +kernel) (Nat.le_of_ble_eq_true rfl) ?_
  intro p e s m below meth c C H locs h ls hl
  have C : gC p s m _ meth c RX7 cX7_stage 3 (some .int) E := C
  have hl : lv_has ls 3 [(0, .ref (eA E 7 0)), (1, vI p1), (2, vI p2)] := hl
  unfold f_X7_stage at hf
  refine g_iload_n C hl 1 rfl rfl (gdec kX7_stage 0 rfl) ?_
  refine g_aload_n C hl 0 rfl rfl (gdec kX7_stage 1 rfl) ?_
  refine gf_X7_12 C h ho (gdec kX7_stage 2 rfl) ?_
  refine gf_X7_33 C h (gcl_7_0 C ho) (gdec kX7_stage 3 rfl) ?_
  refine g_iconst C (gdec kX7_stage 4 rfl) ?_
  refine g_isub C (gdec kX7_stage 5 rfl) ?_
  obtain ⟨x1, q2, hf⟩ := bn1_s hf
  by_cases hx : x1 = 0
  rotate_left
  · exact absurd (ifn hx hf) (gx_nr hx)
  · subst hx
    replace hf := ifp rfl hf
    refine g_cv h (g_runS C h (c_X7_checkNumber l E _ _ _ q2) wM_X7_37 wT_X7_checkNumber wN_X7 wC_X7_checkNumber rfl ny_X7_checkNumber rfl ⟨Nat.le_of_ble_eq_true rfl, Nat.le_of_ble_eq_true rfl⟩ hl.1 rfl (Nat.le_of_ble_eq_true rfl) (gdec kX7_stage 6 rfl) ⟨Nat.zero_le _, Nat.zero_le _⟩) (fun H locs h => ?_)
    refine g_iload_n C hl 2 rfl rfl (gdec kX7_stage 7 rfl) ?_
    refine g_iconst C (gdec kX7_stage 8 rfl) ?_
    refine g_iconst C (gdec kX7_stage 9 rfl) ?_
    obtain ⟨x3, q4, hf⟩ := bn1_s hf
    by_cases hx : x3 = 0
    rotate_left
    · exact absurd (ifn hx hf) (gx_nr hx)
    · subst hx
      replace hf := ifp rfl hf
      refine g_cv h (g_runS C h (c_X7_checkRange l E _ _ _ _ q4) wM_X7_41 wT_X7_checkRange wN_X7 wC_X7_checkRange rfl ny_X7_checkRange rfl ⟨Nat.le_of_ble_eq_true rfl, Nat.le_of_ble_eq_true rfl⟩ hl.1 rfl (Nat.le_of_ble_eq_true rfl) (gdec kX7_stage 10 rfl) ⟨Nat.zero_le _, Nat.zero_le _⟩) (fun H locs h => ?_)
      refine g_aload_n C hl 0 rfl rfl (gdec kX7_stage 11 rfl) ?_
      refine gf_X7_12 C h ho (gdec kX7_stage 12 rfl) ?_
      refine g_iload_n C hl 1 rfl rfl (gdec kX7_stage 13 rfl) ?_
      refine g_iload_n C hl 2 rfl rfl (gdec kX7_stage 14 rfl) ?_
      obtain ⟨r5, q6, hf⟩ := bn1_s hf
      refine g_ci h (g_runV C h (gcl_7_0 C ho) (by decide) rfl (c_X3_aboutStage l E _ _ _ _ (gcl_7_0 C ho) _ q6) wM_X7_114 wI_X3_aboutStage wS_X3_aboutStage wN_X3 wC_X3_aboutStage rfl ny_X3_aboutStage rfl ⟨Nat.le_of_ble_eq_true rfl, Nat.le_of_ble_eq_true rfl⟩ hl.1 rfl (Nat.le_of_ble_eq_true rfl) (gdec kX7_stage 15 rfl) ⟨Nat.zero_le _, Nat.zero_le _⟩) (fun H locs h => ?_)
      exact g_iret C h (gx_r hf) (gdec kX7_stage 16 rfl)

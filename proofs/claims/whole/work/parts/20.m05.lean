def f_X8_forAll (G : GS) : Option (GS × Int) :=
  bn1 (f_X8_laysAside G) (fun G1 => bnd (f_X8_toAll G1) (fun G3 r4 => bn1 (f_X8_takesBack G3) (fun G6 => some (G6, r4))))
set_option maxHeartbeats 4000000 in
set_option maxRecDepth 100000 in
theorem c_X8_forAll (l : Launch) (E : gEnv) (G : GS) (ho : gOk E 8 0) (Gz : GS) (rz : Int) (hf : f_X8_forAll G = some (Gz, rz)) : gMet l yX8_forAll cX8_forAll 2 (some .int) 9 200 0 0 [.ref (eA E 8 0)] E G (gQi E Gz rz) := by
  refine g_met (by decide +kernel) (Nat.le_of_ble_eq_true rfl) ?_
  intro p e s m below meth c C H locs h ls hl
  have C : gC p s m _ meth c RX8 cX8_forAll 2 (some .int) E := C
  have hl : lv_has ls 2 [(0, .ref (eA E 8 0))] := hl
  unfold f_X8_forAll at hf
  refine g_aload_n C hl 0 rfl rfl (gdec kX8_forAll 0 rfl) ?_
  obtain ⟨G1, q2, hf⟩ := bn1_s hf
  refine g_cv h (g_runV C h ho (by decide) rfl (c_X8_laysAside l E _ ho _ q2) wM_X8_191 wI_X8_laysAside wS_X8_laysAside wN_X8 wC_X8_laysAside rfl ny_X8_laysAside rfl ⟨Nat.le_of_ble_eq_true rfl, Nat.le_of_ble_eq_true rfl⟩ hl.1 rfl (Nat.le_of_ble_eq_true rfl) (gdec kX8_forAll 1 rfl) ⟨Nat.zero_le _, Nat.zero_le _⟩) (fun H locs h => ?_)
  refine g_aload_n C hl 0 rfl rfl (gdec kX8_forAll 2 rfl) ?_
  obtain ⟨G3, r4, q5, hf⟩ := bnd_s hf
  refine g_ci h (g_runV C h ho (by decide) rfl (c_X8_toAll l E _ ho _ _ q5) wM_X8_201 wI_X8_toAll wS_X8_toAll wN_X8 wC_X8_toAll rfl ny_X8_toAll rfl ⟨Nat.le_of_ble_eq_true rfl, Nat.le_of_ble_eq_true rfl⟩ hl.1 rfl (Nat.le_of_ble_eq_true rfl) (gdec kX8_forAll 3 rfl) ⟨Nat.zero_le _, Nat.zero_le _⟩) (fun H locs h => ?_)
  refine g_istore_n C [(1, vI r4), (0, .ref (eA E 8 0))] hl rfl (by decide) rfl (gdec kX8_forAll 4 rfl) (fun ls hl => ?_)
  refine g_aload_n C hl 1 rfl rfl (gdec kX8_forAll 5 rfl) ?_
  obtain ⟨G6, q7, hf⟩ := bn1_s hf
  refine g_cv h (g_runV C h ho (by decide) rfl (c_X8_takesBack l E _ ho _ q7) wM_X8_194 wI_X8_takesBack wS_X8_takesBack wN_X8 wC_X8_takesBack rfl ny_X8_takesBack rfl ⟨Nat.le_of_ble_eq_true rfl, Nat.le_of_ble_eq_true rfl⟩ hl.1 rfl (Nat.le_of_ble_eq_true rfl) (gdec kX8_forAll 6 rfl) ⟨Nat.zero_le _, Nat.zero_le _⟩) (fun H locs h => ?_)
  refine g_iload_n C hl 0 rfl rfl (gdec kX8_forAll 7 rfl) ?_
  exact g_iret C h hf (gdec kX8_forAll 8 rfl)
def f_X8_hoursToAll (G : GS) : Option (GS × Int) :=
  bnd (f_X8_forAll G) (fun G1 r2 => bnd (f_X8_fine G1 r2) (fun G4 r5 => some (G4, r5)))
set_option maxHeartbeats 4000000 in
set_option maxRecDepth 100000 in
theorem c_X8_hoursToAll (l : Launch) (E : gEnv) (G : GS) (ho : gOk E 8 0) (Gz : GS) (rz : Int) (hf : f_X8_hoursToAll G = some (Gz, rz)) : gMet l yX8_hoursToAll cX8_hoursToAll 1 (some .int) 10 221 0 0 [.ref (eA E 8 0)] E G (gQi E Gz rz) := by
  refine g_met (by decide +kernel) (Nat.le_of_ble_eq_true rfl) ?_
  intro p e s m below meth c C H locs h ls hl
  have C : gC p s m _ meth c RX8 cX8_hoursToAll 1 (some .int) E := C
  have hl : lv_has ls 1 [(0, .ref (eA E 8 0))] := hl
  unfold f_X8_hoursToAll at hf
  refine g_aload_n C hl 0 rfl rfl (gdec kX8_hoursToAll 0 rfl) ?_
  refine g_aload_n C hl 0 rfl rfl (gdec kX8_hoursToAll 1 rfl) ?_
  obtain ⟨G1, r2, q3, hf⟩ := bnd_s hf
  refine g_ci h (g_runV C h ho (by decide) rfl (c_X8_forAll l E _ ho _ _ q3) wM_X8_205 wI_X8_forAll wS_X8_forAll wN_X8 wC_X8_forAll rfl ny_X8_forAll rfl ⟨Nat.le_of_ble_eq_true rfl, Nat.le_of_ble_eq_true rfl⟩ hl.1 rfl (Nat.le_of_ble_eq_true rfl) (gdec kX8_hoursToAll 2 rfl) ⟨Nat.zero_le _, Nat.zero_le _⟩) (fun H locs h => ?_)
  obtain ⟨G4, r5, q6, hf⟩ := bnd_s hf
  refine g_ci h (g_runV C h ho (by decide) rfl (c_X8_fine l E _ _ ho _ _ q6) wM_X8_76 wI_X8_fine wS_X8_fine wN_X8 wC_X8_fine rfl ny_X8_fine rfl ⟨Nat.le_of_ble_eq_true rfl, Nat.le_of_ble_eq_true rfl⟩ hl.1 rfl (Nat.le_of_ble_eq_true rfl) (gdec kX8_hoursToAll 3 rfl) ⟨Nat.zero_le _, Nat.zero_le _⟩) (fun H locs h => ?_)
  exact g_iret C h hf (gdec kX8_hoursToAll 4 rfl)
def f_X8_bestInn_L8 : Nat → GS → Int → Int → Int → (GS → Int → Int → Int → Option (GS × Int)) → Option (GS × Int)
  | 0, _, _, _, _, _ => none
  | n + 1, G, x1, x2, x3, k => gd x3 (gd (G 10 0 0) (if x3 < (G 10 0 0) then gd (G 10 0 7) (if (G 10 0 7) < 10 then bn1 (f_X8_laysAside G) (fun G6 => bn1 (f_X8_adds G6 x3 0) (fun G8 => bnd (f_X8_toAll G8) (fun G10 r11 => bn1 (f_X8_takesBack G10) (fun G13 => gd r11 (if r11 = (-1) then f_X8_bestInn_L8 n G13 x1 x2 (x3 + 1) k else gd x2 (if r11 < x2 then f_X8_bestInn_L8 n G13 x3 r11 (x3 + 1) k else f_X8_bestInn_L8 n G13 x1 x2 (x3 + 1) k)))))) else k G x1 x2 x3) else k G x1 x2 x3))
def f_X8_bestInn (G : GS) : Option (GS × Int) :=
  f_X8_bestInn_L8 gFuel G (-1) 501 0 (fun G20 y1_19 y2_19 y3_19 => bnd (f_X8_fine G20 y1_19) (fun G21 r22 => some (G21, r22)))
set_option maxHeartbeats 4000000 in
set_option maxRecDepth 100000 in
theorem c_X8_bestInn (l : Launch) (E : gEnv) (G : GS) (ho : gOk E 8 0) (Gz : GS) (rz : Int) (hf : f_X8_bestInn G = some (Gz, rz)) : gMet l yX8_bestInn cX8_bestInn 5 (some .int) 9 200 0 0 [.ref (eA E 8 0)] E G (gQi E Gz rz) := by
  refine g_met (by decide +kernel) (Nat.le_of_ble_eq_true rfl) ?_
  intro p e s m below meth c C H locs h ls hl
  have C : gC p s m _ meth c RX8 cX8_bestInn 5 (some .int) E := C
  have hl : lv_has ls 5 [(0, .ref (eA E 8 0))] := hl
  have L8 : ∀ (n : Nat) (G : GS) (x1 : Int) (x2 : Int) (x3 : Int) (k : (GS → Int → Int → Int → Option (GS × Int))) (hK : ∀ (G : GS) (x1 : Int) (x2 : Int) (x3 : Int), k G x1 x2 x3 = some (Gz, rz) → ∀ (H : Heap) (locs : List Loc), gH E s G H locs → ∀ ls, lv_has ls 5 [(0, .ref (eA E 8 0)), (1, vI x1), (2, vI x2), (3, vI x3)] → W p l e (gRm 9 200 0 0) s m ([.ref (eA E 8 0)] : List Value).toArray below meth c H locs 0 0 (MQ below (gQi E Gz rz) ([.ref (eA E 8 0)] : List Value).toArray s 0 0 (eF E)) (F0 m 93 ls [])), ∀ (H : Heap) (locs : List Loc), gH E s G H locs → ∀ ls, lv_has ls 5 [(0, .ref (eA E 8 0)), (1, vI x1), (2, vI x2), (3, vI x3)] → f_X8_bestInn_L8 n G x1 x2 x3 k = some (Gz, rz) → W p l e (gRm 9 200 0 0) s m ([.ref (eA E 8 0)] : List Value).toArray below meth c H locs 0 0 (MQ below (gQi E Gz rz) ([.ref (eA E 8 0)] : List Value).toArray s 0 0 (eF E)) (F0 m 8 ls []) := by
    intro n
    induction n with
    | zero =>
      intro G x1 x2 x3 k hK H locs h ls hl hf
      exact absurd hf (by simp [f_X8_bestInn_L8])
    | succ n ih =>
      intro G x1 x2 x3 k hK H locs h ls hl hf
      unfold f_X8_bestInn_L8 at hf
      refine g_iload_n C hl 3 rfl rfl (gdec kX8_bestInn 6 rfl) ?_
      refine g_aload_n C hl 0 rfl rfl (gdec kX8_bestInn 7 rfl) ?_
      refine gf_X8_7 C h ho (gdec kX8_bestInn 8 rfl) ?_
      refine g_iconst C (gdec kX8_bestInn 9 rfl) ?_
      refine g_iald C h (gcl_8_0 C ho) (n := 260) rfl (by decide) (⟨by decide, by decide⟩ : (0 : Int) ≤ 0 ∧ (0 : Int) < 260) (gdec kX8_bestInn 10 rfl) ?_
      obtain ⟨h1, hf⟩ := gd_s hf
      obtain ⟨h2, hf⟩ := gd_s hf
      refine g_icmp_ge C (tgt := 93) h1 h2 (by decide) (gdec kX8_bestInn 11 rfl) (fun c3 => ?_) (fun c3 => ?_)
      · replace hf := ifp c3 hf
        refine g_aload_n C hl 0 rfl rfl (gdec kX8_bestInn 12 rfl) ?_
        refine gf_X8_7 C h ho (gdec kX8_bestInn 13 rfl) ?_
        refine g_bipush C (gdec kX8_bestInn 14 rfl) rfl ?_
        refine g_iald C h (gcl_8_0 C ho) (n := 260) rfl (by decide) (⟨by decide, by decide⟩ : (0 : Int) ≤ 7 ∧ (7 : Int) < 260) (gdec kX8_bestInn 15 rfl) ?_
        refine g_bipush C (gdec kX8_bestInn 16 rfl) rfl ?_
        obtain ⟨h4, hf⟩ := gd_s hf
        refine g_icmp_ge C (tgt := 93) h4 (by decide) (by decide) (gdec kX8_bestInn 17 rfl) (fun c5 => ?_) (fun c5 => ?_)
        · replace hf := ifp c5 hf
          refine g_aload_n C hl 0 rfl rfl (gdec kX8_bestInn 18 rfl) ?_
          obtain ⟨G6, q7, hf⟩ := bn1_s hf
          refine g_cv h (g_runV C h ho (by decide) rfl (c_X8_laysAside l E _ ho _ q7) wM_X8_191 wI_X8_laysAside wS_X8_laysAside wN_X8 wC_X8_laysAside rfl ny_X8_laysAside rfl ⟨Nat.le_of_ble_eq_true rfl, Nat.le_of_ble_eq_true rfl⟩ hl.1 rfl (Nat.le_of_ble_eq_true rfl) (gdec kX8_bestInn 19 rfl) ⟨Nat.zero_le _, Nat.zero_le _⟩) (fun H locs h => ?_)
          refine g_aload_n C hl 0 rfl rfl (gdec kX8_bestInn 20 rfl) ?_
          refine g_iload_n C hl 3 rfl rfl (gdec kX8_bestInn 21 rfl) ?_
          refine g_iconst C (gdec kX8_bestInn 22 rfl) ?_
          obtain ⟨G8, q9, hf⟩ := bn1_s hf
          refine g_cv h (g_runV C h ho (by decide) rfl (c_X8_adds l E _ _ _ ho _ q9) wM_X8_88 wI_X8_adds wS_X8_adds wN_X8 wC_X8_adds rfl ny_X8_adds rfl ⟨Nat.le_of_ble_eq_true rfl, Nat.le_of_ble_eq_true rfl⟩ hl.1 rfl (Nat.le_of_ble_eq_true rfl) (gdec kX8_bestInn 23 rfl) ⟨Nat.zero_le _, Nat.zero_le _⟩) (fun H locs h => ?_)
          refine g_aload_n C hl 0 rfl rfl (gdec kX8_bestInn 24 rfl) ?_
          obtain ⟨G10, r11, q12, hf⟩ := bnd_s hf
          refine g_ci h (g_runV C h ho (by decide) rfl (c_X8_toAll l E _ ho _ _ q12) wM_X8_201 wI_X8_toAll wS_X8_toAll wN_X8 wC_X8_toAll rfl ny_X8_toAll rfl ⟨Nat.le_of_ble_eq_true rfl, Nat.le_of_ble_eq_true rfl⟩ hl.1 rfl (Nat.le_of_ble_eq_true rfl) (gdec kX8_bestInn 25 rfl) ⟨Nat.zero_le _, Nat.zero_le _⟩) (fun H locs h => ?_)
          refine g_istore C [(4, vI r11), (0, .ref (eA E 8 0)), (1, vI x1), (2, vI x2), (3, vI x3)] hl (by decide) rfl (gdec kX8_bestInn 26 rfl) (fun ls hl => ?_)
          refine g_aload_n C hl 1 rfl rfl (gdec kX8_bestInn 27 rfl) ?_
          obtain ⟨G13, q14, hf⟩ := bn1_s hf
          refine g_cv h (g_runV C h ho (by decide) rfl (c_X8_takesBack l E _ ho _ q14) wM_X8_194 wI_X8_takesBack wS_X8_takesBack wN_X8 wC_X8_takesBack rfl ny_X8_takesBack rfl ⟨Nat.le_of_ble_eq_true rfl, Nat.le_of_ble_eq_true rfl⟩ hl.1 rfl (Nat.le_of_ble_eq_true rfl) (gdec kX8_bestInn 28 rfl) ⟨Nat.zero_le _, Nat.zero_le _⟩) (fun H locs h => ?_)
          refine g_iload C hl 0 rfl (gdec kX8_bestInn 29 rfl) ?_
          refine g_iconst C (gdec kX8_bestInn 30 rfl) ?_
          obtain ⟨h15, hf⟩ := gd_s hf
          refine g_icmp_eq C (tgt := 66) h15 (by decide) (by decide) (gdec kX8_bestInn 31 rfl) (fun c16 => ?_) (fun c16 => ?_)
          · replace hf := ifp c16 hf
            refine g_iload_n C hl 2 rfl rfl (gdec kX8_bestInn 37 rfl) ?_
            refine g_istore_n C [(1, vI x1), (4, vI r11), (0, .ref (eA E 8 0)), (2, vI x2), (3, vI x3)] hl rfl (by decide) rfl (gdec kX8_bestInn 38 rfl) (fun ls hl => ?_)
            refine g_iload C hl 1 rfl (gdec kX8_bestInn 39 rfl) ?_
            refine g_iconst C (gdec kX8_bestInn 40 rfl) ?_
            refine g_icmp_eq C (tgt := 85) h15 (by decide) (by decide) (gdec kX8_bestInn 41 rfl) (fun c0 => ?_) (fun c0 => absurd c16 c0)
            refine g_iload_n C hl 3 rfl rfl (gdec kX8_bestInn 47 rfl) ?_
            refine g_istore_n C [(2, vI x2), (1, vI x1), (4, vI r11), (0, .ref (eA E 8 0)), (3, vI x3)] hl rfl (by decide) rfl (gdec kX8_bestInn 48 rfl) (fun ls hl => ?_)
            refine g_iinc C (k := 4) [(3, vI (x3 + 1)), (2, vI x2), (1, vI x1), (4, vI r11), (0, .ref (eA E 8 0))] hl rfl (by decide) rfl (gdec kX8_bestInn 49 rfl) (fun ls hl => ?_)
            refine g_goto C (tgt := 8) (by decide) (gdec kX8_bestInn 50 rfl) ?_
            exact ih _ _ _ _ k hK H locs h ls (lv_sub hl [4, 2, 1, 0] rfl) hf
          · replace hf := ifn c16 hf
            refine g_iload C hl 0 rfl (gdec kX8_bestInn 32 rfl) ?_
            refine g_iload_n C hl 3 rfl rfl (gdec kX8_bestInn 33 rfl) ?_
            obtain ⟨h17, hf⟩ := gd_s hf
            refine g_icmp_ge C (tgt := 66) h15 h17 (by decide) (gdec kX8_bestInn 34 rfl) (fun c18 => ?_) (fun c18 => ?_)
            · replace hf := ifp c18 hf
              refine g_iload_n C hl 4 rfl rfl (gdec kX8_bestInn 35 rfl) ?_
              refine g_goto C (tgt := 67) (by decide) (gdec kX8_bestInn 36 rfl) ?_
              refine g_istore_n C [(1, vI x3), (4, vI r11), (0, .ref (eA E 8 0)), (2, vI x2), (3, vI x3)] hl rfl (by decide) rfl (gdec kX8_bestInn 38 rfl) (fun ls hl => ?_)
              refine g_iload C hl 1 rfl (gdec kX8_bestInn 39 rfl) ?_
              refine g_iconst C (gdec kX8_bestInn 40 rfl) ?_
              refine g_icmp_eq C (tgt := 85) h15 (by decide) (by decide) (gdec kX8_bestInn 41 rfl) (fun c0 => absurd c0 c16) (fun c0 => ?_)
              refine g_iload C hl 1 rfl (gdec kX8_bestInn 42 rfl) ?_
              refine g_iload_n C hl 3 rfl rfl (gdec kX8_bestInn 43 rfl) ?_
              refine g_icmp_ge C (tgt := 85) h15 h17 (by decide) (gdec kX8_bestInn 44 rfl) (fun c0 => ?_) (fun c0 => absurd c18 c0)
              refine g_iload C hl 1 rfl (gdec kX8_bestInn 45 rfl) ?_
              refine g_goto C (tgt := 86) (by decide) (gdec kX8_bestInn 46 rfl) ?_
              refine g_istore_n C [(2, vI r11), (1, vI x3), (4, vI r11), (0, .ref (eA E 8 0)), (3, vI x3)] hl rfl (by decide) rfl (gdec kX8_bestInn 48 rfl) (fun ls hl => ?_)
              refine g_iinc C (k := 4) [(3, vI (x3 + 1)), (2, vI r11), (1, vI x3), (4, vI r11), (0, .ref (eA E 8 0))] hl rfl (by decide) rfl (gdec kX8_bestInn 49 rfl) (fun ls hl => ?_)
              refine g_goto C (tgt := 8) (by decide) (gdec kX8_bestInn 50 rfl) ?_
              exact ih _ _ _ _ k hK H locs h ls (lv_sub hl [4, 2, 1, 0] rfl) hf
            · replace hf := ifn c18 hf
              refine g_iload_n C hl 2 rfl rfl (gdec kX8_bestInn 37 rfl) ?_
              refine g_istore_n C [(1, vI x1), (4, vI r11), (0, .ref (eA E 8 0)), (2, vI x2), (3, vI x3)] hl rfl (by decide) rfl (gdec kX8_bestInn 38 rfl) (fun ls hl => ?_)
              refine g_iload C hl 1 rfl (gdec kX8_bestInn 39 rfl) ?_
              refine g_iconst C (gdec kX8_bestInn 40 rfl) ?_
              refine g_icmp_eq C (tgt := 85) h15 (by decide) (by decide) (gdec kX8_bestInn 41 rfl) (fun c0 => absurd c0 c16) (fun c0 => ?_)
              refine g_iload C hl 1 rfl (gdec kX8_bestInn 42 rfl) ?_
              refine g_iload_n C hl 3 rfl rfl (gdec kX8_bestInn 43 rfl) ?_
              refine g_icmp_ge C (tgt := 85) h15 h17 (by decide) (gdec kX8_bestInn 44 rfl) (fun c0 => absurd c0 c18) (fun c0 => ?_)
              refine g_iload_n C hl 3 rfl rfl (gdec kX8_bestInn 47 rfl) ?_
              refine g_istore_n C [(2, vI x2), (1, vI x1), (4, vI r11), (0, .ref (eA E 8 0)), (3, vI x3)] hl rfl (by decide) rfl (gdec kX8_bestInn 48 rfl) (fun ls hl => ?_)
              refine g_iinc C (k := 4) [(3, vI (x3 + 1)), (2, vI x2), (1, vI x1), (4, vI r11), (0, .ref (eA E 8 0))] hl rfl (by decide) rfl (gdec kX8_bestInn 49 rfl) (fun ls hl => ?_)
              refine g_goto C (tgt := 8) (by decide) (gdec kX8_bestInn 50 rfl) ?_
              exact ih _ _ _ _ k hK H locs h ls (lv_sub hl [4, 2, 1, 0] rfl) hf
        · replace hf := ifn c5 hf
          exact hK _ _ _ _ hf H locs h ls (lv_sub hl [0, 1, 2, 3] rfl)
      · replace hf := ifn c3 hf
        exact hK _ _ _ _ hf H locs h ls (lv_sub hl [0, 1, 2, 3] rfl)
  unfold f_X8_bestInn at hf
  refine g_iconst C (gdec kX8_bestInn 0 rfl) ?_
  refine g_istore_n C [(1, vI (-1)), (0, .ref (eA E 8 0))] hl rfl (by decide) rfl (gdec kX8_bestInn 1 rfl) (fun ls hl => ?_)
  refine g_sipush C (gdec kX8_bestInn 2 rfl) rfl ?_
  refine g_istore_n C [(2, vI 501), (1, vI (-1)), (0, .ref (eA E 8 0))] hl rfl (by decide) rfl (gdec kX8_bestInn 3 rfl) (fun ls hl => ?_)
  refine g_iconst C (gdec kX8_bestInn 4 rfl) ?_
  refine g_istore_n C [(3, vI 0), (2, vI 501), (1, vI (-1)), (0, .ref (eA E 8 0))] hl rfl (by decide) rfl (gdec kX8_bestInn 5 rfl) (fun ls hl => ?_)
  refine L8 gFuel _ _ _ _ _ (fun G20 y1_19 y2_19 y3_19 hf H locs h ls hl => ?_) H locs h ls (lv_sub hl [3, 2, 1, 0] rfl) hf
  refine g_aload_n C hl 0 rfl rfl (gdec kX8_bestInn 51 rfl) ?_
  refine g_iload_n C hl 1 rfl rfl (gdec kX8_bestInn 52 rfl) ?_
  obtain ⟨G21, r22, q23, hf⟩ := bnd_s hf
  refine g_ci h (g_runV C h ho (by decide) rfl (c_X8_fine l E _ _ ho _ _ q23) wM_X8_76 wI_X8_fine wS_X8_fine wN_X8 wC_X8_fine rfl ny_X8_fine rfl ⟨Nat.le_of_ble_eq_true rfl, Nat.le_of_ble_eq_true rfl⟩ hl.1 rfl (Nat.le_of_ble_eq_true rfl) (gdec kX8_bestInn 53 rfl) ⟨Nat.zero_le _, Nat.zero_le _⟩) (fun H locs h => ?_)
  exact g_iret C h hf (gdec kX8_bestInn 54 rfl)
def f_X8_way_L27 (p1 : Int) (p2 : Int) : Nat → GS → Int → Int → (GS → Int → Int → Option (GS × Int)) → Option (GS × Int)
  | 0, _, _, _, _ => none
  | n + 1, G, x3, x4, k => gd x4 (gd p2 (if x4 = p2 then k G x3 x4 else bn1 (f_X8_toward G x4 p2) (fun r18 => bn1 (f_X8_between G x4 r18) (fun r20 => bn1 (f_X8_hoursOf G r20) (fun r22 => bn1 (f_X8_toward G x4 p2) (fun r24 => f_X8_way_L27 p1 p2 n G (x3 + r22) r24 k))))))
def f_X8_way (G : GS) (p1 : Int) (p2 : Int) : Option (GS × Int) :=
  bn1 (f_X8_isInn G p1) (fun r1 => gd r1 (if r1 = 0 then bnd (f_X8_throwing G 1) (fun G5 r6 => some (G5, r6)) else bn1 (f_X8_isInn G p2) (fun r8 => gd r8 (if r8 = 0 then bnd (f_X8_throwing G 1) (fun G12 r13 => some (G12, r13)) else f_X8_way_L27 p1 p2 gFuel G 0 p1 (fun G27 y3_26 y4_26 => bnd (f_X8_fine G27 y3_26) (fun G28 r29 => some (G28, r29)))))))
set_option maxHeartbeats 4000000 in
set_option maxRecDepth 100000 in
theorem c_X8_way (l : Launch) (E : gEnv) (G : GS) (p1 : Int) (p2 : Int) (ho : gOk E 8 0) (Gz : GS) (rz : Int) (hf : f_X8_way G p1 p2 = some (Gz, rz)) : gMet l yX8_way cX8_way 5 (some .int) 2 46 0 0 [.ref (eA E 8 0), vI p1, vI p2] E G (gQi E Gz rz) := by
  refine g_met (by decide +kernel) (Nat.le_of_ble_eq_true rfl) ?_
  intro p e s m below meth c C H locs h ls hl
  have C : gC p s m _ meth c RX8 cX8_way 5 (some .int) E := C
  have hl : lv_has ls 5 [(0, .ref (eA E 8 0)), (1, vI p1), (2, vI p2)] := hl
  have L27 : ∀ (n : Nat) (G : GS) (x3 : Int) (x4 : Int) (k : (GS → Int → Int → Option (GS × Int))) (hK : ∀ (G : GS) (x3 : Int) (x4 : Int), k G x3 x4 = some (Gz, rz) → ∀ (H : Heap) (locs : List Loc), gH E s G H locs → ∀ ls, lv_has ls 5 [(0, .ref (eA E 8 0)), (1, vI p1), (2, vI p2), (3, vI x3), (4, vI x4)] → W p l e (gRm 2 46 0 0) s m ([.ref (eA E 8 0), vI p1, vI p2] : List Value).toArray below meth c H locs 0 0 (MQ below (gQi E Gz rz) ([.ref (eA E 8 0), vI p1, vI p2] : List Value).toArray s 0 0 (eF E)) (F0 m 62 ls [])), ∀ (H : Heap) (locs : List Loc), gH E s G H locs → ∀ ls, lv_has ls 5 [(0, .ref (eA E 8 0)), (1, vI p1), (2, vI p2), (3, vI x3), (4, vI x4)] → f_X8_way_L27 p1 p2 n G x3 x4 k = some (Gz, rz) → W p l e (gRm 2 46 0 0) s m ([.ref (eA E 8 0), vI p1, vI p2] : List Value).toArray below meth c H locs 0 0 (MQ below (gQi E Gz rz) ([.ref (eA E 8 0), vI p1, vI p2] : List Value).toArray s 0 0 (eF E)) (F0 m 27 ls []) := by
    intro n
    induction n with
    | zero =>
      intro G x3 x4 k hK H locs h ls hl hf
      exact absurd hf (by simp [f_X8_way_L27])
    | succ n ih =>
      intro G x3 x4 k hK H locs h ls hl hf
      unfold f_X8_way_L27 at hf
      refine g_iload C hl 4 rfl (gdec kX8_way 16 rfl) ?_
      refine g_iload_n C hl 2 rfl rfl (gdec kX8_way 17 rfl) ?_
      obtain ⟨h15, hf⟩ := gd_s hf
      obtain ⟨h16, hf⟩ := gd_s hf
      refine g_icmp_eq C (tgt := 62) h15 h16 (by decide) (gdec kX8_way 18 rfl) (fun c17 => ?_) (fun c17 => ?_)
      · replace hf := ifp c17 hf
        exact hK _ _ _ hf H locs h ls (lv_sub hl [0, 1, 2, 3, 4] rfl)
      · replace hf := ifn c17 hf
        refine g_iload_n C hl 3 rfl rfl (gdec kX8_way 19 rfl) ?_
        refine g_aload_n C hl 0 rfl rfl (gdec kX8_way 20 rfl) ?_
        refine g_iload C hl 4 rfl (gdec kX8_way 21 rfl) ?_
        refine g_iload C hl 4 rfl (gdec kX8_way 22 rfl) ?_
        refine g_iload_n C hl 2 rfl rfl (gdec kX8_way 23 rfl) ?_
        obtain ⟨r18, q19, hf⟩ := bn1_s hf
        refine g_ci h (g_runS C h (c_X8_toward l E _ _ _ _ q19) wM_X8_116 wT_X8_toward wN_X8 wC_X8_toward rfl ny_X8_toward rfl ⟨Nat.le_of_ble_eq_true rfl, Nat.le_of_ble_eq_true rfl⟩ hl.1 rfl (Nat.le_of_ble_eq_true rfl) (gdec kX8_way 24 rfl) ⟨Nat.zero_le _, Nat.zero_le _⟩) (fun H locs h => ?_)
        obtain ⟨r20, q21, hf⟩ := bn1_s hf
        refine g_ci h (g_runS C h (c_X8_between l E _ _ _ _ q21) wM_X8_53 wT_X8_between wN_X8 wC_X8_between rfl ny_X8_between rfl ⟨Nat.le_of_ble_eq_true rfl, Nat.le_of_ble_eq_true rfl⟩ hl.1 rfl (Nat.le_of_ble_eq_true rfl) (gdec kX8_way 25 rfl) ⟨Nat.zero_le _, Nat.zero_le _⟩) (fun H locs h => ?_)
        obtain ⟨r22, q23, hf⟩ := bn1_s hf
        refine g_ci h (g_runV C h ho (by decide) rfl (c_X8_hoursOf l E _ _ ho _ q23) wM_X8_56 wI_X8_hoursOf wS_X8_hoursOf wN_X8 wC_X8_hoursOf rfl ny_X8_hoursOf rfl ⟨Nat.le_of_ble_eq_true rfl, Nat.le_of_ble_eq_true rfl⟩ hl.1 rfl (Nat.le_of_ble_eq_true rfl) (gdec kX8_way 26 rfl) ⟨Nat.zero_le _, Nat.zero_le _⟩) (fun H locs h => ?_)
        refine g_iadd C (gdec kX8_way 27 rfl) ?_
        refine g_istore_n C [(3, vI (x3 + r22)), (0, .ref (eA E 8 0)), (1, vI p1), (2, vI p2), (4, vI x4)] hl rfl (by decide) rfl (gdec kX8_way 28 rfl) (fun ls hl => ?_)
        refine g_iload C hl 4 rfl (gdec kX8_way 29 rfl) ?_
        refine g_iload_n C hl 3 rfl rfl (gdec kX8_way 30 rfl) ?_
        obtain ⟨r24, q25, hf⟩ := bn1_s hf
        refine g_ci h (g_runS C h (c_X8_toward l E _ _ _ _ q25) wM_X8_116 wT_X8_toward wN_X8 wC_X8_toward rfl ny_X8_toward rfl ⟨Nat.le_of_ble_eq_true rfl, Nat.le_of_ble_eq_true rfl⟩ hl.1 rfl (Nat.le_of_ble_eq_true rfl) (gdec kX8_way 31 rfl) ⟨Nat.zero_le _, Nat.zero_le _⟩) (fun H locs h => ?_)
        refine g_istore C [(4, vI r24), (3, vI (x3 + r22)), (0, .ref (eA E 8 0)), (1, vI p1), (2, vI p2)] hl (by decide) rfl (gdec kX8_way 32 rfl) (fun ls hl => ?_)
        refine g_goto C (tgt := 27) (by decide) (gdec kX8_way 33 rfl) ?_
        exact ih _ _ _ k hK H locs h ls (lv_sub hl [2, 3, 4, 1, 0] rfl) hf
  unfold f_X8_way at hf
  refine g_aload_n C hl 0 rfl rfl (gdec kX8_way 0 rfl) ?_
  refine g_iload_n C hl 1 rfl rfl (gdec kX8_way 1 rfl) ?_
  obtain ⟨r1, q2, hf⟩ := bn1_s hf
  refine g_ci h (g_runV C h ho (by decide) rfl (c_X8_isInn l E _ _ ho _ q2) wM_X8_79 wI_X8_isInn wS_X8_isInn wN_X8 wC_X8_isInn rfl ny_X8_isInn rfl ⟨Nat.le_of_ble_eq_true rfl, Nat.le_of_ble_eq_true rfl⟩ hl.1 rfl (Nat.le_of_ble_eq_true rfl) (gdec kX8_way 2 rfl) ⟨Nat.zero_le _, Nat.zero_le _⟩) (fun H locs h => ?_)
  obtain ⟨h3, hf⟩ := gd_s hf
  refine g_if_eq C (tgt := 16) h3 (by decide) (gdec kX8_way 3 rfl) (fun c4 => ?_) (fun c4 => ?_)
  · replace hf := ifp c4 hf
    refine g_aload_n C hl 0 rfl rfl (gdec kX8_way 8 rfl) ?_
    refine g_iconst C (gdec kX8_way 9 rfl) ?_
    obtain ⟨G5, r6, q7, hf⟩ := bnd_s hf
    refine g_ci h (g_runV C h ho (by decide) rfl (c_X8_throwing l E _ _ ho _ _ q7) wM_X8_64 wI_X8_throwing wS_X8_throwing wN_X8 wC_X8_throwing rfl ny_X8_throwing rfl ⟨Nat.le_of_ble_eq_true rfl, Nat.le_of_ble_eq_true rfl⟩ hl.1 rfl (Nat.le_of_ble_eq_true rfl) (gdec kX8_way 10 rfl) ⟨Nat.zero_le _, Nat.zero_le _⟩) (fun H locs h => ?_)
    exact g_iret C h hf (gdec kX8_way 11 rfl)
  · replace hf := ifn c4 hf
    refine g_aload_n C hl 0 rfl rfl (gdec kX8_way 4 rfl) ?_
    refine g_iload_n C hl 2 rfl rfl (gdec kX8_way 5 rfl) ?_
    obtain ⟨r8, q9, hf⟩ := bn1_s hf
    refine g_ci h (g_runV C h ho (by decide) rfl (c_X8_isInn l E _ _ ho _ q9) wM_X8_79 wI_X8_isInn wS_X8_isInn wN_X8 wC_X8_isInn rfl ny_X8_isInn rfl ⟨Nat.le_of_ble_eq_true rfl, Nat.le_of_ble_eq_true rfl⟩ hl.1 rfl (Nat.le_of_ble_eq_true rfl) (gdec kX8_way 6 rfl) ⟨Nat.zero_le _, Nat.zero_le _⟩) (fun H locs h => ?_)
    obtain ⟨h10, hf⟩ := gd_s hf
    refine g_if_ne C (tgt := 22) h10 (by decide) (gdec kX8_way 7 rfl) (fun c11 => ?_) (fun c11 => ?_)
    · replace hf := ifp c11 hf
      refine g_aload_n C hl 0 rfl rfl (gdec kX8_way 8 rfl) ?_
      refine g_iconst C (gdec kX8_way 9 rfl) ?_
      obtain ⟨G12, r13, q14, hf⟩ := bnd_s hf
      refine g_ci h (g_runV C h ho (by decide) rfl (c_X8_throwing l E _ _ ho _ _ q14) wM_X8_64 wI_X8_throwing wS_X8_throwing wN_X8 wC_X8_throwing rfl ny_X8_throwing rfl ⟨Nat.le_of_ble_eq_true rfl, Nat.le_of_ble_eq_true rfl⟩ hl.1 rfl (Nat.le_of_ble_eq_true rfl) (gdec kX8_way 10 rfl) ⟨Nat.zero_le _, Nat.zero_le _⟩) (fun H locs h => ?_)
      exact g_iret C h hf (gdec kX8_way 11 rfl)
    · replace hf := ifn c11 hf
      refine g_iconst C (gdec kX8_way 12 rfl) ?_
      refine g_istore_n C [(3, vI 0), (0, .ref (eA E 8 0)), (1, vI p1), (2, vI p2)] hl rfl (by decide) rfl (gdec kX8_way 13 rfl) (fun ls hl => ?_)
      refine g_iload_n C hl 2 rfl rfl (gdec kX8_way 14 rfl) ?_
      refine g_istore C [(4, vI p1), (3, vI 0), (0, .ref (eA E 8 0)), (1, vI p1), (2, vI p2)] hl (by decide) rfl (gdec kX8_way 15 rfl) (fun ls hl => ?_)
      refine L27 gFuel _ _ _ _ (fun G27 y3_26 y4_26 hf H locs h ls hl => ?_) H locs h ls (lv_sub hl [2, 3, 4, 1, 0] rfl) hf
      refine g_aload_n C hl 0 rfl rfl (gdec kX8_way 34 rfl) ?_
      refine g_iload_n C hl 3 rfl rfl (gdec kX8_way 35 rfl) ?_
      obtain ⟨G28, r29, q30, hf⟩ := bnd_s hf
      refine g_ci h (g_runV C h ho (by decide) rfl (c_X8_fine l E _ _ ho _ _ q30) wM_X8_76 wI_X8_fine wS_X8_fine wN_X8 wC_X8_fine rfl ny_X8_fine rfl ⟨Nat.le_of_ble_eq_true rfl, Nat.le_of_ble_eq_true rfl⟩ hl.1 rfl (Nat.le_of_ble_eq_true rfl) (gdec kX8_way 36 rfl) ⟨Nat.zero_le _, Nat.zero_le _⟩) (fun H locs h => ?_)
      exact g_iret C h hf (gdec kX8_way 37 rfl)
def f_X8_effortHome_L31 (p1 : Int) : Nat → GS → Int → Int → Int → (GS → Int → Int → Int → Option (GS × Int)) → Option (GS × Int)
  | 0, _, _, _, _, _ => none
  | n + 1, G, x2, x3, x4, k => gd x4 (gd x3 (if x4 = x3 then k G x2 x3 x4 else bn1 (f_X8_toward G x4 x3) (fun r15 => bn1 (f_X8_effort G x4 r15) (fun r17 => bn1 (f_X8_toward G x4 x3) (fun r19 => f_X8_effortHome_L31 p1 n G (x2 + r17) x3 r19 k)))))
def f_X8_effortHome (G : GS) (p1 : Int) : Option (GS × Int) :=
  bn1 (f_X8_isTeam G p1) (fun r1 => gd r1 (if r1 = 0 then bnd (f_X8_throwing G 1) (fun G5 r6 => some (G5, r6)) else bn1 (f_X8_of G p1 0) (fun r8 => bn1 (f_X8_of G p1 2) (fun r10 => f_X8_effortHome_L31 p1 gFuel G 0 r8 r10 (fun G22 y2_21 y3_21 y4_21 => bnd (f_X8_fine G22 y2_21) (fun G23 r24 => some (G23, r24)))))))
set_option maxHeartbeats 4000000 in
set_option maxRecDepth 100000 in
theorem c_X8_effortHome (l : Launch) (E : gEnv) (G : GS) (p1 : Int) (ho : gOk E 8 0) (Gz : GS) (rz : Int) (hf : f_X8_effortHome G p1 = some (Gz, rz)) : gMet l yX8_effortHome cX8_effortHome 5 (some .int) 2 46 0 0 [.ref (eA E 8 0), vI p1] E G (gQi E Gz rz) := by
  refine g_met (by decide +kernel) (Nat.le_of_ble_eq_true rfl) ?_
  intro p e s m below meth c C H locs h ls hl
  have C : gC p s m _ meth c RX8 cX8_effortHome 5 (some .int) E := C
  have hl : lv_has ls 5 [(0, .ref (eA E 8 0)), (1, vI p1)] := hl
  have L31 : ∀ (n : Nat) (G : GS) (x2 : Int) (x3 : Int) (x4 : Int) (k : (GS → Int → Int → Int → Option (GS × Int))) (hK : ∀ (G : GS) (x2 : Int) (x3 : Int) (x4 : Int), k G x2 x3 x4 = some (Gz, rz) → ∀ (H : Heap) (locs : List Loc), gH E s G H locs → ∀ ls, lv_has ls 5 [(0, .ref (eA E 8 0)), (1, vI p1), (2, vI x2), (3, vI x3), (4, vI x4)] → W p l e (gRm 2 46 0 0) s m ([.ref (eA E 8 0), vI p1] : List Value).toArray below meth c H locs 0 0 (MQ below (gQi E Gz rz) ([.ref (eA E 8 0), vI p1] : List Value).toArray s 0 0 (eF E)) (F0 m 63 ls [])), ∀ (H : Heap) (locs : List Loc), gH E s G H locs → ∀ ls, lv_has ls 5 [(0, .ref (eA E 8 0)), (1, vI p1), (2, vI x2), (3, vI x3), (4, vI x4)] → f_X8_effortHome_L31 p1 n G x2 x3 x4 k = some (Gz, rz) → W p l e (gRm 2 46 0 0) s m ([.ref (eA E 8 0), vI p1] : List Value).toArray below meth c H locs 0 0 (MQ below (gQi E Gz rz) ([.ref (eA E 8 0), vI p1] : List Value).toArray s 0 0 (eF E)) (F0 m 31 ls []) := by
    intro n
    induction n with
    | zero =>
      intro G x2 x3 x4 k hK H locs h ls hl hf
      exact absurd hf (by simp [f_X8_effortHome_L31])
    | succ n ih =>
      intro G x2 x3 x4 k hK H locs h ls hl hf
      unfold f_X8_effortHome_L31 at hf
      refine g_iload C hl 4 rfl (gdec kX8_effortHome 20 rfl) ?_
      refine g_iload_n C hl 3 rfl rfl (gdec kX8_effortHome 21 rfl) ?_
      obtain ⟨h12, hf⟩ := gd_s hf
      obtain ⟨h13, hf⟩ := gd_s hf
      refine g_icmp_eq C (tgt := 63) h12 h13 (by decide) (gdec kX8_effortHome 22 rfl) (fun c14 => ?_) (fun c14 => ?_)
      · replace hf := ifp c14 hf
        exact hK _ _ _ _ hf H locs h ls (lv_sub hl [0, 1, 2, 3, 4] rfl)
      · replace hf := ifn c14 hf
        refine g_iload_n C hl 2 rfl rfl (gdec kX8_effortHome 23 rfl) ?_
        refine g_aload_n C hl 0 rfl rfl (gdec kX8_effortHome 24 rfl) ?_
        refine g_iload C hl 4 rfl (gdec kX8_effortHome 25 rfl) ?_
        refine g_iload C hl 4 rfl (gdec kX8_effortHome 26 rfl) ?_
        refine g_iload_n C hl 3 rfl rfl (gdec kX8_effortHome 27 rfl) ?_
        obtain ⟨r15, q16, hf⟩ := bn1_s hf
        refine g_ci h (g_runS C h (c_X8_toward l E _ _ _ _ q16) wM_X8_116 wT_X8_toward wN_X8 wC_X8_toward rfl ny_X8_toward rfl ⟨Nat.le_of_ble_eq_true rfl, Nat.le_of_ble_eq_true rfl⟩ hl.1 rfl (Nat.le_of_ble_eq_true rfl) (gdec kX8_effortHome 28 rfl) ⟨Nat.zero_le _, Nat.zero_le _⟩) (fun H locs h => ?_)
        obtain ⟨r17, q18, hf⟩ := bn1_s hf
        refine g_ci h (g_runV C h ho (by decide) rfl (c_X8_effort l E _ _ _ ho _ q18) wM_X8_107 wI_X8_effort wS_X8_effort wN_X8 wC_X8_effort rfl ny_X8_effort rfl ⟨Nat.le_of_ble_eq_true rfl, Nat.le_of_ble_eq_true rfl⟩ hl.1 rfl (Nat.le_of_ble_eq_true rfl) (gdec kX8_effortHome 29 rfl) ⟨Nat.zero_le _, Nat.zero_le _⟩) (fun H locs h => ?_)
        refine g_iadd C (gdec kX8_effortHome 30 rfl) ?_
        refine g_istore_n C [(2, vI (x2 + r17)), (0, .ref (eA E 8 0)), (1, vI p1), (3, vI x3), (4, vI x4)] hl rfl (by decide) rfl (gdec kX8_effortHome 31 rfl) (fun ls hl => ?_)
        refine g_iload C hl 4 rfl (gdec kX8_effortHome 32 rfl) ?_
        refine g_iload_n C hl 3 rfl rfl (gdec kX8_effortHome 33 rfl) ?_
        obtain ⟨r19, q20, hf⟩ := bn1_s hf
        refine g_ci h (g_runS C h (c_X8_toward l E _ _ _ _ q20) wM_X8_116 wT_X8_toward wN_X8 wC_X8_toward rfl ny_X8_toward rfl ⟨Nat.le_of_ble_eq_true rfl, Nat.le_of_ble_eq_true rfl⟩ hl.1 rfl (Nat.le_of_ble_eq_true rfl) (gdec kX8_effortHome 34 rfl) ⟨Nat.zero_le _, Nat.zero_le _⟩) (fun H locs h => ?_)
        refine g_istore C [(4, vI r19), (2, vI (x2 + r17)), (0, .ref (eA E 8 0)), (1, vI p1), (3, vI x3)] hl (by decide) rfl (gdec kX8_effortHome 35 rfl) (fun ls hl => ?_)
        refine g_goto C (tgt := 31) (by decide) (gdec kX8_effortHome 36 rfl) ?_
        exact ih _ _ _ _ k hK H locs h ls (lv_sub hl [2, 3, 1, 4, 0] rfl) hf
  unfold f_X8_effortHome at hf
  refine g_aload_n C hl 0 rfl rfl (gdec kX8_effortHome 0 rfl) ?_
  refine g_iload_n C hl 1 rfl rfl (gdec kX8_effortHome 1 rfl) ?_
  obtain ⟨r1, q2, hf⟩ := bn1_s hf
  refine g_ci h (g_runV C h ho (by decide) rfl (c_X8_isTeam l E _ _ ho _ q2) wM_X8_174 wI_X8_isTeam wS_X8_isTeam wN_X8 wC_X8_isTeam rfl ny_X8_isTeam rfl ⟨Nat.le_of_ble_eq_true rfl, Nat.le_of_ble_eq_true rfl⟩ hl.1 rfl (Nat.le_of_ble_eq_true rfl) (gdec kX8_effortHome 2 rfl) ⟨Nat.zero_le _, Nat.zero_le _⟩) (fun H locs h => ?_)
  obtain ⟨h3, hf⟩ := gd_s hf
  refine g_if_ne C (tgt := 14) h3 (by decide) (gdec kX8_effortHome 3 rfl) (fun c4 => ?_) (fun c4 => ?_)
  · replace hf := ifp c4 hf
    refine g_aload_n C hl 0 rfl rfl (gdec kX8_effortHome 4 rfl) ?_
    refine g_iconst C (gdec kX8_effortHome 5 rfl) ?_
    obtain ⟨G5, r6, q7, hf⟩ := bnd_s hf
    refine g_ci h (g_runV C h ho (by decide) rfl (c_X8_throwing l E _ _ ho _ _ q7) wM_X8_64 wI_X8_throwing wS_X8_throwing wN_X8 wC_X8_throwing rfl ny_X8_throwing rfl ⟨Nat.le_of_ble_eq_true rfl, Nat.le_of_ble_eq_true rfl⟩ hl.1 rfl (Nat.le_of_ble_eq_true rfl) (gdec kX8_effortHome 6 rfl) ⟨Nat.zero_le _, Nat.zero_le _⟩) (fun H locs h => ?_)
    exact g_iret C h hf (gdec kX8_effortHome 7 rfl)
  · replace hf := ifn c4 hf
    refine g_iconst C (gdec kX8_effortHome 8 rfl) ?_
    refine g_istore_n C [(2, vI 0), (0, .ref (eA E 8 0)), (1, vI p1)] hl rfl (by decide) rfl (gdec kX8_effortHome 9 rfl) (fun ls hl => ?_)
    refine g_aload_n C hl 1 rfl rfl (gdec kX8_effortHome 10 rfl) ?_
    refine g_iload_n C hl 2 rfl rfl (gdec kX8_effortHome 11 rfl) ?_
    refine g_iconst C (gdec kX8_effortHome 12 rfl) ?_
    obtain ⟨r8, q9, hf⟩ := bn1_s hf
    refine g_ci h (g_runV C h ho (by decide) rfl (c_X8_of l E _ _ _ ho _ q9) wM_X8_98 wI_X8_of wS_X8_of wN_X8 wC_X8_of rfl ny_X8_of rfl ⟨Nat.le_of_ble_eq_true rfl, Nat.le_of_ble_eq_true rfl⟩ hl.1 rfl (Nat.le_of_ble_eq_true rfl) (gdec kX8_effortHome 13 rfl) ⟨Nat.zero_le _, Nat.zero_le _⟩) (fun H locs h => ?_)
    refine g_istore_n C [(3, vI r8), (2, vI 0), (0, .ref (eA E 8 0)), (1, vI p1)] hl rfl (by decide) rfl (gdec kX8_effortHome 14 rfl) (fun ls hl => ?_)
    refine g_aload_n C hl 2 rfl rfl (gdec kX8_effortHome 15 rfl) ?_
    refine g_iload_n C hl 3 rfl rfl (gdec kX8_effortHome 16 rfl) ?_
    refine g_iconst C (gdec kX8_effortHome 17 rfl) ?_
    obtain ⟨r10, q11, hf⟩ := bn1_s hf
    refine g_ci h (g_runV C h ho (by decide) rfl (c_X8_of l E _ _ _ ho _ q11) wM_X8_98 wI_X8_of wS_X8_of wN_X8 wC_X8_of rfl ny_X8_of rfl ⟨Nat.le_of_ble_eq_true rfl, Nat.le_of_ble_eq_true rfl⟩ hl.1 rfl (Nat.le_of_ble_eq_true rfl) (gdec kX8_effortHome 18 rfl) ⟨Nat.zero_le _, Nat.zero_le _⟩) (fun H locs h => ?_)
    refine g_istore C [(4, vI r10), (3, vI r8), (2, vI 0), (0, .ref (eA E 8 0)), (1, vI p1)] hl (by decide) rfl (gdec kX8_effortHome 19 rfl) (fun ls hl => ?_)
    refine L31 gFuel _ _ _ _ _ (fun G22 y2_21 y3_21 y4_21 hf H locs h ls hl => ?_) H locs h ls (lv_sub hl [3, 4, 2, 1, 0] rfl) hf
    refine g_aload_n C hl 0 rfl rfl (gdec kX8_effortHome 37 rfl) ?_
    refine g_iload_n C hl 2 rfl rfl (gdec kX8_effortHome 38 rfl) ?_
    obtain ⟨G23, r24, q25, hf⟩ := bnd_s hf
    refine g_ci h (g_runV C h ho (by decide) rfl (c_X8_fine l E _ _ ho _ _ q25) wM_X8_76 wI_X8_fine wS_X8_fine wN_X8 wC_X8_fine rfl ny_X8_fine rfl ⟨Nat.le_of_ble_eq_true rfl, Nat.le_of_ble_eq_true rfl⟩ hl.1 rfl (Nat.le_of_ble_eq_true rfl) (gdec kX8_effortHome 39 rfl) ⟨Nat.zero_le _, Nat.zero_le _⟩) (fun H locs h => ?_)
    exact g_iret C h hf (gdec kX8_effortHome 40 rfl)
def f_X8_meanTiredness_L9 : Nat → GS → UInt64 → Int → (GS → UInt64 → Int → Option (GS × UInt64)) → Option (GS × UInt64)
  | 0, _, _, _, _ => none
  | n + 1, G, x1, x3, k => gd x3 (gd (G 10 0 7) (if x3 < (G 10 0 7) then bn1 (f_X8_of G x3 1) (fun r4 => gn (FP.dadd x1 (FP.i2d (Int32.ofInt r4))) (f_X8_meanTiredness_L9 n G (FP.dadd x1 (FP.i2d (Int32.ofInt r4))) (x3 + 1) k)) else k G x1 x3))
def f_X8_meanTiredness (G : GS) : Option (GS × UInt64) :=
  f_X8_meanTiredness_L9 gFuel (gup G 8 0 4 0) 0 0 (fun G8 y1_7 y3_7 => gd (G8 10 0 7) (if (G8 10 0 7) = 0 then some (G8, 0) else gn (FP.ddiv y1_7 (FP.i2d (Int32.ofInt (G8 10 0 7)))) (some (G8, FP.ddiv y1_7 (FP.i2d (Int32.ofInt (G8 10 0 7)))))))
set_option maxHeartbeats 4000000 in
set_option maxRecDepth 100000 in
theorem c_X8_meanTiredness (l : Launch) (E : gEnv) (G : GS) (ho : gOk E 8 0) (Gz : GS) (rz : UInt64) (hf : f_X8_meanTiredness G = some (Gz, rz)) : gMet l yX8_meanTiredness cX8_meanTiredness 5 (some .double) 2 43 0 0 [.ref (eA E 8 0)] E G (gQd E Gz rz) := by
  refine g_met (by decide +kernel) (Nat.le_of_ble_eq_true rfl) ?_
  intro p e s m below meth c C H locs h ls hl
  have C : gC p s m _ meth c RX8 cX8_meanTiredness 5 (some .double) E := C
  have hl : lv_has ls 5 [(0, .ref (eA E 8 0))] := hl
  have L9 : ∀ (n : Nat) (G : GS) (x1 : UInt64) (x3 : Int) (k : (GS → UInt64 → Int → Option (GS × UInt64))) (hK : ∀ (G : GS) (x1 : UInt64) (x3 : Int), k G x1 x3 = some (Gz, rz) → ∀ (H : Heap) (locs : List Loc), gH E s G H locs → ∀ ls, lv_has ls 5 [(0, .ref (eA E 8 0)), (1, .double x1), (3, vI x3)] → W p l e (gRm 2 43 0 0) s m ([.ref (eA E 8 0)] : List Value).toArray below meth c H locs 0 0 (MQ below (gQd E Gz rz) ([.ref (eA E 8 0)] : List Value).toArray s 0 0 (eF E)) (F0 m 36 ls [])), ∀ (H : Heap) (locs : List Loc), gH E s G H locs → ∀ ls, lv_has ls 5 [(0, .ref (eA E 8 0)), (1, .double x1), (3, vI x3)] → f_X8_meanTiredness_L9 n G x1 x3 k = some (Gz, rz) → W p l e (gRm 2 43 0 0) s m ([.ref (eA E 8 0)] : List Value).toArray below meth c H locs 0 0 (MQ below (gQd E Gz rz) ([.ref (eA E 8 0)] : List Value).toArray s 0 0 (eF E)) (F0 m 9 ls []) := by
    intro n
    induction n with
    | zero =>
      intro G x1 x3 k hK H locs h ls hl hf
      exact absurd hf (by simp [f_X8_meanTiredness_L9])
    | succ n ih =>
      intro G x1 x3 k hK H locs h ls hl hf
      unfold f_X8_meanTiredness_L9 at hf
      refine g_iload_n C hl 2 rfl rfl (gdec kX8_meanTiredness 7 rfl) ?_
      refine g_aload_n C hl 0 rfl rfl (gdec kX8_meanTiredness 8 rfl) ?_
      refine gf_X8_7 C h ho (gdec kX8_meanTiredness 9 rfl) ?_
      refine g_bipush C (gdec kX8_meanTiredness 10 rfl) rfl ?_
      refine g_iald C h (gcl_8_0 C ho) (n := 260) rfl (by decide) (⟨by decide, by decide⟩ : (0 : Int) ≤ 7 ∧ (7 : Int) < 260) (gdec kX8_meanTiredness 11 rfl) ?_
      obtain ⟨h1, hf⟩ := gd_s hf
      obtain ⟨h2, hf⟩ := gd_s hf
      refine g_icmp_ge C (tgt := 36) h1 h2 (by decide) (gdec kX8_meanTiredness 12 rfl) (fun c3 => ?_) (fun c3 => ?_)
      · replace hf := ifp c3 hf
        refine lv_dload_n C.1 C.2.1 (gdec kX8_meanTiredness 13 rfl) rfl (lv_at hl 1 rfl) ?_
        refine g_aload_n C hl 0 rfl rfl (gdec kX8_meanTiredness 14 rfl) ?_
        refine g_iload_n C hl 2 rfl rfl (gdec kX8_meanTiredness 15 rfl) ?_
        refine g_iconst C (gdec kX8_meanTiredness 16 rfl) ?_
        obtain ⟨r4, q5, hf⟩ := bn1_s hf
        refine g_ci h (g_runV C h ho (by decide) rfl (c_X8_of l E _ _ _ ho _ q5) wM_X8_98 wI_X8_of wS_X8_of wN_X8 wC_X8_of rfl ny_X8_of rfl ⟨Nat.le_of_ble_eq_true rfl, Nat.le_of_ble_eq_true rfl⟩ hl.1 rfl (Nat.le_of_ble_eq_true rfl) (gdec kX8_meanTiredness 17 rfl) ⟨Nat.zero_le _, Nat.zero_le _⟩) (fun H locs h => ?_)
        refine lv_i2d C.1 C.2.1 (gdec kX8_meanTiredness 18 rfl) ?_
        obtain ⟨h6, hf⟩ := gn_s hf
        refine lv_dadd C.1 C.2.1 (gdec kX8_meanTiredness 19 rfl) h6 ?_
        refine lv_dstore_n (lv' := [(1, .double (FP.dadd x1 (FP.i2d (Int32.ofInt r4)))), (0, .ref (eA E 8 0)), (3, vI x3)]) C.1 C.2.1 (gdec kX8_meanTiredness 20 rfl) rfl hl (by decide) rfl (fun ls hl => ?_)
        refine g_iinc C (k := 2) [(3, vI (x3 + 1)), (1, .double (FP.dadd x1 (FP.i2d (Int32.ofInt r4)))), (0, .ref (eA E 8 0))] hl rfl (by decide) rfl (gdec kX8_meanTiredness 21 rfl) (fun ls hl => ?_)
        refine g_goto C (tgt := 9) (by decide) (gdec kX8_meanTiredness 22 rfl) ?_
        exact ih _ _ _ k hK H locs h ls (lv_sub hl [2, 1, 0] rfl) hf
      · replace hf := ifn c3 hf
        exact hK _ _ _ hf H locs h ls (lv_sub hl [0, 1, 2] rfl)
  unfold f_X8_meanTiredness at hf
  refine g_aload_n C hl 0 rfl rfl (gdec kX8_meanTiredness 0 rfl) ?_
  refine g_iconst C (gdec kX8_meanTiredness 1 rfl) ?_
  refine gp_X8_33 C h ho (gdec kX8_meanTiredness 2 rfl) (fun H locs h => ?_)
  refine lv_dconst0 C.1 C.2.1 (gdec kX8_meanTiredness 3 rfl) ?_
  refine lv_dstore_n (lv' := [(1, .double 0), (0, .ref (eA E 8 0))]) C.1 C.2.1 (gdec kX8_meanTiredness 4 rfl) rfl hl (by decide) rfl (fun ls hl => ?_)
  refine g_iconst C (gdec kX8_meanTiredness 5 rfl) ?_
  refine g_istore_n C [(3, vI 0), (1, .double 0), (0, .ref (eA E 8 0))] hl rfl (by decide) rfl (gdec kX8_meanTiredness 6 rfl) (fun ls hl => ?_)
  refine L9 gFuel _ _ _ _ (fun G8 y1_7 y3_7 hf H locs h ls hl => ?_) H locs h ls (lv_sub hl [2, 1, 0] rfl) hf
  refine g_aload_n C hl 0 rfl rfl (gdec kX8_meanTiredness 23 rfl) ?_
  refine gf_X8_7 C h ho (gdec kX8_meanTiredness 24 rfl) ?_
  refine g_bipush C (gdec kX8_meanTiredness 25 rfl) rfl ?_
  refine g_iald C h (gcl_8_0 C ho) (n := 260) rfl (by decide) (⟨by decide, by decide⟩ : (0 : Int) ≤ 7 ∧ (7 : Int) < 260) (gdec kX8_meanTiredness 26 rfl) ?_
  refine lv_i2d C.1 C.2.1 (gdec kX8_meanTiredness 27 rfl) ?_
  refine lv_dstore_n (lv' := [(3, .double (FP.i2d (Int32.ofInt (G8 10 0 7)))), (0, .ref (eA E 8 0)), (1, .double y1_7)]) C.1 C.2.1 (gdec kX8_meanTiredness 28 rfl) rfl hl (by decide) rfl (fun ls hl => ?_)
  refine g_aload_n C hl 1 rfl rfl (gdec kX8_meanTiredness 29 rfl) ?_
  refine gf_X8_7 C h ho (gdec kX8_meanTiredness 30 rfl) ?_
  refine g_bipush C (gdec kX8_meanTiredness 31 rfl) rfl ?_
  refine g_iald C h (gcl_8_0 C ho) (n := 260) rfl (by decide) (⟨by decide, by decide⟩ : (0 : Int) ≤ 7 ∧ (7 : Int) < 260) (gdec kX8_meanTiredness 32 rfl) ?_
  obtain ⟨h9, hf⟩ := gd_s hf
  refine g_if_ne C (tgt := 59) h9 (by decide) (gdec kX8_meanTiredness 33 rfl) (fun c10 => ?_) (fun c10 => ?_)
  · replace hf := ifp c10 hf
    refine lv_dconst0 C.1 C.2.1 (gdec kX8_meanTiredness 34 rfl) ?_
    refine g_goto C (tgt := 62) (by decide) (gdec kX8_meanTiredness 35 rfl) ?_
    exact g_dret C h hf (gdec kX8_meanTiredness 39 rfl)
  · replace hf := ifn c10 hf
    refine lv_dload_n C.1 C.2.1 (gdec kX8_meanTiredness 36 rfl) rfl (lv_at hl 2 rfl) ?_
    refine lv_dload_n C.1 C.2.1 (gdec kX8_meanTiredness 37 rfl) rfl (lv_at hl 0 rfl) ?_
    obtain ⟨h11, hf⟩ := gn_s hf
    refine lv_ddiv C.1 C.2.1 (gdec kX8_meanTiredness 38 rfl) h11 ?_
    exact g_dret C h hf (gdec kX8_meanTiredness 39 rfl)
def f_X8_append (G : GS) (p1 : Int) : Option (GS × Int) :=
  bn1 (f_X8_in G (bm p1) 0 127) (fun r1 => gd r1 (if r1 = 0 then bnd (f_X8_throwing G 1) (fun G5 r6 => some (G5, r6)) else gd (G 8 0 7) (if (G 8 0 7) = 90 then bnd (f_X8_throwing G 2) (fun G10 r11 => some (G10, r11)) else ga (G 8 0 7) 90 (bnd (f_X8_fine (gup (gup G 10 3 (G 8 0 7) p1) 8 0 7 (((gup G 10 3 (G 8 0 7) p1) 8 0 7) + 1)) ((gup (gup G 10 3 (G 8 0 7) p1) 8 0 7 (((gup G 10 3 (G 8 0 7) p1) 8 0 7) + 1)) 8 0 7)) (fun G14 r15 => some (G14, r15))))))
set_option maxHeartbeats 4000000 in
set_option maxRecDepth 100000 in
theorem c_X8_append (l : Launch) (E : gEnv) (G : GS) (p1 : Int) (ho : gOk E 8 0) (Gz : GS) (rz : Int) (hf : f_X8_append G p1 = some (Gz, rz)) : gMet l yX8_append cX8_append 2 (some .int) 1 25 0 0 [.ref (eA E 8 0), vI p1] E G (gQi E Gz rz) := by
  refine g_met (by decide +kernel) (Nat.le_of_ble_eq_true rfl) ?_
  intro p e s m below meth c C H locs h ls hl
  have C : gC p s m _ meth c RX8 cX8_append 2 (some .int) E := C
  have hl : lv_has ls 2 [(0, .ref (eA E 8 0)), (1, vI p1)] := hl
  unfold f_X8_append at hf
  refine g_iload_n C hl 1 rfl rfl (gdec kX8_append 0 rfl) ?_
  refine g_i2l C (gdec kX8_append 1 rfl) ?_
  refine g_lconst C (z := 0) (gdec kX8_append 2 rfl) rfl ?_
  refine g_ldc2 C (n := 127) wL_X8_208 rfl (gdec kX8_append 3 rfl) ?_
  obtain ⟨r1, q2, hf⟩ := bn1_s hf
  refine g_ci h (g_runS C h (c_X8_in l E _ _ _ _ _ q2) wM_X8_40 wT_X8_in wN_X8 wC_X8_in rfl ny_X8_in rfl ⟨Nat.le_of_ble_eq_true rfl, Nat.le_of_ble_eq_true rfl⟩ hl.1 rfl (Nat.le_of_ble_eq_true rfl) (gdec kX8_append 4 rfl) ⟨Nat.zero_le _, Nat.zero_le _⟩) (fun H locs h => ?_)
  obtain ⟨h3, hf⟩ := gd_s hf
  refine g_if_ne C (tgt := 18) h3 (by decide) (gdec kX8_append 5 rfl) (fun c4 => ?_) (fun c4 => ?_)
  · replace hf := ifp c4 hf
    refine g_aload_n C hl 0 rfl rfl (gdec kX8_append 6 rfl) ?_
    refine g_iconst C (gdec kX8_append 7 rfl) ?_
    obtain ⟨G5, r6, q7, hf⟩ := bnd_s hf
    refine g_ci h (g_runV C h ho (by decide) rfl (c_X8_throwing l E _ _ ho _ _ q7) wM_X8_64 wI_X8_throwing wS_X8_throwing wN_X8 wC_X8_throwing rfl ny_X8_throwing rfl ⟨Nat.le_of_ble_eq_true rfl, Nat.le_of_ble_eq_true rfl⟩ hl.1 rfl (Nat.le_of_ble_eq_true rfl) (gdec kX8_append 8 rfl) ⟨Nat.zero_le _, Nat.zero_le _⟩) (fun H locs h => ?_)
    exact g_iret C h hf (gdec kX8_append 9 rfl)
  · replace hf := ifn c4 hf
    refine g_aload_n C hl 0 rfl rfl (gdec kX8_append 10 rfl) ?_
    refine gf_X8_210 C h ho (gdec kX8_append 11 rfl) ?_
    refine g_bipush C (gdec kX8_append 12 rfl) rfl ?_
    obtain ⟨h8, hf⟩ := gd_s hf
    refine g_icmp_ne C (tgt := 33) h8 (by decide) (by decide) (gdec kX8_append 13 rfl) (fun c9 => ?_) (fun c9 => ?_)
    · replace hf := ifp c9 hf
      refine g_aload_n C hl 0 rfl rfl (gdec kX8_append 14 rfl) ?_
      refine g_iconst C (gdec kX8_append 15 rfl) ?_
      obtain ⟨G10, r11, q12, hf⟩ := bnd_s hf
      refine g_ci h (g_runV C h ho (by decide) rfl (c_X8_throwing l E _ _ ho _ _ q12) wM_X8_64 wI_X8_throwing wS_X8_throwing wN_X8 wC_X8_throwing rfl ny_X8_throwing rfl ⟨Nat.le_of_ble_eq_true rfl, Nat.le_of_ble_eq_true rfl⟩ hl.1 rfl (Nat.le_of_ble_eq_true rfl) (gdec kX8_append 16 rfl) ⟨Nat.zero_le _, Nat.zero_le _⟩) (fun H locs h => ?_)
      exact g_iret C h hf (gdec kX8_append 17 rfl)
    · replace hf := ifn c9 hf
      refine g_aload_n C hl 0 rfl rfl (gdec kX8_append 18 rfl) ?_
      refine gf_X8_23 C h ho (gdec kX8_append 19 rfl) ?_
      refine g_aload_n C hl 0 rfl rfl (gdec kX8_append 20 rfl) ?_
      refine gf_X8_210 C h ho (gdec kX8_append 21 rfl) ?_
      refine g_iload_n C hl 1 rfl rfl (gdec kX8_append 22 rfl) ?_
      obtain ⟨h13, hf⟩ := ga_s hf
      refine g_iast C h (gcl_8_6 C ho) (n := 90) rfl (by decide) h13 (gdec kX8_append 23 rfl) (fun H locs h => ?_)
      refine g_aload_n C hl 0 rfl rfl (gdec kX8_append 24 rfl) ?_
      refine g_dup C rfl (gdec kX8_append 25 rfl) ?_
      refine gf_X8_210 C h ho (gdec kX8_append 26 rfl) ?_
      refine g_iconst C (gdec kX8_append 27 rfl) ?_
      refine g_iadd C (gdec kX8_append 28 rfl) ?_
      refine gp_X8_210 C h ho (gdec kX8_append 29 rfl) (fun H locs h => ?_)
      refine g_aload_n C hl 0 rfl rfl (gdec kX8_append 30 rfl) ?_
      refine g_aload_n C hl 0 rfl rfl (gdec kX8_append 31 rfl) ?_
      refine gf_X8_210 C h ho (gdec kX8_append 32 rfl) ?_
      obtain ⟨G14, r15, q16, hf⟩ := bnd_s hf
      refine g_ci h (g_runV C h ho (by decide) rfl (c_X8_fine l E _ _ ho _ _ q16) wM_X8_76 wI_X8_fine wS_X8_fine wN_X8 wC_X8_fine rfl ny_X8_fine rfl ⟨Nat.le_of_ble_eq_true rfl, Nat.le_of_ble_eq_true rfl⟩ hl.1 rfl (Nat.le_of_ble_eq_true rfl) (gdec kX8_append 33 rfl) ⟨Nat.zero_le _, Nat.zero_le _⟩) (fun H locs h => ?_)
      exact g_iret C h hf (gdec kX8_append 34 rfl)
def f_X8_clearText (G : GS) : Option (GS × Int) :=
  bnd (f_X8_fine (gup G 8 0 7 0) (G 8 0 7)) (fun G1 r2 => some (G1, r2))
set_option maxHeartbeats 4000000 in
set_option maxRecDepth 100000 in
theorem c_X8_clearText (l : Launch) (E : gEnv) (G : GS) (ho : gOk E 8 0) (Gz : GS) (rz : Int) (hf : f_X8_clearText G = some (Gz, rz)) : gMet l yX8_clearText cX8_clearText 2 (some .int) 1 21 0 0 [.ref (eA E 8 0)] E G (gQi E Gz rz) := by
  refine g_met (by decide +kernel) (Nat.le_of_ble_eq_true rfl) ?_
  intro p e s m below meth c C H locs h ls hl
  have C : gC p s m _ meth c RX8 cX8_clearText 2 (some .int) E := C
  have hl : lv_has ls 2 [(0, .ref (eA E 8 0))] := hl
  unfold f_X8_clearText at hf
  refine g_aload_n C hl 0 rfl rfl (gdec kX8_clearText 0 rfl) ?_
  refine gf_X8_210 C h ho (gdec kX8_clearText 1 rfl) ?_
  refine g_istore_n C [(1, vI (G 8 0 7)), (0, .ref (eA E 8 0))] hl rfl (by decide) rfl (gdec kX8_clearText 2 rfl) (fun ls hl => ?_)
  refine g_aload_n C hl 1 rfl rfl (gdec kX8_clearText 3 rfl) ?_
  refine g_iconst C (gdec kX8_clearText 4 rfl) ?_
  refine gp_X8_210 C h ho (gdec kX8_clearText 5 rfl) (fun H locs h => ?_)
  refine g_aload_n C hl 1 rfl rfl (gdec kX8_clearText 6 rfl) ?_
  refine g_iload_n C hl 0 rfl rfl (gdec kX8_clearText 7 rfl) ?_
  obtain ⟨G1, r2, q3, hf⟩ := bnd_s hf
  refine g_ci h (g_runV C h ho (by decide) rfl (c_X8_fine l E _ _ ho _ _ q3) wM_X8_76 wI_X8_fine wS_X8_fine wN_X8 wC_X8_fine rfl ny_X8_fine rfl ⟨Nat.le_of_ble_eq_true rfl, Nat.le_of_ble_eq_true rfl⟩ hl.1 rfl (Nat.le_of_ble_eq_true rfl) (gdec kX8_clearText 8 rfl) ⟨Nat.zero_le _, Nat.zero_le _⟩) (fun H locs h => ?_)
  exact g_iret C h hf (gdec kX8_clearText 9 rfl)
def f_X8_here (G : GS) : Option (Int) :=
  gd (G 8 0 8) (gd (G 8 0 7) (if (G 8 0 8) < (G 8 0 7) then ga (G 8 0 8) 90 (some (G 10 3 (G 8 0 8))) else some (-1)))
set_option maxHeartbeats 4000000 in
set_option maxRecDepth 100000 in
theorem c_X8_here (l : Launch) (E : gEnv) (G : GS) (ho : gOk E 8 0) (rz : Int) (hf : f_X8_here G = some rz) : gMet l yX8_here cX8_here 1 (some .int) 0 0 0 0 [.ref (eA E 8 0)] E G (gQi E G rz) := by
  refine g_met (by decide +kernel) (Nat.le_of_ble_eq_true rfl) ?_
  intro p e s m below meth c C H locs h ls hl
  have C : gC p s m _ meth c RX8 cX8_here 1 (some .int) E := C
  have hl : lv_has ls 1 [(0, .ref (eA E 8 0))] := hl
  unfold f_X8_here at hf
  refine g_aload_n C hl 0 rfl rfl (gdec kX8_here 0 rfl) ?_
  refine gf_X8_213 C h ho (gdec kX8_here 1 rfl) ?_
  refine g_aload_n C hl 0 rfl rfl (gdec kX8_here 2 rfl) ?_
  refine gf_X8_210 C h ho (gdec kX8_here 3 rfl) ?_
  obtain ⟨h1, hf⟩ := gd_s hf
  obtain ⟨h2, hf⟩ := gd_s hf
  refine g_icmp_ge C (tgt := 23) h1 h2 (by decide) (gdec kX8_here 4 rfl) (fun c3 => ?_) (fun c3 => ?_)
  · replace hf := ifp c3 hf
    refine g_aload_n C hl 0 rfl rfl (gdec kX8_here 5 rfl) ?_
    refine gf_X8_23 C h ho (gdec kX8_here 6 rfl) ?_
    refine g_aload_n C hl 0 rfl rfl (gdec kX8_here 7 rfl) ?_
    refine gf_X8_213 C h ho (gdec kX8_here 8 rfl) ?_
    obtain ⟨h4, hf⟩ := ga_s hf
    refine g_iald C h (gcl_8_6 C ho) (n := 90) rfl (by decide) h4 (gdec kX8_here 9 rfl) ?_
    refine g_goto C (tgt := 24) (by decide) (gdec kX8_here 10 rfl) ?_
    exact g_iret C h (congrArg (Option.map (Prod.mk _)) hf) (gdec kX8_here 12 rfl)
  · replace hf := ifn c3 hf
    refine g_iconst C (gdec kX8_here 11 rfl) ?_
    exact g_iret C h (congrArg (Option.map (Prod.mk _)) hf) (gdec kX8_here 12 rfl)
def f_X8_readsStage (G : GS) : Option (GS × Int) :=
  gd (G 8 0 10) (if (G 8 0 10) = 7 then some (G, 0) else bn1 (f_X8_here G) (fun r3 => bn1 (f_X8_in G (bm r3) 49 57) (fun r5 => gd r5 (if r5 = 0 then some (G, 0) else bn1 (f_X8_here G) (fun r9 => ga (2 * (G 8 0 10)) 14 (ga ((2 * ((gup G 10 4 (2 * (G 8 0 10)) (r9 - 48)) 8 0 10)) + 1) 14 (nm (gup (gup (gup G 10 4 (2 * (G 8 0 10)) (r9 - 48)) 10 4 ((2 * ((gup G 10 4 (2 * (G 8 0 10)) (r9 - 48)) 8 0 10)) + 1) 0) 8 0 8 (((gup (gup G 10 4 (2 * (G 8 0 10)) (r9 - 48)) 10 4 ((2 * ((gup G 10 4 (2 * (G 8 0 10)) (r9 - 48)) 8 0 10)) + 1) 0) 8 0 8) + 1)) (fun G13 => bn1 (f_X8_here G13) (fun r15 => gd r15 (if r15 = 43 then bn1 (f_X8_here G13) (fun r19 => gd r19 (if r19 = 43 then bn1 (f_X8_here (gup G13 8 0 8 ((G13 8 0 8) + 1))) (fun r23 => bn1 (f_X8_in (gup G13 8 0 8 ((G13 8 0 8) + 1)) (bm r23) 49 53) (fun r25 => gd r25 (if r25 = 0 then some ((gup G13 8 0 8 ((G13 8 0 8) + 1)), 0) else bn1 (f_X8_here (gup G13 8 0 8 ((G13 8 0 8) + 1))) (fun r29 => ga ((2 * ((gup G13 8 0 8 ((G13 8 0 8) + 1)) 8 0 10)) + 1) 14 (nm (gup (gup (gup G13 8 0 8 ((G13 8 0 8) + 1)) 10 4 ((2 * ((gup G13 8 0 8 ((G13 8 0 8) + 1)) 8 0 10)) + 1) (1 * (r29 - 48))) 8 0 8 (((gup (gup G13 8 0 8 ((G13 8 0 8) + 1)) 10 4 ((2 * ((gup G13 8 0 8 ((G13 8 0 8) + 1)) 8 0 10)) + 1) (1 * (r29 - 48))) 8 0 8) + 1)) (fun G32 => bn1 (f_X8_here G32) (fun r34 => gd r34 (if r34 = 59 then some ((gup (gup G32 8 0 8 ((G32 8 0 8) + 1)) 8 0 10 (((gup G32 8 0 8 ((G32 8 0 8) + 1)) 8 0 10) + 1)), 1) else some ((gup (gup G32 8 0 8 ((G32 8 0 8) + 0)) 8 0 10 (((gup G32 8 0 8 ((G32 8 0 8) + 0)) 8 0 10) + 0)), 0))))))))) else bn1 (f_X8_here (gup G13 8 0 8 ((G13 8 0 8) + 1))) (fun r42 => bn1 (f_X8_in (gup G13 8 0 8 ((G13 8 0 8) + 1)) (bm r42) 49 53) (fun r44 => gd r44 (if r44 = 0 then some ((gup G13 8 0 8 ((G13 8 0 8) + 1)), 0) else bn1 (f_X8_here (gup G13 8 0 8 ((G13 8 0 8) + 1))) (fun r48 => ga ((2 * ((gup G13 8 0 8 ((G13 8 0 8) + 1)) 8 0 10)) + 1) 14 (nm (gup (gup (gup G13 8 0 8 ((G13 8 0 8) + 1)) 10 4 ((2 * ((gup G13 8 0 8 ((G13 8 0 8) + 1)) 8 0 10)) + 1) ((-1) * (r48 - 48))) 8 0 8 (((gup (gup G13 8 0 8 ((G13 8 0 8) + 1)) 10 4 ((2 * ((gup G13 8 0 8 ((G13 8 0 8) + 1)) 8 0 10)) + 1) ((-1) * (r48 - 48))) 8 0 8) + 1)) (fun G51 => bn1 (f_X8_here G51) (fun r53 => gd r53 (if r53 = 59 then some ((gup (gup G51 8 0 8 ((G51 8 0 8) + 1)) 8 0 10 (((gup G51 8 0 8 ((G51 8 0 8) + 1)) 8 0 10) + 1)), 1) else some ((gup (gup G51 8 0 8 ((G51 8 0 8) + 0)) 8 0 10 (((gup G51 8 0 8 ((G51 8 0 8) + 0)) 8 0 10) + 0)), 0))))))))))) else bn1 (f_X8_here G13) (fun r61 => gd r61 (if r61 = 45 then bn1 (f_X8_here G13) (fun r65 => gd r65 (if r65 = 43 then bn1 (f_X8_here (gup G13 8 0 8 ((G13 8 0 8) + 1))) (fun r69 => bn1 (f_X8_in (gup G13 8 0 8 ((G13 8 0 8) + 1)) (bm r69) 49 53) (fun r71 => gd r71 (if r71 = 0 then some ((gup G13 8 0 8 ((G13 8 0 8) + 1)), 0) else bn1 (f_X8_here (gup G13 8 0 8 ((G13 8 0 8) + 1))) (fun r75 => ga ((2 * ((gup G13 8 0 8 ((G13 8 0 8) + 1)) 8 0 10)) + 1) 14 (nm (gup (gup (gup G13 8 0 8 ((G13 8 0 8) + 1)) 10 4 ((2 * ((gup G13 8 0 8 ((G13 8 0 8) + 1)) 8 0 10)) + 1) (1 * (r75 - 48))) 8 0 8 (((gup (gup G13 8 0 8 ((G13 8 0 8) + 1)) 10 4 ((2 * ((gup G13 8 0 8 ((G13 8 0 8) + 1)) 8 0 10)) + 1) (1 * (r75 - 48))) 8 0 8) + 1)) (fun G78 => bn1 (f_X8_here G78) (fun r80 => gd r80 (if r80 = 59 then some ((gup (gup G78 8 0 8 ((G78 8 0 8) + 1)) 8 0 10 (((gup G78 8 0 8 ((G78 8 0 8) + 1)) 8 0 10) + 1)), 1) else some ((gup (gup G78 8 0 8 ((G78 8 0 8) + 0)) 8 0 10 (((gup G78 8 0 8 ((G78 8 0 8) + 0)) 8 0 10) + 0)), 0))))))))) else bn1 (f_X8_here (gup G13 8 0 8 ((G13 8 0 8) + 1))) (fun r88 => bn1 (f_X8_in (gup G13 8 0 8 ((G13 8 0 8) + 1)) (bm r88) 49 53) (fun r90 => gd r90 (if r90 = 0 then some ((gup G13 8 0 8 ((G13 8 0 8) + 1)), 0) else bn1 (f_X8_here (gup G13 8 0 8 ((G13 8 0 8) + 1))) (fun r94 => ga ((2 * ((gup G13 8 0 8 ((G13 8 0 8) + 1)) 8 0 10)) + 1) 14 (nm (gup (gup (gup G13 8 0 8 ((G13 8 0 8) + 1)) 10 4 ((2 * ((gup G13 8 0 8 ((G13 8 0 8) + 1)) 8 0 10)) + 1) ((-1) * (r94 - 48))) 8 0 8 (((gup (gup G13 8 0 8 ((G13 8 0 8) + 1)) 10 4 ((2 * ((gup G13 8 0 8 ((G13 8 0 8) + 1)) 8 0 10)) + 1) ((-1) * (r94 - 48))) 8 0 8) + 1)) (fun G97 => bn1 (f_X8_here G97) (fun r99 => gd r99 (if r99 = 59 then some ((gup (gup G97 8 0 8 ((G97 8 0 8) + 1)) 8 0 10 (((gup G97 8 0 8 ((G97 8 0 8) + 1)) 8 0 10) + 1)), 1) else some ((gup (gup G97 8 0 8 ((G97 8 0 8) + 0)) 8 0 10 (((gup G97 8 0 8 ((G97 8 0 8) + 0)) 8 0 10) + 0)), 0))))))))))) else bn1 (f_X8_here G13) (fun r107 => gd r107 (if r107 = 59 then some ((gup (gup G13 8 0 8 ((G13 8 0 8) + 1)) 8 0 10 (((gup G13 8 0 8 ((G13 8 0 8) + 1)) 8 0 10) + 1)), 1) else some ((gup (gup G13 8 0 8 ((G13 8 0 8) + 0)) 8 0 10 (((gup G13 8 0 8 ((G13 8 0 8) + 0)) 8 0 10) + 0)), 0)))))))))))))))
set_option maxHeartbeats 4000000 in
set_option maxRecDepth 100000 in
theorem c_X8_readsStage (l : Launch) (E : gEnv) (G : GS) (ho : gOk E 8 0) (Gz : GS) (rz : Int) (hf : f_X8_readsStage G = some (Gz, rz)) : gMet l yX8_readsStage cX8_readsStage 2 (some .boolean) 1 25 0 0 [.ref (eA E 8 0)] E G (gQi E Gz rz) := by
  refine g_met (by decide +kernel) (Nat.le_of_ble_eq_true rfl) ?_
  intro p e s m below meth c C H locs h ls hl
  have C : gC p s m _ meth c RX8 cX8_readsStage 2 (some .boolean) E := C
  have hl : lv_has ls 2 [(0, .ref (eA E 8 0))] := hl
  unfold f_X8_readsStage at hf
  refine g_aload_n C hl 0 rfl rfl (gdec kX8_readsStage 0 rfl) ?_
  refine gf_X8_216 C h ho (gdec kX8_readsStage 1 rfl) ?_
  refine g_bipush C (gdec kX8_readsStage 2 rfl) rfl ?_
  obtain ⟨h1, hf⟩ := gd_s hf
  refine g_icmp_eq C (tgt := 26) h1 (by decide) (by decide) (gdec kX8_readsStage 3 rfl) (fun c2 => ?_) (fun c2 => ?_)
  · replace hf := ifp c2 hf
    refine g_iconst C (gdec kX8_readsStage 11 rfl) ?_
    exact g_zret C h (Or.inl rfl) hf (gdec kX8_readsStage 12 rfl)
  · replace hf := ifn c2 hf
    refine g_aload_n C hl 0 rfl rfl (gdec kX8_readsStage 4 rfl) ?_
    obtain ⟨r3, q4, hf⟩ := bn1_s hf
    refine g_ci h (g_runV C h ho (by decide) rfl (c_X8_here l E _ ho _ q4) wM_X8_219 wI_X8_here wS_X8_here wN_X8 wC_X8_here rfl ny_X8_here rfl ⟨Nat.le_of_ble_eq_true rfl, Nat.le_of_ble_eq_true rfl⟩ hl.1 rfl (Nat.le_of_ble_eq_true rfl) (gdec kX8_readsStage 5 rfl) ⟨Nat.zero_le _, Nat.zero_le _⟩) (fun H locs h => ?_)
    refine g_i2l C (gdec kX8_readsStage 6 rfl) ?_
    refine g_ldc2 C (n := 49) wL_X8_222 rfl (gdec kX8_readsStage 7 rfl) ?_
    refine g_ldc2 C (n := 57) wL_X8_224 rfl (gdec kX8_readsStage 8 rfl) ?_
    obtain ⟨r5, q6, hf⟩ := bn1_s hf
    refine g_ci h (g_runS C h (c_X8_in l E _ _ _ _ _ q6) wM_X8_40 wT_X8_in wN_X8 wC_X8_in rfl ny_X8_in rfl ⟨Nat.le_of_ble_eq_true rfl, Nat.le_of_ble_eq_true rfl⟩ hl.1 rfl (Nat.le_of_ble_eq_true rfl) (gdec kX8_readsStage 9 rfl) ⟨Nat.zero_le _, Nat.zero_le _⟩) (fun H locs h => ?_)
    obtain ⟨h7, hf⟩ := gd_s hf
    refine g_if_ne C (tgt := 28) h7 (by decide) (gdec kX8_readsStage 10 rfl) (fun c8 => ?_) (fun c8 => ?_)
    · replace hf := ifp c8 hf
      refine g_iconst C (gdec kX8_readsStage 11 rfl) ?_
      exact g_zret C h (Or.inl rfl) hf (gdec kX8_readsStage 12 rfl)
    · replace hf := ifn c8 hf
      refine g_aload_n C hl 0 rfl rfl (gdec kX8_readsStage 13 rfl) ?_
      refine gf_X8_26 C h ho (gdec kX8_readsStage 14 rfl) ?_
      refine g_iconst C (gdec kX8_readsStage 15 rfl) ?_
      refine g_aload_n C hl 0 rfl rfl (gdec kX8_readsStage 16 rfl) ?_
      refine gf_X8_216 C h ho (gdec kX8_readsStage 17 rfl) ?_
      refine g_imul C (gdec kX8_readsStage 18 rfl) ?_
      refine g_aload_n C hl 0 rfl rfl (gdec kX8_readsStage 19 rfl) ?_
      obtain ⟨r9, q10, hf⟩ := bn1_s hf
      refine g_ci h (g_runV C h ho (by decide) rfl (c_X8_here l E _ ho _ q10) wM_X8_219 wI_X8_here wS_X8_here wN_X8 wC_X8_here rfl ny_X8_here rfl ⟨Nat.le_of_ble_eq_true rfl, Nat.le_of_ble_eq_true rfl⟩ hl.1 rfl (Nat.le_of_ble_eq_true rfl) (gdec kX8_readsStage 20 rfl) ⟨Nat.zero_le _, Nat.zero_le _⟩) (fun H locs h => ?_)
      refine g_bipush C (gdec kX8_readsStage 21 rfl) rfl ?_
      refine g_isub C (gdec kX8_readsStage 22 rfl) ?_
      obtain ⟨h11, hf⟩ := ga_s hf
      refine g_iast C h (gcl_8_9 C ho) (n := 14) rfl (by decide) h11 (gdec kX8_readsStage 23 rfl) (fun H locs h => ?_)
      refine g_aload_n C hl 0 rfl rfl (gdec kX8_readsStage 24 rfl) ?_
      refine gf_X8_26 C h ho (gdec kX8_readsStage 25 rfl) ?_
      refine g_iconst C (gdec kX8_readsStage 26 rfl) ?_
      refine g_aload_n C hl 0 rfl rfl (gdec kX8_readsStage 27 rfl) ?_
      refine gf_X8_216 C h ho (gdec kX8_readsStage 28 rfl) ?_
      refine g_imul C (gdec kX8_readsStage 29 rfl) ?_
      refine g_iconst C (gdec kX8_readsStage 30 rfl) ?_
      refine g_iadd C (gdec kX8_readsStage 31 rfl) ?_
      refine g_iconst C (gdec kX8_readsStage 32 rfl) ?_
      obtain ⟨h12, hf⟩ := ga_s hf
      refine g_iast C h (gcl_8_9 C ho) (n := 14) rfl (by decide) h12 (gdec kX8_readsStage 33 rfl) (fun H locs h => ?_)
      refine g_aload_n C hl 0 rfl rfl (gdec kX8_readsStage 34 rfl) ?_
      refine g_dup C rfl (gdec kX8_readsStage 35 rfl) ?_
      refine gf_X8_213 C h ho (gdec kX8_readsStage 36 rfl) ?_
      refine g_iconst C (gdec kX8_readsStage 37 rfl) ?_
      refine g_iadd C (gdec kX8_readsStage 38 rfl) ?_
      refine gp_X8_213 C h ho (gdec kX8_readsStage 39 rfl) (fun H locs h => ?_)
      obtain ⟨G13, e14, hf⟩ := nm_s hf
      rw [e14] at h
      refine g_aload_n C hl 0 rfl rfl (gdec kX8_readsStage 40 rfl) ?_
      obtain ⟨r15, q16, hf⟩ := bn1_s hf
      refine g_ci h (g_runV C h ho (by decide) rfl (c_X8_here l E _ ho _ q16) wM_X8_219 wI_X8_here wS_X8_here wN_X8 wC_X8_here rfl ny_X8_here rfl ⟨Nat.le_of_ble_eq_true rfl, Nat.le_of_ble_eq_true rfl⟩ hl.1 rfl (Nat.le_of_ble_eq_true rfl) (gdec kX8_readsStage 41 rfl) ⟨Nat.zero_le _, Nat.zero_le _⟩) (fun H locs h => ?_)
      refine g_bipush C (gdec kX8_readsStage 42 rfl) rfl ?_
      obtain ⟨h17, hf⟩ := gd_s hf
      refine g_icmp_eq C (tgt := 88) h17 (by decide) (by decide) (gdec kX8_readsStage 43 rfl) (fun c18 => ?_) (fun c18 => ?_)
      · replace hf := ifp c18 hf
        refine g_aload_n C hl 0 rfl rfl (gdec kX8_readsStage 48 rfl) ?_
        obtain ⟨r19, q20, hf⟩ := bn1_s hf
        refine g_ci h (g_runV C h ho (by decide) rfl (c_X8_here l E _ ho _ q20) wM_X8_219 wI_X8_here wS_X8_here wN_X8 wC_X8_here rfl ny_X8_here rfl ⟨Nat.le_of_ble_eq_true rfl, Nat.le_of_ble_eq_true rfl⟩ hl.1 rfl (Nat.le_of_ble_eq_true rfl) (gdec kX8_readsStage 49 rfl) ⟨Nat.zero_le _, Nat.zero_le _⟩) (fun H locs h => ?_)
        refine g_bipush C (gdec kX8_readsStage 50 rfl) rfl ?_
        obtain ⟨h21, hf⟩ := gd_s hf
        refine g_icmp_ne C (tgt := 101) h21 (by decide) (by decide) (gdec kX8_readsStage 51 rfl) (fun c22 => ?_) (fun c22 => ?_)
        · replace hf := ifp c22 hf
          refine g_iconst C (gdec kX8_readsStage 52 rfl) ?_
          refine g_goto C (tgt := 102) (by decide) (gdec kX8_readsStage 53 rfl) ?_
          refine g_istore_n C [(1, vI 1), (0, .ref (eA E 8 0))] hl rfl (by decide) rfl (gdec kX8_readsStage 55 rfl) (fun ls hl => ?_)
          refine g_aload_n C hl 1 rfl rfl (gdec kX8_readsStage 56 rfl) ?_
          refine g_dup C rfl (gdec kX8_readsStage 57 rfl) ?_
          refine gf_X8_213 C h ho (gdec kX8_readsStage 58 rfl) ?_
          refine g_iconst C (gdec kX8_readsStage 59 rfl) ?_
          refine g_iadd C (gdec kX8_readsStage_1 0 rfl) ?_
          refine gp_X8_213 C h ho (gdec kX8_readsStage_1 1 rfl) (fun H locs h => ?_)
          refine g_aload_n C hl 1 rfl rfl (gdec kX8_readsStage_1 2 rfl) ?_
          obtain ⟨r23, q24, hf⟩ := bn1_s hf
          refine g_ci h (g_runV C h ho (by decide) rfl (c_X8_here l E _ ho _ q24) wM_X8_219 wI_X8_here wS_X8_here wN_X8 wC_X8_here rfl ny_X8_here rfl ⟨Nat.le_of_ble_eq_true rfl, Nat.le_of_ble_eq_true rfl⟩ hl.1 rfl (Nat.le_of_ble_eq_true rfl) (gdec kX8_readsStage_1 3 rfl) ⟨Nat.zero_le _, Nat.zero_le _⟩) (fun H locs h => ?_)
          refine g_i2l C (gdec kX8_readsStage_1 4 rfl) ?_
          refine g_ldc2 C (n := 49) wL_X8_222 rfl (gdec kX8_readsStage_1 5 rfl) ?_
          refine g_ldc2 C (n := 53) wL_X8_226 rfl (gdec kX8_readsStage_1 6 rfl) ?_
          obtain ⟨r25, q26, hf⟩ := bn1_s hf
          refine g_ci h (g_runS C h (c_X8_in l E _ _ _ _ _ q26) wM_X8_40 wT_X8_in wN_X8 wC_X8_in rfl ny_X8_in rfl ⟨Nat.le_of_ble_eq_true rfl, Nat.le_of_ble_eq_true rfl⟩ hl.1 rfl (Nat.le_of_ble_eq_true rfl) (gdec kX8_readsStage_1 7 rfl) ⟨Nat.zero_le _, Nat.zero_le _⟩) (fun H locs h => ?_)
          obtain ⟨h27, hf⟩ := gd_s hf
          refine g_if_ne C (tgt := 132) h27 (by decide) (gdec kX8_readsStage_1 8 rfl) (fun c28 => ?_) (fun c28 => ?_)
          · replace hf := ifp c28 hf
            refine g_iconst C (gdec kX8_readsStage_1 9 rfl) ?_
            exact g_zret C h (Or.inl rfl) hf (gdec kX8_readsStage_1 10 rfl)
          · replace hf := ifn c28 hf
            refine g_aload_n C hl 1 rfl rfl (gdec kX8_readsStage_1 11 rfl) ?_
            refine gf_X8_26 C h ho (gdec kX8_readsStage_1 12 rfl) ?_
            refine g_iconst C (gdec kX8_readsStage_1 13 rfl) ?_
            refine g_aload_n C hl 1 rfl rfl (gdec kX8_readsStage_1 14 rfl) ?_
            refine gf_X8_216 C h ho (gdec kX8_readsStage_1 15 rfl) ?_
            refine g_imul C (gdec kX8_readsStage_1 16 rfl) ?_
            refine g_iconst C (gdec kX8_readsStage_1 17 rfl) ?_
            refine g_iadd C (gdec kX8_readsStage_1 18 rfl) ?_
            refine g_iload_n C hl 0 rfl rfl (gdec kX8_readsStage_1 19 rfl) ?_
            refine g_aload_n C hl 1 rfl rfl (gdec kX8_readsStage_1 20 rfl) ?_
            obtain ⟨r29, q30, hf⟩ := bn1_s hf
            refine g_ci h (g_runV C h ho (by decide) rfl (c_X8_here l E _ ho _ q30) wM_X8_219 wI_X8_here wS_X8_here wN_X8 wC_X8_here rfl ny_X8_here rfl ⟨Nat.le_of_ble_eq_true rfl, Nat.le_of_ble_eq_true rfl⟩ hl.1 rfl (Nat.le_of_ble_eq_true rfl) (gdec kX8_readsStage_1 21 rfl) ⟨Nat.zero_le _, Nat.zero_le _⟩) (fun H locs h => ?_)
            refine g_bipush C (gdec kX8_readsStage_1 22 rfl) rfl ?_
            refine g_isub C (gdec kX8_readsStage_1 23 rfl) ?_
            refine g_imul C (gdec kX8_readsStage_1 24 rfl) ?_
            obtain ⟨h31, hf⟩ := ga_s hf
            refine g_iast C h (gcl_8_9 C ho) (n := 14) rfl (by decide) h31 (gdec kX8_readsStage_1 25 rfl) (fun H locs h => ?_)
            refine g_aload_n C hl 1 rfl rfl (gdec kX8_readsStage_1 26 rfl) ?_
            refine g_dup C rfl (gdec kX8_readsStage_1 27 rfl) ?_
            refine gf_X8_213 C h ho (gdec kX8_readsStage_1 28 rfl) ?_
            refine g_iconst C (gdec kX8_readsStage_1 29 rfl) ?_
            refine g_iadd C (gdec kX8_readsStage_1 30 rfl) ?_
            refine gp_X8_213 C h ho (gdec kX8_readsStage_1 31 rfl) (fun H locs h => ?_)
            obtain ⟨G32, e33, hf⟩ := nm_s hf
            rw [e33] at h
            refine g_aload_n C hl 1 rfl rfl (gdec kX8_readsStage_1 32 rfl) ?_
            obtain ⟨r34, q35, hf⟩ := bn1_s hf
            refine g_ci h (g_runV C h ho (by decide) rfl (c_X8_here l E _ ho _ q35) wM_X8_219 wI_X8_here wS_X8_here wN_X8 wC_X8_here rfl ny_X8_here rfl ⟨Nat.le_of_ble_eq_true rfl, Nat.le_of_ble_eq_true rfl⟩ hl.1 rfl (Nat.le_of_ble_eq_true rfl) (gdec kX8_readsStage_1 33 rfl) ⟨Nat.zero_le _, Nat.zero_le _⟩) (fun H locs h => ?_)
            refine g_bipush C (gdec kX8_readsStage_1 34 rfl) rfl ?_
            obtain ⟨h36, hf⟩ := gd_s hf
            refine g_icmp_ne C (tgt := 177) h36 (by decide) (by decide) (gdec kX8_readsStage_1 35 rfl) (fun c37 => ?_) (fun c37 => ?_)
            · replace hf := ifp c37 hf
              refine g_iconst C (gdec kX8_readsStage_1 36 rfl) ?_
              refine g_goto C (tgt := 178) (by decide) (gdec kX8_readsStage_1 37 rfl) ?_
              refine g_istore_n C [(1, vI 1), (0, .ref (eA E 8 0))] hl rfl (by decide) rfl (gdec kX8_readsStage_1 39 rfl) (fun ls hl => ?_)
              refine g_aload_n C hl 1 rfl rfl (gdec kX8_readsStage_1 40 rfl) ?_
              refine g_dup C rfl (gdec kX8_readsStage_1 41 rfl) ?_
              refine gf_X8_213 C h ho (gdec kX8_readsStage_1 42 rfl) ?_
              refine g_iload_n C hl 0 rfl rfl (gdec kX8_readsStage_1 43 rfl) ?_
              refine g_if_eq C (tgt := 192) (by decide) (by decide) (gdec kX8_readsStage_1 44 rfl) (fun c38 => absurd c38 (by decide)) (fun c38 => ?_)
              refine g_iconst C (gdec kX8_readsStage_1 45 rfl) ?_
              refine g_goto C (tgt := 193) (by decide) (gdec kX8_readsStage_1 46 rfl) ?_
              refine g_iadd C (gdec kX8_readsStage_1 48 rfl) ?_
              refine gp_X8_213 C h ho (gdec kX8_readsStage_1 49 rfl) (fun H locs h => ?_)
              refine g_aload_n C hl 1 rfl rfl (gdec kX8_readsStage_1 50 rfl) ?_
              refine g_dup C rfl (gdec kX8_readsStage_1 51 rfl) ?_
              refine gf_X8_216 C h ho (gdec kX8_readsStage_1 52 rfl) ?_
              refine g_iload_n C hl 0 rfl rfl (gdec kX8_readsStage_1 53 rfl) ?_
              refine g_if_eq C (tgt := 210) (by decide) (by decide) (gdec kX8_readsStage_1 54 rfl) (fun c39 => absurd c39 (by decide)) (fun c39 => ?_)
              refine g_iconst C (gdec kX8_readsStage_1 55 rfl) ?_
              refine g_goto C (tgt := 211) (by decide) (gdec kX8_readsStage_1 56 rfl) ?_
              refine g_iadd C (gdec kX8_readsStage_1 58 rfl) ?_
              refine gp_X8_216 C h ho (gdec kX8_readsStage_1 59 rfl) (fun H locs h => ?_)
              refine g_iload_n C hl 0 rfl rfl (gdec kX8_readsStage_2 0 rfl) ?_
              exact g_zret C h (Or.inr rfl) hf (gdec kX8_readsStage_2 1 rfl)
            · replace hf := ifn c37 hf
              refine g_iconst C (gdec kX8_readsStage_1 38 rfl) ?_
              refine g_istore_n C [(1, vI 0), (0, .ref (eA E 8 0))] hl rfl (by decide) rfl (gdec kX8_readsStage_1 39 rfl) (fun ls hl => ?_)
              refine g_aload_n C hl 1 rfl rfl (gdec kX8_readsStage_1 40 rfl) ?_
              refine g_dup C rfl (gdec kX8_readsStage_1 41 rfl) ?_
              refine gf_X8_213 C h ho (gdec kX8_readsStage_1 42 rfl) ?_
              refine g_iload_n C hl 0 rfl rfl (gdec kX8_readsStage_1 43 rfl) ?_
              refine g_if_eq C (tgt := 192) (by decide) (by decide) (gdec kX8_readsStage_1 44 rfl) (fun c40 => ?_) (fun c40 => absurd (by decide) c40)
              refine g_iconst C (gdec kX8_readsStage_1 47 rfl) ?_
              refine g_iadd C (gdec kX8_readsStage_1 48 rfl) ?_
              refine gp_X8_213 C h ho (gdec kX8_readsStage_1 49 rfl) (fun H locs h => ?_)
              refine g_aload_n C hl 1 rfl rfl (gdec kX8_readsStage_1 50 rfl) ?_
              refine g_dup C rfl (gdec kX8_readsStage_1 51 rfl) ?_
              refine gf_X8_216 C h ho (gdec kX8_readsStage_1 52 rfl) ?_
              refine g_iload_n C hl 0 rfl rfl (gdec kX8_readsStage_1 53 rfl) ?_
              refine g_if_eq C (tgt := 210) (by decide) (by decide) (gdec kX8_readsStage_1 54 rfl) (fun c41 => ?_) (fun c41 => absurd (by decide) c41)
              refine g_iconst C (gdec kX8_readsStage_1 57 rfl) ?_
              refine g_iadd C (gdec kX8_readsStage_1 58 rfl) ?_
              refine gp_X8_216 C h ho (gdec kX8_readsStage_1 59 rfl) (fun H locs h => ?_)
              refine g_iload_n C hl 0 rfl rfl (gdec kX8_readsStage_2 0 rfl) ?_
              exact g_zret C h (Or.inl rfl) hf (gdec kX8_readsStage_2 1 rfl)
        · replace hf := ifn c22 hf
          refine g_iconst C (gdec kX8_readsStage 54 rfl) ?_
          refine g_istore_n C [(1, vI (-1)), (0, .ref (eA E 8 0))] hl rfl (by decide) rfl (gdec kX8_readsStage 55 rfl) (fun ls hl => ?_)
          refine g_aload_n C hl 1 rfl rfl (gdec kX8_readsStage 56 rfl) ?_
          refine g_dup C rfl (gdec kX8_readsStage 57 rfl) ?_
          refine gf_X8_213 C h ho (gdec kX8_readsStage 58 rfl) ?_
          refine g_iconst C (gdec kX8_readsStage 59 rfl) ?_
          refine g_iadd C (gdec kX8_readsStage_1 0 rfl) ?_
          refine gp_X8_213 C h ho (gdec kX8_readsStage_1 1 rfl) (fun H locs h => ?_)
          refine g_aload_n C hl 1 rfl rfl (gdec kX8_readsStage_1 2 rfl) ?_
          obtain ⟨r42, q43, hf⟩ := bn1_s hf
          refine g_ci h (g_runV C h ho (by decide) rfl (c_X8_here l E _ ho _ q43) wM_X8_219 wI_X8_here wS_X8_here wN_X8 wC_X8_here rfl ny_X8_here rfl ⟨Nat.le_of_ble_eq_true rfl, Nat.le_of_ble_eq_true rfl⟩ hl.1 rfl (Nat.le_of_ble_eq_true rfl) (gdec kX8_readsStage_1 3 rfl) ⟨Nat.zero_le _, Nat.zero_le _⟩) (fun H locs h => ?_)
          refine g_i2l C (gdec kX8_readsStage_1 4 rfl) ?_
          refine g_ldc2 C (n := 49) wL_X8_222 rfl (gdec kX8_readsStage_1 5 rfl) ?_
          refine g_ldc2 C (n := 53) wL_X8_226 rfl (gdec kX8_readsStage_1 6 rfl) ?_
          obtain ⟨r44, q45, hf⟩ := bn1_s hf
          refine g_ci h (g_runS C h (c_X8_in l E _ _ _ _ _ q45) wM_X8_40 wT_X8_in wN_X8 wC_X8_in rfl ny_X8_in rfl ⟨Nat.le_of_ble_eq_true rfl, Nat.le_of_ble_eq_true rfl⟩ hl.1 rfl (Nat.le_of_ble_eq_true rfl) (gdec kX8_readsStage_1 7 rfl) ⟨Nat.zero_le _, Nat.zero_le _⟩) (fun H locs h => ?_)
          obtain ⟨h46, hf⟩ := gd_s hf
          refine g_if_ne C (tgt := 132) h46 (by decide) (gdec kX8_readsStage_1 8 rfl) (fun c47 => ?_) (fun c47 => ?_)
          · replace hf := ifp c47 hf
            refine g_iconst C (gdec kX8_readsStage_1 9 rfl) ?_
            exact g_zret C h (Or.inl rfl) hf (gdec kX8_readsStage_1 10 rfl)
          · replace hf := ifn c47 hf
            refine g_aload_n C hl 1 rfl rfl (gdec kX8_readsStage_1 11 rfl) ?_
            refine gf_X8_26 C h ho (gdec kX8_readsStage_1 12 rfl) ?_
            refine g_iconst C (gdec kX8_readsStage_1 13 rfl) ?_
            refine g_aload_n C hl 1 rfl rfl (gdec kX8_readsStage_1 14 rfl) ?_
            refine gf_X8_216 C h ho (gdec kX8_readsStage_1 15 rfl) ?_
            refine g_imul C (gdec kX8_readsStage_1 16 rfl) ?_
            refine g_iconst C (gdec kX8_readsStage_1 17 rfl) ?_
            refine g_iadd C (gdec kX8_readsStage_1 18 rfl) ?_
            refine g_iload_n C hl 0 rfl rfl (gdec kX8_readsStage_1 19 rfl) ?_
            refine g_aload_n C hl 1 rfl rfl (gdec kX8_readsStage_1 20 rfl) ?_
            obtain ⟨r48, q49, hf⟩ := bn1_s hf
            refine g_ci h (g_runV C h ho (by decide) rfl (c_X8_here l E _ ho _ q49) wM_X8_219 wI_X8_here wS_X8_here wN_X8 wC_X8_here rfl ny_X8_here rfl ⟨Nat.le_of_ble_eq_true rfl, Nat.le_of_ble_eq_true rfl⟩ hl.1 rfl (Nat.le_of_ble_eq_true rfl) (gdec kX8_readsStage_1 21 rfl) ⟨Nat.zero_le _, Nat.zero_le _⟩) (fun H locs h => ?_)
            refine g_bipush C (gdec kX8_readsStage_1 22 rfl) rfl ?_
            refine g_isub C (gdec kX8_readsStage_1 23 rfl) ?_
            refine g_imul C (gdec kX8_readsStage_1 24 rfl) ?_
            obtain ⟨h50, hf⟩ := ga_s hf
            refine g_iast C h (gcl_8_9 C ho) (n := 14) rfl (by decide) h50 (gdec kX8_readsStage_1 25 rfl) (fun H locs h => ?_)
            refine g_aload_n C hl 1 rfl rfl (gdec kX8_readsStage_1 26 rfl) ?_
            refine g_dup C rfl (gdec kX8_readsStage_1 27 rfl) ?_
            refine gf_X8_213 C h ho (gdec kX8_readsStage_1 28 rfl) ?_
            refine g_iconst C (gdec kX8_readsStage_1 29 rfl) ?_
            refine g_iadd C (gdec kX8_readsStage_1 30 rfl) ?_
            refine gp_X8_213 C h ho (gdec kX8_readsStage_1 31 rfl) (fun H locs h => ?_)
            obtain ⟨G51, e52, hf⟩ := nm_s hf
            rw [e52] at h
            refine g_aload_n C hl 1 rfl rfl (gdec kX8_readsStage_1 32 rfl) ?_
            obtain ⟨r53, q54, hf⟩ := bn1_s hf
            refine g_ci h (g_runV C h ho (by decide) rfl (c_X8_here l E _ ho _ q54) wM_X8_219 wI_X8_here wS_X8_here wN_X8 wC_X8_here rfl ny_X8_here rfl ⟨Nat.le_of_ble_eq_true rfl, Nat.le_of_ble_eq_true rfl⟩ hl.1 rfl (Nat.le_of_ble_eq_true rfl) (gdec kX8_readsStage_1 33 rfl) ⟨Nat.zero_le _, Nat.zero_le _⟩) (fun H locs h => ?_)
            refine g_bipush C (gdec kX8_readsStage_1 34 rfl) rfl ?_
            obtain ⟨h55, hf⟩ := gd_s hf
            refine g_icmp_ne C (tgt := 177) h55 (by decide) (by decide) (gdec kX8_readsStage_1 35 rfl) (fun c56 => ?_) (fun c56 => ?_)
            · replace hf := ifp c56 hf
              refine g_iconst C (gdec kX8_readsStage_1 36 rfl) ?_
              refine g_goto C (tgt := 178) (by decide) (gdec kX8_readsStage_1 37 rfl) ?_
              refine g_istore_n C [(1, vI 1), (0, .ref (eA E 8 0))] hl rfl (by decide) rfl (gdec kX8_readsStage_1 39 rfl) (fun ls hl => ?_)
              refine g_aload_n C hl 1 rfl rfl (gdec kX8_readsStage_1 40 rfl) ?_
              refine g_dup C rfl (gdec kX8_readsStage_1 41 rfl) ?_
              refine gf_X8_213 C h ho (gdec kX8_readsStage_1 42 rfl) ?_
              refine g_iload_n C hl 0 rfl rfl (gdec kX8_readsStage_1 43 rfl) ?_
              refine g_if_eq C (tgt := 192) (by decide) (by decide) (gdec kX8_readsStage_1 44 rfl) (fun c57 => absurd c57 (by decide)) (fun c57 => ?_)
              refine g_iconst C (gdec kX8_readsStage_1 45 rfl) ?_
              refine g_goto C (tgt := 193) (by decide) (gdec kX8_readsStage_1 46 rfl) ?_
              refine g_iadd C (gdec kX8_readsStage_1 48 rfl) ?_
              refine gp_X8_213 C h ho (gdec kX8_readsStage_1 49 rfl) (fun H locs h => ?_)
              refine g_aload_n C hl 1 rfl rfl (gdec kX8_readsStage_1 50 rfl) ?_
              refine g_dup C rfl (gdec kX8_readsStage_1 51 rfl) ?_
              refine gf_X8_216 C h ho (gdec kX8_readsStage_1 52 rfl) ?_
              refine g_iload_n C hl 0 rfl rfl (gdec kX8_readsStage_1 53 rfl) ?_
              refine g_if_eq C (tgt := 210) (by decide) (by decide) (gdec kX8_readsStage_1 54 rfl) (fun c58 => absurd c58 (by decide)) (fun c58 => ?_)
              refine g_iconst C (gdec kX8_readsStage_1 55 rfl) ?_
              refine g_goto C (tgt := 211) (by decide) (gdec kX8_readsStage_1 56 rfl) ?_
              refine g_iadd C (gdec kX8_readsStage_1 58 rfl) ?_
              refine gp_X8_216 C h ho (gdec kX8_readsStage_1 59 rfl) (fun H locs h => ?_)
              refine g_iload_n C hl 0 rfl rfl (gdec kX8_readsStage_2 0 rfl) ?_
              exact g_zret C h (Or.inr rfl) hf (gdec kX8_readsStage_2 1 rfl)
            · replace hf := ifn c56 hf
              refine g_iconst C (gdec kX8_readsStage_1 38 rfl) ?_
              refine g_istore_n C [(1, vI 0), (0, .ref (eA E 8 0))] hl rfl (by decide) rfl (gdec kX8_readsStage_1 39 rfl) (fun ls hl => ?_)
              refine g_aload_n C hl 1 rfl rfl (gdec kX8_readsStage_1 40 rfl) ?_
              refine g_dup C rfl (gdec kX8_readsStage_1 41 rfl) ?_
              refine gf_X8_213 C h ho (gdec kX8_readsStage_1 42 rfl) ?_
              refine g_iload_n C hl 0 rfl rfl (gdec kX8_readsStage_1 43 rfl) ?_
              refine g_if_eq C (tgt := 192) (by decide) (by decide) (gdec kX8_readsStage_1 44 rfl) (fun c59 => ?_) (fun c59 => absurd (by decide) c59)
              refine g_iconst C (gdec kX8_readsStage_1 47 rfl) ?_
              refine g_iadd C (gdec kX8_readsStage_1 48 rfl) ?_
              refine gp_X8_213 C h ho (gdec kX8_readsStage_1 49 rfl) (fun H locs h => ?_)
              refine g_aload_n C hl 1 rfl rfl (gdec kX8_readsStage_1 50 rfl) ?_
              refine g_dup C rfl (gdec kX8_readsStage_1 51 rfl) ?_
              refine gf_X8_216 C h ho (gdec kX8_readsStage_1 52 rfl) ?_
              refine g_iload_n C hl 0 rfl rfl (gdec kX8_readsStage_1 53 rfl) ?_
              refine g_if_eq C (tgt := 210) (by decide) (by decide) (gdec kX8_readsStage_1 54 rfl) (fun c60 => ?_) (fun c60 => absurd (by decide) c60)
              refine g_iconst C (gdec kX8_readsStage_1 57 rfl) ?_
              refine g_iadd C (gdec kX8_readsStage_1 58 rfl) ?_
              refine gp_X8_216 C h ho (gdec kX8_readsStage_1 59 rfl) (fun H locs h => ?_)
              refine g_iload_n C hl 0 rfl rfl (gdec kX8_readsStage_2 0 rfl) ?_
              exact g_zret C h (Or.inl rfl) hf (gdec kX8_readsStage_2 1 rfl)
      · replace hf := ifn c18 hf
        refine g_aload_n C hl 0 rfl rfl (gdec kX8_readsStage 44 rfl) ?_
        obtain ⟨r61, q62, hf⟩ := bn1_s hf
        refine g_ci h (g_runV C h ho (by decide) rfl (c_X8_here l E _ ho _ q62) wM_X8_219 wI_X8_here wS_X8_here wN_X8 wC_X8_here rfl ny_X8_here rfl ⟨Nat.le_of_ble_eq_true rfl, Nat.le_of_ble_eq_true rfl⟩ hl.1 rfl (Nat.le_of_ble_eq_true rfl) (gdec kX8_readsStage 45 rfl) ⟨Nat.zero_le _, Nat.zero_le _⟩) (fun H locs h => ?_)
        refine g_bipush C (gdec kX8_readsStage 46 rfl) rfl ?_
        obtain ⟨h63, hf⟩ := gd_s hf
        refine g_icmp_ne C (tgt := 164) h63 (by decide) (by decide) (gdec kX8_readsStage 47 rfl) (fun c64 => ?_) (fun c64 => ?_)
        · replace hf := ifp c64 hf
          refine g_aload_n C hl 0 rfl rfl (gdec kX8_readsStage 48 rfl) ?_
          obtain ⟨r65, q66, hf⟩ := bn1_s hf
          refine g_ci h (g_runV C h ho (by decide) rfl (c_X8_here l E _ ho _ q66) wM_X8_219 wI_X8_here wS_X8_here wN_X8 wC_X8_here rfl ny_X8_here rfl ⟨Nat.le_of_ble_eq_true rfl, Nat.le_of_ble_eq_true rfl⟩ hl.1 rfl (Nat.le_of_ble_eq_true rfl) (gdec kX8_readsStage 49 rfl) ⟨Nat.zero_le _, Nat.zero_le _⟩) (fun H locs h => ?_)
          refine g_bipush C (gdec kX8_readsStage 50 rfl) rfl ?_
          obtain ⟨h67, hf⟩ := gd_s hf
          refine g_icmp_ne C (tgt := 101) h67 (by decide) (by decide) (gdec kX8_readsStage 51 rfl) (fun c68 => ?_) (fun c68 => ?_)
          · replace hf := ifp c68 hf
            refine g_iconst C (gdec kX8_readsStage 52 rfl) ?_
            refine g_goto C (tgt := 102) (by decide) (gdec kX8_readsStage 53 rfl) ?_
            refine g_istore_n C [(1, vI 1), (0, .ref (eA E 8 0))] hl rfl (by decide) rfl (gdec kX8_readsStage 55 rfl) (fun ls hl => ?_)
            refine g_aload_n C hl 1 rfl rfl (gdec kX8_readsStage 56 rfl) ?_
            refine g_dup C rfl (gdec kX8_readsStage 57 rfl) ?_
            refine gf_X8_213 C h ho (gdec kX8_readsStage 58 rfl) ?_
            refine g_iconst C (gdec kX8_readsStage 59 rfl) ?_
            refine g_iadd C (gdec kX8_readsStage_1 0 rfl) ?_
            refine gp_X8_213 C h ho (gdec kX8_readsStage_1 1 rfl) (fun H locs h => ?_)
            refine g_aload_n C hl 1 rfl rfl (gdec kX8_readsStage_1 2 rfl) ?_
            obtain ⟨r69, q70, hf⟩ := bn1_s hf
            refine g_ci h (g_runV C h ho (by decide) rfl (c_X8_here l E _ ho _ q70) wM_X8_219 wI_X8_here wS_X8_here wN_X8 wC_X8_here rfl ny_X8_here rfl ⟨Nat.le_of_ble_eq_true rfl, Nat.le_of_ble_eq_true rfl⟩ hl.1 rfl (Nat.le_of_ble_eq_true rfl) (gdec kX8_readsStage_1 3 rfl) ⟨Nat.zero_le _, Nat.zero_le _⟩) (fun H locs h => ?_)
            refine g_i2l C (gdec kX8_readsStage_1 4 rfl) ?_
            refine g_ldc2 C (n := 49) wL_X8_222 rfl (gdec kX8_readsStage_1 5 rfl) ?_
            refine g_ldc2 C (n := 53) wL_X8_226 rfl (gdec kX8_readsStage_1 6 rfl) ?_
            obtain ⟨r71, q72, hf⟩ := bn1_s hf
            refine g_ci h (g_runS C h (c_X8_in l E _ _ _ _ _ q72) wM_X8_40 wT_X8_in wN_X8 wC_X8_in rfl ny_X8_in rfl ⟨Nat.le_of_ble_eq_true rfl, Nat.le_of_ble_eq_true rfl⟩ hl.1 rfl (Nat.le_of_ble_eq_true rfl) (gdec kX8_readsStage_1 7 rfl) ⟨Nat.zero_le _, Nat.zero_le _⟩) (fun H locs h => ?_)
            obtain ⟨h73, hf⟩ := gd_s hf
            refine g_if_ne C (tgt := 132) h73 (by decide) (gdec kX8_readsStage_1 8 rfl) (fun c74 => ?_) (fun c74 => ?_)
            · replace hf := ifp c74 hf
              refine g_iconst C (gdec kX8_readsStage_1 9 rfl) ?_
              exact g_zret C h (Or.inl rfl) hf (gdec kX8_readsStage_1 10 rfl)
            · replace hf := ifn c74 hf
              refine g_aload_n C hl 1 rfl rfl (gdec kX8_readsStage_1 11 rfl) ?_
              refine gf_X8_26 C h ho (gdec kX8_readsStage_1 12 rfl) ?_
              refine g_iconst C (gdec kX8_readsStage_1 13 rfl) ?_
              refine g_aload_n C hl 1 rfl rfl (gdec kX8_readsStage_1 14 rfl) ?_
              refine gf_X8_216 C h ho (gdec kX8_readsStage_1 15 rfl) ?_
              refine g_imul C (gdec kX8_readsStage_1 16 rfl) ?_
              refine g_iconst C (gdec kX8_readsStage_1 17 rfl) ?_
              refine g_iadd C (gdec kX8_readsStage_1 18 rfl) ?_
              refine g_iload_n C hl 0 rfl rfl (gdec kX8_readsStage_1 19 rfl) ?_
              refine g_aload_n C hl 1 rfl rfl (gdec kX8_readsStage_1 20 rfl) ?_
              obtain ⟨r75, q76, hf⟩ := bn1_s hf
              refine g_ci h (g_runV C h ho (by decide) rfl (c_X8_here l E _ ho _ q76) wM_X8_219 wI_X8_here wS_X8_here wN_X8 wC_X8_here rfl ny_X8_here rfl ⟨Nat.le_of_ble_eq_true rfl, Nat.le_of_ble_eq_true rfl⟩ hl.1 rfl (Nat.le_of_ble_eq_true rfl) (gdec kX8_readsStage_1 21 rfl) ⟨Nat.zero_le _, Nat.zero_le _⟩) (fun H locs h => ?_)
              refine g_bipush C (gdec kX8_readsStage_1 22 rfl) rfl ?_
              refine g_isub C (gdec kX8_readsStage_1 23 rfl) ?_
              refine g_imul C (gdec kX8_readsStage_1 24 rfl) ?_
              obtain ⟨h77, hf⟩ := ga_s hf
              refine g_iast C h (gcl_8_9 C ho) (n := 14) rfl (by decide) h77 (gdec kX8_readsStage_1 25 rfl) (fun H locs h => ?_)
              refine g_aload_n C hl 1 rfl rfl (gdec kX8_readsStage_1 26 rfl) ?_
              refine g_dup C rfl (gdec kX8_readsStage_1 27 rfl) ?_
              refine gf_X8_213 C h ho (gdec kX8_readsStage_1 28 rfl) ?_
              refine g_iconst C (gdec kX8_readsStage_1 29 rfl) ?_
              refine g_iadd C (gdec kX8_readsStage_1 30 rfl) ?_
              refine gp_X8_213 C h ho (gdec kX8_readsStage_1 31 rfl) (fun H locs h => ?_)
              obtain ⟨G78, e79, hf⟩ := nm_s hf
              rw [e79] at h
              refine g_aload_n C hl 1 rfl rfl (gdec kX8_readsStage_1 32 rfl) ?_
              obtain ⟨r80, q81, hf⟩ := bn1_s hf
              refine g_ci h (g_runV C h ho (by decide) rfl (c_X8_here l E _ ho _ q81) wM_X8_219 wI_X8_here wS_X8_here wN_X8 wC_X8_here rfl ny_X8_here rfl ⟨Nat.le_of_ble_eq_true rfl, Nat.le_of_ble_eq_true rfl⟩ hl.1 rfl (Nat.le_of_ble_eq_true rfl) (gdec kX8_readsStage_1 33 rfl) ⟨Nat.zero_le _, Nat.zero_le _⟩) (fun H locs h => ?_)
              refine g_bipush C (gdec kX8_readsStage_1 34 rfl) rfl ?_
              obtain ⟨h82, hf⟩ := gd_s hf
              refine g_icmp_ne C (tgt := 177) h82 (by decide) (by decide) (gdec kX8_readsStage_1 35 rfl) (fun c83 => ?_) (fun c83 => ?_)
              · replace hf := ifp c83 hf
                refine g_iconst C (gdec kX8_readsStage_1 36 rfl) ?_
                refine g_goto C (tgt := 178) (by decide) (gdec kX8_readsStage_1 37 rfl) ?_
                refine g_istore_n C [(1, vI 1), (0, .ref (eA E 8 0))] hl rfl (by decide) rfl (gdec kX8_readsStage_1 39 rfl) (fun ls hl => ?_)
                refine g_aload_n C hl 1 rfl rfl (gdec kX8_readsStage_1 40 rfl) ?_
                refine g_dup C rfl (gdec kX8_readsStage_1 41 rfl) ?_
                refine gf_X8_213 C h ho (gdec kX8_readsStage_1 42 rfl) ?_
                refine g_iload_n C hl 0 rfl rfl (gdec kX8_readsStage_1 43 rfl) ?_
                refine g_if_eq C (tgt := 192) (by decide) (by decide) (gdec kX8_readsStage_1 44 rfl) (fun c84 => absurd c84 (by decide)) (fun c84 => ?_)
                refine g_iconst C (gdec kX8_readsStage_1 45 rfl) ?_
                refine g_goto C (tgt := 193) (by decide) (gdec kX8_readsStage_1 46 rfl) ?_
                refine g_iadd C (gdec kX8_readsStage_1 48 rfl) ?_
                refine gp_X8_213 C h ho (gdec kX8_readsStage_1 49 rfl) (fun H locs h => ?_)
                refine g_aload_n C hl 1 rfl rfl (gdec kX8_readsStage_1 50 rfl) ?_
                refine g_dup C rfl (gdec kX8_readsStage_1 51 rfl) ?_
                refine gf_X8_216 C h ho (gdec kX8_readsStage_1 52 rfl) ?_
                refine g_iload_n C hl 0 rfl rfl (gdec kX8_readsStage_1 53 rfl) ?_
                refine g_if_eq C (tgt := 210) (by decide) (by decide) (gdec kX8_readsStage_1 54 rfl) (fun c85 => absurd c85 (by decide)) (fun c85 => ?_)
                refine g_iconst C (gdec kX8_readsStage_1 55 rfl) ?_
                refine g_goto C (tgt := 211) (by decide) (gdec kX8_readsStage_1 56 rfl) ?_
                refine g_iadd C (gdec kX8_readsStage_1 58 rfl) ?_
                refine gp_X8_216 C h ho (gdec kX8_readsStage_1 59 rfl) (fun H locs h => ?_)
                refine g_iload_n C hl 0 rfl rfl (gdec kX8_readsStage_2 0 rfl) ?_
                exact g_zret C h (Or.inr rfl) hf (gdec kX8_readsStage_2 1 rfl)
              · replace hf := ifn c83 hf
                refine g_iconst C (gdec kX8_readsStage_1 38 rfl) ?_
                refine g_istore_n C [(1, vI 0), (0, .ref (eA E 8 0))] hl rfl (by decide) rfl (gdec kX8_readsStage_1 39 rfl) (fun ls hl => ?_)
                refine g_aload_n C hl 1 rfl rfl (gdec kX8_readsStage_1 40 rfl) ?_
                refine g_dup C rfl (gdec kX8_readsStage_1 41 rfl) ?_
                refine gf_X8_213 C h ho (gdec kX8_readsStage_1 42 rfl) ?_
                refine g_iload_n C hl 0 rfl rfl (gdec kX8_readsStage_1 43 rfl) ?_
                refine g_if_eq C (tgt := 192) (by decide) (by decide) (gdec kX8_readsStage_1 44 rfl) (fun c86 => ?_) (fun c86 => absurd (by decide) c86)
                refine g_iconst C (gdec kX8_readsStage_1 47 rfl) ?_
                refine g_iadd C (gdec kX8_readsStage_1 48 rfl) ?_
                refine gp_X8_213 C h ho (gdec kX8_readsStage_1 49 rfl) (fun H locs h => ?_)
                refine g_aload_n C hl 1 rfl rfl (gdec kX8_readsStage_1 50 rfl) ?_
                refine g_dup C rfl (gdec kX8_readsStage_1 51 rfl) ?_
                refine gf_X8_216 C h ho (gdec kX8_readsStage_1 52 rfl) ?_
                refine g_iload_n C hl 0 rfl rfl (gdec kX8_readsStage_1 53 rfl) ?_
                refine g_if_eq C (tgt := 210) (by decide) (by decide) (gdec kX8_readsStage_1 54 rfl) (fun c87 => ?_) (fun c87 => absurd (by decide) c87)
                refine g_iconst C (gdec kX8_readsStage_1 57 rfl) ?_
                refine g_iadd C (gdec kX8_readsStage_1 58 rfl) ?_
                refine gp_X8_216 C h ho (gdec kX8_readsStage_1 59 rfl) (fun H locs h => ?_)
                refine g_iload_n C hl 0 rfl rfl (gdec kX8_readsStage_2 0 rfl) ?_
                exact g_zret C h (Or.inl rfl) hf (gdec kX8_readsStage_2 1 rfl)
          · replace hf := ifn c68 hf
            refine g_iconst C (gdec kX8_readsStage 54 rfl) ?_
            refine g_istore_n C [(1, vI (-1)), (0, .ref (eA E 8 0))] hl rfl (by decide) rfl (gdec kX8_readsStage 55 rfl) (fun ls hl => ?_)
            refine g_aload_n C hl 1 rfl rfl (gdec kX8_readsStage 56 rfl) ?_
            refine g_dup C rfl (gdec kX8_readsStage 57 rfl) ?_
            refine gf_X8_213 C h ho (gdec kX8_readsStage 58 rfl) ?_
            refine g_iconst C (gdec kX8_readsStage 59 rfl) ?_
            refine g_iadd C (gdec kX8_readsStage_1 0 rfl) ?_
            refine gp_X8_213 C h ho (gdec kX8_readsStage_1 1 rfl) (fun H locs h => ?_)
            refine g_aload_n C hl 1 rfl rfl (gdec kX8_readsStage_1 2 rfl) ?_
            obtain ⟨r88, q89, hf⟩ := bn1_s hf
            refine g_ci h (g_runV C h ho (by decide) rfl (c_X8_here l E _ ho _ q89) wM_X8_219 wI_X8_here wS_X8_here wN_X8 wC_X8_here rfl ny_X8_here rfl ⟨Nat.le_of_ble_eq_true rfl, Nat.le_of_ble_eq_true rfl⟩ hl.1 rfl (Nat.le_of_ble_eq_true rfl) (gdec kX8_readsStage_1 3 rfl) ⟨Nat.zero_le _, Nat.zero_le _⟩) (fun H locs h => ?_)
            refine g_i2l C (gdec kX8_readsStage_1 4 rfl) ?_
            refine g_ldc2 C (n := 49) wL_X8_222 rfl (gdec kX8_readsStage_1 5 rfl) ?_
            refine g_ldc2 C (n := 53) wL_X8_226 rfl (gdec kX8_readsStage_1 6 rfl) ?_
            obtain ⟨r90, q91, hf⟩ := bn1_s hf
            refine g_ci h (g_runS C h (c_X8_in l E _ _ _ _ _ q91) wM_X8_40 wT_X8_in wN_X8 wC_X8_in rfl ny_X8_in rfl ⟨Nat.le_of_ble_eq_true rfl, Nat.le_of_ble_eq_true rfl⟩ hl.1 rfl (Nat.le_of_ble_eq_true rfl) (gdec kX8_readsStage_1 7 rfl) ⟨Nat.zero_le _, Nat.zero_le _⟩) (fun H locs h => ?_)
            obtain ⟨h92, hf⟩ := gd_s hf
            refine g_if_ne C (tgt := 132) h92 (by decide) (gdec kX8_readsStage_1 8 rfl) (fun c93 => ?_) (fun c93 => ?_)
            · replace hf := ifp c93 hf
              refine g_iconst C (gdec kX8_readsStage_1 9 rfl) ?_
              exact g_zret C h (Or.inl rfl) hf (gdec kX8_readsStage_1 10 rfl)
            · replace hf := ifn c93 hf
              refine g_aload_n C hl 1 rfl rfl (gdec kX8_readsStage_1 11 rfl) ?_
              refine gf_X8_26 C h ho (gdec kX8_readsStage_1 12 rfl) ?_
              refine g_iconst C (gdec kX8_readsStage_1 13 rfl) ?_
              refine g_aload_n C hl 1 rfl rfl (gdec kX8_readsStage_1 14 rfl) ?_
              refine gf_X8_216 C h ho (gdec kX8_readsStage_1 15 rfl) ?_
              refine g_imul C (gdec kX8_readsStage_1 16 rfl) ?_
              refine g_iconst C (gdec kX8_readsStage_1 17 rfl) ?_
              refine g_iadd C (gdec kX8_readsStage_1 18 rfl) ?_
              refine g_iload_n C hl 0 rfl rfl (gdec kX8_readsStage_1 19 rfl) ?_
              refine g_aload_n C hl 1 rfl rfl (gdec kX8_readsStage_1 20 rfl) ?_
              obtain ⟨r94, q95, hf⟩ := bn1_s hf
              refine g_ci h (g_runV C h ho (by decide) rfl (c_X8_here l E _ ho _ q95) wM_X8_219 wI_X8_here wS_X8_here wN_X8 wC_X8_here rfl ny_X8_here rfl ⟨Nat.le_of_ble_eq_true rfl, Nat.le_of_ble_eq_true rfl⟩ hl.1 rfl (Nat.le_of_ble_eq_true rfl) (gdec kX8_readsStage_1 21 rfl) ⟨Nat.zero_le _, Nat.zero_le _⟩) (fun H locs h => ?_)
              refine g_bipush C (gdec kX8_readsStage_1 22 rfl) rfl ?_
              refine g_isub C (gdec kX8_readsStage_1 23 rfl) ?_
              refine g_imul C (gdec kX8_readsStage_1 24 rfl) ?_
              obtain ⟨h96, hf⟩ := ga_s hf
              refine g_iast C h (gcl_8_9 C ho) (n := 14) rfl (by decide) h96 (gdec kX8_readsStage_1 25 rfl) (fun H locs h => ?_)
              refine g_aload_n C hl 1 rfl rfl (gdec kX8_readsStage_1 26 rfl) ?_
              refine g_dup C rfl (gdec kX8_readsStage_1 27 rfl) ?_
              refine gf_X8_213 C h ho (gdec kX8_readsStage_1 28 rfl) ?_
              refine g_iconst C (gdec kX8_readsStage_1 29 rfl) ?_
              refine g_iadd C (gdec kX8_readsStage_1 30 rfl) ?_
              refine gp_X8_213 C h ho (gdec kX8_readsStage_1 31 rfl) (fun H locs h => ?_)
              obtain ⟨G97, e98, hf⟩ := nm_s hf
              rw [e98] at h
              refine g_aload_n C hl 1 rfl rfl (gdec kX8_readsStage_1 32 rfl) ?_
              obtain ⟨r99, q100, hf⟩ := bn1_s hf
              refine g_ci h (g_runV C h ho (by decide) rfl (c_X8_here l E _ ho _ q100) wM_X8_219 wI_X8_here wS_X8_here wN_X8 wC_X8_here rfl ny_X8_here rfl ⟨Nat.le_of_ble_eq_true rfl, Nat.le_of_ble_eq_true rfl⟩ hl.1 rfl (Nat.le_of_ble_eq_true rfl) (gdec kX8_readsStage_1 33 rfl) ⟨Nat.zero_le _, Nat.zero_le _⟩) (fun H locs h => ?_)
              refine g_bipush C (gdec kX8_readsStage_1 34 rfl) rfl ?_
              obtain ⟨h101, hf⟩ := gd_s hf
              refine g_icmp_ne C (tgt := 177) h101 (by decide) (by decide) (gdec kX8_readsStage_1 35 rfl) (fun c102 => ?_) (fun c102 => ?_)
              · replace hf := ifp c102 hf
                refine g_iconst C (gdec kX8_readsStage_1 36 rfl) ?_
                refine g_goto C (tgt := 178) (by decide) (gdec kX8_readsStage_1 37 rfl) ?_
                refine g_istore_n C [(1, vI 1), (0, .ref (eA E 8 0))] hl rfl (by decide) rfl (gdec kX8_readsStage_1 39 rfl) (fun ls hl => ?_)
                refine g_aload_n C hl 1 rfl rfl (gdec kX8_readsStage_1 40 rfl) ?_
                refine g_dup C rfl (gdec kX8_readsStage_1 41 rfl) ?_
                refine gf_X8_213 C h ho (gdec kX8_readsStage_1 42 rfl) ?_
                refine g_iload_n C hl 0 rfl rfl (gdec kX8_readsStage_1 43 rfl) ?_
                refine g_if_eq C (tgt := 192) (by decide) (by decide) (gdec kX8_readsStage_1 44 rfl) (fun c103 => absurd c103 (by decide)) (fun c103 => ?_)
                refine g_iconst C (gdec kX8_readsStage_1 45 rfl) ?_
                refine g_goto C (tgt := 193) (by decide) (gdec kX8_readsStage_1 46 rfl) ?_
                refine g_iadd C (gdec kX8_readsStage_1 48 rfl) ?_
                refine gp_X8_213 C h ho (gdec kX8_readsStage_1 49 rfl) (fun H locs h => ?_)
                refine g_aload_n C hl 1 rfl rfl (gdec kX8_readsStage_1 50 rfl) ?_
                refine g_dup C rfl (gdec kX8_readsStage_1 51 rfl) ?_
                refine gf_X8_216 C h ho (gdec kX8_readsStage_1 52 rfl) ?_
                refine g_iload_n C hl 0 rfl rfl (gdec kX8_readsStage_1 53 rfl) ?_
                refine g_if_eq C (tgt := 210) (by decide) (by decide) (gdec kX8_readsStage_1 54 rfl) (fun c104 => absurd c104 (by decide)) (fun c104 => ?_)
                refine g_iconst C (gdec kX8_readsStage_1 55 rfl) ?_
                refine g_goto C (tgt := 211) (by decide) (gdec kX8_readsStage_1 56 rfl) ?_
                refine g_iadd C (gdec kX8_readsStage_1 58 rfl) ?_
                refine gp_X8_216 C h ho (gdec kX8_readsStage_1 59 rfl) (fun H locs h => ?_)
                refine g_iload_n C hl 0 rfl rfl (gdec kX8_readsStage_2 0 rfl) ?_
                exact g_zret C h (Or.inr rfl) hf (gdec kX8_readsStage_2 1 rfl)
              · replace hf := ifn c102 hf
                refine g_iconst C (gdec kX8_readsStage_1 38 rfl) ?_
                refine g_istore_n C [(1, vI 0), (0, .ref (eA E 8 0))] hl rfl (by decide) rfl (gdec kX8_readsStage_1 39 rfl) (fun ls hl => ?_)
                refine g_aload_n C hl 1 rfl rfl (gdec kX8_readsStage_1 40 rfl) ?_
                refine g_dup C rfl (gdec kX8_readsStage_1 41 rfl) ?_
                refine gf_X8_213 C h ho (gdec kX8_readsStage_1 42 rfl) ?_
                refine g_iload_n C hl 0 rfl rfl (gdec kX8_readsStage_1 43 rfl) ?_
                refine g_if_eq C (tgt := 192) (by decide) (by decide) (gdec kX8_readsStage_1 44 rfl) (fun c105 => ?_) (fun c105 => absurd (by decide) c105)
                refine g_iconst C (gdec kX8_readsStage_1 47 rfl) ?_
                refine g_iadd C (gdec kX8_readsStage_1 48 rfl) ?_
                refine gp_X8_213 C h ho (gdec kX8_readsStage_1 49 rfl) (fun H locs h => ?_)
                refine g_aload_n C hl 1 rfl rfl (gdec kX8_readsStage_1 50 rfl) ?_
                refine g_dup C rfl (gdec kX8_readsStage_1 51 rfl) ?_
                refine gf_X8_216 C h ho (gdec kX8_readsStage_1 52 rfl) ?_
                refine g_iload_n C hl 0 rfl rfl (gdec kX8_readsStage_1 53 rfl) ?_
                refine g_if_eq C (tgt := 210) (by decide) (by decide) (gdec kX8_readsStage_1 54 rfl) (fun c106 => ?_) (fun c106 => absurd (by decide) c106)
                refine g_iconst C (gdec kX8_readsStage_1 57 rfl) ?_
                refine g_iadd C (gdec kX8_readsStage_1 58 rfl) ?_
                refine gp_X8_216 C h ho (gdec kX8_readsStage_1 59 rfl) (fun H locs h => ?_)
                refine g_iload_n C hl 0 rfl rfl (gdec kX8_readsStage_2 0 rfl) ?_
                exact g_zret C h (Or.inl rfl) hf (gdec kX8_readsStage_2 1 rfl)
        · replace hf := ifn c64 hf
          refine g_aload_n C hl 0 rfl rfl (gdec kX8_readsStage_1 32 rfl) ?_
          obtain ⟨r107, q108, hf⟩ := bn1_s hf
          refine g_ci h (g_runV C h ho (by decide) rfl (c_X8_here l E _ ho _ q108) wM_X8_219 wI_X8_here wS_X8_here wN_X8 wC_X8_here rfl ny_X8_here rfl ⟨Nat.le_of_ble_eq_true rfl, Nat.le_of_ble_eq_true rfl⟩ hl.1 rfl (Nat.le_of_ble_eq_true rfl) (gdec kX8_readsStage_1 33 rfl) ⟨Nat.zero_le _, Nat.zero_le _⟩) (fun H locs h => ?_)
          refine g_bipush C (gdec kX8_readsStage_1 34 rfl) rfl ?_
          obtain ⟨h109, hf⟩ := gd_s hf
          refine g_icmp_ne C (tgt := 177) h109 (by decide) (by decide) (gdec kX8_readsStage_1 35 rfl) (fun c110 => ?_) (fun c110 => ?_)
          · replace hf := ifp c110 hf
            refine g_iconst C (gdec kX8_readsStage_1 36 rfl) ?_
            refine g_goto C (tgt := 178) (by decide) (gdec kX8_readsStage_1 37 rfl) ?_
            refine g_istore_n C [(1, vI 1), (0, .ref (eA E 8 0))] hl rfl (by decide) rfl (gdec kX8_readsStage_1 39 rfl) (fun ls hl => ?_)
            refine g_aload_n C hl 1 rfl rfl (gdec kX8_readsStage_1 40 rfl) ?_
            refine g_dup C rfl (gdec kX8_readsStage_1 41 rfl) ?_
            refine gf_X8_213 C h ho (gdec kX8_readsStage_1 42 rfl) ?_
            refine g_iload_n C hl 0 rfl rfl (gdec kX8_readsStage_1 43 rfl) ?_
            refine g_if_eq C (tgt := 192) (by decide) (by decide) (gdec kX8_readsStage_1 44 rfl) (fun c111 => absurd c111 (by decide)) (fun c111 => ?_)
            refine g_iconst C (gdec kX8_readsStage_1 45 rfl) ?_
            refine g_goto C (tgt := 193) (by decide) (gdec kX8_readsStage_1 46 rfl) ?_
            refine g_iadd C (gdec kX8_readsStage_1 48 rfl) ?_
            refine gp_X8_213 C h ho (gdec kX8_readsStage_1 49 rfl) (fun H locs h => ?_)
            refine g_aload_n C hl 1 rfl rfl (gdec kX8_readsStage_1 50 rfl) ?_
            refine g_dup C rfl (gdec kX8_readsStage_1 51 rfl) ?_
            refine gf_X8_216 C h ho (gdec kX8_readsStage_1 52 rfl) ?_
            refine g_iload_n C hl 0 rfl rfl (gdec kX8_readsStage_1 53 rfl) ?_
            refine g_if_eq C (tgt := 210) (by decide) (by decide) (gdec kX8_readsStage_1 54 rfl) (fun c112 => absurd c112 (by decide)) (fun c112 => ?_)
            refine g_iconst C (gdec kX8_readsStage_1 55 rfl) ?_
            refine g_goto C (tgt := 211) (by decide) (gdec kX8_readsStage_1 56 rfl) ?_
            refine g_iadd C (gdec kX8_readsStage_1 58 rfl) ?_
            refine gp_X8_216 C h ho (gdec kX8_readsStage_1 59 rfl) (fun H locs h => ?_)
            refine g_iload_n C hl 0 rfl rfl (gdec kX8_readsStage_2 0 rfl) ?_
            exact g_zret C h (Or.inr rfl) hf (gdec kX8_readsStage_2 1 rfl)
          · replace hf := ifn c110 hf
            refine g_iconst C (gdec kX8_readsStage_1 38 rfl) ?_
            refine g_istore_n C [(1, vI 0), (0, .ref (eA E 8 0))] hl rfl (by decide) rfl (gdec kX8_readsStage_1 39 rfl) (fun ls hl => ?_)
            refine g_aload_n C hl 1 rfl rfl (gdec kX8_readsStage_1 40 rfl) ?_
            refine g_dup C rfl (gdec kX8_readsStage_1 41 rfl) ?_
            refine gf_X8_213 C h ho (gdec kX8_readsStage_1 42 rfl) ?_
            refine g_iload_n C hl 0 rfl rfl (gdec kX8_readsStage_1 43 rfl) ?_
            refine g_if_eq C (tgt := 192) (by decide) (by decide) (gdec kX8_readsStage_1 44 rfl) (fun c113 => ?_) (fun c113 => absurd (by decide) c113)
            refine g_iconst C (gdec kX8_readsStage_1 47 rfl) ?_
            refine g_iadd C (gdec kX8_readsStage_1 48 rfl) ?_
            refine gp_X8_213 C h ho (gdec kX8_readsStage_1 49 rfl) (fun H locs h => ?_)
            refine g_aload_n C hl 1 rfl rfl (gdec kX8_readsStage_1 50 rfl) ?_
            refine g_dup C rfl (gdec kX8_readsStage_1 51 rfl) ?_
            refine gf_X8_216 C h ho (gdec kX8_readsStage_1 52 rfl) ?_
            refine g_iload_n C hl 0 rfl rfl (gdec kX8_readsStage_1 53 rfl) ?_
            refine g_if_eq C (tgt := 210) (by decide) (by decide) (gdec kX8_readsStage_1 54 rfl) (fun c114 => ?_) (fun c114 => absurd (by decide) c114)
            refine g_iconst C (gdec kX8_readsStage_1 57 rfl) ?_
            refine g_iadd C (gdec kX8_readsStage_1 58 rfl) ?_
            refine gp_X8_216 C h ho (gdec kX8_readsStage_1 59 rfl) (fun H locs h => ?_)
            refine g_iload_n C hl 0 rfl rfl (gdec kX8_readsStage_2 0 rfl) ?_
            exact g_zret C h (Or.inl rfl) hf (gdec kX8_readsStage_2 1 rfl)
def f_X8_readsText_L15 : Nat → GS → Int → (GS → Int → Option (GS × Int)) → Option (GS × Int)
  | 0, _, _, _ => none
  | n + 1, G, x1, k => gd x1 (if x1 = 0 then k G x1 else gd (G 8 0 8) (gd (G 8 0 7) (if (G 8 0 8) < (G 8 0 7) then bnd (f_X8_readsStage G) (fun G9 r10 => f_X8_readsText_L15 n G9 r10 k) else k G x1)))
def f_X8_readsText (G : GS) : Option (GS × Int) :=
  bnd (f_X8_readsStage (gup (gup G 8 0 8 0) 8 0 10 0)) (fun G1 r2 => f_X8_readsText_L15 gFuel G1 r2 (fun G13 y1_12 => gb y1_12 (some (G13, y1_12))))
set_option maxHeartbeats 4000000 in
set_option maxRecDepth 100000 in
theorem c_X8_readsText (l : Launch) (E : gEnv) (G : GS) (ho : gOk E 8 0) (Gz : GS) (rz : Int) (hf : f_X8_readsText G = some (Gz, rz)) : gMet l yX8_readsText cX8_readsText 2 (some .boolean) 2 46 0 0 [.ref (eA E 8 0)] E G (gQi E Gz rz) := by
  refine g_met (by decide +kernel) (Nat.le_of_ble_eq_true rfl) ?_
  intro p e s m below meth c C H locs h ls hl
  have C : gC p s m _ meth c RX8 cX8_readsText 2 (some .boolean) E := C
  have hl : lv_has ls 2 [(0, .ref (eA E 8 0))] := hl
  have L15 : ∀ (n : Nat) (G : GS) (x1 : Int) (k : (GS → Int → Option (GS × Int))) (hK : ∀ (G : GS) (x1 : Int), k G x1 = some (Gz, rz) → ∀ (H : Heap) (locs : List Loc), gH E s G H locs → ∀ ls, lv_has ls 2 [(0, .ref (eA E 8 0)), (1, vI x1)] → W p l e (gRm 2 46 0 0) s m ([.ref (eA E 8 0)] : List Value).toArray below meth c H locs 0 0 (MQ below (gQi E Gz rz) ([.ref (eA E 8 0)] : List Value).toArray s 0 0 (eF E)) (F0 m 38 ls [])), ∀ (H : Heap) (locs : List Loc), gH E s G H locs → ∀ ls, lv_has ls 2 [(0, .ref (eA E 8 0)), (1, vI x1)] → f_X8_readsText_L15 n G x1 k = some (Gz, rz) → W p l e (gRm 2 46 0 0) s m ([.ref (eA E 8 0)] : List Value).toArray below meth c H locs 0 0 (MQ below (gQi E Gz rz) ([.ref (eA E 8 0)] : List Value).toArray s 0 0 (eF E)) (F0 m 15 ls []) := by
    intro n
    induction n with
    | zero =>
      intro G x1 k hK H locs h ls hl hf
      exact absurd hf (by simp [f_X8_readsText_L15])
    | succ n ih =>
      intro G x1 k hK H locs h ls hl hf
      unfold f_X8_readsText_L15 at hf
      refine g_iload_n C hl 1 rfl rfl (gdec kX8_readsText 9 rfl) ?_
      obtain ⟨h4, hf⟩ := gd_s hf
      refine g_if_eq C (tgt := 38) h4 (by decide) (gdec kX8_readsText 10 rfl) (fun c5 => ?_) (fun c5 => ?_)
      · replace hf := ifp c5 hf
        exact hK _ _ hf H locs h ls (lv_sub hl [0, 1] rfl)
      · replace hf := ifn c5 hf
        refine g_aload_n C hl 0 rfl rfl (gdec kX8_readsText 11 rfl) ?_
        refine gf_X8_213 C h ho (gdec kX8_readsText 12 rfl) ?_
        refine g_aload_n C hl 0 rfl rfl (gdec kX8_readsText 13 rfl) ?_
        refine gf_X8_210 C h ho (gdec kX8_readsText 14 rfl) ?_
        obtain ⟨h6, hf⟩ := gd_s hf
        obtain ⟨h7, hf⟩ := gd_s hf
        refine g_icmp_ge C (tgt := 38) h6 h7 (by decide) (gdec kX8_readsText 15 rfl) (fun c8 => ?_) (fun c8 => ?_)
        · replace hf := ifp c8 hf
          refine g_aload_n C hl 0 rfl rfl (gdec kX8_readsText 16 rfl) ?_
          obtain ⟨G9, r10, q11, hf⟩ := bnd_s hf
          refine g_ci h (g_runV C h ho (by decide) rfl (c_X8_readsStage l E _ ho _ _ q11) wM_X8_228 wI_X8_readsStage wS_X8_readsStage wN_X8 wC_X8_readsStage rfl ny_X8_readsStage rfl ⟨Nat.le_of_ble_eq_true rfl, Nat.le_of_ble_eq_true rfl⟩ hl.1 rfl (Nat.le_of_ble_eq_true rfl) (gdec kX8_readsText 17 rfl) ⟨Nat.zero_le _, Nat.zero_le _⟩) (fun H locs h => ?_)
          refine g_istore_n C [(1, vI r10), (0, .ref (eA E 8 0))] hl rfl (by decide) rfl (gdec kX8_readsText 18 rfl) (fun ls hl => ?_)
          refine g_goto C (tgt := 15) (by decide) (gdec kX8_readsText 19 rfl) ?_
          exact ih _ _ k hK H locs h ls (lv_sub hl [1, 0] rfl) hf
        · replace hf := ifn c8 hf
          exact hK _ _ hf H locs h ls (lv_sub hl [0, 1] rfl)
  unfold f_X8_readsText at hf
  refine g_aload_n C hl 0 rfl rfl (gdec kX8_readsText 0 rfl) ?_
  refine g_iconst C (gdec kX8_readsText 1 rfl) ?_
  refine gp_X8_213 C h ho (gdec kX8_readsText 2 rfl) (fun H locs h => ?_)
  refine g_aload_n C hl 0 rfl rfl (gdec kX8_readsText 3 rfl) ?_
  refine g_iconst C (gdec kX8_readsText 4 rfl) ?_
  refine gp_X8_216 C h ho (gdec kX8_readsText 5 rfl) (fun H locs h => ?_)
  refine g_aload_n C hl 0 rfl rfl (gdec kX8_readsText 6 rfl) ?_
  obtain ⟨G1, r2, q3, hf⟩ := bnd_s hf
  refine g_ci h (g_runV C h ho (by decide) rfl (c_X8_readsStage l E _ ho _ _ q3) wM_X8_228 wI_X8_readsStage wS_X8_readsStage wN_X8 wC_X8_readsStage rfl ny_X8_readsStage rfl ⟨Nat.le_of_ble_eq_true rfl, Nat.le_of_ble_eq_true rfl⟩ hl.1 rfl (Nat.le_of_ble_eq_true rfl) (gdec kX8_readsText 7 rfl) ⟨Nat.zero_le _, Nat.zero_le _⟩) (fun H locs h => ?_)
  refine g_istore_n C [(1, vI r2), (0, .ref (eA E 8 0))] hl rfl (by decide) rfl (gdec kX8_readsText 8 rfl) (fun ls hl => ?_)
  refine L15 gFuel _ _ _ (fun G13 y1_12 hf H locs h ls hl => ?_) H locs h ls (lv_sub hl [1, 0] rfl) hf
  refine g_iload_n C hl 1 rfl rfl (gdec kX8_readsText 20 rfl) ?_
  obtain ⟨h14, hf⟩ := gb_s hf
  exact g_zret C h h14 hf (gdec kX8_readsText 21 rfl)
def f_X8_parse_L35 : Nat → GS → Int → (GS → Int → Option (GS × Int)) → Option (GS × Int)
  | 0, _, _, _ => none
  | n + 1, G, x1, k => gd x1 (gd (G 8 0 10) (if x1 < (G 8 0 10) then ga (2 * x1) 14 (ga (9 + (3 * x1)) 260 (ga ((2 * x1) + 1) 14 (ga ((9 + (3 * x1)) + 1) 260 (nm (gup (gup G 10 0 (9 + (3 * x1)) (G 10 4 (2 * x1))) 10 0 ((9 + (3 * x1)) + 1) ((gup G 10 0 (9 + (3 * x1)) (G 10 4 (2 * x1))) 10 4 ((2 * x1) + 1))) (fun G20 => f_X8_parse_L35 n G20 (x1 + 1) k))))) else k G x1))
def f_X8_parse (G : GS) : Option (GS × Int) :=
  bnd (f_X8_readsText G) (fun G1 r2 => gd r2 (if r2 = 0 then bnd (f_X8_fine G1 ((-10) - (G1 8 0 8))) (fun G6 r7 => some (G6, r7)) else bn1 (f_X8_save G1) (fun G9 => bn1 (f_X8_begins G9 ((G9 8 0 10) + 1)) (fun G11 => f_X8_parse_L35 gFuel G11 0 (fun G23 y1_22 => bnd (f_X8_fine G23 (G23 10 0 0)) (fun G24 r25 => some (G24, r25)))))))
set_option maxHeartbeats 4000000 in
set_option maxRecDepth 100000 in
theorem c_X8_parse (l : Launch) (E : gEnv) (G : GS) (ho : gOk E 8 0) (Gz : GS) (rz : Int) (hf : f_X8_parse G = some (Gz, rz)) : gMet l yX8_parse cX8_parse 2 (some .int) 3 67 0 0 [.ref (eA E 8 0)] E G (gQi E Gz rz) := by
  refine g_met (by decide +kernel) (Nat.le_of_ble_eq_true rfl) ?_
  intro p e s m below meth c C H locs h ls hl
  have C : gC p s m _ meth c RX8 cX8_parse 2 (some .int) E := C
  have hl : lv_has ls 2 [(0, .ref (eA E 8 0))] := hl
  have L35 : ∀ (n : Nat) (G : GS) (x1 : Int) (k : (GS → Int → Option (GS × Int))) (hK : ∀ (G : GS) (x1 : Int), k G x1 = some (Gz, rz) → ∀ (H : Heap) (locs : List Loc), gH E s G H locs → ∀ ls, lv_has ls 2 [(0, .ref (eA E 8 0)), (1, vI x1)] → W p l e (gRm 3 67 0 0) s m ([.ref (eA E 8 0)] : List Value).toArray below meth c H locs 0 0 (MQ below (gQi E Gz rz) ([.ref (eA E 8 0)] : List Value).toArray s 0 0 (eF E)) (F0 m 91 ls [])), ∀ (H : Heap) (locs : List Loc), gH E s G H locs → ∀ ls, lv_has ls 2 [(0, .ref (eA E 8 0)), (1, vI x1)] → f_X8_parse_L35 n G x1 k = some (Gz, rz) → W p l e (gRm 3 67 0 0) s m ([.ref (eA E 8 0)] : List Value).toArray below meth c H locs 0 0 (MQ below (gQi E Gz rz) ([.ref (eA E 8 0)] : List Value).toArray s 0 0 (eF E)) (F0 m 35 ls []) := by
    intro n
    induction n with
    | zero =>
      intro G x1 k hK H locs h ls hl hf
      exact absurd hf (by simp [f_X8_parse_L35])
    | succ n ih =>
      intro G x1 k hK H locs h ls hl hf
      unfold f_X8_parse_L35 at hf
      refine g_iload_n C hl 1 rfl rfl (gdec kX8_parse 20 rfl) ?_
      refine g_aload_n C hl 0 rfl rfl (gdec kX8_parse 21 rfl) ?_
      refine gf_X8_216 C h ho (gdec kX8_parse 22 rfl) ?_
      obtain ⟨h13, hf⟩ := gd_s hf
      obtain ⟨h14, hf⟩ := gd_s hf
      refine g_icmp_ge C (tgt := 91) h13 h14 (by decide) (gdec kX8_parse 23 rfl) (fun c15 => ?_) (fun c15 => ?_)
      · replace hf := ifp c15 hf
        refine g_aload_n C hl 0 rfl rfl (gdec kX8_parse 24 rfl) ?_
        refine gf_X8_7 C h ho (gdec kX8_parse 25 rfl) ?_
        refine g_bipush C (gdec kX8_parse 26 rfl) rfl ?_
        refine g_iconst C (gdec kX8_parse 27 rfl) ?_
        refine g_iload_n C hl 1 rfl rfl (gdec kX8_parse 28 rfl) ?_
        refine g_imul C (gdec kX8_parse 29 rfl) ?_
        refine g_iadd C (gdec kX8_parse 30 rfl) ?_
        refine g_aload_n C hl 0 rfl rfl (gdec kX8_parse 31 rfl) ?_
        refine gf_X8_26 C h ho (gdec kX8_parse 32 rfl) ?_
        refine g_iconst C (gdec kX8_parse 33 rfl) ?_
        refine g_iload_n C hl 1 rfl rfl (gdec kX8_parse 34 rfl) ?_
        refine g_imul C (gdec kX8_parse 35 rfl) ?_
        obtain ⟨h16, hf⟩ := ga_s hf
        refine g_iald C h (gcl_8_9 C ho) (n := 14) rfl (by decide) h16 (gdec kX8_parse 36 rfl) ?_
        obtain ⟨h17, hf⟩ := ga_s hf
        refine g_iast C h (gcl_8_0 C ho) (n := 260) rfl (by decide) h17 (gdec kX8_parse 37 rfl) (fun H locs h => ?_)
        refine g_aload_n C hl 0 rfl rfl (gdec kX8_parse 38 rfl) ?_
        refine gf_X8_7 C h ho (gdec kX8_parse 39 rfl) ?_
        refine g_bipush C (gdec kX8_parse 40 rfl) rfl ?_
        refine g_iconst C (gdec kX8_parse 41 rfl) ?_
        refine g_iload_n C hl 1 rfl rfl (gdec kX8_parse 42 rfl) ?_
        refine g_imul C (gdec kX8_parse 43 rfl) ?_
        refine g_iadd C (gdec kX8_parse 44 rfl) ?_
        refine g_iconst C (gdec kX8_parse 45 rfl) ?_
        refine g_iadd C (gdec kX8_parse 46 rfl) ?_
        refine g_aload_n C hl 0 rfl rfl (gdec kX8_parse 47 rfl) ?_
        refine gf_X8_26 C h ho (gdec kX8_parse 48 rfl) ?_
        refine g_iconst C (gdec kX8_parse 49 rfl) ?_
        refine g_iload_n C hl 1 rfl rfl (gdec kX8_parse 50 rfl) ?_
        refine g_imul C (gdec kX8_parse 51 rfl) ?_
        refine g_iconst C (gdec kX8_parse 52 rfl) ?_
        refine g_iadd C (gdec kX8_parse 53 rfl) ?_
        obtain ⟨h18, hf⟩ := ga_s hf
        refine g_iald C h (gcl_8_9 C ho) (n := 14) rfl (by decide) h18 (gdec kX8_parse 54 rfl) ?_
        obtain ⟨h19, hf⟩ := ga_s hf
        refine g_iast C h (gcl_8_0 C ho) (n := 260) rfl (by decide) h19 (gdec kX8_parse 55 rfl) (fun H locs h => ?_)
        obtain ⟨G20, e21, hf⟩ := nm_s hf
        rw [e21] at h
        refine g_iinc C (k := 1) [(1, vI (x1 + 1)), (0, .ref (eA E 8 0))] hl rfl (by decide) rfl (gdec kX8_parse 56 rfl) (fun ls hl => ?_)
        refine g_goto C (tgt := 35) (by decide) (gdec kX8_parse 57 rfl) ?_
        exact ih _ _ k hK H locs h ls (lv_sub hl [1, 0] rfl) hf
      · replace hf := ifn c15 hf
        exact hK _ _ hf H locs h ls (lv_sub hl [0, 1] rfl)
  unfold f_X8_parse at hf
  refine g_aload_n C hl 0 rfl rfl (gdec kX8_parse 0 rfl) ?_
  obtain ⟨G1, r2, q3, hf⟩ := bnd_s hf
  refine g_ci h (g_runV C h ho (by decide) rfl (c_X8_readsText l E _ ho _ _ q3) wM_X8_231 wI_X8_readsText wS_X8_readsText wN_X8 wC_X8_readsText rfl ny_X8_readsText rfl ⟨Nat.le_of_ble_eq_true rfl, Nat.le_of_ble_eq_true rfl⟩ hl.1 rfl (Nat.le_of_ble_eq_true rfl) (gdec kX8_parse 1 rfl) ⟨Nat.zero_le _, Nat.zero_le _⟩) (fun H locs h => ?_)
  obtain ⟨h4, hf⟩ := gd_s hf
  refine g_if_ne C (tgt := 19) h4 (by decide) (gdec kX8_parse 2 rfl) (fun c5 => ?_) (fun c5 => ?_)
  · replace hf := ifp c5 hf
    refine g_aload_n C hl 0 rfl rfl (gdec kX8_parse 3 rfl) ?_
    refine g_bipush C (gdec kX8_parse 4 rfl) rfl ?_
    refine g_aload_n C hl 0 rfl rfl (gdec kX8_parse 5 rfl) ?_
    refine gf_X8_213 C h ho (gdec kX8_parse 6 rfl) ?_
    refine g_isub C (gdec kX8_parse 7 rfl) ?_
    obtain ⟨G6, r7, q8, hf⟩ := bnd_s hf
    refine g_ci h (g_runV C h ho (by decide) rfl (c_X8_fine l E _ _ ho _ _ q8) wM_X8_76 wI_X8_fine wS_X8_fine wN_X8 wC_X8_fine rfl ny_X8_fine rfl ⟨Nat.le_of_ble_eq_true rfl, Nat.le_of_ble_eq_true rfl⟩ hl.1 rfl (Nat.le_of_ble_eq_true rfl) (gdec kX8_parse 8 rfl) ⟨Nat.zero_le _, Nat.zero_le _⟩) (fun H locs h => ?_)
    exact g_iret C h hf (gdec kX8_parse 9 rfl)
  · replace hf := ifn c5 hf
    refine g_aload_n C hl 0 rfl rfl (gdec kX8_parse 10 rfl) ?_
    obtain ⟨G9, q10, hf⟩ := bn1_s hf
    refine g_cv h (g_runV C h ho (by decide) rfl (c_X8_save l E _ ho _ q10) wM_X8_73 wI_X8_save wS_X8_save wN_X8 wC_X8_save rfl ny_X8_save rfl ⟨Nat.le_of_ble_eq_true rfl, Nat.le_of_ble_eq_true rfl⟩ hl.1 rfl (Nat.le_of_ble_eq_true rfl) (gdec kX8_parse 11 rfl) ⟨Nat.zero_le _, Nat.zero_le _⟩) (fun H locs h => ?_)
    refine g_aload_n C hl 0 rfl rfl (gdec kX8_parse 12 rfl) ?_
    refine g_aload_n C hl 0 rfl rfl (gdec kX8_parse 13 rfl) ?_
    refine gf_X8_216 C h ho (gdec kX8_parse 14 rfl) ?_
    refine g_iconst C (gdec kX8_parse 15 rfl) ?_
    refine g_iadd C (gdec kX8_parse 16 rfl) ?_
    obtain ⟨G11, q12, hf⟩ := bn1_s hf
    refine g_cv h (g_runV C h ho (by decide) rfl (c_X8_begins l E _ _ ho _ q12) wM_X8_29 wI_X8_begins wS_X8_begins wN_X8 wC_X8_begins rfl ny_X8_begins rfl ⟨Nat.le_of_ble_eq_true rfl, Nat.le_of_ble_eq_true rfl⟩ hl.1 rfl (Nat.le_of_ble_eq_true rfl) (gdec kX8_parse 17 rfl) ⟨Nat.zero_le _, Nat.zero_le _⟩) (fun H locs h => ?_)
    refine g_iconst C (gdec kX8_parse 18 rfl) ?_
    refine g_istore_n C [(1, vI 0), (0, .ref (eA E 8 0))] hl rfl (by decide) rfl (gdec kX8_parse 19 rfl) (fun ls hl => ?_)
    refine L35 gFuel _ _ _ (fun G23 y1_22 hf H locs h ls hl => ?_) H locs h ls (lv_sub hl [1, 0] rfl) hf
    refine g_aload_n C hl 0 rfl rfl (gdec kX8_parse 58 rfl) ?_
    refine g_aload_n C hl 0 rfl rfl (gdec kX8_parse 59 rfl) ?_
    refine gf_X8_7 C h ho (gdec kX8_parse_1 0 rfl) ?_
    refine g_iconst C (gdec kX8_parse_1 1 rfl) ?_
    refine g_iald C h (gcl_8_0 C ho) (n := 260) rfl (by decide) (⟨by decide, by decide⟩ : (0 : Int) ≤ 0 ∧ (0 : Int) < 260) (gdec kX8_parse_1 2 rfl) ?_
    obtain ⟨G24, r25, q26, hf⟩ := bnd_s hf
    refine g_ci h (g_runV C h ho (by decide) rfl (c_X8_fine l E _ _ ho _ _ q26) wM_X8_76 wI_X8_fine wS_X8_fine wN_X8 wC_X8_fine rfl ny_X8_fine rfl ⟨Nat.le_of_ble_eq_true rfl, Nat.le_of_ble_eq_true rfl⟩ hl.1 rfl (Nat.le_of_ble_eq_true rfl) (gdec kX8_parse_1 3 rfl) ⟨Nat.zero_le _, Nat.zero_le _⟩) (fun H locs h => ?_)
    exact g_iret C h hf (gdec kX8_parse_1 4 rfl)
def f_X8_undo_L25 : Nat → GS → Int → (GS → Int → Option (GS × Int)) → Option (GS × Int)
  | 0, _, _, _ => none
  | n + 1, G, x1, k => gd x1 (if x1 < 260 then ga ((260 * (G 8 0 3)) + x1) 1040 (ga x1 260 (f_X8_undo_L25 n (gup G 10 0 x1 (G 10 1 ((260 * (G 8 0 3)) + x1))) (x1 + 1) k)) else k G x1)
def f_X8_undo (G : GS) : Option (GS × Int) :=
  gd (G 8 0 3) (if (G 8 0 3) = 0 then bnd (f_X8_throwing G 1) (fun G3 r4 => some (G3, r4)) else f_X8_undo_L25 gFuel (gup G 8 0 3 ((G 8 0 3) - 1)) 0 (fun G11 y1_10 => bnd (f_X8_fine G11 (G11 8 0 3)) (fun G12 r13 => some (G12, r13))))
set_option maxHeartbeats 4000000 in
set_option maxRecDepth 100000 in
theorem c_X8_undo (l : Launch) (E : gEnv) (G : GS) (ho : gOk E 8 0) (Gz : GS) (rz : Int) (hf : f_X8_undo G = some (Gz, rz)) : gMet l yX8_undo cX8_undo 2 (some .int) 1 21 0 0 [.ref (eA E 8 0)] E G (gQi E Gz rz) := by
  refine g_met (by decide +kernel) (Nat.le_of_ble_eq_true rfl) ?_
  intro p e s m below meth c C H locs h ls hl
  have C : gC p s m _ meth c RX8 cX8_undo 2 (some .int) E := C
  have hl : lv_has ls 2 [(0, .ref (eA E 8 0))] := hl
  have L25 : ∀ (n : Nat) (G : GS) (x1 : Int) (k : (GS → Int → Option (GS × Int))) (hK : ∀ (G : GS) (x1 : Int), k G x1 = some (Gz, rz) → ∀ (H : Heap) (locs : List Loc), gH E s G H locs → ∀ ls, lv_has ls 2 [(0, .ref (eA E 8 0)), (1, vI x1)] → W p l e (gRm 1 21 0 0) s m ([.ref (eA E 8 0)] : List Value).toArray below meth c H locs 0 0 (MQ below (gQi E Gz rz) ([.ref (eA E 8 0)] : List Value).toArray s 0 0 (eF E)) (F0 m 59 ls [])), ∀ (H : Heap) (locs : List Loc), gH E s G H locs → ∀ ls, lv_has ls 2 [(0, .ref (eA E 8 0)), (1, vI x1)] → f_X8_undo_L25 n G x1 k = some (Gz, rz) → W p l e (gRm 1 21 0 0) s m ([.ref (eA E 8 0)] : List Value).toArray below meth c H locs 0 0 (MQ below (gQi E Gz rz) ([.ref (eA E 8 0)] : List Value).toArray s 0 0 (eF E)) (F0 m 25 ls []) := by
    intro n
    induction n with
    | zero =>
      intro G x1 k hK H locs h ls hl hf
      exact absurd hf (by simp [f_X8_undo_L25])
    | succ n ih =>
      intro G x1 k hK H locs h ls hl hf
      unfold f_X8_undo_L25 at hf
      refine g_iload_n C hl 1 rfl rfl (gdec kX8_undo 15 rfl) ?_
      refine g_sipush C (gdec kX8_undo 16 rfl) rfl ?_
      obtain ⟨h6, hf⟩ := gd_s hf
      refine g_icmp_ge C (tgt := 59) h6 (by decide) (by decide) (gdec kX8_undo 17 rfl) (fun c7 => ?_) (fun c7 => ?_)
      · replace hf := ifp c7 hf
        refine g_aload_n C hl 0 rfl rfl (gdec kX8_undo 18 rfl) ?_
        refine gf_X8_7 C h ho (gdec kX8_undo 19 rfl) ?_
        refine g_iload_n C hl 1 rfl rfl (gdec kX8_undo 20 rfl) ?_
        refine g_aload_n C hl 0 rfl rfl (gdec kX8_undo 21 rfl) ?_
        refine gf_X8_13 C h ho (gdec kX8_undo 22 rfl) ?_
        refine g_sipush C (gdec kX8_undo 23 rfl) rfl ?_
        refine g_aload_n C hl 0 rfl rfl (gdec kX8_undo 24 rfl) ?_
        refine gf_X8_37 C h ho (gdec kX8_undo 25 rfl) ?_
        refine g_imul C (gdec kX8_undo 26 rfl) ?_
        refine g_iload_n C hl 1 rfl rfl (gdec kX8_undo 27 rfl) ?_
        refine g_iadd C (gdec kX8_undo 28 rfl) ?_
        obtain ⟨h8, hf⟩ := ga_s hf
        refine g_iald C h (gcl_8_1 C ho) (n := 1040) rfl (by decide) h8 (gdec kX8_undo 29 rfl) ?_
        obtain ⟨h9, hf⟩ := ga_s hf
        refine g_iast C h (gcl_8_0 C ho) (n := 260) rfl (by decide) h9 (gdec kX8_undo 30 rfl) (fun H locs h => ?_)
        refine g_iinc C (k := 1) [(1, vI (x1 + 1)), (0, .ref (eA E 8 0))] hl rfl (by decide) rfl (gdec kX8_undo 31 rfl) (fun ls hl => ?_)
        refine g_goto C (tgt := 25) (by decide) (gdec kX8_undo 32 rfl) ?_
        exact ih _ _ k hK H locs h ls (lv_sub hl [1, 0] rfl) hf
      · replace hf := ifn c7 hf
        exact hK _ _ hf H locs h ls (lv_sub hl [0, 1] rfl)
  unfold f_X8_undo at hf
  refine g_aload_n C hl 0 rfl rfl (gdec kX8_undo 0 rfl) ?_
  refine gf_X8_37 C h ho (gdec kX8_undo 1 rfl) ?_
  obtain ⟨h1, hf⟩ := gd_s hf
  refine g_if_ne C (tgt := 13) h1 (by decide) (gdec kX8_undo 2 rfl) (fun c2 => ?_) (fun c2 => ?_)
  · replace hf := ifp c2 hf
    refine g_aload_n C hl 0 rfl rfl (gdec kX8_undo 3 rfl) ?_
    refine g_iconst C (gdec kX8_undo 4 rfl) ?_
    obtain ⟨G3, r4, q5, hf⟩ := bnd_s hf
    refine g_ci h (g_runV C h ho (by decide) rfl (c_X8_throwing l E _ _ ho _ _ q5) wM_X8_64 wI_X8_throwing wS_X8_throwing wN_X8 wC_X8_throwing rfl ny_X8_throwing rfl ⟨Nat.le_of_ble_eq_true rfl, Nat.le_of_ble_eq_true rfl⟩ hl.1 rfl (Nat.le_of_ble_eq_true rfl) (gdec kX8_undo 5 rfl) ⟨Nat.zero_le _, Nat.zero_le _⟩) (fun H locs h => ?_)
    exact g_iret C h hf (gdec kX8_undo 6 rfl)
  · replace hf := ifn c2 hf
    refine g_aload_n C hl 0 rfl rfl (gdec kX8_undo 7 rfl) ?_
    refine g_dup C rfl (gdec kX8_undo 8 rfl) ?_
    refine gf_X8_37 C h ho (gdec kX8_undo 9 rfl) ?_
    refine g_iconst C (gdec kX8_undo 10 rfl) ?_
    refine g_isub C (gdec kX8_undo 11 rfl) ?_
    refine gp_X8_37 C h ho (gdec kX8_undo 12 rfl) (fun H locs h => ?_)
    refine g_iconst C (gdec kX8_undo 13 rfl) ?_
    refine g_istore_n C [(1, vI 0), (0, .ref (eA E 8 0))] hl rfl (by decide) rfl (gdec kX8_undo 14 rfl) (fun ls hl => ?_)
    refine L25 gFuel _ _ _ (fun G11 y1_10 hf H locs h ls hl => ?_) H locs h ls (lv_sub hl [1, 0] rfl) hf
    refine g_aload_n C hl 0 rfl rfl (gdec kX8_undo 33 rfl) ?_
    refine g_aload_n C hl 0 rfl rfl (gdec kX8_undo 34 rfl) ?_
    refine gf_X8_37 C h ho (gdec kX8_undo 35 rfl) ?_
    obtain ⟨G12, r13, q14, hf⟩ := bnd_s hf
    refine g_ci h (g_runV C h ho (by decide) rfl (c_X8_fine l E _ _ ho _ _ q14) wM_X8_76 wI_X8_fine wS_X8_fine wN_X8 wC_X8_fine rfl ny_X8_fine rfl ⟨Nat.le_of_ble_eq_true rfl, Nat.le_of_ble_eq_true rfl⟩ hl.1 rfl (Nat.le_of_ble_eq_true rfl) (gdec kX8_undo 36 rfl) ⟨Nat.zero_le _, Nat.zero_le _⟩) (fun H locs h => ?_)
    exact g_iret C h hf (gdec kX8_undo 37 rfl)
def f_X8_digest_L17 : Nat → GS → Int → Int → (GS → Int → Int → Option (GS × Int)) → Option (GS × Int)
  | 0, _, _, _, _ => none
  | n + 1, G, x1, x3, k => gd x3 (if x3 < 11 then bn1 (f_X8_valueOf G x3) (fun r3 => f_X8_digest_L17 n G ((31 * x1) + (bm r3)) (x3 + 1) k) else k G x1 x3)
def f_X8_digest_L44 : Nat → GS → Int → Int → (GS → Int → Int → Option (GS × Int)) → Option (GS × Int)
  | 0, _, _, _, _ => none
  | n + 1, G, x1, x3, k => gd x3 (gd (6 * ((G 10 0 0) - 1)) (if x3 < (6 * ((G 10 0 0) - 1)) then ga x3 2147483648 (bn1 (f_X8_stageOf G (x3 / 6) (x3 % 6)) (fun r11 => f_X8_digest_L44 n G ((31 * x1) + (bm r11)) (x3 + 1) k)) else k G x1 x3))
def f_X8_digest_L87 : Nat → GS → Int → Int → (GS → Int → Int → Option (GS × Int)) → Option (GS × Int)
  | 0, _, _, _, _ => none
  | n + 1, G, x1, x3, k => gd x3 (gd (7 * (G 10 0 0)) (if x3 < (7 * (G 10 0 0)) then ga x3 2147483648 (bn1 (f_X8_innOf G (x3 / 7) (x3 % 7)) (fun r19 => f_X8_digest_L87 n G ((31 * x1) + (bm r19)) (x3 + 1) k)) else k G x1 x3))
def f_X8_digest_L128 : Nat → GS → Int → Int → (GS → Int → Int → Option (GS × Int)) → Option (GS × Int)
  | 0, _, _, _, _ => none
  | n + 1, G, x1, x3, k => gd x3 (gd (10 * (G 10 0 7)) (if x3 < (10 * (G 10 0 7)) then ga x3 2147483648 (bn1 (f_X8_of G (x3 / 10) (x3 % 10)) (fun r27 => f_X8_digest_L128 n G ((31 * x1) + (bm r27)) (x3 + 1) k)) else k G x1 x3))
def f_X8_digest_L184 : Nat → GS → Int → Int → Int → (GS → Int → Int → Int → Option (GS × Int)) → Option (GS × Int)
  | 0, _, _, _, _, _ => none
  | n + 1, G, x1, x3, x4, k => gd x4 (if x4 < 8 then bn1 (f_X8_ofLetter G x3 x4) (fun r36 => f_X8_digest_L184 n G ((31 * x1) + (bm r36)) x3 (x4 + 1) k) else k G x1 x3 x4)
def f_X8_digest_L170 : Nat → GS → Int → Int → (GS → Int → Int → Option (GS × Int)) → Option (GS × Int)
  | 0, _, _, _, _ => none
  | n + 1, G, x1, x3, k => gd x3 (gd (G 10 0 8) (if x3 < (G 10 0 8) then f_X8_digest_L184 gFuel G x1 x3 0 (fun G39 y1_38 y3_38 y4_38 => bn1 (f_X8_whyNot G39 y3_38) (fun r40 => f_X8_digest_L170 n G39 ((31 * y1_38) + (bm r40)) (y3_38 + 1) k)) else k G x1 x3))
def f_X8_digest (G : GS) : Option (GS × Int) :=
  f_X8_digest_L17 gFuel (gup G 8 0 4 0) (108221 + (bm ((gup G 8 0 4 0) 8 0 7))) 0 (fun G6 y1_5 y3_5 => f_X8_digest_L44 gFuel G6 y1_5 0 (fun G14 y1_13 y3_13 => f_X8_digest_L87 gFuel G14 y1_13 0 (fun G22 y1_21 y3_21 => f_X8_digest_L128 gFuel G22 y1_21 0 (fun G30 y1_29 y3_29 => f_X8_digest_L170 gFuel G30 y1_29 0 (fun G43 y1_42 y3_42 => bnd (f_X8_forAll G43) (fun G44 r45 => some (G44, (31 * ((31 * y1_42) + (bm r45))) + (bm (G44 8 0 3)))))))))
set_option maxHeartbeats 4000000 in
set_option maxRecDepth 100000 in
theorem c_X8_digest (l : Launch) (E : gEnv) (G : GS) (ho : gOk E 8 0) (Gz : GS) (rz : Int) (hf : f_X8_digest G = some (Gz, rz)) : gMet l yX8_digest cX8_digest 5 (some .long) 10 221 0 0 [.ref (eA E 8 0)] E G (gQl E Gz rz) := by
  refine g_met (by decide +kernel) (Nat.le_of_ble_eq_true rfl) ?_
  intro p e s m below meth c C H locs h ls hl
  have C : gC p s m _ meth c RX8 cX8_digest 5 (some .long) E := C
  have hl : lv_has ls 5 [(0, .ref (eA E 8 0))] := hl
  have L17 : ∀ (n : Nat) (G : GS) (x1 : Int) (x3 : Int) (k : (GS → Int → Int → Option (GS × Int))) (hK : ∀ (G : GS) (x1 : Int) (x3 : Int), k G x1 x3 = some (Gz, rz) → ∀ (H : Heap) (locs : List Loc), gH E s G H locs → ∀ ls, lv_has ls 5 [(0, .ref (eA E 8 0)), (1, vJ x1), (3, vI x3)] → W p l e (gRm 10 221 0 0) s m ([.ref (eA E 8 0)] : List Value).toArray below meth c H locs 0 0 (MQ below (gQl E Gz rz) ([.ref (eA E 8 0)] : List Value).toArray s 0 0 (eF E)) (F0 m 42 ls [])), ∀ (H : Heap) (locs : List Loc), gH E s G H locs → ∀ ls, lv_has ls 5 [(0, .ref (eA E 8 0)), (1, vJ x1), (3, vI x3)] → f_X8_digest_L17 n G x1 x3 k = some (Gz, rz) → W p l e (gRm 10 221 0 0) s m ([.ref (eA E 8 0)] : List Value).toArray below meth c H locs 0 0 (MQ below (gQl E Gz rz) ([.ref (eA E 8 0)] : List Value).toArray s 0 0 (eF E)) (F0 m 17 ls []) := by
    intro n
    induction n with
    | zero =>
      intro G x1 x3 k hK H locs h ls hl hf
      exact absurd hf (by simp [f_X8_digest_L17])
    | succ n ih =>
      intro G x1 x3 k hK H locs h ls hl hf
      unfold f_X8_digest_L17 at hf
      refine g_iload_n C hl 2 rfl rfl (gdec kX8_digest 11 rfl) ?_
      refine g_bipush C (gdec kX8_digest 12 rfl) rfl ?_
      obtain ⟨h1, hf⟩ := gd_s hf
      refine g_icmp_ge C (tgt := 42) h1 (by decide) (by decide) (gdec kX8_digest 13 rfl) (fun c2 => ?_) (fun c2 => ?_)
      · replace hf := ifp c2 hf
        refine g_ldc2 C (n := 31) wL_X8_236 rfl (gdec kX8_digest 14 rfl) ?_
        refine g_lload_n C hl 1 rfl rfl (gdec kX8_digest 15 rfl) ?_
        refine g_lmul C (gdec kX8_digest 16 rfl) ?_
        refine g_aload_n C hl 0 rfl rfl (gdec kX8_digest 17 rfl) ?_
        refine g_iload_n C hl 2 rfl rfl (gdec kX8_digest 18 rfl) ?_
        obtain ⟨r3, q4, hf⟩ := bn1_s hf
        refine g_ci h (g_runV C h ho (by decide) rfl (c_X8_valueOf l E _ _ ho _ q4) wM_X8_188 wI_X8_valueOf wS_X8_valueOf wN_X8 wC_X8_valueOf rfl ny_X8_valueOf rfl ⟨Nat.le_of_ble_eq_true rfl, Nat.le_of_ble_eq_true rfl⟩ hl.1 rfl (Nat.le_of_ble_eq_true rfl) (gdec kX8_digest 19 rfl) ⟨Nat.zero_le _, Nat.zero_le _⟩) (fun H locs h => ?_)
        refine g_i2l C (gdec kX8_digest 20 rfl) ?_
        refine g_ladd C (gdec kX8_digest 21 rfl) ?_
        refine g_lstore_n C [(1, vJ ((31 * x1) + (bm r3))), (0, .ref (eA E 8 0)), (3, vI x3)] hl rfl (by decide) rfl (gdec kX8_digest 22 rfl) (fun ls hl => ?_)
        refine g_iinc C (k := 2) [(3, vI (x3 + 1)), (1, vJ ((31 * x1) + (bm r3))), (0, .ref (eA E 8 0))] hl rfl (by decide) rfl (gdec kX8_digest 23 rfl) (fun ls hl => ?_)
        refine g_goto C (tgt := 17) (by decide) (gdec kX8_digest 24 rfl) ?_
        exact ih _ _ _ k hK H locs h ls (lv_sub hl [2, 1, 0] rfl) hf
      · replace hf := ifn c2 hf
        exact hK _ _ _ hf H locs h ls (lv_sub hl [0, 1, 2] rfl)
  have L44 : ∀ (n : Nat) (G : GS) (x1 : Int) (x3 : Int) (k : (GS → Int → Int → Option (GS × Int))) (hK : ∀ (G : GS) (x1 : Int) (x3 : Int), k G x1 x3 = some (Gz, rz) → ∀ (H : Heap) (locs : List Loc), gH E s G H locs → ∀ ls, lv_has ls 5 [(0, .ref (eA E 8 0)), (1, vJ x1), (3, vI x3)] → W p l e (gRm 10 221 0 0) s m ([.ref (eA E 8 0)] : List Value).toArray below meth c H locs 0 0 (MQ below (gQl E Gz rz) ([.ref (eA E 8 0)] : List Value).toArray s 0 0 (eF E)) (F0 m 85 ls [])), ∀ (H : Heap) (locs : List Loc), gH E s G H locs → ∀ ls, lv_has ls 5 [(0, .ref (eA E 8 0)), (1, vJ x1), (3, vI x3)] → f_X8_digest_L44 n G x1 x3 k = some (Gz, rz) → W p l e (gRm 10 221 0 0) s m ([.ref (eA E 8 0)] : List Value).toArray below meth c H locs 0 0 (MQ below (gQl E Gz rz) ([.ref (eA E 8 0)] : List Value).toArray s 0 0 (eF E)) (F0 m 44 ls []) := by
    intro n
    induction n with
    | zero =>
      intro G x1 x3 k hK H locs h ls hl hf
      exact absurd hf (by simp [f_X8_digest_L44])
    | succ n ih =>
      intro G x1 x3 k hK H locs h ls hl hf
      unfold f_X8_digest_L44 at hf
      refine g_iload_n C hl 2 rfl rfl (gdec kX8_digest 27 rfl) ?_
      refine g_bipush C (gdec kX8_digest 28 rfl) rfl ?_
      refine g_aload_n C hl 0 rfl rfl (gdec kX8_digest 29 rfl) ?_
      refine gf_X8_7 C h ho (gdec kX8_digest 30 rfl) ?_
      refine g_iconst C (gdec kX8_digest 31 rfl) ?_
      refine g_iald C h (gcl_8_0 C ho) (n := 260) rfl (by decide) (⟨by decide, by decide⟩ : (0 : Int) ≤ 0 ∧ (0 : Int) < 260) (gdec kX8_digest 32 rfl) ?_
      refine g_iconst C (gdec kX8_digest 33 rfl) ?_
      refine g_isub C (gdec kX8_digest 34 rfl) ?_
      refine g_imul C (gdec kX8_digest 35 rfl) ?_
      obtain ⟨h7, hf⟩ := gd_s hf
      obtain ⟨h8, hf⟩ := gd_s hf
      refine g_icmp_ge C (tgt := 85) h7 h8 (by decide) (gdec kX8_digest 36 rfl) (fun c9 => ?_) (fun c9 => ?_)
      · replace hf := ifp c9 hf
        refine g_ldc2 C (n := 31) wL_X8_236 rfl (gdec kX8_digest 37 rfl) ?_
        refine g_lload_n C hl 1 rfl rfl (gdec kX8_digest 38 rfl) ?_
        refine g_lmul C (gdec kX8_digest 39 rfl) ?_
        refine g_aload_n C hl 0 rfl rfl (gdec kX8_digest 40 rfl) ?_
        refine g_iload_n C hl 2 rfl rfl (gdec kX8_digest 41 rfl) ?_
        refine g_bipush C (gdec kX8_digest 42 rfl) rfl ?_
        obtain ⟨h10, hf⟩ := ga_s hf
        refine g_idiv C h10.1 ⟨by omega, by omega⟩ (by decide) (by decide) (gdec kX8_digest 43 rfl) ?_
        refine g_iload_n C hl 2 rfl rfl (gdec kX8_digest 44 rfl) ?_
        refine g_bipush C (gdec kX8_digest 45 rfl) rfl ?_
        refine g_irem C h10.1 ⟨by omega, by omega⟩ (by decide) (by decide) (gdec kX8_digest 46 rfl) ?_
        obtain ⟨r11, q12, hf⟩ := bn1_s hf
        refine g_ci h (g_runV C h ho (by decide) rfl (c_X8_stageOf l E _ _ _ ho _ q12) wM_X8_168 wI_X8_stageOf wS_X8_stageOf wN_X8 wC_X8_stageOf rfl ny_X8_stageOf rfl ⟨Nat.le_of_ble_eq_true rfl, Nat.le_of_ble_eq_true rfl⟩ hl.1 rfl (Nat.le_of_ble_eq_true rfl) (gdec kX8_digest 47 rfl) ⟨Nat.zero_le _, Nat.zero_le _⟩) (fun H locs h => ?_)
        refine g_i2l C (gdec kX8_digest 48 rfl) ?_
        refine g_ladd C (gdec kX8_digest 49 rfl) ?_
        refine g_lstore_n C [(1, vJ ((31 * x1) + (bm r11))), (0, .ref (eA E 8 0)), (3, vI x3)] hl rfl (by decide) rfl (gdec kX8_digest 50 rfl) (fun ls hl => ?_)
        refine g_iinc C (k := 2) [(3, vI (x3 + 1)), (1, vJ ((31 * x1) + (bm r11))), (0, .ref (eA E 8 0))] hl rfl (by decide) rfl (gdec kX8_digest 51 rfl) (fun ls hl => ?_)
        refine g_goto C (tgt := 44) (by decide) (gdec kX8_digest 52 rfl) ?_
        exact ih _ _ _ k hK H locs h ls (lv_sub hl [2, 1, 0] rfl) hf
      · replace hf := ifn c9 hf
        exact hK _ _ _ hf H locs h ls (lv_sub hl [0, 1, 2] rfl)
  have L87 : ∀ (n : Nat) (G : GS) (x1 : Int) (x3 : Int) (k : (GS → Int → Int → Option (GS × Int))) (hK : ∀ (G : GS) (x1 : Int) (x3 : Int), k G x1 x3 = some (Gz, rz) → ∀ (H : Heap) (locs : List Loc), gH E s G H locs → ∀ ls, lv_has ls 5 [(0, .ref (eA E 8 0)), (1, vJ x1), (3, vI x3)] → W p l e (gRm 10 221 0 0) s m ([.ref (eA E 8 0)] : List Value).toArray below meth c H locs 0 0 (MQ below (gQl E Gz rz) ([.ref (eA E 8 0)] : List Value).toArray s 0 0 (eF E)) (F0 m 126 ls [])), ∀ (H : Heap) (locs : List Loc), gH E s G H locs → ∀ ls, lv_has ls 5 [(0, .ref (eA E 8 0)), (1, vJ x1), (3, vI x3)] → f_X8_digest_L87 n G x1 x3 k = some (Gz, rz) → W p l e (gRm 10 221 0 0) s m ([.ref (eA E 8 0)] : List Value).toArray below meth c H locs 0 0 (MQ below (gQl E Gz rz) ([.ref (eA E 8 0)] : List Value).toArray s 0 0 (eF E)) (F0 m 87 ls []) := by
    intro n
    induction n with
    | zero =>
      intro G x1 x3 k hK H locs h ls hl hf
      exact absurd hf (by simp [f_X8_digest_L87])
    | succ n ih =>
      intro G x1 x3 k hK H locs h ls hl hf
      unfold f_X8_digest_L87 at hf
      refine g_iload_n C hl 2 rfl rfl (gdec kX8_digest 55 rfl) ?_
      refine g_bipush C (gdec kX8_digest 56 rfl) rfl ?_
      refine g_aload_n C hl 0 rfl rfl (gdec kX8_digest 57 rfl) ?_
      refine gf_X8_7 C h ho (gdec kX8_digest 58 rfl) ?_
      refine g_iconst C (gdec kX8_digest 59 rfl) ?_
      refine g_iald C h (gcl_8_0 C ho) (n := 260) rfl (by decide) (⟨by decide, by decide⟩ : (0 : Int) ≤ 0 ∧ (0 : Int) < 260) (gdec kX8_digest_1 0 rfl) ?_
      refine g_imul C (gdec kX8_digest_1 1 rfl) ?_
      obtain ⟨h15, hf⟩ := gd_s hf
      obtain ⟨h16, hf⟩ := gd_s hf
      refine g_icmp_ge C (tgt := 126) h15 h16 (by decide) (gdec kX8_digest_1 2 rfl) (fun c17 => ?_) (fun c17 => ?_)
      · replace hf := ifp c17 hf
        refine g_ldc2 C (n := 31) wL_X8_236 rfl (gdec kX8_digest_1 3 rfl) ?_
        refine g_lload_n C hl 1 rfl rfl (gdec kX8_digest_1 4 rfl) ?_
        refine g_lmul C (gdec kX8_digest_1 5 rfl) ?_
        refine g_aload_n C hl 0 rfl rfl (gdec kX8_digest_1 6 rfl) ?_
        refine g_iload_n C hl 2 rfl rfl (gdec kX8_digest_1 7 rfl) ?_
        refine g_bipush C (gdec kX8_digest_1 8 rfl) rfl ?_
        obtain ⟨h18, hf⟩ := ga_s hf
        refine g_idiv C h18.1 ⟨by omega, by omega⟩ (by decide) (by decide) (gdec kX8_digest_1 9 rfl) ?_
        refine g_iload_n C hl 2 rfl rfl (gdec kX8_digest_1 10 rfl) ?_
        refine g_bipush C (gdec kX8_digest_1 11 rfl) rfl ?_
        refine g_irem C h18.1 ⟨by omega, by omega⟩ (by decide) (by decide) (gdec kX8_digest_1 12 rfl) ?_
        obtain ⟨r19, q20, hf⟩ := bn1_s hf
        refine g_ci h (g_runV C h ho (by decide) rfl (c_X8_innOf l E _ _ _ ho _ q20) wM_X8_171 wI_X8_innOf wS_X8_innOf wN_X8 wC_X8_innOf rfl ny_X8_innOf rfl ⟨Nat.le_of_ble_eq_true rfl, Nat.le_of_ble_eq_true rfl⟩ hl.1 rfl (Nat.le_of_ble_eq_true rfl) (gdec kX8_digest_1 13 rfl) ⟨Nat.zero_le _, Nat.zero_le _⟩) (fun H locs h => ?_)
        refine g_i2l C (gdec kX8_digest_1 14 rfl) ?_
        refine g_ladd C (gdec kX8_digest_1 15 rfl) ?_
        refine g_lstore_n C [(1, vJ ((31 * x1) + (bm r19))), (0, .ref (eA E 8 0)), (3, vI x3)] hl rfl (by decide) rfl (gdec kX8_digest_1 16 rfl) (fun ls hl => ?_)
        refine g_iinc C (k := 2) [(3, vI (x3 + 1)), (1, vJ ((31 * x1) + (bm r19))), (0, .ref (eA E 8 0))] hl rfl (by decide) rfl (gdec kX8_digest_1 17 rfl) (fun ls hl => ?_)
        refine g_goto C (tgt := 87) (by decide) (gdec kX8_digest_1 18 rfl) ?_
        exact ih _ _ _ k hK H locs h ls (lv_sub hl [2, 1, 0] rfl) hf
      · replace hf := ifn c17 hf
        exact hK _ _ _ hf H locs h ls (lv_sub hl [0, 1, 2] rfl)
  have L128 : ∀ (n : Nat) (G : GS) (x1 : Int) (x3 : Int) (k : (GS → Int → Int → Option (GS × Int))) (hK : ∀ (G : GS) (x1 : Int) (x3 : Int), k G x1 x3 = some (Gz, rz) → ∀ (H : Heap) (locs : List Loc), gH E s G H locs → ∀ ls, lv_has ls 5 [(0, .ref (eA E 8 0)), (1, vJ x1), (3, vI x3)] → W p l e (gRm 10 221 0 0) s m ([.ref (eA E 8 0)] : List Value).toArray below meth c H locs 0 0 (MQ below (gQl E Gz rz) ([.ref (eA E 8 0)] : List Value).toArray s 0 0 (eF E)) (F0 m 168 ls [])), ∀ (H : Heap) (locs : List Loc), gH E s G H locs → ∀ ls, lv_has ls 5 [(0, .ref (eA E 8 0)), (1, vJ x1), (3, vI x3)] → f_X8_digest_L128 n G x1 x3 k = some (Gz, rz) → W p l e (gRm 10 221 0 0) s m ([.ref (eA E 8 0)] : List Value).toArray below meth c H locs 0 0 (MQ below (gQl E Gz rz) ([.ref (eA E 8 0)] : List Value).toArray s 0 0 (eF E)) (F0 m 128 ls []) := by
    intro n
    induction n with
    | zero =>
      intro G x1 x3 k hK H locs h ls hl hf
      exact absurd hf (by simp [f_X8_digest_L128])
    | succ n ih =>
      intro G x1 x3 k hK H locs h ls hl hf
      unfold f_X8_digest_L128 at hf
      refine g_iload_n C hl 2 rfl rfl (gdec kX8_digest_1 21 rfl) ?_
      refine g_bipush C (gdec kX8_digest_1 22 rfl) rfl ?_
      refine g_aload_n C hl 0 rfl rfl (gdec kX8_digest_1 23 rfl) ?_
      refine gf_X8_7 C h ho (gdec kX8_digest_1 24 rfl) ?_
      refine g_bipush C (gdec kX8_digest_1 25 rfl) rfl ?_
      refine g_iald C h (gcl_8_0 C ho) (n := 260) rfl (by decide) (⟨by decide, by decide⟩ : (0 : Int) ≤ 7 ∧ (7 : Int) < 260) (gdec kX8_digest_1 26 rfl) ?_
      refine g_imul C (gdec kX8_digest_1 27 rfl) ?_
      obtain ⟨h23, hf⟩ := gd_s hf
      obtain ⟨h24, hf⟩ := gd_s hf
      refine g_icmp_ge C (tgt := 168) h23 h24 (by decide) (gdec kX8_digest_1 28 rfl) (fun c25 => ?_) (fun c25 => ?_)
      · replace hf := ifp c25 hf
        refine g_ldc2 C (n := 31) wL_X8_236 rfl (gdec kX8_digest_1 29 rfl) ?_
        refine g_lload_n C hl 1 rfl rfl (gdec kX8_digest_1 30 rfl) ?_
        refine g_lmul C (gdec kX8_digest_1 31 rfl) ?_
        refine g_aload_n C hl 0 rfl rfl (gdec kX8_digest_1 32 rfl) ?_
        refine g_iload_n C hl 2 rfl rfl (gdec kX8_digest_1 33 rfl) ?_
        refine g_bipush C (gdec kX8_digest_1 34 rfl) rfl ?_
        obtain ⟨h26, hf⟩ := ga_s hf
        refine g_idiv C h26.1 ⟨by omega, by omega⟩ (by decide) (by decide) (gdec kX8_digest_1 35 rfl) ?_
        refine g_iload_n C hl 2 rfl rfl (gdec kX8_digest_1 36 rfl) ?_
        refine g_bipush C (gdec kX8_digest_1 37 rfl) rfl ?_
        refine g_irem C h26.1 ⟨by omega, by omega⟩ (by decide) (by decide) (gdec kX8_digest_1 38 rfl) ?_
        obtain ⟨r27, q28, hf⟩ := bn1_s hf
        refine g_ci h (g_runV C h ho (by decide) rfl (c_X8_of l E _ _ _ ho _ q28) wM_X8_98 wI_X8_of wS_X8_of wN_X8 wC_X8_of rfl ny_X8_of rfl ⟨Nat.le_of_ble_eq_true rfl, Nat.le_of_ble_eq_true rfl⟩ hl.1 rfl (Nat.le_of_ble_eq_true rfl) (gdec kX8_digest_1 39 rfl) ⟨Nat.zero_le _, Nat.zero_le _⟩) (fun H locs h => ?_)
        refine g_i2l C (gdec kX8_digest_1 40 rfl) ?_
        refine g_ladd C (gdec kX8_digest_1 41 rfl) ?_
        refine g_lstore_n C [(1, vJ ((31 * x1) + (bm r27))), (0, .ref (eA E 8 0)), (3, vI x3)] hl rfl (by decide) rfl (gdec kX8_digest_1 42 rfl) (fun ls hl => ?_)
        refine g_iinc C (k := 2) [(3, vI (x3 + 1)), (1, vJ ((31 * x1) + (bm r27))), (0, .ref (eA E 8 0))] hl rfl (by decide) rfl (gdec kX8_digest_1 43 rfl) (fun ls hl => ?_)
        refine g_goto C (tgt := 128) (by decide) (gdec kX8_digest_1 44 rfl) ?_
        exact ih _ _ _ k hK H locs h ls (lv_sub hl [2, 1, 0] rfl) hf
      · replace hf := ifn c25 hf
        exact hK _ _ _ hf H locs h ls (lv_sub hl [0, 1, 2] rfl)
  have L184 : ∀ (n : Nat) (G : GS) (x1 : Int) (x3 : Int) (x4 : Int) (k : (GS → Int → Int → Int → Option (GS × Int))) (hK : ∀ (G : GS) (x1 : Int) (x3 : Int) (x4 : Int), k G x1 x3 x4 = some (Gz, rz) → ∀ (H : Heap) (locs : List Loc), gH E s G H locs → ∀ ls, lv_has ls 5 [(0, .ref (eA E 8 0)), (1, vJ x1), (3, vI x3), (4, vI x4)] → W p l e (gRm 10 221 0 0) s m ([.ref (eA E 8 0)] : List Value).toArray below meth c H locs 0 0 (MQ below (gQl E Gz rz) ([.ref (eA E 8 0)] : List Value).toArray s 0 0 (eF E)) (F0 m 212 ls [])), ∀ (H : Heap) (locs : List Loc), gH E s G H locs → ∀ ls, lv_has ls 5 [(0, .ref (eA E 8 0)), (1, vJ x1), (3, vI x3), (4, vI x4)] → f_X8_digest_L184 n G x1 x3 x4 k = some (Gz, rz) → W p l e (gRm 10 221 0 0) s m ([.ref (eA E 8 0)] : List Value).toArray below meth c H locs 0 0 (MQ below (gQl E Gz rz) ([.ref (eA E 8 0)] : List Value).toArray s 0 0 (eF E)) (F0 m 184 ls []) := by
    intro n
    induction n with
    | zero =>
      intro G x1 x3 x4 k hK H locs h ls hl hf
      exact absurd hf (by simp [f_X8_digest_L184])
    | succ n ih =>
      intro G x1 x3 x4 k hK H locs h ls hl hf
      unfold f_X8_digest_L184 at hf
      refine g_iload C hl 3 rfl (gdec kX8_digest_1 55 rfl) ?_
      refine g_bipush C (gdec kX8_digest_1 56 rfl) rfl ?_
      obtain ⟨h34, hf⟩ := gd_s hf
      refine g_icmp_ge C (tgt := 212) h34 (by decide) (by decide) (gdec kX8_digest_1 57 rfl) (fun c35 => ?_) (fun c35 => ?_)
      · replace hf := ifp c35 hf
        refine g_ldc2 C (n := 31) wL_X8_236 rfl (gdec kX8_digest_1 58 rfl) ?_
        refine g_lload_n C hl 1 rfl rfl (gdec kX8_digest_1 59 rfl) ?_
        refine g_lmul C (gdec kX8_digest_2 0 rfl) ?_
        refine g_aload_n C hl 0 rfl rfl (gdec kX8_digest_2 1 rfl) ?_
        refine g_iload_n C hl 2 rfl rfl (gdec kX8_digest_2 2 rfl) ?_
        refine g_iload C hl 3 rfl (gdec kX8_digest_2 3 rfl) ?_
        obtain ⟨r36, q37, hf⟩ := bn1_s hf
        refine g_ci h (g_runV C h ho (by decide) rfl (c_X8_ofLetter l E _ _ _ ho _ q37) wM_X8_92 wI_X8_ofLetter wS_X8_ofLetter wN_X8 wC_X8_ofLetter rfl ny_X8_ofLetter rfl ⟨Nat.le_of_ble_eq_true rfl, Nat.le_of_ble_eq_true rfl⟩ hl.1 rfl (Nat.le_of_ble_eq_true rfl) (gdec kX8_digest_2 4 rfl) ⟨Nat.zero_le _, Nat.zero_le _⟩) (fun H locs h => ?_)
        refine g_i2l C (gdec kX8_digest_2 5 rfl) ?_
        refine g_ladd C (gdec kX8_digest_2 6 rfl) ?_
        refine g_lstore_n C [(1, vJ ((31 * x1) + (bm r36))), (0, .ref (eA E 8 0)), (3, vI x3), (4, vI x4)] hl rfl (by decide) rfl (gdec kX8_digest_2 7 rfl) (fun ls hl => ?_)
        refine g_iinc C (k := 3) [(4, vI (x4 + 1)), (1, vJ ((31 * x1) + (bm r36))), (0, .ref (eA E 8 0)), (3, vI x3)] hl rfl (by decide) rfl (gdec kX8_digest_2 8 rfl) (fun ls hl => ?_)
        refine g_goto C (tgt := 184) (by decide) (gdec kX8_digest_2 9 rfl) ?_
        exact ih _ _ _ _ k hK H locs h ls (lv_sub hl [2, 1, 3, 0] rfl) hf
      · replace hf := ifn c35 hf
        exact hK _ _ _ _ hf H locs h ls (lv_sub hl [0, 1, 2, 3] rfl)
  have L170 : ∀ (n : Nat) (G : GS) (x1 : Int) (x3 : Int) (k : (GS → Int → Int → Option (GS × Int))) (hK : ∀ (G : GS) (x1 : Int) (x3 : Int), k G x1 x3 = some (Gz, rz) → ∀ (H : Heap) (locs : List Loc), gH E s G H locs → ∀ ls, lv_has ls 5 [(0, .ref (eA E 8 0)), (1, vJ x1), (3, vI x3)] → W p l e (gRm 10 221 0 0) s m ([.ref (eA E 8 0)] : List Value).toArray below meth c H locs 0 0 (MQ below (gQl E Gz rz) ([.ref (eA E 8 0)] : List Value).toArray s 0 0 (eF E)) (F0 m 231 ls [])), ∀ (H : Heap) (locs : List Loc), gH E s G H locs → ∀ ls, lv_has ls 5 [(0, .ref (eA E 8 0)), (1, vJ x1), (3, vI x3)] → f_X8_digest_L170 n G x1 x3 k = some (Gz, rz) → W p l e (gRm 10 221 0 0) s m ([.ref (eA E 8 0)] : List Value).toArray below meth c H locs 0 0 (MQ below (gQl E Gz rz) ([.ref (eA E 8 0)] : List Value).toArray s 0 0 (eF E)) (F0 m 170 ls []) := by
    intro n
    induction n with
    | zero =>
      intro G x1 x3 k hK H locs h ls hl hf
      exact absurd hf (by simp [f_X8_digest_L170])
    | succ n ih =>
      intro G x1 x3 k hK H locs h ls hl hf
      unfold f_X8_digest_L170 at hf
      refine g_iload_n C hl 2 rfl rfl (gdec kX8_digest_1 47 rfl) ?_
      refine g_aload_n C hl 0 rfl rfl (gdec kX8_digest_1 48 rfl) ?_
      refine gf_X8_7 C h ho (gdec kX8_digest_1 49 rfl) ?_
      refine g_bipush C (gdec kX8_digest_1 50 rfl) rfl ?_
      refine g_iald C h (gcl_8_0 C ho) (n := 260) rfl (by decide) (⟨by decide, by decide⟩ : (0 : Int) ≤ 8 ∧ (8 : Int) < 260) (gdec kX8_digest_1 51 rfl) ?_
      obtain ⟨h31, hf⟩ := gd_s hf
      obtain ⟨h32, hf⟩ := gd_s hf
      refine g_icmp_ge C (tgt := 231) h31 h32 (by decide) (gdec kX8_digest_1 52 rfl) (fun c33 => ?_) (fun c33 => ?_)
      · replace hf := ifp c33 hf
        refine g_iconst C (gdec kX8_digest_1 53 rfl) ?_
        refine g_istore C [(4, vI 0), (0, .ref (eA E 8 0)), (1, vJ x1), (3, vI x3)] hl (by decide) rfl (gdec kX8_digest_1 54 rfl) (fun ls hl => ?_)
        refine L184 gFuel _ _ _ _ _ (fun G39 y1_38 y3_38 y4_38 hf H locs h ls hl => ?_) H locs h ls (lv_sub hl [1, 2, 3, 0] rfl) hf
        refine g_ldc2 C (n := 31) wL_X8_236 rfl (gdec kX8_digest_2 10 rfl) ?_
        refine g_lload_n C hl 1 rfl rfl (gdec kX8_digest_2 11 rfl) ?_
        refine g_lmul C (gdec kX8_digest_2 12 rfl) ?_
        refine g_aload_n C hl 0 rfl rfl (gdec kX8_digest_2 13 rfl) ?_
        refine g_iload_n C hl 2 rfl rfl (gdec kX8_digest_2 14 rfl) ?_
        obtain ⟨r40, q41, hf⟩ := bn1_s hf
        refine g_ci h (g_runV C h ho (by decide) rfl (c_X8_whyNot l E _ _ ho _ q41) wM_X8_131 wI_X8_whyNot wS_X8_whyNot wN_X8 wC_X8_whyNot rfl ny_X8_whyNot rfl ⟨Nat.le_of_ble_eq_true rfl, Nat.le_of_ble_eq_true rfl⟩ hl.1 rfl (Nat.le_of_ble_eq_true rfl) (gdec kX8_digest_2 15 rfl) ⟨Nat.zero_le _, Nat.zero_le _⟩) (fun H locs h => ?_)
        refine g_i2l C (gdec kX8_digest_2 16 rfl) ?_
        refine g_ladd C (gdec kX8_digest_2 17 rfl) ?_
        refine g_lstore_n C [(1, vJ ((31 * y1_38) + (bm r40))), (0, .ref (eA E 8 0)), (3, vI y3_38), (4, vI y4_38)] hl rfl (by decide) rfl (gdec kX8_digest_2 18 rfl) (fun ls hl => ?_)
        refine g_iinc C (k := 2) [(3, vI (y3_38 + 1)), (1, vJ ((31 * y1_38) + (bm r40))), (0, .ref (eA E 8 0)), (4, vI y4_38)] hl rfl (by decide) rfl (gdec kX8_digest_2 19 rfl) (fun ls hl => ?_)
        refine g_goto C (tgt := 170) (by decide) (gdec kX8_digest_2 20 rfl) ?_
        exact ih _ _ _ k hK H locs h ls (lv_sub hl [2, 1, 0] rfl) hf
      · replace hf := ifn c33 hf
        exact hK _ _ _ hf H locs h ls (lv_sub hl [0, 1, 2] rfl)
  unfold f_X8_digest at hf
  refine g_aload_n C hl 0 rfl rfl (gdec kX8_digest 0 rfl) ?_
  refine g_iconst C (gdec kX8_digest 1 rfl) ?_
  refine gp_X8_33 C h ho (gdec kX8_digest 2 rfl) (fun H locs h => ?_)
  refine g_ldc2 C (n := 108221) wL_X8_234 rfl (gdec kX8_digest 3 rfl) ?_
  refine g_aload_n C hl 0 rfl rfl (gdec kX8_digest 4 rfl) ?_
  refine gf_X8_210 C h ho (gdec kX8_digest 5 rfl) ?_
  refine g_i2l C (gdec kX8_digest 6 rfl) ?_
  refine g_ladd C (gdec kX8_digest 7 rfl) ?_
  refine g_lstore_n C [(1, vJ (108221 + (bm ((gup G 8 0 4 0) 8 0 7)))), (0, .ref (eA E 8 0))] hl rfl (by decide) rfl (gdec kX8_digest 8 rfl) (fun ls hl => ?_)
  refine g_iconst C (gdec kX8_digest 9 rfl) ?_
  refine g_istore_n C [(3, vI 0), (1, vJ (108221 + (bm ((gup G 8 0 4 0) 8 0 7)))), (0, .ref (eA E 8 0))] hl rfl (by decide) rfl (gdec kX8_digest 10 rfl) (fun ls hl => ?_)
  refine L17 gFuel _ _ _ _ (fun G6 y1_5 y3_5 hf H locs h ls hl => ?_) H locs h ls (lv_sub hl [2, 1, 0] rfl) hf
  refine g_iconst C (gdec kX8_digest 25 rfl) ?_
  refine g_istore_n C [(3, vI 0), (0, .ref (eA E 8 0)), (1, vJ y1_5)] hl rfl (by decide) rfl (gdec kX8_digest 26 rfl) (fun ls hl => ?_)
  refine L44 gFuel _ _ _ _ (fun G14 y1_13 y3_13 hf H locs h ls hl => ?_) H locs h ls (lv_sub hl [1, 2, 0] rfl) hf
  refine g_iconst C (gdec kX8_digest 53 rfl) ?_
  refine g_istore_n C [(3, vI 0), (0, .ref (eA E 8 0)), (1, vJ y1_13)] hl rfl (by decide) rfl (gdec kX8_digest 54 rfl) (fun ls hl => ?_)
  refine L87 gFuel _ _ _ _ (fun G22 y1_21 y3_21 hf H locs h ls hl => ?_) H locs h ls (lv_sub hl [1, 2, 0] rfl) hf
  refine g_iconst C (gdec kX8_digest_1 19 rfl) ?_
  refine g_istore_n C [(3, vI 0), (0, .ref (eA E 8 0)), (1, vJ y1_21)] hl rfl (by decide) rfl (gdec kX8_digest_1 20 rfl) (fun ls hl => ?_)
  refine L128 gFuel _ _ _ _ (fun G30 y1_29 y3_29 hf H locs h ls hl => ?_) H locs h ls (lv_sub hl [1, 2, 0] rfl) hf
  refine g_iconst C (gdec kX8_digest_1 45 rfl) ?_
  refine g_istore_n C [(3, vI 0), (0, .ref (eA E 8 0)), (1, vJ y1_29)] hl rfl (by decide) rfl (gdec kX8_digest_1 46 rfl) (fun ls hl => ?_)
  refine L170 gFuel _ _ _ _ (fun G43 y1_42 y3_42 hf H locs h ls hl => ?_) H locs h ls (lv_sub hl [1, 2, 0] rfl) hf
  refine g_ldc2 C (n := 31) wL_X8_236 rfl (gdec kX8_digest_2 21 rfl) ?_
  refine g_ldc2 C (n := 31) wL_X8_236 rfl (gdec kX8_digest_2 22 rfl) ?_
  refine g_lload_n C hl 1 rfl rfl (gdec kX8_digest_2 23 rfl) ?_
  refine g_lmul C (gdec kX8_digest_2 24 rfl) ?_
  refine g_aload_n C hl 0 rfl rfl (gdec kX8_digest_2 25 rfl) ?_
  obtain ⟨G44, r45, q46, hf⟩ := bnd_s hf
  refine g_ci h (g_runV C h ho (by decide) rfl (c_X8_forAll l E _ ho _ _ q46) wM_X8_205 wI_X8_forAll wS_X8_forAll wN_X8 wC_X8_forAll rfl ny_X8_forAll rfl ⟨Nat.le_of_ble_eq_true rfl, Nat.le_of_ble_eq_true rfl⟩ hl.1 rfl (Nat.le_of_ble_eq_true rfl) (gdec kX8_digest_2 26 rfl) ⟨Nat.zero_le _, Nat.zero_le _⟩) (fun H locs h => ?_)
  refine g_i2l C (gdec kX8_digest_2 27 rfl) ?_
  refine g_ladd C (gdec kX8_digest_2 28 rfl) ?_
  refine g_lmul C (gdec kX8_digest_2 29 rfl) ?_
  refine g_aload_n C hl 0 rfl rfl (gdec kX8_digest_2 30 rfl) ?_
  refine gf_X8_37 C h ho (gdec kX8_digest_2 31 rfl) ?_
  refine g_i2l C (gdec kX8_digest_2 32 rfl) ?_
  refine g_ladd C (gdec kX8_digest_2 33 rfl) ?_
  exact g_lret C h hf (gdec kX8_digest_2 34 rfl)

def f_X3_hindrance (G : GS) (o : Int) (p1 : Int) : Option (Int) :=
  ga p1 12 (bn1 (f_X2_isDelivered G (12 * o + p1)) (fun r3 => gd r3 (if r3 = 0 then bn1 (f_X2_isOnStage G (12 * o + p1)) (fun r7 => gd r7 (if r7 = 0 then bn1 (f_X7_nextInn G (G 2 (12 * o + p1) 4) (G 2 (12 * o + p1) 1)) (fun r11 => bn1 (f_X7_stageBetween G (G 2 (12 * o + p1) 4) r11) (fun r13 => ga r13 7 (gd (G 5 (7 * o + r13) 2) (if (G 5 (7 * o + r13) 2) = 0 then ga (G 2 (12 * o + p1) 4) 8 (gd (G 1 (8 * o + (G 2 (12 * o + p1) 4)) 2) (if (G 1 (8 * o + (G 2 (12 * o + p1) 4)) 2) = 0 then ga r11 8 (gd (G 1 (8 * o + r11) 2) (if (G 1 (8 * o + r11) 2) = 0 then bn1 (f_X3_bedsTaken G o r11) (fun r27 => gd r27 (gd (G 1 (8 * o + r11) 0) (if r27 < (G 1 (8 * o + r11) 0) then bn1 (f_X3_fittestTeamAt G o (G 2 (12 * o + p1) 4)) (fun r33 => gd r33 (if r33 = (-1) then some 6 else ga r33 10 (gd r11 (gd (G 2 (12 * o + p1) 4) (if (G 2 (12 * o + p1) 4) < r11 then bn1 (f_X5_effort G (7 * o + r13) 1) (fun r42 => gd ((G 6 (10 * o + r33) 1) + r42) (if 100 < ((G 6 (10 * o + r33) 1) + r42) then some 7 else some 0)) else bn1 (f_X5_effort G (7 * o + r13) 0) (fun r48 => gd ((G 6 (10 * o + r33) 1) + r48) (if 100 < ((G 6 (10 * o + r33) 1) + r48) then some 7 else some 0))))))) else some 5))) else some 4)) else some 4)) else some 3)))) else some 2)) else some 1)))
set_option maxHeartbeats 4000000 in
set_option maxRecDepth 100000 in
theorem c_X3_hindrance (l : Launch) (E : gEnv) (G : GS) (o : Int) (p1 : Int) (ho : gOk E 3 o) (rz : Int) (hf : f_X3_hindrance G o p1 = some rz) : gMet l yX3_hindrance cX3_hindrance 7 (some .int) 2 45 0 0 [.ref (eA E 3 o), vI p1] E G (gQi E G rz) := by
  refine g_met (by decide +kernel) (Nat.le_of_ble_eq_true rfl) ?_
  intro p e s m below meth c C H locs h ls hl
  have C : gC p s m _ meth c RX3 cX3_hindrance 7 (some .int) E := C
  have hl : lv_has ls 7 [(0, .ref (eA E 3 o)), (1, vI p1)] := hl
  unfold f_X3_hindrance at hf
  refine g_aload_n C hl 0 rfl rfl (gdec kX3_hindrance 0 rfl) ?_
  refine g_iload_n C hl 1 rfl rfl (gdec kX3_hindrance 1 rfl) ?_
  obtain ⟨h1, hf⟩ := ga_s hf
  refine g_cr h (g_runV C h ho (by decide) rfl (c_X3_letterRow l E _ _ _ ho _ (e_X3_letterRow _ _ _ h1)) wM_X3_89 wI_X3_letterRow wS_X3_letterRow wN_X3 wC_X3_letterRow rfl ny_X3_letterRow rfl ⟨Nat.le_of_ble_eq_true rfl, Nat.le_of_ble_eq_true rfl⟩ hl.1 rfl (Nat.le_of_ble_eq_true rfl) (gdec kX3_hindrance 2 rfl) ⟨Nat.zero_le _, Nat.zero_le _⟩) (fun H locs h => ?_)
  have k2 : gOk E 2 (12 * o + p1) := gok2 C (gcl_3_3 C ho) h1
  refine g_astore_n C [(2, .ref (eA E 2 (12 * o + p1))), (0, .ref (eA E 3 o)), (1, vI p1)] hl rfl (by decide) rfl (gdec kX3_hindrance 3 rfl) (fun ls hl => ?_)
  refine g_aload_n C hl 0 rfl rfl (gdec kX3_hindrance 4 rfl) ?_
  obtain ⟨r3, q4, hf⟩ := bn1_s hf
  refine g_ci h (g_runV C h k2 (by decide) rfl (c_X2_isDelivered l E _ _ k2 _ q4) wM_X3_103 wI_X2_isDelivered wS_X2_isDelivered wN_X2 wC_X2_isDelivered rfl ny_X2_isDelivered rfl ⟨Nat.le_of_ble_eq_true rfl, Nat.le_of_ble_eq_true rfl⟩ hl.1 rfl (Nat.le_of_ble_eq_true rfl) (gdec kX3_hindrance 5 rfl) ⟨Nat.zero_le _, Nat.zero_le _⟩) (fun H locs h => ?_)
  obtain ⟨h5, hf⟩ := gd_s hf
  refine g_if_eq C (tgt := 15) h5 (by decide) (gdec kX3_hindrance 6 rfl) (fun c6 => ?_) (fun c6 => ?_)
  · replace hf := ifp c6 hf
    refine g_aload_n C hl 0 rfl rfl (gdec kX3_hindrance 9 rfl) ?_
    obtain ⟨r7, q8, hf⟩ := bn1_s hf
    refine g_ci h (g_runV C h k2 (by decide) rfl (c_X2_isOnStage l E _ _ k2 _ q8) wM_X3_107 wI_X2_isOnStage wS_X2_isOnStage wN_X2 wC_X2_isOnStage rfl ny_X2_isOnStage rfl ⟨Nat.le_of_ble_eq_true rfl, Nat.le_of_ble_eq_true rfl⟩ hl.1 rfl (Nat.le_of_ble_eq_true rfl) (gdec kX3_hindrance 10 rfl) ⟨Nat.zero_le _, Nat.zero_le _⟩) (fun H locs h => ?_)
    obtain ⟨h9, hf⟩ := gd_s hf
    refine g_if_eq C (tgt := 24) h9 (by decide) (gdec kX3_hindrance 11 rfl) (fun c10 => ?_) (fun c10 => ?_)
    · replace hf := ifp c10 hf
      refine g_aload_n C hl 0 rfl rfl (gdec kX3_hindrance 14 rfl) ?_
      refine gf_X3_189 C h k2 (gdec kX3_hindrance 15 rfl) ?_
      refine g_aload_n C hl 0 rfl rfl (gdec kX3_hindrance 16 rfl) ?_
      refine gf_X3_190 C h k2 (gdec kX3_hindrance 17 rfl) ?_
      obtain ⟨r11, q12, hf⟩ := bn1_s hf
      refine g_ci h (g_runSN C h (c_X7_nextInn l E _ _ _ _ q12) wNest_X3_212 wT_X7_nextInn wN_X7 wC_X7_nextInn ny_X7_nextInn rfl ⟨Nat.le_of_ble_eq_true rfl, Nat.le_of_ble_eq_true rfl⟩ hl.1 rfl (Nat.le_of_ble_eq_true rfl) (gdec kX3_hindrance 18 rfl) ⟨Nat.zero_le _, Nat.zero_le _⟩) (fun H locs h => ?_)
      refine g_istore_n C [(3, vI r11), (2, .ref (eA E 2 (12 * o + p1))), (0, .ref (eA E 3 o)), (1, vI p1)] hl rfl (by decide) rfl (gdec kX3_hindrance 19 rfl) (fun ls hl => ?_)
      refine g_aload_n C hl 2 rfl rfl (gdec kX3_hindrance 20 rfl) ?_
      refine g_aload_n C hl 1 rfl rfl (gdec kX3_hindrance 21 rfl) ?_
      refine gf_X3_189 C h k2 (gdec kX3_hindrance 22 rfl) ?_
      refine g_iload_n C hl 0 rfl rfl (gdec kX3_hindrance 23 rfl) ?_
      obtain ⟨r13, q14, hf⟩ := bn1_s hf
      refine g_ci h (g_runSN C h (c_X7_stageBetween l E _ _ _ _ q14) wNest_X3_219 wT_X7_stageBetween wN_X7 wC_X7_stageBetween ny_X7_stageBetween rfl ⟨Nat.le_of_ble_eq_true rfl, Nat.le_of_ble_eq_true rfl⟩ hl.1 rfl (Nat.le_of_ble_eq_true rfl) (gdec kX3_hindrance 24 rfl) ⟨Nat.zero_le _, Nat.zero_le _⟩) (fun H locs h => ?_)
      obtain ⟨h15, hf⟩ := ga_s hf
      refine g_cr h (g_runV C h ho (by decide) rfl (c_X3_stageRow l E _ _ _ ho _ (e_X3_stageRow _ _ _ h15)) wM_X3_169 wI_X3_stageRow wS_X3_stageRow wN_X3 wC_X3_stageRow rfl ny_X3_stageRow rfl ⟨Nat.le_of_ble_eq_true rfl, Nat.le_of_ble_eq_true rfl⟩ hl.1 rfl (Nat.le_of_ble_eq_true rfl) (gdec kX3_hindrance 25 rfl) ⟨Nat.zero_le _, Nat.zero_le _⟩) (fun H locs h => ?_)
      have k16 : gOk E 5 (7 * o + r13) := gok5 C (gcl_3_0 C ho) h15
      refine g_astore C [(4, .ref (eA E 5 (7 * o + r13))), (3, vI r11), (2, .ref (eA E 2 (12 * o + p1))), (0, .ref (eA E 3 o)), (1, vI p1)] hl (by decide) rfl (gdec kX3_hindrance 26 rfl) (fun ls hl => ?_)
      refine g_aload C hl 0 rfl (gdec kX3_hindrance 27 rfl) ?_
      refine gf_X3_231 C h k16 (gdec kX3_hindrance 28 rfl) ?_
      obtain ⟨h17, hf⟩ := gd_s hf
      refine g_if_eq C (tgt := 60) h17 (by decide) (gdec kX3_hindrance 29 rfl) (fun c18 => ?_) (fun c18 => ?_)
      · replace hf := ifp c18 hf
        refine g_aload_n C hl 3 rfl rfl (gdec kX3_hindrance 32 rfl) ?_
        refine g_aload_n C hl 2 rfl rfl (gdec kX3_hindrance 33 rfl) ?_
        refine gf_X3_189 C h k2 (gdec kX3_hindrance 34 rfl) ?_
        obtain ⟨h19, hf⟩ := ga_s hf
        refine g_cr h (g_runV C h ho (by decide) rfl (c_X3_innRow l E _ _ _ ho _ (e_X3_innRow _ _ _ h19)) wM_X3_138 wI_X3_innRow wS_X3_innRow wN_X3 wC_X3_innRow rfl ny_X3_innRow rfl ⟨Nat.le_of_ble_eq_true rfl, Nat.le_of_ble_eq_true rfl⟩ hl.1 rfl (Nat.le_of_ble_eq_true rfl) (gdec kX3_hindrance 35 rfl) ⟨Nat.zero_le _, Nat.zero_le _⟩) (fun H locs h => ?_)
        have k20 : gOk E 1 (8 * o + (G 2 (12 * o + p1) 4)) := gok1 C (gcl_3_1 C ho) h19
        refine gf_X3_234 C h k20 (gdec kX3_hindrance 36 rfl) ?_
        obtain ⟨h21, hf⟩ := gd_s hf
        refine g_if_ne C (tgt := 85) h21 (by decide) (gdec kX3_hindrance 37 rfl) (fun c22 => ?_) (fun c22 => ?_)
        · replace hf := ifp c22 hf
          refine g_aload_n C hl 3 rfl rfl (gdec kX3_hindrance 38 rfl) ?_
          refine g_iload_n C hl 1 rfl rfl (gdec kX3_hindrance 39 rfl) ?_
          obtain ⟨h23, hf⟩ := ga_s hf
          refine g_cr h (g_runV C h ho (by decide) rfl (c_X3_innRow l E _ _ _ ho _ (e_X3_innRow _ _ _ h23)) wM_X3_138 wI_X3_innRow wS_X3_innRow wN_X3 wC_X3_innRow rfl ny_X3_innRow rfl ⟨Nat.le_of_ble_eq_true rfl, Nat.le_of_ble_eq_true rfl⟩ hl.1 rfl (Nat.le_of_ble_eq_true rfl) (gdec kX3_hindrance 40 rfl) ⟨Nat.zero_le _, Nat.zero_le _⟩) (fun H locs h => ?_)
          have k24 : gOk E 1 (8 * o + r11) := gok1 C (gcl_3_1 C ho) h23
          refine gf_X3_234 C h k24 (gdec kX3_hindrance 41 rfl) ?_
          obtain ⟨h25, hf⟩ := gd_s hf
          refine g_if_eq C (tgt := 87) h25 (by decide) (gdec kX3_hindrance 42 rfl) (fun c26 => ?_) (fun c26 => ?_)
          · replace hf := ifp c26 hf
            refine g_aload_n C hl 3 rfl rfl (gdec kX3_hindrance 45 rfl) ?_
            refine g_iload_n C hl 1 rfl rfl (gdec kX3_hindrance 46 rfl) ?_
            obtain ⟨r27, q28, hf⟩ := bn1_s hf
            refine g_ci h (g_runV C h ho (by decide) rfl (c_X3_bedsTaken l E _ _ _ ho _ q28) wM_X3_237 wI_X3_bedsTaken wS_X3_bedsTaken wN_X3 wC_X3_bedsTaken rfl ny_X3_bedsTaken rfl ⟨Nat.le_of_ble_eq_true rfl, Nat.le_of_ble_eq_true rfl⟩ hl.1 rfl (Nat.le_of_ble_eq_true rfl) (gdec kX3_hindrance 47 rfl) ⟨Nat.zero_le _, Nat.zero_le _⟩) (fun H locs h => ?_)
            refine g_aload_n C hl 3 rfl rfl (gdec kX3_hindrance 48 rfl) ?_
            refine g_iload_n C hl 1 rfl rfl (gdec kX3_hindrance 49 rfl) ?_
            refine g_cr h (g_runV C h ho (by decide) rfl (c_X3_innRow l E _ _ _ ho _ (e_X3_innRow _ _ _ h23)) wM_X3_138 wI_X3_innRow wS_X3_innRow wN_X3 wC_X3_innRow rfl ny_X3_innRow rfl ⟨Nat.le_of_ble_eq_true rfl, Nat.le_of_ble_eq_true rfl⟩ hl.1 rfl (Nat.le_of_ble_eq_true rfl) (gdec kX3_hindrance 50 rfl) ⟨Nat.zero_le _, Nat.zero_le _⟩) (fun H locs h => ?_)
            have k29 : gOk E 1 (8 * o + r11) := gok1 C (gcl_3_1 C ho) h23
            refine gf_X3_240 C h k29 (gdec kX3_hindrance 51 rfl) ?_
            obtain ⟨h30, hf⟩ := gd_s hf
            obtain ⟨h31, hf⟩ := gd_s hf
            refine g_icmp_lt C (tgt := 105) h30 h31 (by decide) (gdec kX3_hindrance 52 rfl) (fun c32 => ?_) (fun c32 => ?_)
            · replace hf := ifp c32 hf
              refine g_aload_n C hl 3 rfl rfl (gdec kX3_hindrance 55 rfl) ?_
              refine g_aload_n C hl 2 rfl rfl (gdec kX3_hindrance 56 rfl) ?_
              refine gf_X3_189 C h k2 (gdec kX3_hindrance 57 rfl) ?_
              obtain ⟨r33, q34, hf⟩ := bn1_s hf
              refine g_ci h (g_runV C h ho (by decide) rfl (c_X3_fittestTeamAt l E _ _ _ ho _ q34) wM_X3_216 wI_X3_fittestTeamAt wS_X3_fittestTeamAt wN_X3 wC_X3_fittestTeamAt rfl ny_X3_fittestTeamAt rfl ⟨Nat.le_of_ble_eq_true rfl, Nat.le_of_ble_eq_true rfl⟩ hl.1 rfl (Nat.le_of_ble_eq_true rfl) (gdec kX3_hindrance 58 rfl) ⟨Nat.zero_le _, Nat.zero_le _⟩) (fun H locs h => ?_)
              refine g_istore C [(5, vI r33), (4, .ref (eA E 5 (7 * o + r13))), (3, vI r11), (2, .ref (eA E 2 (12 * o + p1))), (0, .ref (eA E 3 o)), (1, vI p1)] hl (by decide) rfl (gdec kX3_hindrance 59 rfl) (fun ls hl => ?_)
              refine g_iload C hl 0 rfl (gdec kX3_hindrance_1 0 rfl) ?_
              refine g_iconst C (gdec kX3_hindrance_1 1 rfl) ?_
              obtain ⟨h35, hf⟩ := gd_s hf
              refine g_icmp_ne C (tgt := 124) h35 (by decide) (by decide) (gdec kX3_hindrance_1 2 rfl) (fun c36 => ?_) (fun c36 => ?_)
              · replace hf := ifp c36 hf
                refine g_bipush C (gdec kX3_hindrance_1 3 rfl) rfl ?_
                exact g_iret C h (congrArg (Option.map (Prod.mk _)) hf) (gdec kX3_hindrance_1 4 rfl)
              · replace hf := ifn c36 hf
                refine g_aload_n C hl 4 rfl rfl (gdec kX3_hindrance_1 5 rfl) ?_
                refine g_iload C hl 0 rfl (gdec kX3_hindrance_1 6 rfl) ?_
                obtain ⟨h37, hf⟩ := ga_s hf
                refine g_cr h (g_runV C h ho (by decide) rfl (c_X3_teamRow l E _ _ _ ho _ (e_X3_teamRow _ _ _ h37)) wM_X3_82 wI_X3_teamRow wS_X3_teamRow wN_X3 wC_X3_teamRow rfl ny_X3_teamRow rfl ⟨Nat.le_of_ble_eq_true rfl, Nat.le_of_ble_eq_true rfl⟩ hl.1 rfl (Nat.le_of_ble_eq_true rfl) (gdec kX3_hindrance_1 7 rfl) ⟨Nat.zero_le _, Nat.zero_le _⟩) (fun H locs h => ?_)
                have k38 : gOk E 6 (10 * o + r33) := gok6 C (gcl_3_2 C ho) h37
                refine gf_X3_142 C h k38 (gdec kX3_hindrance_1 8 rfl) ?_
                refine g_aload C hl 1 rfl (gdec kX3_hindrance_1 9 rfl) ?_
                refine g_iload_n C hl 2 rfl rfl (gdec kX3_hindrance_1 10 rfl) ?_
                refine g_aload_n C hl 3 rfl rfl (gdec kX3_hindrance_1 11 rfl) ?_
                refine gf_X3_189 C h k2 (gdec kX3_hindrance_1 12 rfl) ?_
                obtain ⟨h39, hf⟩ := gd_s hf
                obtain ⟨h40, hf⟩ := gd_s hf
                refine g_icmp_le C (tgt := 147) h39 h40 (by decide) (gdec kX3_hindrance_1 13 rfl) (fun c41 => ?_) (fun c41 => ?_)
                · replace hf := ifp c41 hf
                  refine g_iconst C (gdec kX3_hindrance_1 14 rfl) ?_
                  refine g_goto C (tgt := 148) (by decide) (gdec kX3_hindrance_1 15 rfl) ?_
                  obtain ⟨r42, q43, hf⟩ := bn1_s hf
                  refine g_ci h (g_runV C h k16 (by decide) rfl (c_X5_effort l E _ _ _ k16 _ q43) wM_X3_176 wI_X5_effort wS_X5_effort wN_X5 wC_X5_effort rfl ny_X5_effort rfl ⟨Nat.le_of_ble_eq_true rfl, Nat.le_of_ble_eq_true rfl⟩ hl.1 rfl (Nat.le_of_ble_eq_true rfl) (gdec kX3_hindrance_1 17 rfl) ⟨Nat.zero_le _, Nat.zero_le _⟩) (fun H locs h => ?_)
                  refine g_iadd C (gdec kX3_hindrance_1 18 rfl) ?_
                  refine g_bipush C (gdec kX3_hindrance_1 19 rfl) rfl ?_
                  obtain ⟨h44, hf⟩ := gd_s hf
                  refine g_icmp_le C (tgt := 161) h44 (by decide) (by decide) (gdec kX3_hindrance_1 20 rfl) (fun c45 => ?_) (fun c45 => ?_)
                  · replace hf := ifp c45 hf
                    refine g_iconst C (gdec kX3_hindrance_1 21 rfl) ?_
                    refine g_goto C (tgt := 162) (by decide) (gdec kX3_hindrance_1 22 rfl) ?_
                    refine g_istore C [(6, vI 1), (5, vI r33), (4, .ref (eA E 5 (7 * o + r13))), (3, vI r11), (2, .ref (eA E 2 (12 * o + p1))), (0, .ref (eA E 3 o)), (1, vI p1)] hl (by decide) rfl (gdec kX3_hindrance_1 24 rfl) (fun ls hl => ?_)
                    refine g_iload C hl 0 rfl (gdec kX3_hindrance_1 25 rfl) ?_
                    refine g_if_eq C (tgt := 174) (by decide) (by decide) (gdec kX3_hindrance_1 26 rfl) (fun c46 => absurd c46 (by decide)) (fun c46 => ?_)
                    refine g_bipush C (gdec kX3_hindrance_1 27 rfl) rfl ?_
                    refine g_goto C (tgt := 175) (by decide) (gdec kX3_hindrance_1 28 rfl) ?_
                    exact g_iret C h (congrArg (Option.map (Prod.mk _)) hf) (gdec kX3_hindrance_1 30 rfl)
                  · replace hf := ifn c45 hf
                    refine g_iconst C (gdec kX3_hindrance_1 23 rfl) ?_
                    refine g_istore C [(6, vI 0), (5, vI r33), (4, .ref (eA E 5 (7 * o + r13))), (3, vI r11), (2, .ref (eA E 2 (12 * o + p1))), (0, .ref (eA E 3 o)), (1, vI p1)] hl (by decide) rfl (gdec kX3_hindrance_1 24 rfl) (fun ls hl => ?_)
                    refine g_iload C hl 0 rfl (gdec kX3_hindrance_1 25 rfl) ?_
                    refine g_if_eq C (tgt := 174) (by decide) (by decide) (gdec kX3_hindrance_1 26 rfl) (fun c47 => ?_) (fun c47 => absurd (by decide) c47)
                    refine g_iconst C (gdec kX3_hindrance_1 29 rfl) ?_
                    exact g_iret C h (congrArg (Option.map (Prod.mk _)) hf) (gdec kX3_hindrance_1 30 rfl)
                · replace hf := ifn c41 hf
                  refine g_iconst C (gdec kX3_hindrance_1 16 rfl) ?_
                  obtain ⟨r48, q49, hf⟩ := bn1_s hf
                  refine g_ci h (g_runV C h k16 (by decide) rfl (c_X5_effort l E _ _ _ k16 _ q49) wM_X3_176 wI_X5_effort wS_X5_effort wN_X5 wC_X5_effort rfl ny_X5_effort rfl ⟨Nat.le_of_ble_eq_true rfl, Nat.le_of_ble_eq_true rfl⟩ hl.1 rfl (Nat.le_of_ble_eq_true rfl) (gdec kX3_hindrance_1 17 rfl) ⟨Nat.zero_le _, Nat.zero_le _⟩) (fun H locs h => ?_)
                  refine g_iadd C (gdec kX3_hindrance_1 18 rfl) ?_
                  refine g_bipush C (gdec kX3_hindrance_1 19 rfl) rfl ?_
                  obtain ⟨h50, hf⟩ := gd_s hf
                  refine g_icmp_le C (tgt := 161) h50 (by decide) (by decide) (gdec kX3_hindrance_1 20 rfl) (fun c51 => ?_) (fun c51 => ?_)
                  · replace hf := ifp c51 hf
                    refine g_iconst C (gdec kX3_hindrance_1 21 rfl) ?_
                    refine g_goto C (tgt := 162) (by decide) (gdec kX3_hindrance_1 22 rfl) ?_
                    refine g_istore C [(6, vI 1), (5, vI r33), (4, .ref (eA E 5 (7 * o + r13))), (3, vI r11), (2, .ref (eA E 2 (12 * o + p1))), (0, .ref (eA E 3 o)), (1, vI p1)] hl (by decide) rfl (gdec kX3_hindrance_1 24 rfl) (fun ls hl => ?_)
                    refine g_iload C hl 0 rfl (gdec kX3_hindrance_1 25 rfl) ?_
                    refine g_if_eq C (tgt := 174) (by decide) (by decide) (gdec kX3_hindrance_1 26 rfl) (fun c52 => absurd c52 (by decide)) (fun c52 => ?_)
                    refine g_bipush C (gdec kX3_hindrance_1 27 rfl) rfl ?_
                    refine g_goto C (tgt := 175) (by decide) (gdec kX3_hindrance_1 28 rfl) ?_
                    exact g_iret C h (congrArg (Option.map (Prod.mk _)) hf) (gdec kX3_hindrance_1 30 rfl)
                  · replace hf := ifn c51 hf
                    refine g_iconst C (gdec kX3_hindrance_1 23 rfl) ?_
                    refine g_istore C [(6, vI 0), (5, vI r33), (4, .ref (eA E 5 (7 * o + r13))), (3, vI r11), (2, .ref (eA E 2 (12 * o + p1))), (0, .ref (eA E 3 o)), (1, vI p1)] hl (by decide) rfl (gdec kX3_hindrance_1 24 rfl) (fun ls hl => ?_)
                    refine g_iload C hl 0 rfl (gdec kX3_hindrance_1 25 rfl) ?_
                    refine g_if_eq C (tgt := 174) (by decide) (by decide) (gdec kX3_hindrance_1 26 rfl) (fun c53 => ?_) (fun c53 => absurd (by decide) c53)
                    refine g_iconst C (gdec kX3_hindrance_1 29 rfl) ?_
                    exact g_iret C h (congrArg (Option.map (Prod.mk _)) hf) (gdec kX3_hindrance_1 30 rfl)
            · replace hf := ifn c32 hf
              refine g_iconst C (gdec kX3_hindrance 53 rfl) ?_
              exact g_iret C h (congrArg (Option.map (Prod.mk _)) hf) (gdec kX3_hindrance 54 rfl)
          · replace hf := ifn c26 hf
            refine g_iconst C (gdec kX3_hindrance 43 rfl) ?_
            exact g_iret C h (congrArg (Option.map (Prod.mk _)) hf) (gdec kX3_hindrance 44 rfl)
        · replace hf := ifn c22 hf
          refine g_iconst C (gdec kX3_hindrance 43 rfl) ?_
          exact g_iret C h (congrArg (Option.map (Prod.mk _)) hf) (gdec kX3_hindrance 44 rfl)
      · replace hf := ifn c18 hf
        refine g_iconst C (gdec kX3_hindrance 30 rfl) ?_
        exact g_iret C h (congrArg (Option.map (Prod.mk _)) hf) (gdec kX3_hindrance 31 rfl)
    · replace hf := ifn c10 hf
      refine g_iconst C (gdec kX3_hindrance 12 rfl) ?_
      exact g_iret C h (congrArg (Option.map (Prod.mk _)) hf) (gdec kX3_hindrance 13 rfl)
  · replace hf := ifn c6 hf
    refine g_iconst C (gdec kX3_hindrance 7 rfl) ?_
    exact g_iret C h (congrArg (Option.map (Prod.mk _)) hf) (gdec kX3_hindrance 8 rfl)
def f_X6_setOut (G : GS) (o : Int) (p1 : Int) (p2 : Int) : Option (GS) :=
  gd p1 (gd (G 6 o 2) (if (G 6 o 2) < p1 then bn1 (f_X7_stageBetween (gup G 6 o 4 1) ((gup G 6 o 4 1) 6 o 2) p1) (fun r4 => some (gup (gup (gup (gup G 6 o 4 1) 6 o 3 r4) 6 o 2 p1) 6 o 5 p2)) else bn1 (f_X7_stageBetween (gup G 6 o 4 0) ((gup G 6 o 4 0) 6 o 2) p1) (fun r6 => some (gup (gup (gup (gup G 6 o 4 0) 6 o 3 r6) 6 o 2 p1) 6 o 5 p2))))
set_option maxHeartbeats 4000000 in
set_option maxRecDepth 100000 in
theorem c_X6_setOut (l : Launch) (E : gEnv) (G : GS) (o : Int) (p1 : Int) (p2 : Int) (ho : gOk E 6 o) (Gz : GS) (hf : f_X6_setOut G o p1 p2 = some Gz) : gMet l yX6_setOut cX6_setOut 3 none 1 21 0 0 [.ref (eA E 6 o), vI p1, vI p2] E G (gQv E Gz) := by
  refine g_met (by decide +kernel) (Nat.le_of_ble_eq_true rfl) ?_
  intro p e s m below meth c C H locs h ls hl
  have C : gC p s m _ meth c RX6 cX6_setOut 3 none E := C
  have hl : lv_has ls 3 [(0, .ref (eA E 6 o)), (1, vI p1), (2, vI p2)] := hl
  unfold f_X6_setOut at hf
  refine g_aload_n C hl 0 rfl rfl (gdec kX6_setOut 0 rfl) ?_
  refine g_iload_n C hl 1 rfl rfl (gdec kX6_setOut 1 rfl) ?_
  refine g_aload_n C hl 0 rfl rfl (gdec kX6_setOut 2 rfl) ?_
  refine gf_X6_38 C h ho (gdec kX6_setOut 3 rfl) ?_
  obtain ⟨h1, hf⟩ := gd_s hf
  obtain ⟨h2, hf⟩ := gd_s hf
  refine g_icmp_le C (tgt := 13) h1 h2 (by decide) (gdec kX6_setOut 4 rfl) (fun c3 => ?_) (fun c3 => ?_)
  · replace hf := ifp c3 hf
    refine g_iconst C (gdec kX6_setOut 5 rfl) ?_
    refine g_goto C (tgt := 14) (by decide) (gdec kX6_setOut 6 rfl) ?_
    refine gp_X6_22 C h ho (Or.inr rfl) (gdec kX6_setOut 8 rfl) (fun H locs h => ?_)
    refine g_aload_n C hl 0 rfl rfl (gdec kX6_setOut 9 rfl) ?_
    refine g_aload_n C hl 0 rfl rfl (gdec kX6_setOut 10 rfl) ?_
    refine gf_X6_38 C h ho (gdec kX6_setOut 11 rfl) ?_
    refine g_iload_n C hl 1 rfl rfl (gdec kX6_setOut 12 rfl) ?_
    obtain ⟨r4, q5, hf⟩ := bn1_s hf
    refine g_ci h (g_runSN C h (c_X7_stageBetween l E _ _ _ _ q5) wNest_X6_53 wT_X7_stageBetween wN_X7 wC_X7_stageBetween ny_X7_stageBetween rfl ⟨Nat.le_of_ble_eq_true rfl, Nat.le_of_ble_eq_true rfl⟩ hl.1 rfl (Nat.le_of_ble_eq_true rfl) (gdec kX6_setOut 13 rfl) ⟨Nat.zero_le _, Nat.zero_le _⟩) (fun H locs h => ?_)
    refine gp_X6_41 C h ho (gdec kX6_setOut 14 rfl) (fun H locs h => ?_)
    refine g_aload_n C hl 0 rfl rfl (gdec kX6_setOut 15 rfl) ?_
    refine g_iload_n C hl 1 rfl rfl (gdec kX6_setOut 16 rfl) ?_
    refine gp_X6_38 C h ho (gdec kX6_setOut 17 rfl) (fun H locs h => ?_)
    refine g_aload_n C hl 0 rfl rfl (gdec kX6_setOut 18 rfl) ?_
    refine g_iload_n C hl 2 rfl rfl (gdec kX6_setOut 19 rfl) ?_
    refine gp_X6_44 C h ho (gdec kX6_setOut 20 rfl) (fun H locs h => ?_)
    exact g_vret C h hf (gdec kX6_setOut 21 rfl)
  · replace hf := ifn c3 hf
    refine g_iconst C (gdec kX6_setOut 7 rfl) ?_
    refine gp_X6_22 C h ho (Or.inl rfl) (gdec kX6_setOut 8 rfl) (fun H locs h => ?_)
    refine g_aload_n C hl 0 rfl rfl (gdec kX6_setOut 9 rfl) ?_
    refine g_aload_n C hl 0 rfl rfl (gdec kX6_setOut 10 rfl) ?_
    refine gf_X6_38 C h ho (gdec kX6_setOut 11 rfl) ?_
    refine g_iload_n C hl 1 rfl rfl (gdec kX6_setOut 12 rfl) ?_
    obtain ⟨r6, q7, hf⟩ := bn1_s hf
    refine g_ci h (g_runSN C h (c_X7_stageBetween l E _ _ _ _ q7) wNest_X6_53 wT_X7_stageBetween wN_X7 wC_X7_stageBetween ny_X7_stageBetween rfl ⟨Nat.le_of_ble_eq_true rfl, Nat.le_of_ble_eq_true rfl⟩ hl.1 rfl (Nat.le_of_ble_eq_true rfl) (gdec kX6_setOut 13 rfl) ⟨Nat.zero_le _, Nat.zero_le _⟩) (fun H locs h => ?_)
    refine gp_X6_41 C h ho (gdec kX6_setOut 14 rfl) (fun H locs h => ?_)
    refine g_aload_n C hl 0 rfl rfl (gdec kX6_setOut 15 rfl) ?_
    refine g_iload_n C hl 1 rfl rfl (gdec kX6_setOut 16 rfl) ?_
    refine gp_X6_38 C h ho (gdec kX6_setOut 17 rfl) (fun H locs h => ?_)
    refine g_aload_n C hl 0 rfl rfl (gdec kX6_setOut 18 rfl) ?_
    refine g_iload_n C hl 2 rfl rfl (gdec kX6_setOut 19 rfl) ?_
    refine gp_X6_44 C h ho (gdec kX6_setOut 20 rfl) (fun H locs h => ?_)
    exact g_vret C h hf (gdec kX6_setOut 21 rfl)
def f_X3_sendLetter (G : GS) (o : Int) (p1 : Int) : Option (GS) :=
  ga p1 12 (bn1 (f_X7_nextInn G (G 2 (12 * o + p1) 4) (G 2 (12 * o + p1) 1)) (fun r3 => bn1 (f_X3_fittestTeamAt G o (G 2 (12 * o + p1) 4)) (fun r5 => ga r5 10 (bn1 (f_X7_stageBetween G (G 2 (12 * o + p1) 4) r3) (fun r9 => ga r9 7 (bn1 (f_X6_setOut G (10 * o + r5) r3 (G 5 (7 * o + r9) 0)) (fun G13 => nm (gup (gup (gup (gup G13 6 (10 * o + r5) 6 p1) 2 (12 * o + p1) 4 r3) 2 (12 * o + p1) 5 r5) 2 (12 * o + p1) 7 (((gup (gup (gup G13 6 (10 * o + r5) 6 p1) 2 (12 * o + p1) 4 r3) 2 (12 * o + p1) 5 r5) 2 (12 * o + p1) 7) + 1)) (fun G15 => some G15))))))))
set_option maxHeartbeats 4000000 in
set_option maxRecDepth 100000 in
theorem c_X3_sendLetter (l : Launch) (E : gEnv) (G : GS) (o : Int) (p1 : Int) (ho : gOk E 3 o) (Gz : GS) (hf : f_X3_sendLetter G o p1 = some Gz) : gMet l yX3_sendLetter cX3_sendLetter 6 none 2 45 0 0 [.ref (eA E 3 o), vI p1] E G (gQv E Gz) := by
  refine g_met (by decide +kernel) (Nat.le_of_ble_eq_true rfl) ?_
  intro p e s m below meth c C H locs h ls hl
  have C : gC p s m _ meth c RX3 cX3_sendLetter 6 none E := C
  have hl : lv_has ls 6 [(0, .ref (eA E 3 o)), (1, vI p1)] := hl
  unfold f_X3_sendLetter at hf
  refine g_aload_n C hl 0 rfl rfl (gdec kX3_sendLetter 0 rfl) ?_
  refine g_iload_n C hl 1 rfl rfl (gdec kX3_sendLetter 1 rfl) ?_
  obtain ⟨h1, hf⟩ := ga_s hf
  refine g_cr h (g_runV C h ho (by decide) rfl (c_X3_letterRow l E _ _ _ ho _ (e_X3_letterRow _ _ _ h1)) wM_X3_89 wI_X3_letterRow wS_X3_letterRow wN_X3 wC_X3_letterRow rfl ny_X3_letterRow rfl ⟨Nat.le_of_ble_eq_true rfl, Nat.le_of_ble_eq_true rfl⟩ hl.1 rfl (Nat.le_of_ble_eq_true rfl) (gdec kX3_sendLetter 2 rfl) ⟨Nat.zero_le _, Nat.zero_le _⟩) (fun H locs h => ?_)
  have k2 : gOk E 2 (12 * o + p1) := gok2 C (gcl_3_3 C ho) h1
  refine g_astore_n C [(2, .ref (eA E 2 (12 * o + p1))), (0, .ref (eA E 3 o)), (1, vI p1)] hl rfl (by decide) rfl (gdec kX3_sendLetter 3 rfl) (fun ls hl => ?_)
  refine g_aload_n C hl 0 rfl rfl (gdec kX3_sendLetter 4 rfl) ?_
  refine gf_X3_189 C h k2 (gdec kX3_sendLetter 5 rfl) ?_
  refine g_aload_n C hl 0 rfl rfl (gdec kX3_sendLetter 6 rfl) ?_
  refine gf_X3_190 C h k2 (gdec kX3_sendLetter 7 rfl) ?_
  obtain ⟨r3, q4, hf⟩ := bn1_s hf
  refine g_ci h (g_runSN C h (c_X7_nextInn l E _ _ _ _ q4) wNest_X3_212 wT_X7_nextInn wN_X7 wC_X7_nextInn ny_X7_nextInn rfl ⟨Nat.le_of_ble_eq_true rfl, Nat.le_of_ble_eq_true rfl⟩ hl.1 rfl (Nat.le_of_ble_eq_true rfl) (gdec kX3_sendLetter 8 rfl) ⟨Nat.zero_le _, Nat.zero_le _⟩) (fun H locs h => ?_)
  refine g_istore_n C [(3, vI r3), (2, .ref (eA E 2 (12 * o + p1))), (0, .ref (eA E 3 o)), (1, vI p1)] hl rfl (by decide) rfl (gdec kX3_sendLetter 9 rfl) (fun ls hl => ?_)
  refine g_aload_n C hl 2 rfl rfl (gdec kX3_sendLetter 10 rfl) ?_
  refine g_aload_n C hl 1 rfl rfl (gdec kX3_sendLetter 11 rfl) ?_
  refine gf_X3_189 C h k2 (gdec kX3_sendLetter 12 rfl) ?_
  obtain ⟨r5, q6, hf⟩ := bn1_s hf
  refine g_ci h (g_runV C h ho (by decide) rfl (c_X3_fittestTeamAt l E _ _ _ ho _ q6) wM_X3_216 wI_X3_fittestTeamAt wS_X3_fittestTeamAt wN_X3 wC_X3_fittestTeamAt rfl ny_X3_fittestTeamAt rfl ⟨Nat.le_of_ble_eq_true rfl, Nat.le_of_ble_eq_true rfl⟩ hl.1 rfl (Nat.le_of_ble_eq_true rfl) (gdec kX3_sendLetter 13 rfl) ⟨Nat.zero_le _, Nat.zero_le _⟩) (fun H locs h => ?_)
  refine g_istore C [(4, vI r5), (3, vI r3), (2, .ref (eA E 2 (12 * o + p1))), (0, .ref (eA E 3 o)), (1, vI p1)] hl (by decide) rfl (gdec kX3_sendLetter 14 rfl) (fun ls hl => ?_)
  refine g_aload_n C hl 3 rfl rfl (gdec kX3_sendLetter 15 rfl) ?_
  refine g_iload C hl 0 rfl (gdec kX3_sendLetter 16 rfl) ?_
  obtain ⟨h7, hf⟩ := ga_s hf
  refine g_cr h (g_runV C h ho (by decide) rfl (c_X3_teamRow l E _ _ _ ho _ (e_X3_teamRow _ _ _ h7)) wM_X3_82 wI_X3_teamRow wS_X3_teamRow wN_X3 wC_X3_teamRow rfl ny_X3_teamRow rfl ⟨Nat.le_of_ble_eq_true rfl, Nat.le_of_ble_eq_true rfl⟩ hl.1 rfl (Nat.le_of_ble_eq_true rfl) (gdec kX3_sendLetter 17 rfl) ⟨Nat.zero_le _, Nat.zero_le _⟩) (fun H locs h => ?_)
  have k8 : gOk E 6 (10 * o + r5) := gok6 C (gcl_3_2 C ho) h7
  refine g_astore C [(5, .ref (eA E 6 (10 * o + r5))), (4, vI r5), (3, vI r3), (2, .ref (eA E 2 (12 * o + p1))), (0, .ref (eA E 3 o)), (1, vI p1)] hl (by decide) rfl (gdec kX3_sendLetter 18 rfl) (fun ls hl => ?_)
  refine g_aload C hl 0 rfl (gdec kX3_sendLetter 19 rfl) ?_
  refine g_iload_n C hl 2 rfl rfl (gdec kX3_sendLetter 20 rfl) ?_
  refine g_aload_n C hl 4 rfl rfl (gdec kX3_sendLetter 21 rfl) ?_
  refine g_aload_n C hl 3 rfl rfl (gdec kX3_sendLetter 22 rfl) ?_
  refine gf_X3_189 C h k2 (gdec kX3_sendLetter 23 rfl) ?_
  refine g_iload_n C hl 2 rfl rfl (gdec kX3_sendLetter 24 rfl) ?_
  obtain ⟨r9, q10, hf⟩ := bn1_s hf
  refine g_ci h (g_runSN C h (c_X7_stageBetween l E _ _ _ _ q10) wNest_X3_219 wT_X7_stageBetween wN_X7 wC_X7_stageBetween ny_X7_stageBetween rfl ⟨Nat.le_of_ble_eq_true rfl, Nat.le_of_ble_eq_true rfl⟩ hl.1 rfl (Nat.le_of_ble_eq_true rfl) (gdec kX3_sendLetter 25 rfl) ⟨Nat.zero_le _, Nat.zero_le _⟩) (fun H locs h => ?_)
  obtain ⟨h11, hf⟩ := ga_s hf
  refine g_cr h (g_runV C h ho (by decide) rfl (c_X3_stageRow l E _ _ _ ho _ (e_X3_stageRow _ _ _ h11)) wM_X3_169 wI_X3_stageRow wS_X3_stageRow wN_X3 wC_X3_stageRow rfl ny_X3_stageRow rfl ⟨Nat.le_of_ble_eq_true rfl, Nat.le_of_ble_eq_true rfl⟩ hl.1 rfl (Nat.le_of_ble_eq_true rfl) (gdec kX3_sendLetter 26 rfl) ⟨Nat.zero_le _, Nat.zero_le _⟩) (fun H locs h => ?_)
  have k12 : gOk E 5 (7 * o + r9) := gok5 C (gcl_3_0 C ho) h11
  refine gf_X3_222 C h k12 (gdec kX3_sendLetter 27 rfl) ?_
  obtain ⟨G13, q14, hf⟩ := bn1_s hf
  refine g_cv h (g_runV C h k8 (by decide) rfl (c_X6_setOut l E _ _ _ _ k8 _ q14) wM_X3_225 wI_X6_setOut wS_X6_setOut wN_X6 wC_X6_setOut rfl ny_X6_setOut rfl ⟨Nat.le_of_ble_eq_true rfl, Nat.le_of_ble_eq_true rfl⟩ hl.1 rfl (Nat.le_of_ble_eq_true rfl) (gdec kX3_sendLetter 28 rfl) ⟨Nat.zero_le _, Nat.zero_le _⟩) (fun H locs h => ?_)
  refine g_aload C hl 0 rfl (gdec kX3_sendLetter 29 rfl) ?_
  refine g_iload_n C hl 5 rfl rfl (gdec kX3_sendLetter 30 rfl) ?_
  refine gp_X3_113 C h k8 (gdec kX3_sendLetter 31 rfl) (fun H locs h => ?_)
  refine g_aload_n C hl 3 rfl rfl (gdec kX3_sendLetter 32 rfl) ?_
  refine g_iload_n C hl 2 rfl rfl (gdec kX3_sendLetter 33 rfl) ?_
  refine gp_X3_189 C h k2 (gdec kX3_sendLetter 34 rfl) (fun H locs h => ?_)
  refine g_aload_n C hl 3 rfl rfl (gdec kX3_sendLetter 35 rfl) ?_
  refine g_iload C hl 1 rfl (gdec kX3_sendLetter 36 rfl) ?_
  refine gp_X3_110 C h k2 (gdec kX3_sendLetter 37 rfl) (fun H locs h => ?_)
  refine g_aload_n C hl 3 rfl rfl (gdec kX3_sendLetter 38 rfl) ?_
  refine g_dup C rfl (gdec kX3_sendLetter 39 rfl) ?_
  refine gf_X3_228 C h k2 (gdec kX3_sendLetter 40 rfl) ?_
  refine g_iconst C (gdec kX3_sendLetter 41 rfl) ?_
  refine g_iadd C (gdec kX3_sendLetter 42 rfl) ?_
  refine gp_X3_228 C h k2 (gdec kX3_sendLetter 43 rfl) (fun H locs h => ?_)
  obtain ⟨G15, e16, hf⟩ := nm_s hf
  rw [e16] at h
  exact g_vret C h hf (gdec kX3_sendLetter 44 rfl)
def f_X3_sendLetters_L2 (o : Int) (p1 : Int) : Nat → GS → Int → (GS → Int → Option (GS)) → Option (GS)
  | 0, _, _, _ => none
  | n + 1, G, x2, k => gd x2 (gd (G 3 o 6) (if x2 < (G 3 o 6) then ga x2 12 (gd (G 2 (12 * o + x2) 2) (gd p1 (if (G 2 (12 * o + x2) 2) = p1 then bn1 (f_X3_hindrance G o x2) (fun r9 => gd r9 (if r9 = 0 then bn1 (f_X3_sendLetter G o x2) (fun G13 => f_X3_sendLetters_L2 o p1 n G13 (x2 + 1) k) else f_X3_sendLetters_L2 o p1 n G (x2 + 1) k)) else f_X3_sendLetters_L2 o p1 n G (x2 + 1) k))) else k G x2))
def f_X3_sendLetters (G : GS) (o : Int) (p1 : Int) : Option (GS) :=
  f_X3_sendLetters_L2 o p1 gFuel G 0 (fun G16 y2_15 => some G16)
set_option maxHeartbeats 4000000 in
set_option maxRecDepth 100000 in
theorem c_X3_sendLetters (l : Launch) (E : gEnv) (G : GS) (o : Int) (p1 : Int) (ho : gOk E 3 o) (Gz : GS) (hf : f_X3_sendLetters G o p1 = some Gz) : gMet l yX3_sendLetters cX3_sendLetters 3 none 3 71 0 0 [.ref (eA E 3 o), vI p1] E G (gQv E Gz) := by
  refine g_met (by decide +kernel) (Nat.le_of_ble_eq_true rfl) ?_
  intro p e s m below meth c C H locs h ls hl
  have C : gC p s m _ meth c RX3 cX3_sendLetters 3 none E := C
  have hl : lv_has ls 3 [(0, .ref (eA E 3 o)), (1, vI p1)] := hl
  have L2 : ∀ (n : Nat) (G : GS) (x2 : Int) (k : (GS → Int → Option (GS))) (hK : ∀ (G : GS) (x2 : Int), k G x2 = some Gz → ∀ (H : Heap) (locs : List Loc), gH E s G H locs → ∀ ls, lv_has ls 3 [(0, .ref (eA E 3 o)), (1, vI p1), (2, vI x2)] → W p l e (gRm 3 71 0 0) s m ([.ref (eA E 3 o), vI p1] : List Value).toArray below meth c H locs 0 0 (MQ below (gQv E Gz) ([.ref (eA E 3 o), vI p1] : List Value).toArray s 0 0 (eF E)) (F0 m 41 ls [])), ∀ (H : Heap) (locs : List Loc), gH E s G H locs → ∀ ls, lv_has ls 3 [(0, .ref (eA E 3 o)), (1, vI p1), (2, vI x2)] → f_X3_sendLetters_L2 o p1 n G x2 k = some Gz → W p l e (gRm 3 71 0 0) s m ([.ref (eA E 3 o), vI p1] : List Value).toArray below meth c H locs 0 0 (MQ below (gQv E Gz) ([.ref (eA E 3 o), vI p1] : List Value).toArray s 0 0 (eF E)) (F0 m 2 ls []) := by
    intro n
    induction n with
    | zero =>
      intro G x2 k hK H locs h ls hl hf
      exact absurd hf (by simp [f_X3_sendLetters_L2])
    | succ n ih =>
      intro G x2 k hK H locs h ls hl hf
      unfold f_X3_sendLetters_L2 at hf
      refine g_iload_n C hl 2 rfl rfl (gdec kX3_sendLetters 2 rfl) ?_
      refine g_aload_n C hl 0 rfl rfl (gdec kX3_sendLetters 3 rfl) ?_
      refine gf_X3_54 C h ho (gdec kX3_sendLetters 4 rfl) ?_
      obtain ⟨h1, hf⟩ := gd_s hf
      obtain ⟨h2, hf⟩ := gd_s hf
      refine g_icmp_ge C (tgt := 41) h1 h2 (by decide) (gdec kX3_sendLetters 5 rfl) (fun c3 => ?_) (fun c3 => ?_)
      · replace hf := ifp c3 hf
        refine g_aload_n C hl 0 rfl rfl (gdec kX3_sendLetters 6 rfl) ?_
        refine g_iload_n C hl 2 rfl rfl (gdec kX3_sendLetters 7 rfl) ?_
        obtain ⟨h4, hf⟩ := ga_s hf
        refine g_cr h (g_runV C h ho (by decide) rfl (c_X3_letterRow l E _ _ _ ho _ (e_X3_letterRow _ _ _ h4)) wM_X3_89 wI_X3_letterRow wS_X3_letterRow wN_X3 wC_X3_letterRow rfl ny_X3_letterRow rfl ⟨Nat.le_of_ble_eq_true rfl, Nat.le_of_ble_eq_true rfl⟩ hl.1 rfl (Nat.le_of_ble_eq_true rfl) (gdec kX3_sendLetters 8 rfl) ⟨Nat.zero_le _, Nat.zero_le _⟩) (fun H locs h => ?_)
        have k5 : gOk E 2 (12 * o + x2) := gok2 C (gcl_3_3 C ho) h4
        refine gf_X3_202 C h k5 (gdec kX3_sendLetters 9 rfl) ?_
        refine g_iload_n C hl 1 rfl rfl (gdec kX3_sendLetters 10 rfl) ?_
        obtain ⟨h6, hf⟩ := gd_s hf
        obtain ⟨h7, hf⟩ := gd_s hf
        refine g_icmp_ne C (tgt := 35) h6 h7 (by decide) (gdec kX3_sendLetters 11 rfl) (fun c8 => ?_) (fun c8 => ?_)
        · replace hf := ifp c8 hf
          refine g_aload_n C hl 0 rfl rfl (gdec kX3_sendLetters 12 rfl) ?_
          refine g_iload_n C hl 2 rfl rfl (gdec kX3_sendLetters 13 rfl) ?_
          obtain ⟨r9, q10, hf⟩ := bn1_s hf
          refine g_ci h (g_runV C h ho (by decide) rfl (c_X3_hindrance l E _ _ _ ho _ q10) wM_X3_205 wI_X3_hindrance wS_X3_hindrance wN_X3 wC_X3_hindrance rfl ny_X3_hindrance rfl ⟨Nat.le_of_ble_eq_true rfl, Nat.le_of_ble_eq_true rfl⟩ hl.1 rfl (Nat.le_of_ble_eq_true rfl) (gdec kX3_sendLetters 14 rfl) ⟨Nat.zero_le _, Nat.zero_le _⟩) (fun H locs h => ?_)
          obtain ⟨h11, hf⟩ := gd_s hf
          refine g_if_ne C (tgt := 35) h11 (by decide) (gdec kX3_sendLetters 15 rfl) (fun c12 => ?_) (fun c12 => ?_)
          · replace hf := ifp c12 hf
            refine g_aload_n C hl 0 rfl rfl (gdec kX3_sendLetters 16 rfl) ?_
            refine g_iload_n C hl 2 rfl rfl (gdec kX3_sendLetters 17 rfl) ?_
            obtain ⟨G13, q14, hf⟩ := bn1_s hf
            refine g_cv h (g_runV C h ho (by decide) rfl (c_X3_sendLetter l E _ _ _ ho _ q14) wM_X3_209 wI_X3_sendLetter wS_X3_sendLetter wN_X3 wC_X3_sendLetter rfl ny_X3_sendLetter rfl ⟨Nat.le_of_ble_eq_true rfl, Nat.le_of_ble_eq_true rfl⟩ hl.1 rfl (Nat.le_of_ble_eq_true rfl) (gdec kX3_sendLetters 18 rfl) ⟨Nat.zero_le _, Nat.zero_le _⟩) (fun H locs h => ?_)
            refine g_iinc C (k := 2) [(2, vI (x2 + 1)), (0, .ref (eA E 3 o)), (1, vI p1)] hl rfl (by decide) rfl (gdec kX3_sendLetters 19 rfl) (fun ls hl => ?_)
            refine g_goto C (tgt := 2) (by decide) (gdec kX3_sendLetters 20 rfl) ?_
            exact ih _ _ k hK H locs h ls (lv_sub hl [1, 2, 0] rfl) hf
          · replace hf := ifn c12 hf
            refine g_iinc C (k := 2) [(2, vI (x2 + 1)), (0, .ref (eA E 3 o)), (1, vI p1)] hl rfl (by decide) rfl (gdec kX3_sendLetters 19 rfl) (fun ls hl => ?_)
            refine g_goto C (tgt := 2) (by decide) (gdec kX3_sendLetters 20 rfl) ?_
            exact ih _ _ k hK H locs h ls (lv_sub hl [1, 2, 0] rfl) hf
        · replace hf := ifn c8 hf
          refine g_iinc C (k := 2) [(2, vI (x2 + 1)), (0, .ref (eA E 3 o)), (1, vI p1)] hl rfl (by decide) rfl (gdec kX3_sendLetters 19 rfl) (fun ls hl => ?_)
          refine g_goto C (tgt := 2) (by decide) (gdec kX3_sendLetters 20 rfl) ?_
          exact ih _ _ k hK H locs h ls (lv_sub hl [1, 2, 0] rfl) hf
      · replace hf := ifn c3 hf
        exact hK _ _ hf H locs h ls (lv_sub hl [0, 1, 2] rfl)
  unfold f_X3_sendLetters at hf
  refine g_iconst C (gdec kX3_sendLetters 0 rfl) ?_
  refine g_istore_n C [(2, vI 0), (0, .ref (eA E 3 o)), (1, vI p1)] hl rfl (by decide) rfl (gdec kX3_sendLetters 1 rfl) (fun ls hl => ?_)
  refine L2 gFuel _ _ _ (fun G16 y2_15 hf H locs h ls hl => ?_) H locs h ls (lv_sub hl [1, 2, 0] rfl) hf
  exact g_vret C h hf (gdec kX3_sendLetters 21 rfl)
def f_X2_liesAtAnInn (G : GS) (o : Int) : Option (Int) :=
  bn1 (f_X2_isDelivered G o) (fun r1 => gd r1 (if r1 = 0 then bn1 (f_X2_isOnStage G o) (fun r5 => gd r5 (if r5 = 0 then some 1 else some 0)) else some 0))
set_option maxHeartbeats 4000000 in
set_option maxRecDepth 100000 in
theorem c_X2_liesAtAnInn (l : Launch) (E : gEnv) (G : GS) (o : Int) (ho : gOk E 2 o) (rz : Int) (hf : f_X2_liesAtAnInn G o = some rz) : gMet l yX2_liesAtAnInn cX2_liesAtAnInn 1 (some .boolean) 1 20 0 0 [.ref (eA E 2 o)] E G (gQi E G rz) := by
  refine g_met (by decide +kernel) (Nat.le_of_ble_eq_true rfl) ?_
  intro p e s m below meth c C H locs h ls hl
  have C : gC p s m _ meth c RX2 cX2_liesAtAnInn 1 (some .boolean) E := C
  have hl : lv_has ls 1 [(0, .ref (eA E 2 o))] := hl
  unfold f_X2_liesAtAnInn at hf
  refine g_aload_n C hl 0 rfl rfl (gdec kX2_liesAtAnInn 0 rfl) ?_
  obtain ⟨r1, q2, hf⟩ := bn1_s hf
  refine g_ci h (g_runV C h ho (by decide) rfl (c_X2_isDelivered l E _ _ ho _ q2) wM_X2_37 wI_X2_isDelivered wS_X2_isDelivered wN_X2 wC_X2_isDelivered rfl ny_X2_isDelivered rfl ⟨Nat.le_of_ble_eq_true rfl, Nat.le_of_ble_eq_true rfl⟩ hl.1 rfl (Nat.le_of_ble_eq_true rfl) (gdec kX2_liesAtAnInn 1 rfl) ⟨Nat.zero_le _, Nat.zero_le _⟩) (fun H locs h => ?_)
  obtain ⟨h3, hf⟩ := gd_s hf
  refine g_if_ne C (tgt := 18) h3 (by decide) (gdec kX2_liesAtAnInn 2 rfl) (fun c4 => ?_) (fun c4 => ?_)
  · replace hf := ifp c4 hf
    refine g_aload_n C hl 0 rfl rfl (gdec kX2_liesAtAnInn 3 rfl) ?_
    obtain ⟨r5, q6, hf⟩ := bn1_s hf
    refine g_ci h (g_runV C h ho (by decide) rfl (c_X2_isOnStage l E _ _ ho _ q6) wM_X2_41 wI_X2_isOnStage wS_X2_isOnStage wN_X2 wC_X2_isOnStage rfl ny_X2_isOnStage rfl ⟨Nat.le_of_ble_eq_true rfl, Nat.le_of_ble_eq_true rfl⟩ hl.1 rfl (Nat.le_of_ble_eq_true rfl) (gdec kX2_liesAtAnInn 4 rfl) ⟨Nat.zero_le _, Nat.zero_le _⟩) (fun H locs h => ?_)
    obtain ⟨h7, hf⟩ := gd_s hf
    refine g_if_ne C (tgt := 18) h7 (by decide) (gdec kX2_liesAtAnInn 5 rfl) (fun c8 => ?_) (fun c8 => ?_)
    · replace hf := ifp c8 hf
      refine g_iconst C (gdec kX2_liesAtAnInn 6 rfl) ?_
      refine g_goto C (tgt := 19) (by decide) (gdec kX2_liesAtAnInn 7 rfl) ?_
      exact g_zret C h (Or.inr rfl) (congrArg (Option.map (Prod.mk _)) hf) (gdec kX2_liesAtAnInn 9 rfl)
    · replace hf := ifn c8 hf
      refine g_iconst C (gdec kX2_liesAtAnInn 8 rfl) ?_
      exact g_zret C h (Or.inl rfl) (congrArg (Option.map (Prod.mk _)) hf) (gdec kX2_liesAtAnInn 9 rfl)
  · replace hf := ifn c4 hf
    refine g_iconst C (gdec kX2_liesAtAnInn 8 rfl) ?_
    exact g_zret C h (Or.inl rfl) (congrArg (Option.map (Prod.mk _)) hf) (gdec kX2_liesAtAnInn 9 rfl)
def f_X3_lettersAt_L4 (G : GS) (o : Int) (p1 : Int) : Nat → Int → Int → (Int → Int → Option (Int)) → Option (Int)
  | 0, _, _, _ => none
  | n + 1, x2, x3, k => gd x3 (gd (G 3 o 6) (if x3 < (G 3 o 6) then ga x3 12 (bn1 (f_X2_liesAtAnInn G (12 * o + x3)) (fun r6 => gd r6 (if r6 = 0 then f_X3_lettersAt_L4 G o p1 n x2 (x3 + 1) k else gd (G 2 (12 * o + x3) 4) (gd p1 (if (G 2 (12 * o + x3) 4) = p1 then f_X3_lettersAt_L4 G o p1 n (x2 + 1) (x3 + 1) k else f_X3_lettersAt_L4 G o p1 n x2 (x3 + 1) k))))) else k x2 x3))
def f_X3_lettersAt (G : GS) (o : Int) (p1 : Int) : Option (Int) :=
  f_X3_lettersAt_L4 G o p1 gFuel 0 0 (fun y2_14 y3_14 => some y2_14)
set_option maxHeartbeats 4000000 in
set_option maxRecDepth 100000 in
theorem c_X3_lettersAt (l : Launch) (E : gEnv) (G : GS) (o : Int) (p1 : Int) (ho : gOk E 3 o) (rz : Int) (hf : f_X3_lettersAt G o p1 = some rz) : gMet l yX3_lettersAt cX3_lettersAt 4 (some .int) 2 40 0 0 [.ref (eA E 3 o), vI p1] E G (gQi E G rz) := by
  refine g_met (by decide +kernel) (Nat.le_of_ble_eq_true rfl) ?_
  intro p e s m below meth c C H locs h ls hl
  have C : gC p s m _ meth c RX3 cX3_lettersAt 4 (some .int) E := C
  have hl : lv_has ls 4 [(0, .ref (eA E 3 o)), (1, vI p1)] := hl
  have L4 : ∀ (n : Nat) (x2 : Int) (x3 : Int) (k : (Int → Int → Option (Int))) (hK : ∀ (x2 : Int) (x3 : Int), k x2 x3 = some rz → ∀ (H : Heap) (locs : List Loc), gH E s G H locs → ∀ ls, lv_has ls 4 [(0, .ref (eA E 3 o)), (1, vI p1), (2, vI x2), (3, vI x3)] → W p l e (gRm 2 40 0 0) s m ([.ref (eA E 3 o), vI p1] : List Value).toArray below meth c H locs 0 0 (MQ below (gQi E G rz) ([.ref (eA E 3 o), vI p1] : List Value).toArray s 0 0 (eF E)) (F0 m 44 ls [])), ∀ (H : Heap) (locs : List Loc), gH E s G H locs → ∀ ls, lv_has ls 4 [(0, .ref (eA E 3 o)), (1, vI p1), (2, vI x2), (3, vI x3)] → f_X3_lettersAt_L4 G o p1 n x2 x3 k = some rz → W p l e (gRm 2 40 0 0) s m ([.ref (eA E 3 o), vI p1] : List Value).toArray below meth c H locs 0 0 (MQ below (gQi E G rz) ([.ref (eA E 3 o), vI p1] : List Value).toArray s 0 0 (eF E)) (F0 m 4 ls []) := by
    intro n
    induction n with
    | zero =>
      intro x2 x3 k hK H locs h ls hl hf
      exact absurd hf (by simp [f_X3_lettersAt_L4])
    | succ n ih =>
      intro x2 x3 k hK H locs h ls hl hf
      unfold f_X3_lettersAt_L4 at hf
      refine g_iload_n C hl 3 rfl rfl (gdec kX3_lettersAt 4 rfl) ?_
      refine g_aload_n C hl 0 rfl rfl (gdec kX3_lettersAt 5 rfl) ?_
      refine gf_X3_54 C h ho (gdec kX3_lettersAt 6 rfl) ?_
      obtain ⟨h1, hf⟩ := gd_s hf
      obtain ⟨h2, hf⟩ := gd_s hf
      refine g_icmp_ge C (tgt := 44) h1 h2 (by decide) (gdec kX3_lettersAt 7 rfl) (fun c3 => ?_) (fun c3 => ?_)
      · replace hf := ifp c3 hf
        refine g_aload_n C hl 0 rfl rfl (gdec kX3_lettersAt 8 rfl) ?_
        refine g_iload_n C hl 3 rfl rfl (gdec kX3_lettersAt 9 rfl) ?_
        obtain ⟨h4, hf⟩ := ga_s hf
        refine g_cr h (g_runV C h ho (by decide) rfl (c_X3_letterRow l E _ _ _ ho _ (e_X3_letterRow _ _ _ h4)) wM_X3_89 wI_X3_letterRow wS_X3_letterRow wN_X3 wC_X3_letterRow rfl ny_X3_letterRow rfl ⟨Nat.le_of_ble_eq_true rfl, Nat.le_of_ble_eq_true rfl⟩ hl.1 rfl (Nat.le_of_ble_eq_true rfl) (gdec kX3_lettersAt 10 rfl) ⟨Nat.zero_le _, Nat.zero_le _⟩) (fun H locs h => ?_)
        have k5 : gOk E 2 (12 * o + x3) := gok2 C (gcl_3_3 C ho) h4
        obtain ⟨r6, q7, hf⟩ := bn1_s hf
        refine g_ci h (g_runV C h k5 (by decide) rfl (c_X2_liesAtAnInn l E _ _ k5 _ q7) wM_X3_280 wI_X2_liesAtAnInn wS_X2_liesAtAnInn wN_X2 wC_X2_liesAtAnInn rfl ny_X2_liesAtAnInn rfl ⟨Nat.le_of_ble_eq_true rfl, Nat.le_of_ble_eq_true rfl⟩ hl.1 rfl (Nat.le_of_ble_eq_true rfl) (gdec kX3_lettersAt 11 rfl) ⟨Nat.zero_le _, Nat.zero_le _⟩) (fun H locs h => ?_)
        obtain ⟨h8, hf⟩ := gd_s hf
        refine g_if_eq C (tgt := 38) h8 (by decide) (gdec kX3_lettersAt 12 rfl) (fun c9 => ?_) (fun c9 => ?_)
        · replace hf := ifp c9 hf
          refine g_iinc C (k := 3) [(3, vI (x3 + 1)), (0, .ref (eA E 3 o)), (1, vI p1), (2, vI x2)] hl rfl (by decide) rfl (gdec kX3_lettersAt 20 rfl) (fun ls hl => ?_)
          refine g_goto C (tgt := 4) (by decide) (gdec kX3_lettersAt 21 rfl) ?_
          exact ih _ _ k hK H locs h ls (lv_sub hl [1, 2, 3, 0] rfl) hf
        · replace hf := ifn c9 hf
          refine g_aload_n C hl 0 rfl rfl (gdec kX3_lettersAt 13 rfl) ?_
          refine g_iload_n C hl 3 rfl rfl (gdec kX3_lettersAt 14 rfl) ?_
          refine g_cr h (g_runV C h ho (by decide) rfl (c_X3_letterRow l E _ _ _ ho _ (e_X3_letterRow _ _ _ h4)) wM_X3_89 wI_X3_letterRow wS_X3_letterRow wN_X3 wC_X3_letterRow rfl ny_X3_letterRow rfl ⟨Nat.le_of_ble_eq_true rfl, Nat.le_of_ble_eq_true rfl⟩ hl.1 rfl (Nat.le_of_ble_eq_true rfl) (gdec kX3_lettersAt 15 rfl) ⟨Nat.zero_le _, Nat.zero_le _⟩) (fun H locs h => ?_)
          have k10 : gOk E 2 (12 * o + x3) := gok2 C (gcl_3_3 C ho) h4
          refine gf_X3_189 C h k10 (gdec kX3_lettersAt 16 rfl) ?_
          refine g_iload_n C hl 1 rfl rfl (gdec kX3_lettersAt 17 rfl) ?_
          obtain ⟨h11, hf⟩ := gd_s hf
          obtain ⟨h12, hf⟩ := gd_s hf
          refine g_icmp_ne C (tgt := 38) h11 h12 (by decide) (gdec kX3_lettersAt 18 rfl) (fun c13 => ?_) (fun c13 => ?_)
          · replace hf := ifp c13 hf
            refine g_iinc C (k := 2) [(2, vI (x2 + 1)), (0, .ref (eA E 3 o)), (1, vI p1), (3, vI x3)] hl rfl (by decide) rfl (gdec kX3_lettersAt 19 rfl) (fun ls hl => ?_)
            refine g_iinc C (k := 3) [(3, vI (x3 + 1)), (2, vI (x2 + 1)), (0, .ref (eA E 3 o)), (1, vI p1)] hl rfl (by decide) rfl (gdec kX3_lettersAt 20 rfl) (fun ls hl => ?_)
            refine g_goto C (tgt := 4) (by decide) (gdec kX3_lettersAt 21 rfl) ?_
            exact ih _ _ k hK H locs h ls (lv_sub hl [2, 3, 1, 0] rfl) hf
          · replace hf := ifn c13 hf
            refine g_iinc C (k := 3) [(3, vI (x3 + 1)), (0, .ref (eA E 3 o)), (1, vI p1), (2, vI x2)] hl rfl (by decide) rfl (gdec kX3_lettersAt 20 rfl) (fun ls hl => ?_)
            refine g_goto C (tgt := 4) (by decide) (gdec kX3_lettersAt 21 rfl) ?_
            exact ih _ _ k hK H locs h ls (lv_sub hl [1, 2, 3, 0] rfl) hf
      · replace hf := ifn c3 hf
        exact hK _ _ hf H locs h ls (lv_sub hl [0, 1, 2, 3] rfl)
  unfold f_X3_lettersAt at hf
  refine g_iconst C (gdec kX3_lettersAt 0 rfl) ?_
  refine g_istore_n C [(2, vI 0), (0, .ref (eA E 3 o)), (1, vI p1)] hl rfl (by decide) rfl (gdec kX3_lettersAt 1 rfl) (fun ls hl => ?_)
  refine g_iconst C (gdec kX3_lettersAt 2 rfl) ?_
  refine g_istore_n C [(3, vI 0), (2, vI 0), (0, .ref (eA E 3 o)), (1, vI p1)] hl rfl (by decide) rfl (gdec kX3_lettersAt 3 rfl) (fun ls hl => ?_)
  refine L4 gFuel _ _ _ (fun y2_14 y3_14 hf H locs h ls hl => ?_) H locs h ls (lv_sub hl [2, 3, 1, 0] rfl) hf
  refine g_iload_n C hl 2 rfl rfl (gdec kX3_lettersAt 22 rfl) ?_
  exact g_iret C h (congrArg (Option.map (Prod.mk _)) hf) (gdec kX3_lettersAt 23 rfl)
def f_X3_sendBack (G : GS) (o : Int) (p1 : Int) : Option (GS) :=
  bn1 (f_X7_nextInn G (G 6 p1 2) (G 6 p1 0)) (fun r1 => bn1 (f_X7_stageBetween G (G 6 p1 2) r1) (fun r3 => ga r3 7 (gd (G 5 (7 * o + r3) 2) (if (G 5 (7 * o + r3) 2) = 0 then bn1 (f_X3_bedsTaken G o r1) (fun r9 => ga r1 8 (gd r9 (gd (G 1 (8 * o + r1) 0) (if r9 < (G 1 (8 * o + r1) 0) then bn1 (f_X6_setOut G p1 r1 (2 * (G 5 (7 * o + r3) 0))) (fun G16 => some (gup G16 6 p1 7 1)) else some G)))) else some G))))
set_option maxHeartbeats 4000000 in
set_option maxRecDepth 100000 in
theorem c_X3_sendBack (l : Launch) (E : gEnv) (G : GS) (o : Int) (p1 : Int) (ho : gOk E 3 o) (hp1 : gOk E 6 p1) (Gz : GS) (hf : f_X3_sendBack G o p1 = some Gz) : gMet l yX3_sendBack cX3_sendBack 4 none 2 44 0 0 [.ref (eA E 3 o), .ref (eA E 6 p1)] E G (gQv E Gz) := by
  refine g_met (by decide +kernel) (Nat.le_of_ble_eq_true rfl) ?_
  intro p e s m below meth c C H locs h ls hl
  have C : gC p s m _ meth c RX3 cX3_sendBack 4 none E := C
  have hl : lv_has ls 4 [(0, .ref (eA E 3 o)), (1, .ref (eA E 6 p1))] := hl
  unfold f_X3_sendBack at hf
  refine g_aload_n C hl 1 rfl rfl (gdec kX3_sendBack 0 rfl) ?_
  refine gf_X3_135 C h hp1 (gdec kX3_sendBack 1 rfl) ?_
  refine g_aload_n C hl 1 rfl rfl (gdec kX3_sendBack 2 rfl) ?_
  refine gf_X3_247 C h hp1 (gdec kX3_sendBack 3 rfl) ?_
  obtain ⟨r1, q2, hf⟩ := bn1_s hf
  refine g_ci h (g_runSN C h (c_X7_nextInn l E _ _ _ _ q2) wNest_X3_212 wT_X7_nextInn wN_X7 wC_X7_nextInn ny_X7_nextInn rfl ⟨Nat.le_of_ble_eq_true rfl, Nat.le_of_ble_eq_true rfl⟩ hl.1 rfl (Nat.le_of_ble_eq_true rfl) (gdec kX3_sendBack 4 rfl) ⟨Nat.zero_le _, Nat.zero_le _⟩) (fun H locs h => ?_)
  refine g_istore_n C [(2, vI r1), (0, .ref (eA E 3 o)), (1, .ref (eA E 6 p1))] hl rfl (by decide) rfl (gdec kX3_sendBack 5 rfl) (fun ls hl => ?_)
  refine g_aload_n C hl 1 rfl rfl (gdec kX3_sendBack 6 rfl) ?_
  refine g_aload_n C hl 2 rfl rfl (gdec kX3_sendBack 7 rfl) ?_
  refine gf_X3_135 C h hp1 (gdec kX3_sendBack 8 rfl) ?_
  refine g_iload_n C hl 0 rfl rfl (gdec kX3_sendBack 9 rfl) ?_
  obtain ⟨r3, q4, hf⟩ := bn1_s hf
  refine g_ci h (g_runSN C h (c_X7_stageBetween l E _ _ _ _ q4) wNest_X3_219 wT_X7_stageBetween wN_X7 wC_X7_stageBetween ny_X7_stageBetween rfl ⟨Nat.le_of_ble_eq_true rfl, Nat.le_of_ble_eq_true rfl⟩ hl.1 rfl (Nat.le_of_ble_eq_true rfl) (gdec kX3_sendBack 10 rfl) ⟨Nat.zero_le _, Nat.zero_le _⟩) (fun H locs h => ?_)
  obtain ⟨h5, hf⟩ := ga_s hf
  refine g_cr h (g_runV C h ho (by decide) rfl (c_X3_stageRow l E _ _ _ ho _ (e_X3_stageRow _ _ _ h5)) wM_X3_169 wI_X3_stageRow wS_X3_stageRow wN_X3 wC_X3_stageRow rfl ny_X3_stageRow rfl ⟨Nat.le_of_ble_eq_true rfl, Nat.le_of_ble_eq_true rfl⟩ hl.1 rfl (Nat.le_of_ble_eq_true rfl) (gdec kX3_sendBack 11 rfl) ⟨Nat.zero_le _, Nat.zero_le _⟩) (fun H locs h => ?_)
  have k6 : gOk E 5 (7 * o + r3) := gok5 C (gcl_3_0 C ho) h5
  refine g_astore_n C [(3, .ref (eA E 5 (7 * o + r3))), (2, vI r1), (0, .ref (eA E 3 o)), (1, .ref (eA E 6 p1))] hl rfl (by decide) rfl (gdec kX3_sendBack 12 rfl) (fun ls hl => ?_)
  refine g_aload_n C hl 0 rfl rfl (gdec kX3_sendBack 13 rfl) ?_
  refine gf_X3_231 C h k6 (gdec kX3_sendBack 14 rfl) ?_
  obtain ⟨h7, hf⟩ := gd_s hf
  refine g_if_ne C (tgt := 64) h7 (by decide) (gdec kX3_sendBack 15 rfl) (fun c8 => ?_) (fun c8 => ?_)
  · replace hf := ifp c8 hf
    refine g_aload_n C hl 2 rfl rfl (gdec kX3_sendBack 16 rfl) ?_
    refine g_iload_n C hl 1 rfl rfl (gdec kX3_sendBack 17 rfl) ?_
    obtain ⟨r9, q10, hf⟩ := bn1_s hf
    refine g_ci h (g_runV C h ho (by decide) rfl (c_X3_bedsTaken l E _ _ _ ho _ q10) wM_X3_237 wI_X3_bedsTaken wS_X3_bedsTaken wN_X3 wC_X3_bedsTaken rfl ny_X3_bedsTaken rfl ⟨Nat.le_of_ble_eq_true rfl, Nat.le_of_ble_eq_true rfl⟩ hl.1 rfl (Nat.le_of_ble_eq_true rfl) (gdec kX3_sendBack 18 rfl) ⟨Nat.zero_le _, Nat.zero_le _⟩) (fun H locs h => ?_)
    refine g_aload_n C hl 2 rfl rfl (gdec kX3_sendBack 19 rfl) ?_
    refine g_iload_n C hl 1 rfl rfl (gdec kX3_sendBack 20 rfl) ?_
    obtain ⟨h11, hf⟩ := ga_s hf
    refine g_cr h (g_runV C h ho (by decide) rfl (c_X3_innRow l E _ _ _ ho _ (e_X3_innRow _ _ _ h11)) wM_X3_138 wI_X3_innRow wS_X3_innRow wN_X3 wC_X3_innRow rfl ny_X3_innRow rfl ⟨Nat.le_of_ble_eq_true rfl, Nat.le_of_ble_eq_true rfl⟩ hl.1 rfl (Nat.le_of_ble_eq_true rfl) (gdec kX3_sendBack 21 rfl) ⟨Nat.zero_le _, Nat.zero_le _⟩) (fun H locs h => ?_)
    have k12 : gOk E 1 (8 * o + r1) := gok1 C (gcl_3_1 C ho) h11
    refine gf_X3_240 C h k12 (gdec kX3_sendBack 22 rfl) ?_
    obtain ⟨h13, hf⟩ := gd_s hf
    obtain ⟨h14, hf⟩ := gd_s hf
    refine g_icmp_ge C (tgt := 64) h13 h14 (by decide) (gdec kX3_sendBack 23 rfl) (fun c15 => ?_) (fun c15 => ?_)
    · replace hf := ifp c15 hf
      refine g_aload_n C hl 3 rfl rfl (gdec kX3_sendBack 24 rfl) ?_
      refine g_iload_n C hl 1 rfl rfl (gdec kX3_sendBack 25 rfl) ?_
      refine g_iconst C (gdec kX3_sendBack 26 rfl) ?_
      refine g_aload_n C hl 0 rfl rfl (gdec kX3_sendBack 27 rfl) ?_
      refine gf_X3_222 C h k6 (gdec kX3_sendBack 28 rfl) ?_
      refine g_imul C (gdec kX3_sendBack 29 rfl) ?_
      obtain ⟨G16, q17, hf⟩ := bn1_s hf
      refine g_cv h (g_runV C h hp1 (by decide) rfl (c_X6_setOut l E _ _ _ _ hp1 _ q17) wM_X3_225 wI_X6_setOut wS_X6_setOut wN_X6 wC_X6_setOut rfl ny_X6_setOut rfl ⟨Nat.le_of_ble_eq_true rfl, Nat.le_of_ble_eq_true rfl⟩ hl.1 rfl (Nat.le_of_ble_eq_true rfl) (gdec kX3_sendBack 30 rfl) ⟨Nat.zero_le _, Nat.zero_le _⟩) (fun H locs h => ?_)
      refine g_aload_n C hl 3 rfl rfl (gdec kX3_sendBack 31 rfl) ?_
      refine g_iconst C (gdec kX3_sendBack 32 rfl) ?_
      refine gp_X3_159 C h hp1 (Or.inr rfl) (gdec kX3_sendBack 33 rfl) (fun H locs h => ?_)
      exact g_vret C h hf (gdec kX3_sendBack 34 rfl)
    · replace hf := ifn c15 hf
      exact g_vret C h hf (gdec kX3_sendBack 34 rfl)
  · replace hf := ifn c8 hf
    exact g_vret C h hf (gdec kX3_sendBack 34 rfl)
def f_X3_sendTeamsBack_L2 (o : Int) : Nat → GS → Int → (GS → Int → Option (GS)) → Option (GS)
  | 0, _, _, _ => none
  | n + 1, G, x1, k => gd x1 (gd (G 3 o 5) (if x1 < (G 3 o 5) then ga x1 10 (bn1 (f_X6_stands G (10 * o + x1)) (fun r6 => gd r6 (if r6 = 0 then f_X3_sendTeamsBack_L2 o n G (x1 + 1) k else gd (G 6 (10 * o + x1) 2) (gd (G 6 (10 * o + x1) 0) (if (G 6 (10 * o + x1) 2) = (G 6 (10 * o + x1) 0) then f_X3_sendTeamsBack_L2 o n G (x1 + 1) k else gd (G 6 (10 * o + x1) 1) (if (G 6 (10 * o + x1) 1) = 0 then bn1 (f_X3_lettersAt G o (G 6 (10 * o + x1) 2)) (fun r15 => gd r15 (if r15 = 0 then bn1 (f_X3_sendBack G o (10 * o + x1)) (fun G19 => f_X3_sendTeamsBack_L2 o n G19 (x1 + 1) k) else f_X3_sendTeamsBack_L2 o n G (x1 + 1) k)) else f_X3_sendTeamsBack_L2 o n G (x1 + 1) k)))))) else k G x1))
def f_X3_sendTeamsBack (G : GS) (o : Int) : Option (GS) :=
  f_X3_sendTeamsBack_L2 o gFuel G 0 (fun G22 y1_21 => some G22)
set_option maxHeartbeats 4000000 in
set_option maxRecDepth 100000 in
theorem c_X3_sendTeamsBack (l : Launch) (E : gEnv) (G : GS) (o : Int) (ho : gOk E 3 o) (Gz : GS) (hf : f_X3_sendTeamsBack G o = some Gz) : gMet l yX3_sendTeamsBack cX3_sendTeamsBack 3 none 3 67 0 0 [.ref (eA E 3 o)] E G (gQv E Gz) := by
  refine g_met (by decide +kernel) (Nat.le_of_ble_eq_true rfl) ?_
  intro p e s m below meth c C H locs h ls hl
  have C : gC p s m _ meth c RX3 cX3_sendTeamsBack 3 none E := C
  have hl : lv_has ls 3 [(0, .ref (eA E 3 o))] := hl
  have L2 : ∀ (n : Nat) (G : GS) (x1 : Int) (k : (GS → Int → Option (GS))) (hK : ∀ (G : GS) (x1 : Int), k G x1 = some Gz → ∀ (H : Heap) (locs : List Loc), gH E s G H locs → ∀ ls, lv_has ls 3 [(0, .ref (eA E 3 o)), (1, vI x1)] → W p l e (gRm 3 67 0 0) s m ([.ref (eA E 3 o)] : List Value).toArray below meth c H locs 0 0 (MQ below (gQv E Gz) ([.ref (eA E 3 o)] : List Value).toArray s 0 0 (eF E)) (F0 m 63 ls [])), ∀ (H : Heap) (locs : List Loc), gH E s G H locs → ∀ ls, lv_has ls 3 [(0, .ref (eA E 3 o)), (1, vI x1)] → f_X3_sendTeamsBack_L2 o n G x1 k = some Gz → W p l e (gRm 3 67 0 0) s m ([.ref (eA E 3 o)] : List Value).toArray below meth c H locs 0 0 (MQ below (gQv E Gz) ([.ref (eA E 3 o)] : List Value).toArray s 0 0 (eF E)) (F0 m 2 ls []) := by
    intro n
    induction n with
    | zero =>
      intro G x1 k hK H locs h ls hl hf
      exact absurd hf (by simp [f_X3_sendTeamsBack_L2])
    | succ n ih =>
      intro G x1 k hK H locs h ls hl hf
      unfold f_X3_sendTeamsBack_L2 at hf
      refine g_iload_n C hl 1 rfl rfl (gdec kX3_sendTeamsBack 2 rfl) ?_
      refine g_aload_n C hl 0 rfl rfl (gdec kX3_sendTeamsBack 3 rfl) ?_
      refine gf_X3_51 C h ho (gdec kX3_sendTeamsBack 4 rfl) ?_
      obtain ⟨h1, hf⟩ := gd_s hf
      obtain ⟨h2, hf⟩ := gd_s hf
      refine g_icmp_ge C (tgt := 63) h1 h2 (by decide) (gdec kX3_sendTeamsBack 5 rfl) (fun c3 => ?_) (fun c3 => ?_)
      · replace hf := ifp c3 hf
        refine g_aload_n C hl 0 rfl rfl (gdec kX3_sendTeamsBack 6 rfl) ?_
        refine g_iload_n C hl 1 rfl rfl (gdec kX3_sendTeamsBack 7 rfl) ?_
        obtain ⟨h4, hf⟩ := ga_s hf
        refine g_cr h (g_runV C h ho (by decide) rfl (c_X3_teamRow l E _ _ _ ho _ (e_X3_teamRow _ _ _ h4)) wM_X3_82 wI_X3_teamRow wS_X3_teamRow wN_X3 wC_X3_teamRow rfl ny_X3_teamRow rfl ⟨Nat.le_of_ble_eq_true rfl, Nat.le_of_ble_eq_true rfl⟩ hl.1 rfl (Nat.le_of_ble_eq_true rfl) (gdec kX3_sendTeamsBack 8 rfl) ⟨Nat.zero_le _, Nat.zero_le _⟩) (fun H locs h => ?_)
        have k5 : gOk E 6 (10 * o + x1) := gok6 C (gcl_3_2 C ho) h4
        refine g_astore_n C [(2, .ref (eA E 6 (10 * o + x1))), (0, .ref (eA E 3 o)), (1, vI x1)] hl rfl (by decide) rfl (gdec kX3_sendTeamsBack 9 rfl) (fun ls hl => ?_)
        refine g_aload_n C hl 0 rfl rfl (gdec kX3_sendTeamsBack 10 rfl) ?_
        obtain ⟨r6, q7, hf⟩ := bn1_s hf
        refine g_ci h (g_runV C h k5 (by decide) rfl (c_X6_stands l E _ _ k5 _ q7) wM_X3_129 wI_X6_stands wS_X6_stands wN_X6 wC_X6_stands rfl ny_X6_stands rfl ⟨Nat.le_of_ble_eq_true rfl, Nat.le_of_ble_eq_true rfl⟩ hl.1 rfl (Nat.le_of_ble_eq_true rfl) (gdec kX3_sendTeamsBack 11 rfl) ⟨Nat.zero_le _, Nat.zero_le _⟩) (fun H locs h => ?_)
        obtain ⟨h8, hf⟩ := gd_s hf
        refine g_if_eq C (tgt := 57) h8 (by decide) (gdec kX3_sendTeamsBack 12 rfl) (fun c9 => ?_) (fun c9 => ?_)
        · replace hf := ifp c9 hf
          refine g_iinc C (k := 2) [(1, vI (x1 + 1)), (2, .ref (eA E 6 (10 * o + x1))), (0, .ref (eA E 3 o))] hl rfl (by decide) rfl (gdec kX3_sendTeamsBack 29 rfl) (fun ls hl => ?_)
          refine g_goto C (tgt := 2) (by decide) (gdec kX3_sendTeamsBack 30 rfl) ?_
          exact ih _ _ k hK H locs h ls (lv_sub hl [2, 0] rfl) hf
        · replace hf := ifn c9 hf
          refine g_aload_n C hl 0 rfl rfl (gdec kX3_sendTeamsBack 13 rfl) ?_
          refine gf_X3_135 C h k5 (gdec kX3_sendTeamsBack 14 rfl) ?_
          refine g_aload_n C hl 0 rfl rfl (gdec kX3_sendTeamsBack 15 rfl) ?_
          refine gf_X3_247 C h k5 (gdec kX3_sendTeamsBack 16 rfl) ?_
          obtain ⟨h10, hf⟩ := gd_s hf
          obtain ⟨h11, hf⟩ := gd_s hf
          refine g_icmp_eq C (tgt := 57) h10 h11 (by decide) (gdec kX3_sendTeamsBack 17 rfl) (fun c12 => ?_) (fun c12 => ?_)
          · replace hf := ifp c12 hf
            refine g_iinc C (k := 2) [(1, vI (x1 + 1)), (2, .ref (eA E 6 (10 * o + x1))), (0, .ref (eA E 3 o))] hl rfl (by decide) rfl (gdec kX3_sendTeamsBack 29 rfl) (fun ls hl => ?_)
            refine g_goto C (tgt := 2) (by decide) (gdec kX3_sendTeamsBack 30 rfl) ?_
            exact ih _ _ k hK H locs h ls (lv_sub hl [2, 0] rfl) hf
          · replace hf := ifn c12 hf
            refine g_aload_n C hl 0 rfl rfl (gdec kX3_sendTeamsBack 18 rfl) ?_
            refine gf_X3_142 C h k5 (gdec kX3_sendTeamsBack 19 rfl) ?_
            obtain ⟨h13, hf⟩ := gd_s hf
            refine g_if_ne C (tgt := 57) h13 (by decide) (gdec kX3_sendTeamsBack 20 rfl) (fun c14 => ?_) (fun c14 => ?_)
            · replace hf := ifp c14 hf
              refine g_aload_n C hl 1 rfl rfl (gdec kX3_sendTeamsBack 21 rfl) ?_
              refine g_aload_n C hl 0 rfl rfl (gdec kX3_sendTeamsBack 22 rfl) ?_
              refine gf_X3_135 C h k5 (gdec kX3_sendTeamsBack 23 rfl) ?_
              obtain ⟨r15, q16, hf⟩ := bn1_s hf
              refine g_ci h (g_runV C h ho (by decide) rfl (c_X3_lettersAt l E _ _ _ ho _ q16) wM_X3_250 wI_X3_lettersAt wS_X3_lettersAt wN_X3 wC_X3_lettersAt rfl ny_X3_lettersAt rfl ⟨Nat.le_of_ble_eq_true rfl, Nat.le_of_ble_eq_true rfl⟩ hl.1 rfl (Nat.le_of_ble_eq_true rfl) (gdec kX3_sendTeamsBack 24 rfl) ⟨Nat.zero_le _, Nat.zero_le _⟩) (fun H locs h => ?_)
              obtain ⟨h17, hf⟩ := gd_s hf
              refine g_if_ne C (tgt := 57) h17 (by decide) (gdec kX3_sendTeamsBack 25 rfl) (fun c18 => ?_) (fun c18 => ?_)
              · replace hf := ifp c18 hf
                refine g_aload_n C hl 1 rfl rfl (gdec kX3_sendTeamsBack 26 rfl) ?_
                refine g_aload_n C hl 0 rfl rfl (gdec kX3_sendTeamsBack 27 rfl) ?_
                obtain ⟨G19, q20, hf⟩ := bn1_s hf
                refine g_cv h (g_runV C h ho (by decide) rfl (c_X3_sendBack l E _ _ _ ho k5 _ q20) wM_X3_253 wI_X3_sendBack wS_X3_sendBack wN_X3 wC_X3_sendBack rfl ny_X3_sendBack rfl ⟨Nat.le_of_ble_eq_true rfl, Nat.le_of_ble_eq_true rfl⟩ hl.1 rfl (Nat.le_of_ble_eq_true rfl) (gdec kX3_sendTeamsBack 28 rfl) ⟨Nat.zero_le _, Nat.zero_le _⟩) (fun H locs h => ?_)
                refine g_iinc C (k := 2) [(1, vI (x1 + 1)), (2, .ref (eA E 6 (10 * o + x1))), (0, .ref (eA E 3 o))] hl rfl (by decide) rfl (gdec kX3_sendTeamsBack 29 rfl) (fun ls hl => ?_)
                refine g_goto C (tgt := 2) (by decide) (gdec kX3_sendTeamsBack 30 rfl) ?_
                exact ih _ _ k hK H locs h ls (lv_sub hl [2, 0] rfl) hf
              · replace hf := ifn c18 hf
                refine g_iinc C (k := 2) [(1, vI (x1 + 1)), (2, .ref (eA E 6 (10 * o + x1))), (0, .ref (eA E 3 o))] hl rfl (by decide) rfl (gdec kX3_sendTeamsBack 29 rfl) (fun ls hl => ?_)
                refine g_goto C (tgt := 2) (by decide) (gdec kX3_sendTeamsBack 30 rfl) ?_
                exact ih _ _ k hK H locs h ls (lv_sub hl [2, 0] rfl) hf
            · replace hf := ifn c14 hf
              refine g_iinc C (k := 2) [(1, vI (x1 + 1)), (2, .ref (eA E 6 (10 * o + x1))), (0, .ref (eA E 3 o))] hl rfl (by decide) rfl (gdec kX3_sendTeamsBack 29 rfl) (fun ls hl => ?_)
              refine g_goto C (tgt := 2) (by decide) (gdec kX3_sendTeamsBack 30 rfl) ?_
              exact ih _ _ k hK H locs h ls (lv_sub hl [2, 0] rfl) hf
      · replace hf := ifn c3 hf
        exact hK _ _ hf H locs h ls (lv_sub hl [0, 1] rfl)
  unfold f_X3_sendTeamsBack at hf
  refine g_iconst C (gdec kX3_sendTeamsBack 0 rfl) ?_
  refine g_istore_n C [(1, vI 0), (0, .ref (eA E 3 o))] hl rfl (by decide) rfl (gdec kX3_sendTeamsBack 1 rfl) (fun ls hl => ?_)
  refine L2 gFuel _ _ _ (fun G22 y1_21 hf H locs h ls hl => ?_) H locs h ls (lv_sub hl [1, 0] rfl) hf
  exact g_vret C h hf (gdec kX3_sendTeamsBack 31 rfl)
def f_X3_passHour (G : GS) (o : Int) : Option (GS) :=
  bn1 (f_X3_restTeams G o) (fun G1 => bn1 (f_X3_moveTeams G1 o) (fun G3 => bn1 (f_X3_sendLetters G3 o 1) (fun G5 => bn1 (f_X3_sendLetters G5 o 0) (fun G7 => bn1 (f_X3_sendTeamsBack G7 o) (fun G9 => some (gup G9 3 o 7 ((G9 3 o 7) + 1)))))))
set_option maxHeartbeats 4000000 in
set_option maxRecDepth 100000 in
theorem c_X3_passHour (l : Launch) (E : gEnv) (G : GS) (o : Int) (ho : gOk E 3 o) (Gz : GS) (hf : f_X3_passHour G o = some Gz) : gMet l yX3_passHour cX3_passHour 1 none 4 93 0 0 [.ref (eA E 3 o)] E G (gQv E Gz) := by
  refine g_met (by decide +kernel) (Nat.le_of_ble_eq_true rfl) ?_
  intro p e s m below meth c C H locs h ls hl
  have C : gC p s m _ meth c RX3 cX3_passHour 1 none E := C
  have hl : lv_has ls 1 [(0, .ref (eA E 3 o))] := hl
  unfold f_X3_passHour at hf
  refine g_aload_n C hl 0 rfl rfl (gdec kX3_passHour 0 rfl) ?_
  obtain ⟨G1, q2, hf⟩ := bn1_s hf
  refine g_cv h (g_runV C h ho (by decide) rfl (c_X3_restTeams l E _ _ ho _ q2) wM_X3_116 wI_X3_restTeams wS_X3_restTeams wN_X3 wC_X3_restTeams rfl ny_X3_restTeams rfl ⟨Nat.le_of_ble_eq_true rfl, Nat.le_of_ble_eq_true rfl⟩ hl.1 rfl (Nat.le_of_ble_eq_true rfl) (gdec kX3_passHour 1 rfl) ⟨Nat.zero_le _, Nat.zero_le _⟩) (fun H locs h => ?_)
  refine g_aload_n C hl 0 rfl rfl (gdec kX3_passHour 2 rfl) ?_
  obtain ⟨G3, q4, hf⟩ := bn1_s hf
  refine g_cv h (g_runV C h ho (by decide) rfl (c_X3_moveTeams l E _ _ ho _ q4) wM_X3_119 wI_X3_moveTeams wS_X3_moveTeams wN_X3 wC_X3_moveTeams rfl ny_X3_moveTeams rfl ⟨Nat.le_of_ble_eq_true rfl, Nat.le_of_ble_eq_true rfl⟩ hl.1 rfl (Nat.le_of_ble_eq_true rfl) (gdec kX3_passHour 3 rfl) ⟨Nat.zero_le _, Nat.zero_le _⟩) (fun H locs h => ?_)
  refine g_aload_n C hl 0 rfl rfl (gdec kX3_passHour 4 rfl) ?_
  refine g_iconst C (gdec kX3_passHour 5 rfl) ?_
  obtain ⟨G5, q6, hf⟩ := bn1_s hf
  refine g_cv h (g_runV C h ho (by decide) rfl (c_X3_sendLetters l E _ _ _ ho _ q6) wM_X3_122 wI_X3_sendLetters wS_X3_sendLetters wN_X3 wC_X3_sendLetters rfl ny_X3_sendLetters rfl ⟨Nat.le_of_ble_eq_true rfl, Nat.le_of_ble_eq_true rfl⟩ hl.1 rfl (Nat.le_of_ble_eq_true rfl) (gdec kX3_passHour 6 rfl) ⟨Nat.zero_le _, Nat.zero_le _⟩) (fun H locs h => ?_)
  refine g_aload_n C hl 0 rfl rfl (gdec kX3_passHour 7 rfl) ?_
  refine g_iconst C (gdec kX3_passHour 8 rfl) ?_
  obtain ⟨G7, q8, hf⟩ := bn1_s hf
  refine g_cv h (g_runV C h ho (by decide) rfl (c_X3_sendLetters l E _ _ _ ho _ q8) wM_X3_122 wI_X3_sendLetters wS_X3_sendLetters wN_X3 wC_X3_sendLetters rfl ny_X3_sendLetters rfl ⟨Nat.le_of_ble_eq_true rfl, Nat.le_of_ble_eq_true rfl⟩ hl.1 rfl (Nat.le_of_ble_eq_true rfl) (gdec kX3_passHour 9 rfl) ⟨Nat.zero_le _, Nat.zero_le _⟩) (fun H locs h => ?_)
  refine g_aload_n C hl 0 rfl rfl (gdec kX3_passHour 10 rfl) ?_
  obtain ⟨G9, q10, hf⟩ := bn1_s hf
  refine g_cv h (g_runV C h ho (by decide) rfl (c_X3_sendTeamsBack l E _ _ ho _ q10) wM_X3_126 wI_X3_sendTeamsBack wS_X3_sendTeamsBack wN_X3 wC_X3_sendTeamsBack rfl ny_X3_sendTeamsBack rfl ⟨Nat.le_of_ble_eq_true rfl, Nat.le_of_ble_eq_true rfl⟩ hl.1 rfl (Nat.le_of_ble_eq_true rfl) (gdec kX3_passHour 11 rfl) ⟨Nat.zero_le _, Nat.zero_le _⟩) (fun H locs h => ?_)
  refine g_aload_n C hl 0 rfl rfl (gdec kX3_passHour 12 rfl) ?_
  refine g_dup C rfl (gdec kX3_passHour 13 rfl) ?_
  refine gf_X3_57 C h ho (gdec kX3_passHour 14 rfl) ?_
  refine g_iconst C (gdec kX3_passHour 15 rfl) ?_
  refine g_iadd C (gdec kX3_passHour 16 rfl) ?_
  refine gp_X3_57 C h ho (gdec kX3_passHour 17 rfl) (fun H locs h => ?_)
  exact g_vret C h hf (gdec kX3_passHour 18 rfl)
def f_X7_pass_L54 (p1 : Int) : Nat → GS → Int → Int → (GS → Int → Int → Option (GS × (Int × Int))) → Option (GS × (Int × Int))
  | 0, _, _, _, _ => none
  | n + 1, G, x2, x3, k => gd x3 (gd p1 (if x3 < p1 then bn1 (f_X3_passHour G 0) (fun G10 => f_X7_pass_L54 p1 n G10 x2 (x3 + 1) k) else k G x2 x3))
def f_X7_pass (G : GS) (p1 : Int) : Option (GS × (Int × Int)) :=
  bn1 (f_X7_checkRange G p1 1 200) (fun x1 => if x1 = 0 then gd ((G 3 0 7) + p1) (if 10000 < ((G 3 0 7) + p1) then some (G, (3, 0)) else bn1 (f_X0_save G 0) (fun G5 => f_X7_pass_L54 p1 gFuel G5 (G5 3 0 8) 0 (fun G13 y2_12 y3_12 => some (G13, (0, (G13 3 0 8) - y2_12))))) else some (G, (x1, 0)))
set_option maxHeartbeats 4000000 in
set_option maxRecDepth 100000 in
theorem c_X7_pass (l : Launch) (E : gEnv) (G : GS) (p1 : Int) (ho : gOk E 7 0) (Gz : GS) (rz : Int) (hf : f_X7_pass G p1 = some (Gz, (0, rz))) : gMet l yX7_pass cX7_pass 4 (some .int) 5 113 0 0 [.ref (eA E 7 0), vI p1] E G (gQi E Gz rz) := by
  refine g_met (by decide +kernel) (Nat.le_of_ble_eq_true rfl) ?_
  intro p e s m below meth c C H locs h ls hl
  have C : gC p s m _ meth c RX7 cX7_pass 4 (some .int) E := C
  have hl : lv_has ls 4 [(0, .ref (eA E 7 0)), (1, vI p1)] := hl
  have L54 : ∀ (n : Nat) (G : GS) (x2 : Int) (x3 : Int) (k : (GS → Int → Int → Option (GS × (Int × Int)))) (hK : ∀ (G : GS) (x2 : Int) (x3 : Int), k G x2 x3 = some (Gz, (0, rz)) → ∀ (H : Heap) (locs : List Loc), gH E s G H locs → ∀ ls, lv_has ls 4 [(0, .ref (eA E 7 0)), (1, vI p1), (2, vI x2), (3, vI x3)] → W p l e (gRm 5 113 0 0) s m ([.ref (eA E 7 0), vI p1] : List Value).toArray below meth c H locs 0 0 (MQ below (gQi E Gz rz) ([.ref (eA E 7 0), vI p1] : List Value).toArray s 0 0 (eF E)) (F0 m 72 ls [])), ∀ (H : Heap) (locs : List Loc), gH E s G H locs → ∀ ls, lv_has ls 4 [(0, .ref (eA E 7 0)), (1, vI p1), (2, vI x2), (3, vI x3)] → f_X7_pass_L54 p1 n G x2 x3 k = some (Gz, (0, rz)) → W p l e (gRm 5 113 0 0) s m ([.ref (eA E 7 0), vI p1] : List Value).toArray below meth c H locs 0 0 (MQ below (gQi E Gz rz) ([.ref (eA E 7 0), vI p1] : List Value).toArray s 0 0 (eF E)) (F0 m 54 ls []) := by
    intro n
    induction n with
    | zero =>
      intro G x2 x3 k hK H locs h ls hl hf
      exact absurd hf (by simp [f_X7_pass_L54])
    | succ n ih =>
      intro G x2 x3 k hK H locs h ls hl hf
      unfold f_X7_pass_L54 at hf
      refine g_iload_n C hl 3 rfl rfl (gdec kX7_pass 27 rfl) ?_
      refine g_iload_n C hl 1 rfl rfl (gdec kX7_pass 28 rfl) ?_
      obtain ⟨h7, hf⟩ := gd_s hf
      obtain ⟨h8, hf⟩ := gd_s hf
      refine g_icmp_ge C (tgt := 72) h7 h8 (by decide) (gdec kX7_pass 29 rfl) (fun c9 => ?_) (fun c9 => ?_)
      · replace hf := ifp c9 hf
        refine g_aload_n C hl 0 rfl rfl (gdec kX7_pass 30 rfl) ?_
        refine gf_X7_12 C h ho (gdec kX7_pass 31 rfl) ?_
        obtain ⟨G10, q11, hf⟩ := bn1_s hf
        refine g_cv h (g_runV C h (gcl_7_0 C ho) (by decide) rfl (c_X3_passHour l E _ _ (gcl_7_0 C ho) _ q11) wM_X7_111 wI_X3_passHour wS_X3_passHour wN_X3 wC_X3_passHour rfl ny_X3_passHour rfl ⟨Nat.le_of_ble_eq_true rfl, Nat.le_of_ble_eq_true rfl⟩ hl.1 rfl (Nat.le_of_ble_eq_true rfl) (gdec kX7_pass 32 rfl) ⟨Nat.zero_le _, Nat.zero_le _⟩) (fun H locs h => ?_)
        refine g_iinc C (k := 3) [(3, vI (x3 + 1)), (0, .ref (eA E 7 0)), (1, vI p1), (2, vI x2)] hl rfl (by decide) rfl (gdec kX7_pass 33 rfl) (fun ls hl => ?_)
        refine g_goto C (tgt := 54) (by decide) (gdec kX7_pass 34 rfl) ?_
        exact ih _ _ _ k hK H locs h ls (lv_sub hl [1, 2, 3, 0] rfl) hf
      · replace hf := ifn c9 hf
        exact hK _ _ _ hf H locs h ls (lv_sub hl [0, 1, 2, 3] rfl)
  unfold f_X7_pass at hf
  refine g_iload_n C hl 1 rfl rfl (gdec kX7_pass 0 rfl) ?_
  refine g_iconst C (gdec kX7_pass 1 rfl) ?_
  refine g_sipush C (gdec kX7_pass 2 rfl) rfl ?_
  obtain ⟨x1, q2, hf⟩ := bn1_s hf
  by_cases hx : x1 = 0
  rotate_left
  · exact absurd (ifn hx hf) (gx_nw hx)
  · subst hx
    replace hf := ifp rfl hf
    refine g_cv h (g_runS C h (c_X7_checkRange l E _ _ _ _ q2) wM_X7_41 wT_X7_checkRange wN_X7 wC_X7_checkRange rfl ny_X7_checkRange rfl ⟨Nat.le_of_ble_eq_true rfl, Nat.le_of_ble_eq_true rfl⟩ hl.1 rfl (Nat.le_of_ble_eq_true rfl) (gdec kX7_pass 3 rfl) ⟨Nat.zero_le _, Nat.zero_le _⟩) (fun H locs h => ?_)
    refine g_aload_n C hl 0 rfl rfl (gdec kX7_pass 4 rfl) ?_
    refine gf_X7_12 C h ho (gdec kX7_pass 5 rfl) ?_
    refine gf_X7_100 C h (gcl_7_0 C ho) (gdec kX7_pass 6 rfl) ?_
    refine g_iload_n C hl 1 rfl rfl (gdec kX7_pass 7 rfl) ?_
    refine g_iadd C (gdec kX7_pass 8 rfl) ?_
    refine g_sipush C (gdec kX7_pass 9 rfl) rfl ?_
    obtain ⟨h3, hf⟩ := gd_s hf
    refine g_icmp_le C (tgt := 33) h3 (by decide) (by decide) (gdec kX7_pass 10 rfl) (fun c4 => ?_) (fun c4 => ?_)
    · replace hf := ifp c4 hf
      exact absurd hf (gx_nw (by decide))
    · replace hf := ifn c4 hf
      refine g_aload_n C hl 0 rfl rfl (gdec kX7_pass 16 rfl) ?_
      refine gf_X7_22 C h ho (gdec kX7_pass 17 rfl) ?_
      refine g_aload_n C hl 0 rfl rfl (gdec kX7_pass 18 rfl) ?_
      refine gf_X7_12 C h ho (gdec kX7_pass 19 rfl) ?_
      obtain ⟨G5, q6, hf⟩ := bn1_s hf
      refine g_cv h (g_runV C h (gcl_7_2 C ho) (by decide) rfl (c_X0_save l E _ _ (gcl_7_2 C ho) (gcl_7_0 C ho) _ q6) wM_X7_45 wI_X0_save wS_X0_save wN_X0 wC_X0_save rfl ny_X0_save rfl ⟨Nat.le_of_ble_eq_true rfl, Nat.le_of_ble_eq_true rfl⟩ hl.1 rfl (Nat.le_of_ble_eq_true rfl) (gdec kX7_pass 20 rfl) ⟨Nat.zero_le _, Nat.zero_le _⟩) (fun H locs h => ?_)
      refine g_aload_n C hl 0 rfl rfl (gdec kX7_pass 21 rfl) ?_
      refine gf_X7_12 C h ho (gdec kX7_pass 22 rfl) ?_
      refine gf_X7_108 C h (gcl_7_0 C ho) (gdec kX7_pass 23 rfl) ?_
      refine g_istore_n C [(2, vI (G5 3 0 8)), (0, .ref (eA E 7 0)), (1, vI p1)] hl rfl (by decide) rfl (gdec kX7_pass 24 rfl) (fun ls hl => ?_)
      refine g_iconst C (gdec kX7_pass 25 rfl) ?_
      refine g_istore_n C [(3, vI 0), (2, vI (G5 3 0 8)), (0, .ref (eA E 7 0)), (1, vI p1)] hl rfl (by decide) rfl (gdec kX7_pass 26 rfl) (fun ls hl => ?_)
      refine L54 gFuel _ _ _ _ (fun G13 y2_12 y3_12 hf H locs h ls hl => ?_) H locs h ls (lv_sub hl [2, 3, 1, 0] rfl) hf
      refine g_aload_n C hl 0 rfl rfl (gdec kX7_pass 35 rfl) ?_
      refine gf_X7_12 C h ho (gdec kX7_pass 36 rfl) ?_
      refine gf_X7_108 C h (gcl_7_0 C ho) (gdec kX7_pass 37 rfl) ?_
      refine g_iload_n C hl 2 rfl rfl (gdec kX7_pass 38 rfl) ?_
      refine g_isub C (gdec kX7_pass 39 rfl) ?_
      exact g_iret C h (gx_w hf) (gdec kX7_pass 40 rfl)
def f_X3_lettersLying_L4 (G : GS) (o : Int) : Nat → Int → Int → (Int → Int → Option (Int)) → Option (Int)
  | 0, _, _, _ => none
  | n + 1, x1, x2, k => gd x2 (gd (G 3 o 6) (if x2 < (G 3 o 6) then ga x2 12 (bn1 (f_X2_liesAtAnInn G (12 * o + x2)) (fun r6 => gd r6 (if r6 = 0 then f_X3_lettersLying_L4 G o n x1 (x2 + 1) k else f_X3_lettersLying_L4 G o n (x1 + 1) (x2 + 1) k))) else k x1 x2))
def f_X3_lettersLying (G : GS) (o : Int) : Option (Int) :=
  f_X3_lettersLying_L4 G o gFuel 0 0 (fun y1_10 y2_10 => some y1_10)
set_option maxHeartbeats 4000000 in
set_option maxRecDepth 100000 in
theorem c_X3_lettersLying (l : Launch) (E : gEnv) (G : GS) (o : Int) (ho : gOk E 3 o) (rz : Int) (hf : f_X3_lettersLying G o = some rz) : gMet l yX3_lettersLying cX3_lettersLying 3 (some .int) 2 40 0 0 [.ref (eA E 3 o)] E G (gQi E G rz) := by
  refine g_met (by decide +kernel) (Nat.le_of_ble_eq_true rfl) ?_
  intro p e s m below meth c C H locs h ls hl
  have C : gC p s m _ meth c RX3 cX3_lettersLying 3 (some .int) E := C
  have hl : lv_has ls 3 [(0, .ref (eA E 3 o))] := hl
  have L4 : ∀ (n : Nat) (x1 : Int) (x2 : Int) (k : (Int → Int → Option (Int))) (hK : ∀ (x1 : Int) (x2 : Int), k x1 x2 = some rz → ∀ (H : Heap) (locs : List Loc), gH E s G H locs → ∀ ls, lv_has ls 3 [(0, .ref (eA E 3 o)), (1, vI x1), (2, vI x2)] → W p l e (gRm 2 40 0 0) s m ([.ref (eA E 3 o)] : List Value).toArray below meth c H locs 0 0 (MQ below (gQi E G rz) ([.ref (eA E 3 o)] : List Value).toArray s 0 0 (eF E)) (F0 m 32 ls [])), ∀ (H : Heap) (locs : List Loc), gH E s G H locs → ∀ ls, lv_has ls 3 [(0, .ref (eA E 3 o)), (1, vI x1), (2, vI x2)] → f_X3_lettersLying_L4 G o n x1 x2 k = some rz → W p l e (gRm 2 40 0 0) s m ([.ref (eA E 3 o)] : List Value).toArray below meth c H locs 0 0 (MQ below (gQi E G rz) ([.ref (eA E 3 o)] : List Value).toArray s 0 0 (eF E)) (F0 m 4 ls []) := by
    intro n
    induction n with
    | zero =>
      intro x1 x2 k hK H locs h ls hl hf
      exact absurd hf (by simp [f_X3_lettersLying_L4])
    | succ n ih =>
      intro x1 x2 k hK H locs h ls hl hf
      unfold f_X3_lettersLying_L4 at hf
      refine g_iload_n C hl 2 rfl rfl (gdec kX3_lettersLying 4 rfl) ?_
      refine g_aload_n C hl 0 rfl rfl (gdec kX3_lettersLying 5 rfl) ?_
      refine gf_X3_54 C h ho (gdec kX3_lettersLying 6 rfl) ?_
      obtain ⟨h1, hf⟩ := gd_s hf
      obtain ⟨h2, hf⟩ := gd_s hf
      refine g_icmp_ge C (tgt := 32) h1 h2 (by decide) (gdec kX3_lettersLying 7 rfl) (fun c3 => ?_) (fun c3 => ?_)
      · replace hf := ifp c3 hf
        refine g_aload_n C hl 0 rfl rfl (gdec kX3_lettersLying 8 rfl) ?_
        refine g_iload_n C hl 2 rfl rfl (gdec kX3_lettersLying 9 rfl) ?_
        obtain ⟨h4, hf⟩ := ga_s hf
        refine g_cr h (g_runV C h ho (by decide) rfl (c_X3_letterRow l E _ _ _ ho _ (e_X3_letterRow _ _ _ h4)) wM_X3_89 wI_X3_letterRow wS_X3_letterRow wN_X3 wC_X3_letterRow rfl ny_X3_letterRow rfl ⟨Nat.le_of_ble_eq_true rfl, Nat.le_of_ble_eq_true rfl⟩ hl.1 rfl (Nat.le_of_ble_eq_true rfl) (gdec kX3_lettersLying 10 rfl) ⟨Nat.zero_le _, Nat.zero_le _⟩) (fun H locs h => ?_)
        have k5 : gOk E 2 (12 * o + x2) := gok2 C (gcl_3_3 C ho) h4
        obtain ⟨r6, q7, hf⟩ := bn1_s hf
        refine g_ci h (g_runV C h k5 (by decide) rfl (c_X2_liesAtAnInn l E _ _ k5 _ q7) wM_X3_280 wI_X2_liesAtAnInn wS_X2_liesAtAnInn wN_X2 wC_X2_liesAtAnInn rfl ny_X2_liesAtAnInn rfl ⟨Nat.le_of_ble_eq_true rfl, Nat.le_of_ble_eq_true rfl⟩ hl.1 rfl (Nat.le_of_ble_eq_true rfl) (gdec kX3_lettersLying 11 rfl) ⟨Nat.zero_le _, Nat.zero_le _⟩) (fun H locs h => ?_)
        obtain ⟨h8, hf⟩ := gd_s hf
        refine g_if_eq C (tgt := 26) h8 (by decide) (gdec kX3_lettersLying 12 rfl) (fun c9 => ?_) (fun c9 => ?_)
        · replace hf := ifp c9 hf
          refine g_iinc C (k := 2) [(2, vI (x2 + 1)), (0, .ref (eA E 3 o)), (1, vI x1)] hl rfl (by decide) rfl (gdec kX3_lettersLying 14 rfl) (fun ls hl => ?_)
          refine g_goto C (tgt := 4) (by decide) (gdec kX3_lettersLying 15 rfl) ?_
          exact ih _ _ k hK H locs h ls (lv_sub hl [1, 2, 0] rfl) hf
        · replace hf := ifn c9 hf
          refine g_iinc C (k := 1) [(1, vI (x1 + 1)), (0, .ref (eA E 3 o)), (2, vI x2)] hl rfl (by decide) rfl (gdec kX3_lettersLying 13 rfl) (fun ls hl => ?_)
          refine g_iinc C (k := 2) [(2, vI (x2 + 1)), (1, vI (x1 + 1)), (0, .ref (eA E 3 o))] hl rfl (by decide) rfl (gdec kX3_lettersLying 14 rfl) (fun ls hl => ?_)
          refine g_goto C (tgt := 4) (by decide) (gdec kX3_lettersLying 15 rfl) ?_
          exact ih _ _ k hK H locs h ls (lv_sub hl [2, 1, 0] rfl) hf
      · replace hf := ifn c3 hf
        exact hK _ _ hf H locs h ls (lv_sub hl [0, 1, 2] rfl)
  unfold f_X3_lettersLying at hf
  refine g_iconst C (gdec kX3_lettersLying 0 rfl) ?_
  refine g_istore_n C [(1, vI 0), (0, .ref (eA E 3 o))] hl rfl (by decide) rfl (gdec kX3_lettersLying 1 rfl) (fun ls hl => ?_)
  refine g_iconst C (gdec kX3_lettersLying 2 rfl) ?_
  refine g_istore_n C [(2, vI 0), (1, vI 0), (0, .ref (eA E 3 o))] hl rfl (by decide) rfl (gdec kX3_lettersLying 3 rfl) (fun ls hl => ?_)
  refine L4 gFuel _ _ _ (fun y1_10 y2_10 hf H locs h ls hl => ?_) H locs h ls (lv_sub hl [2, 1, 0] rfl) hf
  refine g_iload_n C hl 1 rfl rfl (gdec kX3_lettersLying 16 rfl) ?_
  exact g_iret C h (congrArg (Option.map (Prod.mk _)) hf) (gdec kX3_lettersLying 17 rfl)
def f_X3_lettersOnStages_L4 (G : GS) (o : Int) : Nat → Int → Int → (Int → Int → Option (Int)) → Option (Int)
  | 0, _, _, _ => none
  | n + 1, x1, x2, k => gd x2 (gd (G 3 o 6) (if x2 < (G 3 o 6) then ga x2 12 (bn1 (f_X2_isOnStage G (12 * o + x2)) (fun r6 => gd r6 (if r6 = 0 then f_X3_lettersOnStages_L4 G o n x1 (x2 + 1) k else f_X3_lettersOnStages_L4 G o n (x1 + 1) (x2 + 1) k))) else k x1 x2))
def f_X3_lettersOnStages (G : GS) (o : Int) : Option (Int) :=
  f_X3_lettersOnStages_L4 G o gFuel 0 0 (fun y1_10 y2_10 => some y1_10)
set_option maxHeartbeats 4000000 in
set_option maxRecDepth 100000 in
theorem c_X3_lettersOnStages (l : Launch) (E : gEnv) (G : GS) (o : Int) (ho : gOk E 3 o) (rz : Int) (hf : f_X3_lettersOnStages G o = some rz) : gMet l yX3_lettersOnStages cX3_lettersOnStages 3 (some .int) 1 21 0 0 [.ref (eA E 3 o)] E G (gQi E G rz) := by
  refine g_met (by decide +kernel) (Nat.le_of_ble_eq_true rfl) ?_
  intro p e s m below meth c C H locs h ls hl
  have C : gC p s m _ meth c RX3 cX3_lettersOnStages 3 (some .int) E := C
  have hl : lv_has ls 3 [(0, .ref (eA E 3 o))] := hl
  have L4 : ∀ (n : Nat) (x1 : Int) (x2 : Int) (k : (Int → Int → Option (Int))) (hK : ∀ (x1 : Int) (x2 : Int), k x1 x2 = some rz → ∀ (H : Heap) (locs : List Loc), gH E s G H locs → ∀ ls, lv_has ls 3 [(0, .ref (eA E 3 o)), (1, vI x1), (2, vI x2)] → W p l e (gRm 1 21 0 0) s m ([.ref (eA E 3 o)] : List Value).toArray below meth c H locs 0 0 (MQ below (gQi E G rz) ([.ref (eA E 3 o)] : List Value).toArray s 0 0 (eF E)) (F0 m 32 ls [])), ∀ (H : Heap) (locs : List Loc), gH E s G H locs → ∀ ls, lv_has ls 3 [(0, .ref (eA E 3 o)), (1, vI x1), (2, vI x2)] → f_X3_lettersOnStages_L4 G o n x1 x2 k = some rz → W p l e (gRm 1 21 0 0) s m ([.ref (eA E 3 o)] : List Value).toArray below meth c H locs 0 0 (MQ below (gQi E G rz) ([.ref (eA E 3 o)] : List Value).toArray s 0 0 (eF E)) (F0 m 4 ls []) := by
    intro n
    induction n with
    | zero =>
      intro x1 x2 k hK H locs h ls hl hf
      exact absurd hf (by simp [f_X3_lettersOnStages_L4])
    | succ n ih =>
      intro x1 x2 k hK H locs h ls hl hf
      unfold f_X3_lettersOnStages_L4 at hf
      refine g_iload_n C hl 2 rfl rfl (gdec kX3_lettersOnStages 4 rfl) ?_
      refine g_aload_n C hl 0 rfl rfl (gdec kX3_lettersOnStages 5 rfl) ?_
      refine gf_X3_54 C h ho (gdec kX3_lettersOnStages 6 rfl) ?_
      obtain ⟨h1, hf⟩ := gd_s hf
      obtain ⟨h2, hf⟩ := gd_s hf
      refine g_icmp_ge C (tgt := 32) h1 h2 (by decide) (gdec kX3_lettersOnStages 7 rfl) (fun c3 => ?_) (fun c3 => ?_)
      · replace hf := ifp c3 hf
        refine g_aload_n C hl 0 rfl rfl (gdec kX3_lettersOnStages 8 rfl) ?_
        refine g_iload_n C hl 2 rfl rfl (gdec kX3_lettersOnStages 9 rfl) ?_
        obtain ⟨h4, hf⟩ := ga_s hf
        refine g_cr h (g_runV C h ho (by decide) rfl (c_X3_letterRow l E _ _ _ ho _ (e_X3_letterRow _ _ _ h4)) wM_X3_89 wI_X3_letterRow wS_X3_letterRow wN_X3 wC_X3_letterRow rfl ny_X3_letterRow rfl ⟨Nat.le_of_ble_eq_true rfl, Nat.le_of_ble_eq_true rfl⟩ hl.1 rfl (Nat.le_of_ble_eq_true rfl) (gdec kX3_lettersOnStages 10 rfl) ⟨Nat.zero_le _, Nat.zero_le _⟩) (fun H locs h => ?_)
        have k5 : gOk E 2 (12 * o + x2) := gok2 C (gcl_3_3 C ho) h4
        obtain ⟨r6, q7, hf⟩ := bn1_s hf
        refine g_ci h (g_runV C h k5 (by decide) rfl (c_X2_isOnStage l E _ _ k5 _ q7) wM_X3_107 wI_X2_isOnStage wS_X2_isOnStage wN_X2 wC_X2_isOnStage rfl ny_X2_isOnStage rfl ⟨Nat.le_of_ble_eq_true rfl, Nat.le_of_ble_eq_true rfl⟩ hl.1 rfl (Nat.le_of_ble_eq_true rfl) (gdec kX3_lettersOnStages 11 rfl) ⟨Nat.zero_le _, Nat.zero_le _⟩) (fun H locs h => ?_)
        obtain ⟨h8, hf⟩ := gd_s hf
        refine g_if_eq C (tgt := 26) h8 (by decide) (gdec kX3_lettersOnStages 12 rfl) (fun c9 => ?_) (fun c9 => ?_)
        · replace hf := ifp c9 hf
          refine g_iinc C (k := 2) [(2, vI (x2 + 1)), (0, .ref (eA E 3 o)), (1, vI x1)] hl rfl (by decide) rfl (gdec kX3_lettersOnStages 14 rfl) (fun ls hl => ?_)
          refine g_goto C (tgt := 4) (by decide) (gdec kX3_lettersOnStages 15 rfl) ?_
          exact ih _ _ k hK H locs h ls (lv_sub hl [1, 2, 0] rfl) hf
        · replace hf := ifn c9 hf
          refine g_iinc C (k := 1) [(1, vI (x1 + 1)), (0, .ref (eA E 3 o)), (2, vI x2)] hl rfl (by decide) rfl (gdec kX3_lettersOnStages 13 rfl) (fun ls hl => ?_)
          refine g_iinc C (k := 2) [(2, vI (x2 + 1)), (1, vI (x1 + 1)), (0, .ref (eA E 3 o))] hl rfl (by decide) rfl (gdec kX3_lettersOnStages 14 rfl) (fun ls hl => ?_)
          refine g_goto C (tgt := 4) (by decide) (gdec kX3_lettersOnStages 15 rfl) ?_
          exact ih _ _ k hK H locs h ls (lv_sub hl [2, 1, 0] rfl) hf
      · replace hf := ifn c3 hf
        exact hK _ _ hf H locs h ls (lv_sub hl [0, 1, 2] rfl)
  unfold f_X3_lettersOnStages at hf
  refine g_iconst C (gdec kX3_lettersOnStages 0 rfl) ?_
  refine g_istore_n C [(1, vI 0), (0, .ref (eA E 3 o))] hl rfl (by decide) rfl (gdec kX3_lettersOnStages 1 rfl) (fun ls hl => ?_)
  refine g_iconst C (gdec kX3_lettersOnStages 2 rfl) ?_
  refine g_istore_n C [(2, vI 0), (1, vI 0), (0, .ref (eA E 3 o))] hl rfl (by decide) rfl (gdec kX3_lettersOnStages 3 rfl) (fun ls hl => ?_)
  refine L4 gFuel _ _ _ (fun y1_10 y2_10 hf H locs h ls hl => ?_) H locs h ls (lv_sub hl [2, 1, 0] rfl) hf
  refine g_iload_n C hl 1 rfl rfl (gdec kX3_lettersOnStages 16 rfl) ?_
  exact g_iret C h (congrArg (Option.map (Prod.mk _)) hf) (gdec kX3_lettersOnStages 17 rfl)
def f_X3_number (G : GS) (o : Int) (p1 : Int) : Option (Int) :=
  gd p1 (if p1 = 0 then some (G 3 o 4) else if p1 = 1 then some (G 3 o 5) else if p1 = 2 then some (G 3 o 6) else if p1 = 3 then some (G 3 o 7) else if p1 = 4 then some (G 3 o 8) else if p1 = 5 then some (G 3 o 9) else if p1 = 6 then some (G 3 o 10) else if p1 = 7 then some (G 3 o 11) else if p1 = 8 then some (G 3 o 12) else if p1 = 9 then bn1 (f_X3_lettersLying G o) (fun r12 => some r12) else bn1 (f_X3_lettersOnStages G o) (fun r14 => some r14))
set_option maxHeartbeats 4000000 in
set_option maxRecDepth 100000 in
theorem c_X3_number (l : Launch) (E : gEnv) (G : GS) (o : Int) (p1 : Int) (ho : gOk E 3 o) (rz : Int) (hf : f_X3_number G o p1 = some rz) : gMet l yX3_number cX3_number 2 (some .int) 3 62 0 0 [.ref (eA E 3 o), vI p1] E G (gQi E G rz) := by
  refine g_met (by decide +kernel) (Nat.le_of_ble_eq_true rfl) ?_
  intro p e s m below meth c C H locs h ls hl
  have C : gC p s m _ meth c RX3 cX3_number 2 (some .int) E := C
  have hl : lv_has ls 2 [(0, .ref (eA E 3 o)), (1, vI p1)] := hl
  unfold f_X3_number at hf
  refine g_iload_n C hl 1 rfl rfl (gdec kX3_number 0 rfl) ?_
  obtain ⟨h1, hf⟩ := gd_s hf
  by_cases c2 : p1 = 0
  · replace hf := ifp c2 hf
    refine g_tableIn C (tgt := 56) c2 (by decide) (by decide) (by decide) rfl (by decide) (gdec kX3_number 1 rfl) ?_
    refine g_aload_n C hl 0 rfl rfl (gdec kX3_number 2 rfl) ?_
    refine gf_X3_47 C h ho (gdec kX3_number 3 rfl) ?_
    exact g_iret C h (congrArg (Option.map (Prod.mk _)) hf) (gdec kX3_number 4 rfl)
  replace hf := ifn c2 hf
  by_cases c3 : p1 = 1
  · replace hf := ifp c3 hf
    refine g_tableIn C (tgt := 61) c3 (by decide) (by decide) (by decide) rfl (by decide) (gdec kX3_number 1 rfl) ?_
    refine g_aload_n C hl 0 rfl rfl (gdec kX3_number 5 rfl) ?_
    refine gf_X3_51 C h ho (gdec kX3_number 6 rfl) ?_
    exact g_iret C h (congrArg (Option.map (Prod.mk _)) hf) (gdec kX3_number 7 rfl)
  replace hf := ifn c3 hf
  by_cases c4 : p1 = 2
  · replace hf := ifp c4 hf
    refine g_tableIn C (tgt := 66) c4 (by decide) (by decide) (by decide) rfl (by decide) (gdec kX3_number 1 rfl) ?_
    refine g_aload_n C hl 0 rfl rfl (gdec kX3_number 8 rfl) ?_
    refine gf_X3_54 C h ho (gdec kX3_number 9 rfl) ?_
    exact g_iret C h (congrArg (Option.map (Prod.mk _)) hf) (gdec kX3_number 10 rfl)
  replace hf := ifn c4 hf
  by_cases c5 : p1 = 3
  · replace hf := ifp c5 hf
    refine g_tableIn C (tgt := 71) c5 (by decide) (by decide) (by decide) rfl (by decide) (gdec kX3_number 1 rfl) ?_
    refine g_aload_n C hl 0 rfl rfl (gdec kX3_number 11 rfl) ?_
    refine gf_X3_57 C h ho (gdec kX3_number 12 rfl) ?_
    exact g_iret C h (congrArg (Option.map (Prod.mk _)) hf) (gdec kX3_number 13 rfl)
  replace hf := ifn c5 hf
  by_cases c6 : p1 = 4
  · replace hf := ifp c6 hf
    refine g_tableIn C (tgt := 76) c6 (by decide) (by decide) (by decide) rfl (by decide) (gdec kX3_number 1 rfl) ?_
    refine g_aload_n C hl 0 rfl rfl (gdec kX3_number 14 rfl) ?_
    refine gf_X3_60 C h ho (gdec kX3_number 15 rfl) ?_
    exact g_iret C h (congrArg (Option.map (Prod.mk _)) hf) (gdec kX3_number 16 rfl)
  replace hf := ifn c6 hf
  by_cases c7 : p1 = 5
  · replace hf := ifp c7 hf
    refine g_tableIn C (tgt := 81) c7 (by decide) (by decide) (by decide) rfl (by decide) (gdec kX3_number 1 rfl) ?_
    refine g_aload_n C hl 0 rfl rfl (gdec kX3_number 17 rfl) ?_
    refine gf_X3_63 C h ho (gdec kX3_number 18 rfl) ?_
    exact g_iret C h (congrArg (Option.map (Prod.mk _)) hf) (gdec kX3_number 19 rfl)
  replace hf := ifn c7 hf
  by_cases c8 : p1 = 6
  · replace hf := ifp c8 hf
    refine g_tableIn C (tgt := 86) c8 (by decide) (by decide) (by decide) rfl (by decide) (gdec kX3_number 1 rfl) ?_
    refine g_aload_n C hl 0 rfl rfl (gdec kX3_number 20 rfl) ?_
    refine gf_X3_66 C h ho (gdec kX3_number 21 rfl) ?_
    exact g_iret C h (congrArg (Option.map (Prod.mk _)) hf) (gdec kX3_number 22 rfl)
  replace hf := ifn c8 hf
  by_cases c9 : p1 = 7
  · replace hf := ifp c9 hf
    refine g_tableIn C (tgt := 91) c9 (by decide) (by decide) (by decide) rfl (by decide) (gdec kX3_number 1 rfl) ?_
    refine g_aload_n C hl 0 rfl rfl (gdec kX3_number 23 rfl) ?_
    refine gf_X3_69 C h ho (gdec kX3_number 24 rfl) ?_
    exact g_iret C h (congrArg (Option.map (Prod.mk _)) hf) (gdec kX3_number 25 rfl)
  replace hf := ifn c9 hf
  by_cases c10 : p1 = 8
  · replace hf := ifp c10 hf
    refine g_tableIn C (tgt := 96) c10 (by decide) (by decide) (by decide) rfl (by decide) (gdec kX3_number 1 rfl) ?_
    refine g_aload_n C hl 0 rfl rfl (gdec kX3_number 26 rfl) ?_
    refine gf_X3_72 C h ho (gdec kX3_number 27 rfl) ?_
    exact g_iret C h (congrArg (Option.map (Prod.mk _)) hf) (gdec kX3_number 28 rfl)
  replace hf := ifn c10 hf
  by_cases c11 : p1 = 9
  · replace hf := ifp c11 hf
    refine g_tableIn C (tgt := 101) c11 (by decide) (by decide) (by decide) rfl (by decide) (gdec kX3_number 1 rfl) ?_
    refine g_aload_n C hl 0 rfl rfl (gdec kX3_number 29 rfl) ?_
    obtain ⟨r12, q13, hf⟩ := bn1_s hf
    refine g_ci h (g_runV C h ho (by decide) rfl (c_X3_lettersLying l E _ _ ho _ q13) wM_X3_265 wI_X3_lettersLying wS_X3_lettersLying wN_X3 wC_X3_lettersLying rfl ny_X3_lettersLying rfl ⟨Nat.le_of_ble_eq_true rfl, Nat.le_of_ble_eq_true rfl⟩ hl.1 rfl (Nat.le_of_ble_eq_true rfl) (gdec kX3_number 30 rfl) ⟨Nat.zero_le _, Nat.zero_le _⟩) (fun H locs h => ?_)
    exact g_iret C h (congrArg (Option.map (Prod.mk _)) hf) (gdec kX3_number 31 rfl)
  replace hf := ifn c11 hf
  refine g_tableOut C (tgt := 106) h1 (by omega) (by decide) (gdec kX3_number 1 rfl) ?_
  refine g_aload_n C hl 0 rfl rfl (gdec kX3_number 32 rfl) ?_
  obtain ⟨r14, q15, hf⟩ := bn1_s hf
  refine g_ci h (g_runV C h ho (by decide) rfl (c_X3_lettersOnStages l E _ _ ho _ q15) wM_X3_269 wI_X3_lettersOnStages wS_X3_lettersOnStages wN_X3 wC_X3_lettersOnStages rfl ny_X3_lettersOnStages rfl ⟨Nat.le_of_ble_eq_true rfl, Nat.le_of_ble_eq_true rfl⟩ hl.1 rfl (Nat.le_of_ble_eq_true rfl) (gdec kX3_number 33 rfl) ⟨Nat.zero_le _, Nat.zero_le _⟩) (fun H locs h => ?_)
  exact g_iret C h (congrArg (Option.map (Prod.mk _)) hf) (gdec kX3_number 34 rfl)
def f_X7_value (G : GS) (p1 : Int) : Option (Int × Int) :=
  bn1 (f_X7_checkRange G p1 0 10) (fun x1 => if x1 = 0 then bn1 (f_X3_number G 0 p1) (fun r3 => some (0, r3)) else some (x1, 0))
set_option maxHeartbeats 4000000 in
set_option maxRecDepth 100000 in
theorem c_X7_value (l : Launch) (E : gEnv) (G : GS) (p1 : Int) (ho : gOk E 7 0) (rz : Int) (hf : f_X7_value G p1 = some (0, rz)) : gMet l yX7_value cX7_value 2 (some .int) 4 83 0 0 [.ref (eA E 7 0), vI p1] E G (gQi E G rz) := by
  refine g_met (by decide +kernel) (Nat.le_of_ble_eq_true rfl) ?_
  intro p e s m below meth c C H locs h ls hl
  have C : gC p s m _ meth c RX7 cX7_value 2 (some .int) E := C
  have hl : lv_has ls 2 [(0, .ref (eA E 7 0)), (1, vI p1)] := hl
  unfold f_X7_value at hf
  refine g_iload_n C hl 1 rfl rfl (gdec kX7_value 0 rfl) ?_
  refine g_iconst C (gdec kX7_value 1 rfl) ?_
  refine g_bipush C (gdec kX7_value 2 rfl) rfl ?_
  obtain ⟨x1, q2, hf⟩ := bn1_s hf
  by_cases hx : x1 = 0
  rotate_left
  · exact absurd (ifn hx hf) (gx_nr hx)
  · subst hx
    replace hf := ifp rfl hf
    refine g_cv h (g_runS C h (c_X7_checkRange l E _ _ _ _ q2) wM_X7_41 wT_X7_checkRange wN_X7 wC_X7_checkRange rfl ny_X7_checkRange rfl ⟨Nat.le_of_ble_eq_true rfl, Nat.le_of_ble_eq_true rfl⟩ hl.1 rfl (Nat.le_of_ble_eq_true rfl) (gdec kX7_value 3 rfl) ⟨Nat.zero_le _, Nat.zero_le _⟩) (fun H locs h => ?_)
    refine g_aload_n C hl 0 rfl rfl (gdec kX7_value 4 rfl) ?_
    refine gf_X7_12 C h ho (gdec kX7_value 5 rfl) ?_
    refine g_iload_n C hl 1 rfl rfl (gdec kX7_value 6 rfl) ?_
    obtain ⟨r3, q4, hf⟩ := bn1_s hf
    refine g_ci h (g_runV C h (gcl_7_0 C ho) (by decide) rfl (c_X3_number l E _ _ _ (gcl_7_0 C ho) _ q4) wM_X7_137 wI_X3_number wS_X3_number wN_X3 wC_X3_number rfl ny_X3_number rfl ⟨Nat.le_of_ble_eq_true rfl, Nat.le_of_ble_eq_true rfl⟩ hl.1 rfl (Nat.le_of_ble_eq_true rfl) (gdec kX7_value 7 rfl) ⟨Nat.zero_le _, Nat.zero_le _⟩) (fun H locs h => ?_)
    exact g_iret C h (gx_r hf) (gdec kX7_value 8 rfl)
def f_X3_hasCome (G : GS) (o : Int) (p1 : Int) : Option (Int) :=
  gd p1 (if p1 = (-1) then bn1 (f_X3_lettersLying G o) (fun r3 => bn1 (f_X3_lettersOnStages G o) (fun r5 => gd (r3 + r5) (if (r3 + r5) = 0 then some 1 else some 0))) else ga p1 12 (bn1 (f_X2_isDelivered G (12 * o + p1)) (fun r11 => gb r11 (some r11))))
set_option maxHeartbeats 4000000 in
set_option maxRecDepth 100000 in
theorem c_X3_hasCome (l : Launch) (E : gEnv) (G : GS) (o : Int) (p1 : Int) (ho : gOk E 3 o) (rz : Int) (hf : f_X3_hasCome G o p1 = some rz) : gMet l yX3_hasCome cX3_hasCome 2 (some .boolean) 3 62 0 0 [.ref (eA E 3 o), vI p1] E G (gQi E G rz) := by
  refine g_met (by decide +kernel) (Nat.le_of_ble_eq_true rfl) ?_
  intro p e s m below meth c C H locs h ls hl
  have C : gC p s m _ meth c RX3 cX3_hasCome 2 (some .boolean) E := C
  have hl : lv_has ls 2 [(0, .ref (eA E 3 o)), (1, vI p1)] := hl
  unfold f_X3_hasCome at hf
  refine g_iload_n C hl 1 rfl rfl (gdec kX3_hasCome 0 rfl) ?_
  refine g_iconst C (gdec kX3_hasCome 1 rfl) ?_
  obtain ⟨h1, hf⟩ := gd_s hf
  refine g_icmp_ne C (tgt := 23) h1 (by decide) (by decide) (gdec kX3_hasCome 2 rfl) (fun c2 => ?_) (fun c2 => ?_)
  · replace hf := ifp c2 hf
    refine g_aload_n C hl 0 rfl rfl (gdec kX3_hasCome 3 rfl) ?_
    obtain ⟨r3, q4, hf⟩ := bn1_s hf
    refine g_ci h (g_runV C h ho (by decide) rfl (c_X3_lettersLying l E _ _ ho _ q4) wM_X3_265 wI_X3_lettersLying wS_X3_lettersLying wN_X3 wC_X3_lettersLying rfl ny_X3_lettersLying rfl ⟨Nat.le_of_ble_eq_true rfl, Nat.le_of_ble_eq_true rfl⟩ hl.1 rfl (Nat.le_of_ble_eq_true rfl) (gdec kX3_hasCome 4 rfl) ⟨Nat.zero_le _, Nat.zero_le _⟩) (fun H locs h => ?_)
    refine g_aload_n C hl 0 rfl rfl (gdec kX3_hasCome 5 rfl) ?_
    obtain ⟨r5, q6, hf⟩ := bn1_s hf
    refine g_ci h (g_runV C h ho (by decide) rfl (c_X3_lettersOnStages l E _ _ ho _ q6) wM_X3_269 wI_X3_lettersOnStages wS_X3_lettersOnStages wN_X3 wC_X3_lettersOnStages rfl ny_X3_lettersOnStages rfl ⟨Nat.le_of_ble_eq_true rfl, Nat.le_of_ble_eq_true rfl⟩ hl.1 rfl (Nat.le_of_ble_eq_true rfl) (gdec kX3_hasCome 6 rfl) ⟨Nat.zero_le _, Nat.zero_le _⟩) (fun H locs h => ?_)
    refine g_iadd C (gdec kX3_hasCome 7 rfl) ?_
    obtain ⟨h7, hf⟩ := gd_s hf
    refine g_if_ne C (tgt := 21) h7 (by decide) (gdec kX3_hasCome 8 rfl) (fun c8 => ?_) (fun c8 => ?_)
    · replace hf := ifp c8 hf
      refine g_iconst C (gdec kX3_hasCome 9 rfl) ?_
      refine g_goto C (tgt := 22) (by decide) (gdec kX3_hasCome 10 rfl) ?_
      exact g_zret C h (Or.inr rfl) (congrArg (Option.map (Prod.mk _)) hf) (gdec kX3_hasCome 12 rfl)
    · replace hf := ifn c8 hf
      refine g_iconst C (gdec kX3_hasCome 11 rfl) ?_
      exact g_zret C h (Or.inl rfl) (congrArg (Option.map (Prod.mk _)) hf) (gdec kX3_hasCome 12 rfl)
  · replace hf := ifn c2 hf
    refine g_aload_n C hl 0 rfl rfl (gdec kX3_hasCome 13 rfl) ?_
    refine g_iload_n C hl 1 rfl rfl (gdec kX3_hasCome 14 rfl) ?_
    obtain ⟨h9, hf⟩ := ga_s hf
    refine g_cr h (g_runV C h ho (by decide) rfl (c_X3_letterRow l E _ _ _ ho _ (e_X3_letterRow _ _ _ h9)) wM_X3_89 wI_X3_letterRow wS_X3_letterRow wN_X3 wC_X3_letterRow rfl ny_X3_letterRow rfl ⟨Nat.le_of_ble_eq_true rfl, Nat.le_of_ble_eq_true rfl⟩ hl.1 rfl (Nat.le_of_ble_eq_true rfl) (gdec kX3_hasCome 15 rfl) ⟨Nat.zero_le _, Nat.zero_le _⟩) (fun H locs h => ?_)
    have k10 : gOk E 2 (12 * o + p1) := gok2 C (gcl_3_3 C ho) h9
    obtain ⟨r11, q12, hf⟩ := bn1_s hf
    refine g_ci h (g_runV C h k10 (by decide) rfl (c_X2_isDelivered l E _ _ k10 _ q12) wM_X3_103 wI_X2_isDelivered wS_X2_isDelivered wN_X2 wC_X2_isDelivered rfl ny_X2_isDelivered rfl ⟨Nat.le_of_ble_eq_true rfl, Nat.le_of_ble_eq_true rfl⟩ hl.1 rfl (Nat.le_of_ble_eq_true rfl) (gdec kX3_hasCome 16 rfl) ⟨Nat.zero_le _, Nat.zero_le _⟩) (fun H locs h => ?_)
    obtain ⟨h13, hf⟩ := gb_s hf
    exact g_zret C h h13 (congrArg (Option.map (Prod.mk _)) hf) (gdec kX3_hasCome 17 rfl)
def f_X3_allTeamsIdle_L2 (G : GS) (o : Int) : Nat → Int → (Int → Option (Int)) → Option (Int)
  | 0, _, _ => none
  | n + 1, x1, k => gd x1 (gd (G 3 o 5) (if x1 < (G 3 o 5) then ga x1 10 (bn1 (f_X6_stands G (10 * o + x1)) (fun r6 => gd r6 (if r6 = 0 then some 0 else gd (G 6 (10 * o + x1) 1) (if 0 < (G 6 (10 * o + x1) 1) then some 0 else f_X3_allTeamsIdle_L2 G o n (x1 + 1) k)))) else k x1))
def f_X3_allTeamsIdle (G : GS) (o : Int) : Option (Int) :=
  f_X3_allTeamsIdle_L2 G o gFuel 0 (fun y1_13 => some 1)
set_option maxHeartbeats 4000000 in
set_option maxRecDepth 100000 in
theorem c_X3_allTeamsIdle (l : Launch) (E : gEnv) (G : GS) (o : Int) (ho : gOk E 3 o) (rz : Int) (hf : f_X3_allTeamsIdle G o = some rz) : gMet l yX3_allTeamsIdle cX3_allTeamsIdle 2 (some .boolean) 1 21 0 0 [.ref (eA E 3 o)] E G (gQi E G rz) := by
  refine g_met (by decide +kernel) (Nat.le_of_ble_eq_true rfl) ?_
  intro p e s m below meth c C H locs h ls hl
  have C : gC p s m _ meth c RX3 cX3_allTeamsIdle 2 (some .boolean) E := C
  have hl : lv_has ls 2 [(0, .ref (eA E 3 o))] := hl
  have L2 : ∀ (n : Nat) (x1 : Int) (k : (Int → Option (Int))) (hK : ∀ (x1 : Int), k x1 = some rz → ∀ (H : Heap) (locs : List Loc), gH E s G H locs → ∀ ls, lv_has ls 2 [(0, .ref (eA E 3 o)), (1, vI x1)] → W p l e (gRm 1 21 0 0) s m ([.ref (eA E 3 o)] : List Value).toArray below meth c H locs 0 0 (MQ below (gQi E G rz) ([.ref (eA E 3 o)] : List Value).toArray s 0 0 (eF E)) (F0 m 40 ls [])), ∀ (H : Heap) (locs : List Loc), gH E s G H locs → ∀ ls, lv_has ls 2 [(0, .ref (eA E 3 o)), (1, vI x1)] → f_X3_allTeamsIdle_L2 G o n x1 k = some rz → W p l e (gRm 1 21 0 0) s m ([.ref (eA E 3 o)] : List Value).toArray below meth c H locs 0 0 (MQ below (gQi E G rz) ([.ref (eA E 3 o)] : List Value).toArray s 0 0 (eF E)) (F0 m 2 ls []) := by
    intro n
    induction n with
    | zero =>
      intro x1 k hK H locs h ls hl hf
      exact absurd hf (by simp [f_X3_allTeamsIdle_L2])
    | succ n ih =>
      intro x1 k hK H locs h ls hl hf
      unfold f_X3_allTeamsIdle_L2 at hf
      refine g_iload_n C hl 1 rfl rfl (gdec kX3_allTeamsIdle 2 rfl) ?_
      refine g_aload_n C hl 0 rfl rfl (gdec kX3_allTeamsIdle 3 rfl) ?_
      refine gf_X3_51 C h ho (gdec kX3_allTeamsIdle 4 rfl) ?_
      obtain ⟨h1, hf⟩ := gd_s hf
      obtain ⟨h2, hf⟩ := gd_s hf
      refine g_icmp_ge C (tgt := 40) h1 h2 (by decide) (gdec kX3_allTeamsIdle 5 rfl) (fun c3 => ?_) (fun c3 => ?_)
      · replace hf := ifp c3 hf
        refine g_aload_n C hl 0 rfl rfl (gdec kX3_allTeamsIdle 6 rfl) ?_
        refine g_iload_n C hl 1 rfl rfl (gdec kX3_allTeamsIdle 7 rfl) ?_
        obtain ⟨h4, hf⟩ := ga_s hf
        refine g_cr h (g_runV C h ho (by decide) rfl (c_X3_teamRow l E _ _ _ ho _ (e_X3_teamRow _ _ _ h4)) wM_X3_82 wI_X3_teamRow wS_X3_teamRow wN_X3 wC_X3_teamRow rfl ny_X3_teamRow rfl ⟨Nat.le_of_ble_eq_true rfl, Nat.le_of_ble_eq_true rfl⟩ hl.1 rfl (Nat.le_of_ble_eq_true rfl) (gdec kX3_allTeamsIdle 8 rfl) ⟨Nat.zero_le _, Nat.zero_le _⟩) (fun H locs h => ?_)
        have k5 : gOk E 6 (10 * o + x1) := gok6 C (gcl_3_2 C ho) h4
        obtain ⟨r6, q7, hf⟩ := bn1_s hf
        refine g_ci h (g_runV C h k5 (by decide) rfl (c_X6_stands l E _ _ k5 _ q7) wM_X3_129 wI_X6_stands wS_X6_stands wN_X6 wC_X6_stands rfl ny_X6_stands rfl ⟨Nat.le_of_ble_eq_true rfl, Nat.le_of_ble_eq_true rfl⟩ hl.1 rfl (Nat.le_of_ble_eq_true rfl) (gdec kX3_allTeamsIdle 9 rfl) ⟨Nat.zero_le _, Nat.zero_le _⟩) (fun H locs h => ?_)
        obtain ⟨h8, hf⟩ := gd_s hf
        refine g_if_eq C (tgt := 32) h8 (by decide) (gdec kX3_allTeamsIdle 10 rfl) (fun c9 => ?_) (fun c9 => ?_)
        · replace hf := ifp c9 hf
          refine g_iconst C (gdec kX3_allTeamsIdle 16 rfl) ?_
          exact g_zret C h (Or.inl rfl) (congrArg (Option.map (Prod.mk _)) hf) (gdec kX3_allTeamsIdle 17 rfl)
        · replace hf := ifn c9 hf
          refine g_aload_n C hl 0 rfl rfl (gdec kX3_allTeamsIdle 11 rfl) ?_
          refine g_iload_n C hl 1 rfl rfl (gdec kX3_allTeamsIdle 12 rfl) ?_
          refine g_cr h (g_runV C h ho (by decide) rfl (c_X3_teamRow l E _ _ _ ho _ (e_X3_teamRow _ _ _ h4)) wM_X3_82 wI_X3_teamRow wS_X3_teamRow wN_X3 wC_X3_teamRow rfl ny_X3_teamRow rfl ⟨Nat.le_of_ble_eq_true rfl, Nat.le_of_ble_eq_true rfl⟩ hl.1 rfl (Nat.le_of_ble_eq_true rfl) (gdec kX3_allTeamsIdle 13 rfl) ⟨Nat.zero_le _, Nat.zero_le _⟩) (fun H locs h => ?_)
          have k10 : gOk E 6 (10 * o + x1) := gok6 C (gcl_3_2 C ho) h4
          refine gf_X3_142 C h k10 (gdec kX3_allTeamsIdle 14 rfl) ?_
          obtain ⟨h11, hf⟩ := gd_s hf
          refine g_if_le C (tgt := 34) h11 (by decide) (gdec kX3_allTeamsIdle 15 rfl) (fun c12 => ?_) (fun c12 => ?_)
          · replace hf := ifp c12 hf
            refine g_iconst C (gdec kX3_allTeamsIdle 16 rfl) ?_
            exact g_zret C h (Or.inl rfl) (congrArg (Option.map (Prod.mk _)) hf) (gdec kX3_allTeamsIdle 17 rfl)
          · replace hf := ifn c12 hf
            refine g_iinc C (k := 1) [(1, vI (x1 + 1)), (0, .ref (eA E 3 o))] hl rfl (by decide) rfl (gdec kX3_allTeamsIdle 18 rfl) (fun ls hl => ?_)
            refine g_goto C (tgt := 2) (by decide) (gdec kX3_allTeamsIdle 19 rfl) ?_
            exact ih _ k hK H locs h ls (lv_sub hl [1, 0] rfl) hf
      · replace hf := ifn c3 hf
        exact hK _ hf H locs h ls (lv_sub hl [0, 1] rfl)
  unfold f_X3_allTeamsIdle at hf
  refine g_iconst C (gdec kX3_allTeamsIdle 0 rfl) ?_
  refine g_istore_n C [(1, vI 0), (0, .ref (eA E 3 o))] hl rfl (by decide) rfl (gdec kX3_allTeamsIdle 1 rfl) (fun ls hl => ?_)
  refine L2 gFuel _ _ (fun y1_13 hf H locs h ls hl => ?_) H locs h ls (lv_sub hl [1, 0] rfl) hf
  refine g_iconst C (gdec kX3_allTeamsIdle 20 rfl) ?_
  exact g_zret C h (Or.inr rfl) (congrArg (Option.map (Prod.mk _)) hf) (gdec kX3_allTeamsIdle 21 rfl)
def f_X3_hoursUntilDelivered_L4 (o : Int) (p1 : Int) : Nat → GS → Int → Int → (GS → Int → Int → Option (GS × Int)) → Option (GS × Int)
  | 0, _, _, _, _ => none
  | n + 1, G, x2, x3, k => gd x2 (if x2 < 500 then gd x3 (if x3 = 0 then bn1 (f_X3_hasCome G o p1) (fun r5 => gd r5 (if r5 = 0 then bn1 (f_X3_allTeamsIdle G o) (fun r9 => bn1 (f_X3_passHour G o) (fun G11 => gd r9 (if r9 = 0 then f_X3_hoursUntilDelivered_L4 o p1 n G11 (x2 + 1) 0 k else bn1 (f_X3_allTeamsIdle G11 o) (fun r15 => gd r15 (if r15 = 0 then f_X3_hoursUntilDelivered_L4 o p1 n G11 (x2 + 1) 0 k else f_X3_hoursUntilDelivered_L4 o p1 n G11 (x2 + 1) 1 k))))) else k G x2 x3)) else k G x2 x3) else k G x2 x3)
def f_X3_hoursUntilDelivered (G : GS) (o : Int) (p1 : Int) : Option (GS × Int) :=
  f_X3_hoursUntilDelivered_L4 o p1 gFuel G 0 0 (fun G20 y2_19 y3_19 => bn1 (f_X3_hasCome G20 o p1) (fun r21 => gd r21 (if r21 = 0 then some (G20, (-1)) else some (G20, y2_19))))
set_option maxHeartbeats 4000000 in
set_option maxRecDepth 100000 in
theorem c_X3_hoursUntilDelivered (l : Launch) (E : gEnv) (G : GS) (o : Int) (p1 : Int) (ho : gOk E 3 o) (Gz : GS) (rz : Int) (hf : f_X3_hoursUntilDelivered G o p1 = some (Gz, rz)) : gMet l yX3_hoursUntilDelivered cX3_hoursUntilDelivered 5 (some .int) 5 113 0 0 [.ref (eA E 3 o), vI p1] E G (gQi E Gz rz) := by
  refine g_met (by decide +kernel) (Nat.le_of_ble_eq_true rfl) ?_
  intro p e s m below meth c C H locs h ls hl
  have C : gC p s m _ meth c RX3 cX3_hoursUntilDelivered 5 (some .int) E := C
  have hl : lv_has ls 5 [(0, .ref (eA E 3 o)), (1, vI p1)] := hl
  have L4 : ∀ (n : Nat) (G : GS) (x2 : Int) (x3 : Int) (k : (GS → Int → Int → Option (GS × Int))) (hK : ∀ (G : GS) (x2 : Int) (x3 : Int), k G x2 x3 = some (Gz, rz) → ∀ (H : Heap) (locs : List Loc), gH E s G H locs → ∀ ls, lv_has ls 5 [(0, .ref (eA E 3 o)), (1, vI p1), (2, vI x2), (3, vI x3)] → W p l e (gRm 5 113 0 0) s m ([.ref (eA E 3 o), vI p1] : List Value).toArray below meth c H locs 0 0 (MQ below (gQi E Gz rz) ([.ref (eA E 3 o), vI p1] : List Value).toArray s 0 0 (eF E)) (F0 m 57 ls [])), ∀ (H : Heap) (locs : List Loc), gH E s G H locs → ∀ ls, lv_has ls 5 [(0, .ref (eA E 3 o)), (1, vI p1), (2, vI x2), (3, vI x3)] → f_X3_hoursUntilDelivered_L4 o p1 n G x2 x3 k = some (Gz, rz) → W p l e (gRm 5 113 0 0) s m ([.ref (eA E 3 o), vI p1] : List Value).toArray below meth c H locs 0 0 (MQ below (gQi E Gz rz) ([.ref (eA E 3 o), vI p1] : List Value).toArray s 0 0 (eF E)) (F0 m 4 ls []) := by
    intro n
    induction n with
    | zero =>
      intro G x2 x3 k hK H locs h ls hl hf
      exact absurd hf (by simp [f_X3_hoursUntilDelivered_L4])
    | succ n ih =>
      intro G x2 x3 k hK H locs h ls hl hf
      unfold f_X3_hoursUntilDelivered_L4 at hf
      refine g_iload_n C hl 2 rfl rfl (gdec kX3_hoursUntilDelivered 4 rfl) ?_
      refine g_sipush C (gdec kX3_hoursUntilDelivered 5 rfl) rfl ?_
      obtain ⟨h1, hf⟩ := gd_s hf
      refine g_icmp_ge C (tgt := 57) h1 (by decide) (by decide) (gdec kX3_hoursUntilDelivered 6 rfl) (fun c2 => ?_) (fun c2 => ?_)
      · replace hf := ifp c2 hf
        refine g_iload_n C hl 3 rfl rfl (gdec kX3_hoursUntilDelivered 7 rfl) ?_
        obtain ⟨h3, hf⟩ := gd_s hf
        refine g_if_ne C (tgt := 57) h3 (by decide) (gdec kX3_hoursUntilDelivered 8 rfl) (fun c4 => ?_) (fun c4 => ?_)
        · replace hf := ifp c4 hf
          refine g_aload_n C hl 0 rfl rfl (gdec kX3_hoursUntilDelivered 9 rfl) ?_
          refine g_iload_n C hl 1 rfl rfl (gdec kX3_hoursUntilDelivered 10 rfl) ?_
          obtain ⟨r5, q6, hf⟩ := bn1_s hf
          refine g_ci h (g_runV C h ho (by decide) rfl (c_X3_hasCome l E _ _ _ ho _ q6) wM_X3_256 wI_X3_hasCome wS_X3_hasCome wN_X3 wC_X3_hasCome rfl ny_X3_hasCome rfl ⟨Nat.le_of_ble_eq_true rfl, Nat.le_of_ble_eq_true rfl⟩ hl.1 rfl (Nat.le_of_ble_eq_true rfl) (gdec kX3_hoursUntilDelivered 11 rfl) ⟨Nat.zero_le _, Nat.zero_le _⟩) (fun H locs h => ?_)
          obtain ⟨h7, hf⟩ := gd_s hf
          refine g_if_ne C (tgt := 57) h7 (by decide) (gdec kX3_hoursUntilDelivered 12 rfl) (fun c8 => ?_) (fun c8 => ?_)
          · replace hf := ifp c8 hf
            refine g_aload_n C hl 0 rfl rfl (gdec kX3_hoursUntilDelivered 13 rfl) ?_
            obtain ⟨r9, q10, hf⟩ := bn1_s hf
            refine g_ci h (g_runV C h ho (by decide) rfl (c_X3_allTeamsIdle l E _ _ ho _ q10) wM_X3_259 wI_X3_allTeamsIdle wS_X3_allTeamsIdle wN_X3 wC_X3_allTeamsIdle rfl ny_X3_allTeamsIdle rfl ⟨Nat.le_of_ble_eq_true rfl, Nat.le_of_ble_eq_true rfl⟩ hl.1 rfl (Nat.le_of_ble_eq_true rfl) (gdec kX3_hoursUntilDelivered 14 rfl) ⟨Nat.zero_le _, Nat.zero_le _⟩) (fun H locs h => ?_)
            refine g_istore C [(4, vI r9), (0, .ref (eA E 3 o)), (1, vI p1), (2, vI x2), (3, vI x3)] hl (by decide) rfl (gdec kX3_hoursUntilDelivered 15 rfl) (fun ls hl => ?_)
            refine g_aload_n C hl 1 rfl rfl (gdec kX3_hoursUntilDelivered 16 rfl) ?_
            obtain ⟨G11, q12, hf⟩ := bn1_s hf
            refine g_cv h (g_runV C h ho (by decide) rfl (c_X3_passHour l E _ _ ho _ q12) wM_X3_262 wI_X3_passHour wS_X3_passHour wN_X3 wC_X3_passHour rfl ny_X3_passHour rfl ⟨Nat.le_of_ble_eq_true rfl, Nat.le_of_ble_eq_true rfl⟩ hl.1 rfl (Nat.le_of_ble_eq_true rfl) (gdec kX3_hoursUntilDelivered 17 rfl) ⟨Nat.zero_le _, Nat.zero_le _⟩) (fun H locs h => ?_)
            refine g_iinc C (k := 3) [(2, vI (x2 + 1)), (4, vI r9), (0, .ref (eA E 3 o)), (1, vI p1), (3, vI x3)] hl rfl (by decide) rfl (gdec kX3_hoursUntilDelivered 18 rfl) (fun ls hl => ?_)
            refine g_iload C hl 1 rfl (gdec kX3_hoursUntilDelivered 19 rfl) ?_
            obtain ⟨h13, hf⟩ := gd_s hf
            refine g_if_eq C (tgt := 52) h13 (by decide) (gdec kX3_hoursUntilDelivered 20 rfl) (fun c14 => ?_) (fun c14 => ?_)
            · replace hf := ifp c14 hf
              refine g_iconst C (gdec kX3_hoursUntilDelivered 26 rfl) ?_
              refine g_istore_n C [(3, vI 0), (2, vI (x2 + 1)), (4, vI r9), (0, .ref (eA E 3 o)), (1, vI p1)] hl rfl (by decide) rfl (gdec kX3_hoursUntilDelivered 27 rfl) (fun ls hl => ?_)
              refine g_goto C (tgt := 4) (by decide) (gdec kX3_hoursUntilDelivered 28 rfl) ?_
              exact ih _ _ _ k hK H locs h ls (lv_sub hl [3, 4, 1, 0] rfl) hf
            · replace hf := ifn c14 hf
              refine g_aload_n C hl 2 rfl rfl (gdec kX3_hoursUntilDelivered 21 rfl) ?_
              obtain ⟨r15, q16, hf⟩ := bn1_s hf
              refine g_ci h (g_runV C h ho (by decide) rfl (c_X3_allTeamsIdle l E _ _ ho _ q16) wM_X3_259 wI_X3_allTeamsIdle wS_X3_allTeamsIdle wN_X3 wC_X3_allTeamsIdle rfl ny_X3_allTeamsIdle rfl ⟨Nat.le_of_ble_eq_true rfl, Nat.le_of_ble_eq_true rfl⟩ hl.1 rfl (Nat.le_of_ble_eq_true rfl) (gdec kX3_hoursUntilDelivered 22 rfl) ⟨Nat.zero_le _, Nat.zero_le _⟩) (fun H locs h => ?_)
              obtain ⟨h17, hf⟩ := gd_s hf
              refine g_if_eq C (tgt := 52) h17 (by decide) (gdec kX3_hoursUntilDelivered 23 rfl) (fun c18 => ?_) (fun c18 => ?_)
              · replace hf := ifp c18 hf
                refine g_iconst C (gdec kX3_hoursUntilDelivered 26 rfl) ?_
                refine g_istore_n C [(3, vI 0), (2, vI (x2 + 1)), (4, vI r9), (0, .ref (eA E 3 o)), (1, vI p1)] hl rfl (by decide) rfl (gdec kX3_hoursUntilDelivered 27 rfl) (fun ls hl => ?_)
                refine g_goto C (tgt := 4) (by decide) (gdec kX3_hoursUntilDelivered 28 rfl) ?_
                exact ih _ _ _ k hK H locs h ls (lv_sub hl [3, 4, 1, 0] rfl) hf
              · replace hf := ifn c18 hf
                refine g_iconst C (gdec kX3_hoursUntilDelivered 24 rfl) ?_
                refine g_goto C (tgt := 53) (by decide) (gdec kX3_hoursUntilDelivered 25 rfl) ?_
                refine g_istore_n C [(3, vI 1), (2, vI (x2 + 1)), (4, vI r9), (0, .ref (eA E 3 o)), (1, vI p1)] hl rfl (by decide) rfl (gdec kX3_hoursUntilDelivered 27 rfl) (fun ls hl => ?_)
                refine g_goto C (tgt := 4) (by decide) (gdec kX3_hoursUntilDelivered 28 rfl) ?_
                exact ih _ _ _ k hK H locs h ls (lv_sub hl [3, 4, 1, 0] rfl) hf
          · replace hf := ifn c8 hf
            exact hK _ _ _ hf H locs h ls (lv_sub hl [0, 1, 2, 3] rfl)
        · replace hf := ifn c4 hf
          exact hK _ _ _ hf H locs h ls (lv_sub hl [0, 1, 2, 3] rfl)
      · replace hf := ifn c2 hf
        exact hK _ _ _ hf H locs h ls (lv_sub hl [0, 1, 2, 3] rfl)
  unfold f_X3_hoursUntilDelivered at hf
  refine g_iconst C (gdec kX3_hoursUntilDelivered 0 rfl) ?_
  refine g_istore_n C [(2, vI 0), (0, .ref (eA E 3 o)), (1, vI p1)] hl rfl (by decide) rfl (gdec kX3_hoursUntilDelivered 1 rfl) (fun ls hl => ?_)
  refine g_iconst C (gdec kX3_hoursUntilDelivered 2 rfl) ?_
  refine g_istore_n C [(3, vI 0), (2, vI 0), (0, .ref (eA E 3 o)), (1, vI p1)] hl rfl (by decide) rfl (gdec kX3_hoursUntilDelivered 3 rfl) (fun ls hl => ?_)
  refine L4 gFuel _ _ _ _ (fun G20 y2_19 y3_19 hf H locs h ls hl => ?_) H locs h ls (lv_sub hl [2, 3, 1, 0] rfl) hf
  refine g_aload_n C hl 0 rfl rfl (gdec kX3_hoursUntilDelivered 29 rfl) ?_
  refine g_iload_n C hl 1 rfl rfl (gdec kX3_hoursUntilDelivered 30 rfl) ?_
  obtain ⟨r21, q22, hf⟩ := bn1_s hf
  refine g_ci h (g_runV C h ho (by decide) rfl (c_X3_hasCome l E _ _ _ ho _ q22) wM_X3_256 wI_X3_hasCome wS_X3_hasCome wN_X3 wC_X3_hasCome rfl ny_X3_hasCome rfl ⟨Nat.le_of_ble_eq_true rfl, Nat.le_of_ble_eq_true rfl⟩ hl.1 rfl (Nat.le_of_ble_eq_true rfl) (gdec kX3_hoursUntilDelivered 31 rfl) ⟨Nat.zero_le _, Nat.zero_le _⟩) (fun H locs h => ?_)
  obtain ⟨h23, hf⟩ := gd_s hf
  refine g_if_eq C (tgt := 69) h23 (by decide) (gdec kX3_hoursUntilDelivered 32 rfl) (fun c24 => ?_) (fun c24 => ?_)
  · replace hf := ifp c24 hf
    refine g_iconst C (gdec kX3_hoursUntilDelivered 35 rfl) ?_
    exact g_iret C h hf (gdec kX3_hoursUntilDelivered 36 rfl)
  · replace hf := ifn c24 hf
    refine g_iload_n C hl 2 rfl rfl (gdec kX3_hoursUntilDelivered 33 rfl) ?_
    refine g_goto C (tgt := 70) (by decide) (gdec kX3_hoursUntilDelivered 34 rfl) ?_
    exact g_iret C h hf (gdec kX3_hoursUntilDelivered 36 rfl)
def f_X7_hoursToAll (G : GS) : Option (GS × Int) :=
  bn1 (f_X3_copyFrom G 1 0) (fun G1 => bnd (f_X3_hoursUntilDelivered G1 1 (-1)) (fun G3 r4 => some (G3, r4)))
set_option maxHeartbeats 4000000 in
set_option maxRecDepth 100000 in
theorem c_X7_hoursToAll (l : Launch) (E : gEnv) (G : GS) (ho : gOk E 7 0) (Gz : GS) (rz : Int) (hf : f_X7_hoursToAll G = some (Gz, rz)) : gMet l yX7_hoursToAll cX7_hoursToAll 1 (some .int) 6 137 0 0 [.ref (eA E 7 0)] E G (gQi E Gz rz) := by
  refine g_met (by decide +kernel) (Nat.le_of_ble_eq_true rfl) ?_
  intro p e s m below meth c C H locs h ls hl
  have C : gC p s m _ meth c RX7 cX7_hoursToAll 1 (some .int) E := C
  have hl : lv_has ls 1 [(0, .ref (eA E 7 0))] := hl
  unfold f_X7_hoursToAll at hf
  refine g_aload_n C hl 0 rfl rfl (gdec kX7_hoursToAll 0 rfl) ?_
  refine gf_X7_16 C h ho (gdec kX7_hoursToAll 1 rfl) ?_
  refine g_aload_n C hl 0 rfl rfl (gdec kX7_hoursToAll 2 rfl) ?_
  refine gf_X7_12 C h ho (gdec kX7_hoursToAll 3 rfl) ?_
  obtain ⟨G1, q2, hf⟩ := bn1_s hf
  refine g_cv h (g_runV C h (gcl_7_1 C ho) (by decide) rfl (c_X3_copyFrom l E _ _ _ (gcl_7_1 C ho) (gcl_7_0 C ho) _ q2) wM_X7_143 wI_X3_copyFrom wS_X3_copyFrom wN_X3 wC_X3_copyFrom rfl ny_X3_copyFrom rfl ⟨Nat.le_of_ble_eq_true rfl, Nat.le_of_ble_eq_true rfl⟩ hl.1 rfl (Nat.le_of_ble_eq_true rfl) (gdec kX7_hoursToAll 4 rfl) ⟨Nat.zero_le _, Nat.zero_le _⟩) (fun H locs h => ?_)
  refine g_aload_n C hl 0 rfl rfl (gdec kX7_hoursToAll 5 rfl) ?_
  refine gf_X7_16 C h ho (gdec kX7_hoursToAll 6 rfl) ?_
  refine g_iconst C (gdec kX7_hoursToAll 7 rfl) ?_
  obtain ⟨G3, r4, q5, hf⟩ := bnd_s hf
  refine g_ci h (g_runV C h (gcl_7_1 C ho) (by decide) rfl (c_X3_hoursUntilDelivered l E _ _ _ (gcl_7_1 C ho) _ _ q5) wM_X7_146 wI_X3_hoursUntilDelivered wS_X3_hoursUntilDelivered wN_X3 wC_X3_hoursUntilDelivered rfl ny_X3_hoursUntilDelivered rfl ⟨Nat.le_of_ble_eq_true rfl, Nat.le_of_ble_eq_true rfl⟩ hl.1 rfl (Nat.le_of_ble_eq_true rfl) (gdec kX7_hoursToAll 8 rfl) ⟨Nat.zero_le _, Nat.zero_le _⟩) (fun H locs h => ?_)
  exact g_iret C h hf (gdec kX7_hoursToAll 9 rfl)
def f_X4_add (G : GS) (p1 : Int) : Option (GS × Int) :=
  gd (G 4 0 1) (if (G 4 0 1) < 90 then ga (G 4 0 1) 90 (gy p1 (some ((gup (gup G 9 0 (G 4 0 1) p1) 4 0 1 (((gup G 9 0 (G 4 0 1) p1) 4 0 1) + 1)), 1))) else some (G, 0))
set_option maxHeartbeats 4000000 in
set_option maxRecDepth 100000 in
theorem c_X4_add (l : Launch) (E : gEnv) (G : GS) (p1 : Int) (ho : gOk E 4 0) (Gz : GS) (rz : Int) (hf : f_X4_add G p1 = some (Gz, rz)) : gMet l yX4_add cX4_add 2 (some .boolean) 0 0 0 0 [.ref (eA E 4 0), vI p1] E G (gQi E Gz rz) := by
  refine g_met (by decide +kernel) (Nat.le_of_ble_eq_true rfl) ?_
  intro p e s m below meth c C H locs h ls hl
  have C : gC p s m _ meth c RX4 cX4_add 2 (some .boolean) E := C
  have hl : lv_has ls 2 [(0, .ref (eA E 4 0)), (1, vI p1)] := hl
  unfold f_X4_add at hf
  refine g_aload_n C hl 0 rfl rfl (gdec kX4_add 0 rfl) ?_
  refine gf_X4_15 C h ho (gdec kX4_add 1 rfl) ?_
  refine g_bipush C (gdec kX4_add 2 rfl) rfl ?_
  obtain ⟨h1, hf⟩ := gd_s hf
  refine g_icmp_lt C (tgt := 11) h1 (by decide) (by decide) (gdec kX4_add 3 rfl) (fun c2 => ?_) (fun c2 => ?_)
  · replace hf := ifp c2 hf
    refine g_aload_n C hl 0 rfl rfl (gdec kX4_add 6 rfl) ?_
    refine gf_X4_9 C h ho (gdec kX4_add 7 rfl) ?_
    refine g_aload_n C hl 0 rfl rfl (gdec kX4_add 8 rfl) ?_
    refine gf_X4_15 C h ho (gdec kX4_add 9 rfl) ?_
    refine g_iload_n C hl 1 rfl rfl (gdec kX4_add 10 rfl) ?_
    obtain ⟨h3, hf⟩ := ga_s hf
    obtain ⟨h4, hf⟩ := gy_s hf
    refine g_bast C h (gcl_4_0 C ho) (n := 90) rfl (by decide) h3 h4 (gdec kX4_add 11 rfl) (fun H locs h => ?_)
    refine g_aload_n C hl 0 rfl rfl (gdec kX4_add 12 rfl) ?_
    refine g_dup C rfl (gdec kX4_add 13 rfl) ?_
    refine gf_X4_15 C h ho (gdec kX4_add 14 rfl) ?_
    refine g_iconst C (gdec kX4_add 15 rfl) ?_
    refine g_iadd C (gdec kX4_add 16 rfl) ?_
    refine gp_X4_15 C h ho (gdec kX4_add 17 rfl) (fun H locs h => ?_)
    refine g_iconst C (gdec kX4_add 18 rfl) ?_
    exact g_zret C h (Or.inr rfl) hf (gdec kX4_add 19 rfl)
  · replace hf := ifn c2 hf
    refine g_iconst C (gdec kX4_add 4 rfl) ?_
    exact g_zret C h (Or.inl rfl) hf (gdec kX4_add 5 rfl)
def f_X7_append (G : GS) (p1 : Int) : Option (GS × (Int × Int)) :=
  bn1 (f_X7_checkRange G p1 0 127) (fun x1 => if x1 = 0 then gy p1 (bnd (f_X4_add G p1) (fun G4 r5 => gd r5 (if r5 = 0 then some (G4, (3, 0)) else some (G4, (0, G4 4 0 1))))) else some (G, (x1, 0)))
set_option maxHeartbeats 4000000 in
set_option maxRecDepth 100000 in
theorem c_X7_append (l : Launch) (E : gEnv) (G : GS) (p1 : Int) (ho : gOk E 7 0) (Gz : GS) (rz : Int) (hf : f_X7_append G p1 = some (Gz, (0, rz))) : gMet l yX7_append cX7_append 2 (some .int) 1 22 0 0 [.ref (eA E 7 0), vI p1] E G (gQi E Gz rz) := by
  refine g_met (by decide +kernel) (Nat.le_of_ble_eq_true rfl) ?_
  intro p e s m below meth c C H locs h ls hl
  have C : gC p s m _ meth c RX7 cX7_append 2 (some .int) E := C
  have hl : lv_has ls 2 [(0, .ref (eA E 7 0)), (1, vI p1)] := hl
  unfold f_X7_append at hf
  refine g_iload_n C hl 1 rfl rfl (gdec kX7_append 0 rfl) ?_
  refine g_iconst C (gdec kX7_append 1 rfl) ?_
  refine g_bipush C (gdec kX7_append 2 rfl) rfl ?_
  obtain ⟨x1, q2, hf⟩ := bn1_s hf
  by_cases hx : x1 = 0
  rotate_left
  · exact absurd (ifn hx hf) (gx_nw hx)
  · subst hx
    replace hf := ifp rfl hf
    refine g_cv h (g_runS C h (c_X7_checkRange l E _ _ _ _ q2) wM_X7_41 wT_X7_checkRange wN_X7 wC_X7_checkRange rfl ny_X7_checkRange rfl ⟨Nat.le_of_ble_eq_true rfl, Nat.le_of_ble_eq_true rfl⟩ hl.1 rfl (Nat.le_of_ble_eq_true rfl) (gdec kX7_append 3 rfl) ⟨Nat.zero_le _, Nat.zero_le _⟩) (fun H locs h => ?_)
    refine g_aload_n C hl 0 rfl rfl (gdec kX7_append 4 rfl) ?_
    refine gf_X7_29 C h ho (gdec kX7_append 5 rfl) ?_
    refine g_iload_n C hl 1 rfl rfl (gdec kX7_append 6 rfl) ?_
    obtain ⟨h3, hf⟩ := gy_s hf
    refine g_i2b C h3 (gdec kX7_append 7 rfl) ?_
    obtain ⟨G4, r5, q6, hf⟩ := bnd_s hf
    refine g_ci h (g_runV C h (gcl_7_3 C ho) (by decide) rfl (c_X4_add l E _ _ (gcl_7_3 C ho) _ _ q6) wM_X7_172 wI_X4_add wS_X4_add wN_X4 wC_X4_add rfl ny_X4_add rfl ⟨Nat.le_of_ble_eq_true rfl, Nat.le_of_ble_eq_true rfl⟩ hl.1 rfl (Nat.le_of_ble_eq_true rfl) (gdec kX7_append 8 rfl) ⟨Nat.zero_le _, Nat.zero_le _⟩) (fun H locs h => ?_)
    obtain ⟨h7, hf⟩ := gd_s hf
    refine g_if_ne C (tgt := 29) h7 (by decide) (gdec kX7_append 9 rfl) (fun c8 => ?_) (fun c8 => ?_)
    · replace hf := ifp c8 hf
      exact absurd hf (gx_nw (by decide))
    · replace hf := ifn c8 hf
      refine g_aload_n C hl 0 rfl rfl (gdec kX7_append 15 rfl) ?_
      refine gf_X7_29 C h ho (gdec kX7_append 16 rfl) ?_
      refine gf_X7_178 C h (gcl_7_3 C ho) (gdec kX7_append 17 rfl) ?_
      exact g_iret C h (gx_w hf) (gdec kX7_append 18 rfl)
def f_X4_here (G : GS) : Option (Int) :=
  gd (G 4 0 2) (gd (G 4 0 1) (if (G 4 0 2) < (G 4 0 1) then ga (G 4 0 2) 90 (some (G 9 0 (G 4 0 2))) else some (-1)))
set_option maxHeartbeats 4000000 in
set_option maxRecDepth 100000 in
theorem c_X4_here (l : Launch) (E : gEnv) (G : GS) (ho : gOk E 4 0) (rz : Int) (hf : f_X4_here G = some rz) : gMet l yX4_here cX4_here 1 (some .int) 0 0 0 0 [.ref (eA E 4 0)] E G (gQi E G rz) := by
  refine g_met (by decide +kernel) (Nat.le_of_ble_eq_true rfl) ?_
  intro p e s m below meth c C H locs h ls hl
  have C : gC p s m _ meth c RX4 cX4_here 1 (some .int) E := C
  have hl : lv_has ls 1 [(0, .ref (eA E 4 0))] := hl
  unfold f_X4_here at hf
  refine g_aload_n C hl 0 rfl rfl (gdec kX4_here 0 rfl) ?_
  refine gf_X4_19 C h ho (gdec kX4_here 1 rfl) ?_
  refine g_aload_n C hl 0 rfl rfl (gdec kX4_here 2 rfl) ?_
  refine gf_X4_15 C h ho (gdec kX4_here 3 rfl) ?_
  obtain ⟨h1, hf⟩ := gd_s hf
  obtain ⟨h2, hf⟩ := gd_s hf
  refine g_icmp_ge C (tgt := 23) h1 h2 (by decide) (gdec kX4_here 4 rfl) (fun c3 => ?_) (fun c3 => ?_)
  · replace hf := ifp c3 hf
    refine g_aload_n C hl 0 rfl rfl (gdec kX4_here 5 rfl) ?_
    refine gf_X4_9 C h ho (gdec kX4_here 6 rfl) ?_
    refine g_aload_n C hl 0 rfl rfl (gdec kX4_here 7 rfl) ?_
    refine gf_X4_19 C h ho (gdec kX4_here 8 rfl) ?_
    obtain ⟨h4, hf⟩ := ga_s hf
    refine g_bald C h (gcl_4_0 C ho) (n := 90) rfl (by decide) h4 (gdec kX4_here 9 rfl) ?_
    refine g_goto C (tgt := 24) (by decide) (gdec kX4_here 10 rfl) ?_
    exact g_iret C h (congrArg (Option.map (Prod.mk _)) hf) (gdec kX4_here 12 rfl)
  · replace hf := ifn c3 hf
    refine g_iconst C (gdec kX4_here 11 rfl) ?_
    exact g_iret C h (congrArg (Option.map (Prod.mk _)) hf) (gdec kX4_here 12 rfl)
def f_X4_digitStands (G : GS) (p1 : Int) : Option (Int) :=
  bn1 (f_X4_here G) (fun r1 => gd r1 (if r1 < 49 then some 0 else bn1 (f_X4_here G) (fun r5 => gd r5 (gd (48 + p1) (if (48 + p1) < r5 then some 0 else some 1)))))
set_option maxHeartbeats 4000000 in
set_option maxRecDepth 100000 in
theorem c_X4_digitStands (l : Launch) (E : gEnv) (G : GS) (p1 : Int) (ho : gOk E 4 0) (rz : Int) (hf : f_X4_digitStands G p1 = some rz) : gMet l yX4_digitStands cX4_digitStands 2 (some .boolean) 1 20 0 0 [.ref (eA E 4 0), vI p1] E G (gQi E G rz) := by
  refine g_met (by decide +kernel) (Nat.le_of_ble_eq_true rfl) ?_
  intro p e s m below meth c C H locs h ls hl
  have C : gC p s m _ meth c RX4 cX4_digitStands 2 (some .boolean) E := C
  have hl : lv_has ls 2 [(0, .ref (eA E 4 0)), (1, vI p1)] := hl
  unfold f_X4_digitStands at hf
  refine g_aload_n C hl 0 rfl rfl (gdec kX4_digitStands 0 rfl) ?_
  obtain ⟨r1, q2, hf⟩ := bn1_s hf
  refine g_ci h (g_runV C h ho (by decide) rfl (c_X4_here l E _ ho _ q2) wM_X4_53 wI_X4_here wS_X4_here wN_X4 wC_X4_here rfl ny_X4_here rfl ⟨Nat.le_of_ble_eq_true rfl, Nat.le_of_ble_eq_true rfl⟩ hl.1 rfl (Nat.le_of_ble_eq_true rfl) (gdec kX4_digitStands 1 rfl) ⟨Nat.zero_le _, Nat.zero_le _⟩) (fun H locs h => ?_)
  refine g_bipush C (gdec kX4_digitStands 2 rfl) rfl ?_
  obtain ⟨h3, hf⟩ := gd_s hf
  refine g_icmp_lt C (tgt := 24) h3 (by decide) (by decide) (gdec kX4_digitStands 3 rfl) (fun c4 => ?_) (fun c4 => ?_)
  · replace hf := ifp c4 hf
    refine g_iconst C (gdec kX4_digitStands 12 rfl) ?_
    exact g_zret C h (Or.inl rfl) (congrArg (Option.map (Prod.mk _)) hf) (gdec kX4_digitStands 13 rfl)
  · replace hf := ifn c4 hf
    refine g_aload_n C hl 0 rfl rfl (gdec kX4_digitStands 4 rfl) ?_
    obtain ⟨r5, q6, hf⟩ := bn1_s hf
    refine g_ci h (g_runV C h ho (by decide) rfl (c_X4_here l E _ ho _ q6) wM_X4_53 wI_X4_here wS_X4_here wN_X4 wC_X4_here rfl ny_X4_here rfl ⟨Nat.le_of_ble_eq_true rfl, Nat.le_of_ble_eq_true rfl⟩ hl.1 rfl (Nat.le_of_ble_eq_true rfl) (gdec kX4_digitStands 5 rfl) ⟨Nat.zero_le _, Nat.zero_le _⟩) (fun H locs h => ?_)
    refine g_bipush C (gdec kX4_digitStands 6 rfl) rfl ?_
    refine g_iload_n C hl 1 rfl rfl (gdec kX4_digitStands 7 rfl) ?_
    refine g_iadd C (gdec kX4_digitStands 8 rfl) ?_
    obtain ⟨h7, hf⟩ := gd_s hf
    obtain ⟨h8, hf⟩ := gd_s hf
    refine g_icmp_gt C (tgt := 24) h7 h8 (by decide) (gdec kX4_digitStands 9 rfl) (fun c9 => ?_) (fun c9 => ?_)
    · replace hf := ifp c9 hf
      refine g_iconst C (gdec kX4_digitStands 12 rfl) ?_
      exact g_zret C h (Or.inl rfl) (congrArg (Option.map (Prod.mk _)) hf) (gdec kX4_digitStands 13 rfl)
    · replace hf := ifn c9 hf
      refine g_iconst C (gdec kX4_digitStands 10 rfl) ?_
      refine g_goto C (tgt := 25) (by decide) (gdec kX4_digitStands 11 rfl) ?_
      exact g_zret C h (Or.inr rfl) (congrArg (Option.map (Prod.mk _)) hf) (gdec kX4_digitStands 13 rfl)
def f_X4_takeDigit (G : GS) : Option (GS × Int) :=
  bn1 (f_X4_here G) (fun r1 => some ((gup G 4 0 2 ((G 4 0 2) + 1)), r1 - 48))
set_option maxHeartbeats 4000000 in
set_option maxRecDepth 100000 in
theorem c_X4_takeDigit (l : Launch) (E : gEnv) (G : GS) (ho : gOk E 4 0) (Gz : GS) (rz : Int) (hf : f_X4_takeDigit G = some (Gz, rz)) : gMet l yX4_takeDigit cX4_takeDigit 2 (some .int) 1 20 0 0 [.ref (eA E 4 0)] E G (gQi E Gz rz) := by
  refine g_met (by decide +kernel) (Nat.le_of_ble_eq_true rfl) ?_
  intro p e s m below meth c C H locs h ls hl
  have C : gC p s m _ meth c RX4 cX4_takeDigit 2 (some .int) E := C
  have hl : lv_has ls 2 [(0, .ref (eA E 4 0))] := hl
  unfold f_X4_takeDigit at hf
  refine g_aload_n C hl 0 rfl rfl (gdec kX4_takeDigit 0 rfl) ?_
  obtain ⟨r1, q2, hf⟩ := bn1_s hf
  refine g_ci h (g_runV C h ho (by decide) rfl (c_X4_here l E _ ho _ q2) wM_X4_53 wI_X4_here wS_X4_here wN_X4 wC_X4_here rfl ny_X4_here rfl ⟨Nat.le_of_ble_eq_true rfl, Nat.le_of_ble_eq_true rfl⟩ hl.1 rfl (Nat.le_of_ble_eq_true rfl) (gdec kX4_takeDigit 1 rfl) ⟨Nat.zero_le _, Nat.zero_le _⟩) (fun H locs h => ?_)
  refine g_bipush C (gdec kX4_takeDigit 2 rfl) rfl ?_
  refine g_isub C (gdec kX4_takeDigit 3 rfl) ?_
  refine g_istore_n C [(1, vI (r1 - 48)), (0, .ref (eA E 4 0))] hl rfl (by decide) rfl (gdec kX4_takeDigit 4 rfl) (fun ls hl => ?_)
  refine g_aload_n C hl 1 rfl rfl (gdec kX4_takeDigit 5 rfl) ?_
  refine g_dup C rfl (gdec kX4_takeDigit 6 rfl) ?_
  refine gf_X4_19 C h ho (gdec kX4_takeDigit 7 rfl) ?_
  refine g_iconst C (gdec kX4_takeDigit 8 rfl) ?_
  refine g_iadd C (gdec kX4_takeDigit 9 rfl) ?_
  refine gp_X4_19 C h ho (gdec kX4_takeDigit 10 rfl) (fun H locs h => ?_)
  refine g_iload_n C hl 0 rfl rfl (gdec kX4_takeDigit 11 rfl) ?_
  exact g_iret C h hf (gdec kX4_takeDigit 12 rfl)
def f_X4_signStands (G : GS) (p1 : Int) : Option (Int) :=
  bn1 (f_X4_here G) (fun r1 => gd r1 (gd p1 (if r1 = p1 then some 1 else some 0)))
set_option maxHeartbeats 4000000 in
set_option maxRecDepth 100000 in
theorem c_X4_signStands (l : Launch) (E : gEnv) (G : GS) (p1 : Int) (ho : gOk E 4 0) (rz : Int) (hf : f_X4_signStands G p1 = some rz) : gMet l yX4_signStands cX4_signStands 2 (some .boolean) 1 20 0 0 [.ref (eA E 4 0), vI p1] E G (gQi E G rz) := by
  refine g_met (by decide +kernel) (Nat.le_of_ble_eq_true rfl) ?_
  intro p e s m below meth c C H locs h ls hl
  have C : gC p s m _ meth c RX4 cX4_signStands 2 (some .boolean) E := C
  have hl : lv_has ls 2 [(0, .ref (eA E 4 0)), (1, vI p1)] := hl
  unfold f_X4_signStands at hf
  refine g_aload_n C hl 0 rfl rfl (gdec kX4_signStands 0 rfl) ?_
  obtain ⟨r1, q2, hf⟩ := bn1_s hf
  refine g_ci h (g_runV C h ho (by decide) rfl (c_X4_here l E _ ho _ q2) wM_X4_53 wI_X4_here wS_X4_here wN_X4 wC_X4_here rfl ny_X4_here rfl ⟨Nat.le_of_ble_eq_true rfl, Nat.le_of_ble_eq_true rfl⟩ hl.1 rfl (Nat.le_of_ble_eq_true rfl) (gdec kX4_signStands 1 rfl) ⟨Nat.zero_le _, Nat.zero_le _⟩) (fun H locs h => ?_)
  refine g_iload_n C hl 1 rfl rfl (gdec kX4_signStands 2 rfl) ?_
  obtain ⟨h3, hf⟩ := gd_s hf
  obtain ⟨h4, hf⟩ := gd_s hf
  refine g_icmp_ne C (tgt := 12) h3 h4 (by decide) (gdec kX4_signStands 3 rfl) (fun c5 => ?_) (fun c5 => ?_)
  · replace hf := ifp c5 hf
    refine g_iconst C (gdec kX4_signStands 4 rfl) ?_
    refine g_goto C (tgt := 13) (by decide) (gdec kX4_signStands 5 rfl) ?_
    exact g_zret C h (Or.inr rfl) (congrArg (Option.map (Prod.mk _)) hf) (gdec kX4_signStands 7 rfl)
  · replace hf := ifn c5 hf
    refine g_iconst C (gdec kX4_signStands 6 rfl) ?_
    exact g_zret C h (Or.inl rfl) (congrArg (Option.map (Prod.mk _)) hf) (gdec kX4_signStands 7 rfl)
def f_X4_readStage (G : GS) (p1 : Int) : Option (GS × Int) :=
  bn1 (f_X4_digitStands G 9) (fun r1 => gd r1 (if r1 = 0 then some (G, 0) else bnd (f_X4_takeDigit G) (fun G5 r6 => bn1 (f_X4_signStands G5 43) (fun r8 => gd r8 (if r8 = 0 then bn1 (f_X4_signStands G5 45) (fun r12 => gd r12 (if r12 = 0 then bn1 (f_X4_signStands G5 59) (fun r16 => gd r16 (if r16 = 0 then some (G5, 0) else bn1 (f_X5_set (gup G5 4 0 2 ((G5 4 0 2) + 1)) p1 r6 0 0) (fun G20 => some (G20, 1)))) else bn1 (f_X4_signStands G5 43) (fun r22 => gd r22 (if r22 = 0 then bn1 (f_X4_digitStands (gup G5 4 0 2 ((G5 4 0 2) + 1)) 5) (fun r26 => gd r26 (if r26 = 0 then some ((gup G5 4 0 2 ((G5 4 0 2) + 1)), 0) else bnd (f_X4_takeDigit (gup G5 4 0 2 ((G5 4 0 2) + 1))) (fun G30 r31 => bn1 (f_X4_signStands G30 59) (fun r33 => gd r33 (if r33 = 0 then some (G30, 0) else bn1 (f_X5_set (gup G30 4 0 2 ((G30 4 0 2) + 1)) p1 r6 ((-1) * r31) 0) (fun G37 => some (G37, 1))))))) else bn1 (f_X4_digitStands (gup G5 4 0 2 ((G5 4 0 2) + 1)) 5) (fun r39 => gd r39 (if r39 = 0 then some ((gup G5 4 0 2 ((G5 4 0 2) + 1)), 0) else bnd (f_X4_takeDigit (gup G5 4 0 2 ((G5 4 0 2) + 1))) (fun G43 r44 => bn1 (f_X4_signStands G43 59) (fun r46 => gd r46 (if r46 = 0 then some (G43, 0) else bn1 (f_X5_set (gup G43 4 0 2 ((G43 4 0 2) + 1)) p1 r6 (1 * r44) 0) (fun G50 => some (G50, 1))))))))))) else bn1 (f_X4_signStands G5 43) (fun r52 => gd r52 (if r52 = 0 then bn1 (f_X4_digitStands (gup G5 4 0 2 ((G5 4 0 2) + 1)) 5) (fun r56 => gd r56 (if r56 = 0 then some ((gup G5 4 0 2 ((G5 4 0 2) + 1)), 0) else bnd (f_X4_takeDigit (gup G5 4 0 2 ((G5 4 0 2) + 1))) (fun G60 r61 => bn1 (f_X4_signStands G60 59) (fun r63 => gd r63 (if r63 = 0 then some (G60, 0) else bn1 (f_X5_set (gup G60 4 0 2 ((G60 4 0 2) + 1)) p1 r6 ((-1) * r61) 0) (fun G67 => some (G67, 1))))))) else bn1 (f_X4_digitStands (gup G5 4 0 2 ((G5 4 0 2) + 1)) 5) (fun r69 => gd r69 (if r69 = 0 then some ((gup G5 4 0 2 ((G5 4 0 2) + 1)), 0) else bnd (f_X4_takeDigit (gup G5 4 0 2 ((G5 4 0 2) + 1))) (fun G73 r74 => bn1 (f_X4_signStands G73 59) (fun r76 => gd r76 (if r76 = 0 then some (G73, 0) else bn1 (f_X5_set (gup G73 4 0 2 ((G73 4 0 2) + 1)) p1 r6 (1 * r74) 0) (fun G80 => some (G80, 1))))))))))))))
set_option maxHeartbeats 4000000 in
set_option maxRecDepth 100000 in
theorem c_X4_readStage (l : Launch) (E : gEnv) (G : GS) (p1 : Int) (ho : gOk E 4 0) (hp1 : gOk E 5 p1) (Gz : GS) (rz : Int) (hf : f_X4_readStage G p1 = some (Gz, rz)) : gMet l yX4_readStage cX4_readStage 5 (some .boolean) 2 41 0 0 [.ref (eA E 4 0), .ref (eA E 5 p1)] E G (gQi E Gz rz) := by
  refine g_met (by decide +kernel) (Nat.le_of_ble_eq_true rfl) ?_
  intro p e s m below meth c C H locs h ls hl
  have C : gC p s m _ meth c RX4 cX4_readStage 5 (some .boolean) E := C
  have hl : lv_has ls 5 [(0, .ref (eA E 4 0)), (1, .ref (eA E 5 p1))] := hl
  unfold f_X4_readStage at hf
  refine g_aload_n C hl 0 rfl rfl (gdec kX4_readStage 0 rfl) ?_
  refine g_bipush C (gdec kX4_readStage 1 rfl) rfl ?_
  obtain ⟨r1, q2, hf⟩ := bn1_s hf
  refine g_ci h (g_runV C h ho (by decide) rfl (c_X4_digitStands l E _ _ ho _ q2) wM_X4_35 wI_X4_digitStands wS_X4_digitStands wN_X4 wC_X4_digitStands rfl ny_X4_digitStands rfl ⟨Nat.le_of_ble_eq_true rfl, Nat.le_of_ble_eq_true rfl⟩ hl.1 rfl (Nat.le_of_ble_eq_true rfl) (gdec kX4_readStage 2 rfl) ⟨Nat.zero_le _, Nat.zero_le _⟩) (fun H locs h => ?_)
  obtain ⟨h3, hf⟩ := gd_s hf
  refine g_if_ne C (tgt := 11) h3 (by decide) (gdec kX4_readStage 3 rfl) (fun c4 => ?_) (fun c4 => ?_)
  · replace hf := ifp c4 hf
    refine g_iconst C (gdec kX4_readStage 4 rfl) ?_
    exact g_zret C h (Or.inl rfl) hf (gdec kX4_readStage 5 rfl)
  · replace hf := ifn c4 hf
    refine g_aload_n C hl 0 rfl rfl (gdec kX4_readStage 6 rfl) ?_
    obtain ⟨G5, r6, q7, hf⟩ := bnd_s hf
    refine g_ci h (g_runV C h ho (by decide) rfl (c_X4_takeDigit l E _ ho _ _ q7) wM_X4_39 wI_X4_takeDigit wS_X4_takeDigit wN_X4 wC_X4_takeDigit rfl ny_X4_takeDigit rfl ⟨Nat.le_of_ble_eq_true rfl, Nat.le_of_ble_eq_true rfl⟩ hl.1 rfl (Nat.le_of_ble_eq_true rfl) (gdec kX4_readStage 7 rfl) ⟨Nat.zero_le _, Nat.zero_le _⟩) (fun H locs h => ?_)
    refine g_istore_n C [(2, vI r6), (0, .ref (eA E 4 0)), (1, .ref (eA E 5 p1))] hl rfl (by decide) rfl (gdec kX4_readStage 8 rfl) (fun ls hl => ?_)
    refine g_iconst C (gdec kX4_readStage 9 rfl) ?_
    refine g_istore_n C [(3, vI 0), (2, vI r6), (0, .ref (eA E 4 0)), (1, .ref (eA E 5 p1))] hl rfl (by decide) rfl (gdec kX4_readStage 10 rfl) (fun ls hl => ?_)
    refine g_aload_n C hl 2 rfl rfl (gdec kX4_readStage 11 rfl) ?_
    refine g_bipush C (gdec kX4_readStage 12 rfl) rfl ?_
    obtain ⟨r8, q9, hf⟩ := bn1_s hf
    refine g_ci h (g_runV C h ho (by decide) rfl (c_X4_signStands l E _ _ ho _ q9) wM_X4_43 wI_X4_signStands wS_X4_signStands wN_X4 wC_X4_signStands rfl ny_X4_signStands rfl ⟨Nat.le_of_ble_eq_true rfl, Nat.le_of_ble_eq_true rfl⟩ hl.1 rfl (Nat.le_of_ble_eq_true rfl) (gdec kX4_readStage 13 rfl) ⟨Nat.zero_le _, Nat.zero_le _⟩) (fun H locs h => ?_)
    obtain ⟨h10, hf⟩ := gd_s hf
    refine g_if_ne C (tgt := 36) h10 (by decide) (gdec kX4_readStage 14 rfl) (fun c11 => ?_) (fun c11 => ?_)
    · replace hf := ifp c11 hf
      refine g_aload_n C hl 2 rfl rfl (gdec kX4_readStage 15 rfl) ?_
      refine g_bipush C (gdec kX4_readStage 16 rfl) rfl ?_
      obtain ⟨r12, q13, hf⟩ := bn1_s hf
      refine g_ci h (g_runV C h ho (by decide) rfl (c_X4_signStands l E _ _ ho _ q13) wM_X4_43 wI_X4_signStands wS_X4_signStands wN_X4 wC_X4_signStands rfl ny_X4_signStands rfl ⟨Nat.le_of_ble_eq_true rfl, Nat.le_of_ble_eq_true rfl⟩ hl.1 rfl (Nat.le_of_ble_eq_true rfl) (gdec kX4_readStage 17 rfl) ⟨Nat.zero_le _, Nat.zero_le _⟩) (fun H locs h => ?_)
      obtain ⟨h14, hf⟩ := gd_s hf
      refine g_if_eq C (tgt := 80) h14 (by decide) (gdec kX4_readStage 18 rfl) (fun c15 => ?_) (fun c15 => ?_)
      · replace hf := ifp c15 hf
        refine g_aload_n C hl 2 rfl rfl (gdec kX4_readStage 44 rfl) ?_
        refine g_bipush C (gdec kX4_readStage 45 rfl) rfl ?_
        obtain ⟨r16, q17, hf⟩ := bn1_s hf
        refine g_ci h (g_runV C h ho (by decide) rfl (c_X4_signStands l E _ _ ho _ q17) wM_X4_43 wI_X4_signStands wS_X4_signStands wN_X4 wC_X4_signStands rfl ny_X4_signStands rfl ⟨Nat.le_of_ble_eq_true rfl, Nat.le_of_ble_eq_true rfl⟩ hl.1 rfl (Nat.le_of_ble_eq_true rfl) (gdec kX4_readStage 46 rfl) ⟨Nat.zero_le _, Nat.zero_le _⟩) (fun H locs h => ?_)
        obtain ⟨h18, hf⟩ := gd_s hf
        refine g_if_ne C (tgt := 91) h18 (by decide) (gdec kX4_readStage 47 rfl) (fun c19 => ?_) (fun c19 => ?_)
        · replace hf := ifp c19 hf
          refine g_iconst C (gdec kX4_readStage 48 rfl) ?_
          exact g_zret C h (Or.inl rfl) hf (gdec kX4_readStage 49 rfl)
        · replace hf := ifn c19 hf
          refine g_aload_n C hl 2 rfl rfl (gdec kX4_readStage 50 rfl) ?_
          refine g_dup C rfl (gdec kX4_readStage 51 rfl) ?_
          refine gf_X4_19 C h ho (gdec kX4_readStage 52 rfl) ?_
          refine g_iconst C (gdec kX4_readStage 53 rfl) ?_
          refine g_iadd C (gdec kX4_readStage 54 rfl) ?_
          refine gp_X4_19 C h ho (gdec kX4_readStage 55 rfl) (fun H locs h => ?_)
          refine g_aload_n C hl 3 rfl rfl (gdec kX4_readStage 56 rfl) ?_
          refine g_iload_n C hl 1 rfl rfl (gdec kX4_readStage 57 rfl) ?_
          refine g_iload_n C hl 0 rfl rfl (gdec kX4_readStage 58 rfl) ?_
          refine g_iconst C (gdec kX4_readStage 59 rfl) ?_
          obtain ⟨G20, q21, hf⟩ := bn1_s hf
          refine g_cv h (g_runV C h hp1 (by decide) rfl (c_X5_set l E _ _ _ _ _ hp1 _ q21) wM_X4_47 wI_X5_set wS_X5_set wN_X5 wC_X5_set rfl ny_X5_set rfl ⟨Nat.le_of_ble_eq_true rfl, Nat.le_of_ble_eq_true rfl⟩ hl.1 rfl (Nat.le_of_ble_eq_true rfl) (gdec kX4_readStage_1 0 rfl) ⟨Nat.zero_le _, Nat.zero_le _⟩) (fun H locs h => ?_)
          refine g_iconst C (gdec kX4_readStage_1 1 rfl) ?_
          exact g_zret C h (Or.inr rfl) hf (gdec kX4_readStage_1 2 rfl)
      · replace hf := ifn c15 hf
        refine g_aload_n C hl 2 rfl rfl (gdec kX4_readStage 19 rfl) ?_
        refine g_bipush C (gdec kX4_readStage 20 rfl) rfl ?_
        obtain ⟨r22, q23, hf⟩ := bn1_s hf
        refine g_ci h (g_runV C h ho (by decide) rfl (c_X4_signStands l E _ _ ho _ q23) wM_X4_43 wI_X4_signStands wS_X4_signStands wN_X4 wC_X4_signStands rfl ny_X4_signStands rfl ⟨Nat.le_of_ble_eq_true rfl, Nat.le_of_ble_eq_true rfl⟩ hl.1 rfl (Nat.le_of_ble_eq_true rfl) (gdec kX4_readStage 21 rfl) ⟨Nat.zero_le _, Nat.zero_le _⟩) (fun H locs h => ?_)
        obtain ⟨h24, hf⟩ := gd_s hf
        refine g_if_eq C (tgt := 49) h24 (by decide) (gdec kX4_readStage 22 rfl) (fun c25 => ?_) (fun c25 => ?_)
        · replace hf := ifp c25 hf
          refine g_iconst C (gdec kX4_readStage 25 rfl) ?_
          refine g_istore C [(4, vI (-1)), (3, vI 0), (2, vI r6), (0, .ref (eA E 4 0)), (1, .ref (eA E 5 p1))] hl (by decide) rfl (gdec kX4_readStage 26 rfl) (fun ls hl => ?_)
          refine g_aload_n C hl 3 rfl rfl (gdec kX4_readStage 27 rfl) ?_
          refine g_dup C rfl (gdec kX4_readStage 28 rfl) ?_
          refine gf_X4_19 C h ho (gdec kX4_readStage 29 rfl) ?_
          refine g_iconst C (gdec kX4_readStage 30 rfl) ?_
          refine g_iadd C (gdec kX4_readStage 31 rfl) ?_
          refine gp_X4_19 C h ho (gdec kX4_readStage 32 rfl) (fun H locs h => ?_)
          refine g_aload_n C hl 3 rfl rfl (gdec kX4_readStage 33 rfl) ?_
          refine g_iconst C (gdec kX4_readStage 34 rfl) ?_
          obtain ⟨r26, q27, hf⟩ := bn1_s hf
          refine g_ci h (g_runV C h ho (by decide) rfl (c_X4_digitStands l E _ _ ho _ q27) wM_X4_35 wI_X4_digitStands wS_X4_digitStands wN_X4 wC_X4_digitStands rfl ny_X4_digitStands rfl ⟨Nat.le_of_ble_eq_true rfl, Nat.le_of_ble_eq_true rfl⟩ hl.1 rfl (Nat.le_of_ble_eq_true rfl) (gdec kX4_readStage 35 rfl) ⟨Nat.zero_le _, Nat.zero_le _⟩) (fun H locs h => ?_)
          obtain ⟨h28, hf⟩ := gd_s hf
          refine g_if_ne C (tgt := 72) h28 (by decide) (gdec kX4_readStage 36 rfl) (fun c29 => ?_) (fun c29 => ?_)
          · replace hf := ifp c29 hf
            refine g_iconst C (gdec kX4_readStage 37 rfl) ?_
            exact g_zret C h (Or.inl rfl) hf (gdec kX4_readStage 38 rfl)
          · replace hf := ifn c29 hf
            refine g_iload C hl 0 rfl (gdec kX4_readStage 39 rfl) ?_
            refine g_aload_n C hl 3 rfl rfl (gdec kX4_readStage 40 rfl) ?_
            obtain ⟨G30, r31, q32, hf⟩ := bnd_s hf
            refine g_ci h (g_runV C h ho (by decide) rfl (c_X4_takeDigit l E _ ho _ _ q32) wM_X4_39 wI_X4_takeDigit wS_X4_takeDigit wN_X4 wC_X4_takeDigit rfl ny_X4_takeDigit rfl ⟨Nat.le_of_ble_eq_true rfl, Nat.le_of_ble_eq_true rfl⟩ hl.1 rfl (Nat.le_of_ble_eq_true rfl) (gdec kX4_readStage 41 rfl) ⟨Nat.zero_le _, Nat.zero_le _⟩) (fun H locs h => ?_)
            refine g_imul C (gdec kX4_readStage 42 rfl) ?_
            refine g_istore_n C [(3, vI ((-1) * r31)), (4, vI (-1)), (2, vI r6), (0, .ref (eA E 4 0)), (1, .ref (eA E 5 p1))] hl rfl (by decide) rfl (gdec kX4_readStage 43 rfl) (fun ls hl => ?_)
            refine g_aload_n C hl 3 rfl rfl (gdec kX4_readStage 44 rfl) ?_
            refine g_bipush C (gdec kX4_readStage 45 rfl) rfl ?_
            obtain ⟨r33, q34, hf⟩ := bn1_s hf
            refine g_ci h (g_runV C h ho (by decide) rfl (c_X4_signStands l E _ _ ho _ q34) wM_X4_43 wI_X4_signStands wS_X4_signStands wN_X4 wC_X4_signStands rfl ny_X4_signStands rfl ⟨Nat.le_of_ble_eq_true rfl, Nat.le_of_ble_eq_true rfl⟩ hl.1 rfl (Nat.le_of_ble_eq_true rfl) (gdec kX4_readStage 46 rfl) ⟨Nat.zero_le _, Nat.zero_le _⟩) (fun H locs h => ?_)
            obtain ⟨h35, hf⟩ := gd_s hf
            refine g_if_ne C (tgt := 91) h35 (by decide) (gdec kX4_readStage 47 rfl) (fun c36 => ?_) (fun c36 => ?_)
            · replace hf := ifp c36 hf
              refine g_iconst C (gdec kX4_readStage 48 rfl) ?_
              exact g_zret C h (Or.inl rfl) hf (gdec kX4_readStage 49 rfl)
            · replace hf := ifn c36 hf
              refine g_aload_n C hl 3 rfl rfl (gdec kX4_readStage 50 rfl) ?_
              refine g_dup C rfl (gdec kX4_readStage 51 rfl) ?_
              refine gf_X4_19 C h ho (gdec kX4_readStage 52 rfl) ?_
              refine g_iconst C (gdec kX4_readStage 53 rfl) ?_
              refine g_iadd C (gdec kX4_readStage 54 rfl) ?_
              refine gp_X4_19 C h ho (gdec kX4_readStage 55 rfl) (fun H locs h => ?_)
              refine g_aload_n C hl 4 rfl rfl (gdec kX4_readStage 56 rfl) ?_
              refine g_iload_n C hl 2 rfl rfl (gdec kX4_readStage 57 rfl) ?_
              refine g_iload_n C hl 0 rfl rfl (gdec kX4_readStage 58 rfl) ?_
              refine g_iconst C (gdec kX4_readStage 59 rfl) ?_
              obtain ⟨G37, q38, hf⟩ := bn1_s hf
              refine g_cv h (g_runV C h hp1 (by decide) rfl (c_X5_set l E _ _ _ _ _ hp1 _ q38) wM_X4_47 wI_X5_set wS_X5_set wN_X5 wC_X5_set rfl ny_X5_set rfl ⟨Nat.le_of_ble_eq_true rfl, Nat.le_of_ble_eq_true rfl⟩ hl.1 rfl (Nat.le_of_ble_eq_true rfl) (gdec kX4_readStage_1 0 rfl) ⟨Nat.zero_le _, Nat.zero_le _⟩) (fun H locs h => ?_)
              refine g_iconst C (gdec kX4_readStage_1 1 rfl) ?_
              exact g_zret C h (Or.inr rfl) hf (gdec kX4_readStage_1 2 rfl)
        · replace hf := ifn c25 hf
          refine g_iconst C (gdec kX4_readStage 23 rfl) ?_
          refine g_goto C (tgt := 50) (by decide) (gdec kX4_readStage 24 rfl) ?_
          refine g_istore C [(4, vI 1), (3, vI 0), (2, vI r6), (0, .ref (eA E 4 0)), (1, .ref (eA E 5 p1))] hl (by decide) rfl (gdec kX4_readStage 26 rfl) (fun ls hl => ?_)
          refine g_aload_n C hl 3 rfl rfl (gdec kX4_readStage 27 rfl) ?_
          refine g_dup C rfl (gdec kX4_readStage 28 rfl) ?_
          refine gf_X4_19 C h ho (gdec kX4_readStage 29 rfl) ?_
          refine g_iconst C (gdec kX4_readStage 30 rfl) ?_
          refine g_iadd C (gdec kX4_readStage 31 rfl) ?_
          refine gp_X4_19 C h ho (gdec kX4_readStage 32 rfl) (fun H locs h => ?_)
          refine g_aload_n C hl 3 rfl rfl (gdec kX4_readStage 33 rfl) ?_
          refine g_iconst C (gdec kX4_readStage 34 rfl) ?_
          obtain ⟨r39, q40, hf⟩ := bn1_s hf
          refine g_ci h (g_runV C h ho (by decide) rfl (c_X4_digitStands l E _ _ ho _ q40) wM_X4_35 wI_X4_digitStands wS_X4_digitStands wN_X4 wC_X4_digitStands rfl ny_X4_digitStands rfl ⟨Nat.le_of_ble_eq_true rfl, Nat.le_of_ble_eq_true rfl⟩ hl.1 rfl (Nat.le_of_ble_eq_true rfl) (gdec kX4_readStage 35 rfl) ⟨Nat.zero_le _, Nat.zero_le _⟩) (fun H locs h => ?_)
          obtain ⟨h41, hf⟩ := gd_s hf
          refine g_if_ne C (tgt := 72) h41 (by decide) (gdec kX4_readStage 36 rfl) (fun c42 => ?_) (fun c42 => ?_)
          · replace hf := ifp c42 hf
            refine g_iconst C (gdec kX4_readStage 37 rfl) ?_
            exact g_zret C h (Or.inl rfl) hf (gdec kX4_readStage 38 rfl)
          · replace hf := ifn c42 hf
            refine g_iload C hl 0 rfl (gdec kX4_readStage 39 rfl) ?_
            refine g_aload_n C hl 3 rfl rfl (gdec kX4_readStage 40 rfl) ?_
            obtain ⟨G43, r44, q45, hf⟩ := bnd_s hf
            refine g_ci h (g_runV C h ho (by decide) rfl (c_X4_takeDigit l E _ ho _ _ q45) wM_X4_39 wI_X4_takeDigit wS_X4_takeDigit wN_X4 wC_X4_takeDigit rfl ny_X4_takeDigit rfl ⟨Nat.le_of_ble_eq_true rfl, Nat.le_of_ble_eq_true rfl⟩ hl.1 rfl (Nat.le_of_ble_eq_true rfl) (gdec kX4_readStage 41 rfl) ⟨Nat.zero_le _, Nat.zero_le _⟩) (fun H locs h => ?_)
            refine g_imul C (gdec kX4_readStage 42 rfl) ?_
            refine g_istore_n C [(3, vI (1 * r44)), (4, vI 1), (2, vI r6), (0, .ref (eA E 4 0)), (1, .ref (eA E 5 p1))] hl rfl (by decide) rfl (gdec kX4_readStage 43 rfl) (fun ls hl => ?_)
            refine g_aload_n C hl 3 rfl rfl (gdec kX4_readStage 44 rfl) ?_
            refine g_bipush C (gdec kX4_readStage 45 rfl) rfl ?_
            obtain ⟨r46, q47, hf⟩ := bn1_s hf
            refine g_ci h (g_runV C h ho (by decide) rfl (c_X4_signStands l E _ _ ho _ q47) wM_X4_43 wI_X4_signStands wS_X4_signStands wN_X4 wC_X4_signStands rfl ny_X4_signStands rfl ⟨Nat.le_of_ble_eq_true rfl, Nat.le_of_ble_eq_true rfl⟩ hl.1 rfl (Nat.le_of_ble_eq_true rfl) (gdec kX4_readStage 46 rfl) ⟨Nat.zero_le _, Nat.zero_le _⟩) (fun H locs h => ?_)
            obtain ⟨h48, hf⟩ := gd_s hf
            refine g_if_ne C (tgt := 91) h48 (by decide) (gdec kX4_readStage 47 rfl) (fun c49 => ?_) (fun c49 => ?_)
            · replace hf := ifp c49 hf
              refine g_iconst C (gdec kX4_readStage 48 rfl) ?_
              exact g_zret C h (Or.inl rfl) hf (gdec kX4_readStage 49 rfl)
            · replace hf := ifn c49 hf
              refine g_aload_n C hl 3 rfl rfl (gdec kX4_readStage 50 rfl) ?_
              refine g_dup C rfl (gdec kX4_readStage 51 rfl) ?_
              refine gf_X4_19 C h ho (gdec kX4_readStage 52 rfl) ?_
              refine g_iconst C (gdec kX4_readStage 53 rfl) ?_
              refine g_iadd C (gdec kX4_readStage 54 rfl) ?_
              refine gp_X4_19 C h ho (gdec kX4_readStage 55 rfl) (fun H locs h => ?_)
              refine g_aload_n C hl 4 rfl rfl (gdec kX4_readStage 56 rfl) ?_
              refine g_iload_n C hl 2 rfl rfl (gdec kX4_readStage 57 rfl) ?_
              refine g_iload_n C hl 0 rfl rfl (gdec kX4_readStage 58 rfl) ?_
              refine g_iconst C (gdec kX4_readStage 59 rfl) ?_
              obtain ⟨G50, q51, hf⟩ := bn1_s hf
              refine g_cv h (g_runV C h hp1 (by decide) rfl (c_X5_set l E _ _ _ _ _ hp1 _ q51) wM_X4_47 wI_X5_set wS_X5_set wN_X5 wC_X5_set rfl ny_X5_set rfl ⟨Nat.le_of_ble_eq_true rfl, Nat.le_of_ble_eq_true rfl⟩ hl.1 rfl (Nat.le_of_ble_eq_true rfl) (gdec kX4_readStage_1 0 rfl) ⟨Nat.zero_le _, Nat.zero_le _⟩) (fun H locs h => ?_)
              refine g_iconst C (gdec kX4_readStage_1 1 rfl) ?_
              exact g_zret C h (Or.inr rfl) hf (gdec kX4_readStage_1 2 rfl)
    · replace hf := ifn c11 hf
      refine g_aload_n C hl 2 rfl rfl (gdec kX4_readStage 19 rfl) ?_
      refine g_bipush C (gdec kX4_readStage 20 rfl) rfl ?_
      obtain ⟨r52, q53, hf⟩ := bn1_s hf
      refine g_ci h (g_runV C h ho (by decide) rfl (c_X4_signStands l E _ _ ho _ q53) wM_X4_43 wI_X4_signStands wS_X4_signStands wN_X4 wC_X4_signStands rfl ny_X4_signStands rfl ⟨Nat.le_of_ble_eq_true rfl, Nat.le_of_ble_eq_true rfl⟩ hl.1 rfl (Nat.le_of_ble_eq_true rfl) (gdec kX4_readStage 21 rfl) ⟨Nat.zero_le _, Nat.zero_le _⟩) (fun H locs h => ?_)
      obtain ⟨h54, hf⟩ := gd_s hf
      refine g_if_eq C (tgt := 49) h54 (by decide) (gdec kX4_readStage 22 rfl) (fun c55 => ?_) (fun c55 => ?_)
      · replace hf := ifp c55 hf
        refine g_iconst C (gdec kX4_readStage 25 rfl) ?_
        refine g_istore C [(4, vI (-1)), (3, vI 0), (2, vI r6), (0, .ref (eA E 4 0)), (1, .ref (eA E 5 p1))] hl (by decide) rfl (gdec kX4_readStage 26 rfl) (fun ls hl => ?_)
        refine g_aload_n C hl 3 rfl rfl (gdec kX4_readStage 27 rfl) ?_
        refine g_dup C rfl (gdec kX4_readStage 28 rfl) ?_
        refine gf_X4_19 C h ho (gdec kX4_readStage 29 rfl) ?_
        refine g_iconst C (gdec kX4_readStage 30 rfl) ?_
        refine g_iadd C (gdec kX4_readStage 31 rfl) ?_
        refine gp_X4_19 C h ho (gdec kX4_readStage 32 rfl) (fun H locs h => ?_)
        refine g_aload_n C hl 3 rfl rfl (gdec kX4_readStage 33 rfl) ?_
        refine g_iconst C (gdec kX4_readStage 34 rfl) ?_
        obtain ⟨r56, q57, hf⟩ := bn1_s hf
        refine g_ci h (g_runV C h ho (by decide) rfl (c_X4_digitStands l E _ _ ho _ q57) wM_X4_35 wI_X4_digitStands wS_X4_digitStands wN_X4 wC_X4_digitStands rfl ny_X4_digitStands rfl ⟨Nat.le_of_ble_eq_true rfl, Nat.le_of_ble_eq_true rfl⟩ hl.1 rfl (Nat.le_of_ble_eq_true rfl) (gdec kX4_readStage 35 rfl) ⟨Nat.zero_le _, Nat.zero_le _⟩) (fun H locs h => ?_)
        obtain ⟨h58, hf⟩ := gd_s hf
        refine g_if_ne C (tgt := 72) h58 (by decide) (gdec kX4_readStage 36 rfl) (fun c59 => ?_) (fun c59 => ?_)
        · replace hf := ifp c59 hf
          refine g_iconst C (gdec kX4_readStage 37 rfl) ?_
          exact g_zret C h (Or.inl rfl) hf (gdec kX4_readStage 38 rfl)
        · replace hf := ifn c59 hf
          refine g_iload C hl 0 rfl (gdec kX4_readStage 39 rfl) ?_
          refine g_aload_n C hl 3 rfl rfl (gdec kX4_readStage 40 rfl) ?_
          obtain ⟨G60, r61, q62, hf⟩ := bnd_s hf
          refine g_ci h (g_runV C h ho (by decide) rfl (c_X4_takeDigit l E _ ho _ _ q62) wM_X4_39 wI_X4_takeDigit wS_X4_takeDigit wN_X4 wC_X4_takeDigit rfl ny_X4_takeDigit rfl ⟨Nat.le_of_ble_eq_true rfl, Nat.le_of_ble_eq_true rfl⟩ hl.1 rfl (Nat.le_of_ble_eq_true rfl) (gdec kX4_readStage 41 rfl) ⟨Nat.zero_le _, Nat.zero_le _⟩) (fun H locs h => ?_)
          refine g_imul C (gdec kX4_readStage 42 rfl) ?_
          refine g_istore_n C [(3, vI ((-1) * r61)), (4, vI (-1)), (2, vI r6), (0, .ref (eA E 4 0)), (1, .ref (eA E 5 p1))] hl rfl (by decide) rfl (gdec kX4_readStage 43 rfl) (fun ls hl => ?_)
          refine g_aload_n C hl 3 rfl rfl (gdec kX4_readStage 44 rfl) ?_
          refine g_bipush C (gdec kX4_readStage 45 rfl) rfl ?_
          obtain ⟨r63, q64, hf⟩ := bn1_s hf
          refine g_ci h (g_runV C h ho (by decide) rfl (c_X4_signStands l E _ _ ho _ q64) wM_X4_43 wI_X4_signStands wS_X4_signStands wN_X4 wC_X4_signStands rfl ny_X4_signStands rfl ⟨Nat.le_of_ble_eq_true rfl, Nat.le_of_ble_eq_true rfl⟩ hl.1 rfl (Nat.le_of_ble_eq_true rfl) (gdec kX4_readStage 46 rfl) ⟨Nat.zero_le _, Nat.zero_le _⟩) (fun H locs h => ?_)
          obtain ⟨h65, hf⟩ := gd_s hf
          refine g_if_ne C (tgt := 91) h65 (by decide) (gdec kX4_readStage 47 rfl) (fun c66 => ?_) (fun c66 => ?_)
          · replace hf := ifp c66 hf
            refine g_iconst C (gdec kX4_readStage 48 rfl) ?_
            exact g_zret C h (Or.inl rfl) hf (gdec kX4_readStage 49 rfl)
          · replace hf := ifn c66 hf
            refine g_aload_n C hl 3 rfl rfl (gdec kX4_readStage 50 rfl) ?_
            refine g_dup C rfl (gdec kX4_readStage 51 rfl) ?_
            refine gf_X4_19 C h ho (gdec kX4_readStage 52 rfl) ?_
            refine g_iconst C (gdec kX4_readStage 53 rfl) ?_
            refine g_iadd C (gdec kX4_readStage 54 rfl) ?_
            refine gp_X4_19 C h ho (gdec kX4_readStage 55 rfl) (fun H locs h => ?_)
            refine g_aload_n C hl 4 rfl rfl (gdec kX4_readStage 56 rfl) ?_
            refine g_iload_n C hl 2 rfl rfl (gdec kX4_readStage 57 rfl) ?_
            refine g_iload_n C hl 0 rfl rfl (gdec kX4_readStage 58 rfl) ?_
            refine g_iconst C (gdec kX4_readStage 59 rfl) ?_
            obtain ⟨G67, q68, hf⟩ := bn1_s hf
            refine g_cv h (g_runV C h hp1 (by decide) rfl (c_X5_set l E _ _ _ _ _ hp1 _ q68) wM_X4_47 wI_X5_set wS_X5_set wN_X5 wC_X5_set rfl ny_X5_set rfl ⟨Nat.le_of_ble_eq_true rfl, Nat.le_of_ble_eq_true rfl⟩ hl.1 rfl (Nat.le_of_ble_eq_true rfl) (gdec kX4_readStage_1 0 rfl) ⟨Nat.zero_le _, Nat.zero_le _⟩) (fun H locs h => ?_)
            refine g_iconst C (gdec kX4_readStage_1 1 rfl) ?_
            exact g_zret C h (Or.inr rfl) hf (gdec kX4_readStage_1 2 rfl)
      · replace hf := ifn c55 hf
        refine g_iconst C (gdec kX4_readStage 23 rfl) ?_
        refine g_goto C (tgt := 50) (by decide) (gdec kX4_readStage 24 rfl) ?_
        refine g_istore C [(4, vI 1), (3, vI 0), (2, vI r6), (0, .ref (eA E 4 0)), (1, .ref (eA E 5 p1))] hl (by decide) rfl (gdec kX4_readStage 26 rfl) (fun ls hl => ?_)
        refine g_aload_n C hl 3 rfl rfl (gdec kX4_readStage 27 rfl) ?_
        refine g_dup C rfl (gdec kX4_readStage 28 rfl) ?_
        refine gf_X4_19 C h ho (gdec kX4_readStage 29 rfl) ?_
        refine g_iconst C (gdec kX4_readStage 30 rfl) ?_
        refine g_iadd C (gdec kX4_readStage 31 rfl) ?_
        refine gp_X4_19 C h ho (gdec kX4_readStage 32 rfl) (fun H locs h => ?_)
        refine g_aload_n C hl 3 rfl rfl (gdec kX4_readStage 33 rfl) ?_
        refine g_iconst C (gdec kX4_readStage 34 rfl) ?_
        obtain ⟨r69, q70, hf⟩ := bn1_s hf
        refine g_ci h (g_runV C h ho (by decide) rfl (c_X4_digitStands l E _ _ ho _ q70) wM_X4_35 wI_X4_digitStands wS_X4_digitStands wN_X4 wC_X4_digitStands rfl ny_X4_digitStands rfl ⟨Nat.le_of_ble_eq_true rfl, Nat.le_of_ble_eq_true rfl⟩ hl.1 rfl (Nat.le_of_ble_eq_true rfl) (gdec kX4_readStage 35 rfl) ⟨Nat.zero_le _, Nat.zero_le _⟩) (fun H locs h => ?_)
        obtain ⟨h71, hf⟩ := gd_s hf
        refine g_if_ne C (tgt := 72) h71 (by decide) (gdec kX4_readStage 36 rfl) (fun c72 => ?_) (fun c72 => ?_)
        · replace hf := ifp c72 hf
          refine g_iconst C (gdec kX4_readStage 37 rfl) ?_
          exact g_zret C h (Or.inl rfl) hf (gdec kX4_readStage 38 rfl)
        · replace hf := ifn c72 hf
          refine g_iload C hl 0 rfl (gdec kX4_readStage 39 rfl) ?_
          refine g_aload_n C hl 3 rfl rfl (gdec kX4_readStage 40 rfl) ?_
          obtain ⟨G73, r74, q75, hf⟩ := bnd_s hf
          refine g_ci h (g_runV C h ho (by decide) rfl (c_X4_takeDigit l E _ ho _ _ q75) wM_X4_39 wI_X4_takeDigit wS_X4_takeDigit wN_X4 wC_X4_takeDigit rfl ny_X4_takeDigit rfl ⟨Nat.le_of_ble_eq_true rfl, Nat.le_of_ble_eq_true rfl⟩ hl.1 rfl (Nat.le_of_ble_eq_true rfl) (gdec kX4_readStage 41 rfl) ⟨Nat.zero_le _, Nat.zero_le _⟩) (fun H locs h => ?_)
          refine g_imul C (gdec kX4_readStage 42 rfl) ?_
          refine g_istore_n C [(3, vI (1 * r74)), (4, vI 1), (2, vI r6), (0, .ref (eA E 4 0)), (1, .ref (eA E 5 p1))] hl rfl (by decide) rfl (gdec kX4_readStage 43 rfl) (fun ls hl => ?_)
          refine g_aload_n C hl 3 rfl rfl (gdec kX4_readStage 44 rfl) ?_
          refine g_bipush C (gdec kX4_readStage 45 rfl) rfl ?_
          obtain ⟨r76, q77, hf⟩ := bn1_s hf
          refine g_ci h (g_runV C h ho (by decide) rfl (c_X4_signStands l E _ _ ho _ q77) wM_X4_43 wI_X4_signStands wS_X4_signStands wN_X4 wC_X4_signStands rfl ny_X4_signStands rfl ⟨Nat.le_of_ble_eq_true rfl, Nat.le_of_ble_eq_true rfl⟩ hl.1 rfl (Nat.le_of_ble_eq_true rfl) (gdec kX4_readStage 46 rfl) ⟨Nat.zero_le _, Nat.zero_le _⟩) (fun H locs h => ?_)
          obtain ⟨h78, hf⟩ := gd_s hf
          refine g_if_ne C (tgt := 91) h78 (by decide) (gdec kX4_readStage 47 rfl) (fun c79 => ?_) (fun c79 => ?_)
          · replace hf := ifp c79 hf
            refine g_iconst C (gdec kX4_readStage 48 rfl) ?_
            exact g_zret C h (Or.inl rfl) hf (gdec kX4_readStage 49 rfl)
          · replace hf := ifn c79 hf
            refine g_aload_n C hl 3 rfl rfl (gdec kX4_readStage 50 rfl) ?_
            refine g_dup C rfl (gdec kX4_readStage 51 rfl) ?_
            refine gf_X4_19 C h ho (gdec kX4_readStage 52 rfl) ?_
            refine g_iconst C (gdec kX4_readStage 53 rfl) ?_
            refine g_iadd C (gdec kX4_readStage 54 rfl) ?_
            refine gp_X4_19 C h ho (gdec kX4_readStage 55 rfl) (fun H locs h => ?_)
            refine g_aload_n C hl 4 rfl rfl (gdec kX4_readStage 56 rfl) ?_
            refine g_iload_n C hl 2 rfl rfl (gdec kX4_readStage 57 rfl) ?_
            refine g_iload_n C hl 0 rfl rfl (gdec kX4_readStage 58 rfl) ?_
            refine g_iconst C (gdec kX4_readStage 59 rfl) ?_
            obtain ⟨G80, q81, hf⟩ := bn1_s hf
            refine g_cv h (g_runV C h hp1 (by decide) rfl (c_X5_set l E _ _ _ _ _ hp1 _ q81) wM_X4_47 wI_X5_set wS_X5_set wN_X5 wC_X5_set rfl ny_X5_set rfl ⟨Nat.le_of_ble_eq_true rfl, Nat.le_of_ble_eq_true rfl⟩ hl.1 rfl (Nat.le_of_ble_eq_true rfl) (gdec kX4_readStage_1 0 rfl) ⟨Nat.zero_le _, Nat.zero_le _⟩) (fun H locs h => ?_)
            refine g_iconst C (gdec kX4_readStage_1 1 rfl) ?_
            exact g_zret C h (Or.inr rfl) hf (gdec kX4_readStage_1 2 rfl)

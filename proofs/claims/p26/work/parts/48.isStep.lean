def f_L_isStep (G F : GS) (p3 : Int) (p4 : Int) : Option (GS × (GS × Int)) :=
  gd p4 (bn1 (f_L_up p4 12) (fun r2 => gd r2 (if r2 = 0 then bn1 (f_L_up (p4 / 16) p3) (fun r6 => gd (p4 / 16) (bn1 (f_L_up ((p4 / 16) / 8) 4) (fun r9 => bn1 (f_L_up ((p4 / 16) / 32) 40) (fun r11 => bn1 (f_L_up ((p4 / 16) / 2048) 5) (fun r13 => gd r13 (if r13 = 0 then bxw (f_X7_setInn G r6 r9 r11 1) (fun G19 r17 => bn1 (f_L_up ((p4 / 16) / 8) 4) (fun r20 => bn1 (f_L_up ((p4 / 16) / 32) 40) (fun r22 => bn1 (f_L_up ((p4 / 16) / 2048) 5) (fun r24 => gd r24 (if r24 = 0 then bxw (f_X7_setInn F ((p3 - 1) - r6) r20 r22 1) (fun F30 r28 => gd r17 (gd r28 (if r17 = r28 then some (G19, (F30, 1)) else some (G19, (F30, 0))))) else bxw (f_X7_setInn F ((p3 - 1) - r6) r20 r22 0) (fun F36 r34 => gd r17 (gd r34 (if r17 = r34 then some (G19, (F36, 1)) else some (G19, (F36, 0)))))))))) else bxw (f_X7_setInn G r6 r9 r11 0) (fun G42 r40 => bn1 (f_L_up ((p4 / 16) / 8) 4) (fun r43 => bn1 (f_L_up ((p4 / 16) / 32) 40) (fun r45 => bn1 (f_L_up ((p4 / 16) / 2048) 5) (fun r47 => gd r47 (if r47 = 0 then bxw (f_X7_setInn F ((p3 - 1) - r6) r43 r45 1) (fun F53 r51 => gd r40 (gd r51 (if r40 = r51 then some (G42, (F53, 1)) else some (G42, (F53, 0))))) else bxw (f_X7_setInn F ((p3 - 1) - r6) r43 r45 0) (fun F59 r57 => gd r40 (gd r57 (if r40 = r57 then some (G42, (F59, 1)) else some (G42, (F59, 0)))))))))))))))) else if r2 = 1 then bn1 (f_L_up (p4 / 16) (p3 - 1)) (fun r64 => gd (p4 / 16) (bn1 (f_L_up ((p4 / 16) / 64) 11) (fun r67 => bn1 (f_L_up ((p4 / 16) / 1024) 5) (fun r69 => gd r69 (if r69 = 0 then bn1 (f_L_up ((p4 / 16) / 8) 6) (fun r73 => bxw (f_X7_setStage G r64 (1 + r73) (r67 - 5) 1) (fun G77 r75 => bn1 (f_L_up ((p4 / 16) / 8) 6) (fun r78 => bxw (f_X7_setStage F ((p3 - 2) - r64) (1 + r78) (-(r67 - 5)) 1) (fun F82 r80 => gd r75 (gd r80 (if r75 = r80 then some (G77, (F82, 1)) else some (G77, (F82, 0)))))))) else bn1 (f_L_up ((p4 / 16) / 8) 6) (fun r86 => bxw (f_X7_setStage G r64 (1 + r86) (r67 - 5) 0) (fun G90 r88 => bn1 (f_L_up ((p4 / 16) / 8) 6) (fun r91 => bxw (f_X7_setStage F ((p3 - 2) - r64) (1 + r91) (-(r67 - 5)) 0) (fun F95 r93 => gd r88 (gd r93 (if r88 = r93 then some (G90, (F95, 1)) else some (G90, (F95, 0))))))))))))) else if r2 = 2 then bn1 (f_L_up (p4 / 16) (p3 - 1)) (fun r100 => gd (p4 / 16) (bn1 (f_L_up ((p4 / 16) / 64) 11) (fun r103 => bn1 (f_L_up ((p4 / 16) / 1024) 5) (fun r105 => gd r105 (if r105 = 0 then bn1 (f_L_up ((p4 / 16) / 8) 6) (fun r109 => bxw (f_X7_setStage G r100 (1 + r109) (r103 - 5) 1) (fun G113 r111 => bn1 (f_L_up ((p4 / 16) / 8) 6) (fun r114 => bxw (f_X7_setStage F ((p3 - 2) - r100) (1 + r114) (-(r103 - 5)) 1) (fun F118 r116 => gd r111 (gd r116 (if r111 = r116 then some (G113, (F118, 1)) else some (G113, (F118, 0)))))))) else bn1 (f_L_up ((p4 / 16) / 8) 6) (fun r122 => bxw (f_X7_setStage G r100 (1 + r122) (r103 - 5) 0) (fun G126 r124 => bn1 (f_L_up ((p4 / 16) / 8) 6) (fun r127 => bxw (f_X7_setStage F ((p3 - 2) - r100) (1 + r127) (-(r103 - 5)) 0) (fun F131 r129 => gd r124 (gd r129 (if r124 = r129 then some (G126, (F131, 1)) else some (G126, (F131, 0))))))))))))) else if r2 = 3 then bxr (f_X7_value G 1) (fun r136 => gd r136 (if r136 = 10 then some (G, (F, 1)) else bn1 (f_L_up (p4 / 16) p3) (fun r140 => gd (p4 / 16) (bn1 (f_L_up ((p4 / 16) / 8) 101) (fun r143 => bxw (f_X7_addTeam G r140 r143) (fun G147 r145 => bn1 (f_L_up (p4 / 16) p3) (fun r148 => bn1 (f_L_up ((p4 / 16) / 8) 101) (fun r150 => bxw (f_X7_addTeam F ((p3 - 1) - r148) r150) (fun F154 r152 => gd r145 (gd r152 (if r145 = r152 then some (G147, (F154, 1)) else some (G147, (F154, 0))))))))))))) else if r2 = 4 then bxr (f_X7_value G 1) (fun r159 => gd r159 (if r159 = 10 then some (G, (F, 1)) else bn1 (f_L_up (p4 / 16) p3) (fun r163 => gd (p4 / 16) (bn1 (f_L_up ((p4 / 16) / 8) 101) (fun r166 => bxw (f_X7_addTeam G r163 r166) (fun G170 r168 => bn1 (f_L_up (p4 / 16) p3) (fun r171 => bn1 (f_L_up ((p4 / 16) / 8) 101) (fun r173 => bxw (f_X7_addTeam F ((p3 - 1) - r171) r173) (fun F177 r175 => gd r168 (gd r175 (if r168 = r175 then some (G170, (F177, 1)) else some (G170, (F177, 0))))))))))))) else if r2 = 5 then bn1 (f_L_up (p4 / 16) p3) (fun r182 => gd (p4 / 16) (bn1 (f_L_up ((p4 / 16) / 8) (p3 - 1)) (fun r185 => gq p3 (ga ((r182 + 1) + r185) 2147483648 (bxr (f_X7_value G 2) (fun r189 => gd r189 (if r189 = 12 then some (G, (F, 1)) else gd (((p4 / 16) / 256) % 2) (if (((p4 / 16) / 256) % 2) = 1 then bxw (f_X7_give G r182 (((r182 + 1) + r185) % p3) 1) (fun G197 r195 => bxw (f_X7_give F ((p3 - 1) - r182) ((p3 - 1) - (((r182 + 1) + r185) % p3)) 1) (fun F200 r198 => gd r195 (gd r198 (if r195 = r198 then some (G197, (F200, 1)) else some (G197, (F200, 0)))))) else bxw (f_X7_give G r182 (((r182 + 1) + r185) % p3) 0) (fun G206 r204 => bxw (f_X7_give F ((p3 - 1) - r182) ((p3 - 1) - (((r182 + 1) + r185) % p3)) 0) (fun F209 r207 => gd r204 (gd r207 (if r204 = r207 then some (G206, (F209, 1)) else some (G206, (F209, 0)))))))))))))) else if r2 = 6 then bn1 (f_L_up (p4 / 16) p3) (fun r214 => gd (p4 / 16) (bn1 (f_L_up ((p4 / 16) / 8) (p3 - 1)) (fun r217 => gq p3 (ga ((r214 + 1) + r217) 2147483648 (bxr (f_X7_value G 2) (fun r221 => gd r221 (if r221 = 12 then some (G, (F, 1)) else gd (((p4 / 16) / 256) % 2) (if (((p4 / 16) / 256) % 2) = 1 then bxw (f_X7_give G r214 (((r214 + 1) + r217) % p3) 1) (fun G229 r227 => bxw (f_X7_give F ((p3 - 1) - r214) ((p3 - 1) - (((r214 + 1) + r217) % p3)) 1) (fun F232 r230 => gd r227 (gd r230 (if r227 = r230 then some (G229, (F232, 1)) else some (G229, (F232, 0)))))) else bxw (f_X7_give G r214 (((r214 + 1) + r217) % p3) 0) (fun G238 r236 => bxw (f_X7_give F ((p3 - 1) - r214) ((p3 - 1) - (((r214 + 1) + r217) % p3)) 0) (fun F241 r239 => gd r236 (gd r239 (if r236 = r239 then some (G238, (F241, 1)) else some (G238, (F241, 0)))))))))))))) else if r2 = 7 then bn1 (f_L_up (p4 / 16) p3) (fun r246 => gd (p4 / 16) (bn1 (f_L_up ((p4 / 16) / 8) (p3 - 1)) (fun r249 => gq p3 (ga ((r246 + 1) + r249) 2147483648 (bxr (f_X7_value G 2) (fun r253 => gd r253 (if r253 = 12 then some (G, (F, 1)) else gd (((p4 / 16) / 256) % 2) (if (((p4 / 16) / 256) % 2) = 1 then bxw (f_X7_give G r246 (((r246 + 1) + r249) % p3) 1) (fun G261 r259 => bxw (f_X7_give F ((p3 - 1) - r246) ((p3 - 1) - (((r246 + 1) + r249) % p3)) 1) (fun F264 r262 => gd r259 (gd r262 (if r259 = r262 then some (G261, (F264, 1)) else some (G261, (F264, 0)))))) else bxw (f_X7_give G r246 (((r246 + 1) + r249) % p3) 0) (fun G270 r268 => bxw (f_X7_give F ((p3 - 1) - r246) ((p3 - 1) - (((r246 + 1) + r249) % p3)) 0) (fun F273 r271 => gd r268 (gd r271 (if r268 = r271 then some (G270, (F273, 1)) else some (G270, (F273, 0)))))))))))))) else if r2 = 8 then bnd (f_X7_collect G) (fun G280 r278 => bnd (f_X7_collect F) (fun F283 r281 => gd r278 (gd r281 (if r278 = r281 then some (G280, (F283, 1)) else some (G280, (F283, 0)))))) else bn1 (f_L_up (p4 / 16) 12) (fun r287 => bxw (f_X7_pass G (1 + r287)) (fun G291 r289 => bn1 (f_L_up (p4 / 16) 12) (fun r292 => bxw (f_X7_pass F (1 + r292)) (fun F296 r294 => gd r289 (gd r294 (if r289 = r294 then some (G291, (F296, 1)) else some (G291, (F296, 0)))))))))))
set_option maxHeartbeats 8000000 in
set_option maxRecDepth 100000 in
theorem c_L_isStep (l : Launch) (E0 : gEnv) (B : Nat) (G F : GS) (p3 : Int) (p4 : Int) (Gz Fz : GS) (rz : Int) (hf : f_L_isStep G F p3 p4 = some (Gz, (Fz, rz))) : gMet l yL_isStep cL_isStep 8 (some .boolean) 6 136 0 0 [rO B, rP B, vI p3, vI p4] (eo E0 B F) G (gQi (eo E0 B Fz) Gz rz) := by
  refine g_met (by decide +kernel) (Nat.le_of_ble_eq_true rfl) ?_
  intro p e s m below meth c C H locs h ls hl
  have C : gC p s m _ meth c RL cL_isStep 8 (some .boolean) (eo E0 B F) := C
  have hl : lv_has ls 8 [(0, rO B), (1, rP B), (2, vI p3), (3, vI p4)] := hl
  have CO := gC_o C
  have CP := gC_p C
  unfold f_L_isStep at hf
  refine g_iload_n C hl 3 rfl rfl (gdec kL_isStep 0 rfl) ?_
  refine g_iconst C (gdec kL_isStep 1 rfl) ?_
  obtain ⟨h1, hf⟩ := gd_s hf
  refine g_ishr C h1 (k := 4) (by decide) (gdec kL_isStep 2 rfl) ?_
  refine g_istore C [(4, vI (p4 / 16)), (0, rO B), (1, rP B), (2, vI p3), (3, vI p4)] hl (by decide) rfl (gdec kL_isStep 3 rfl) (fun ls hl => ?_)
  refine g_iload_n C hl 4 rfl rfl (gdec kL_isStep 4 rfl) ?_
  refine g_bipush C (gdec kL_isStep 5 rfl) rfl ?_
  obtain ⟨r2, q3, hf⟩ := bn1_s hf
  refine g_ci h (g_runS (CO F) h (c_L_up l (eo E0 B F) G p4 12 _ q3) wM_L_9 wT_L_up wN_L wC_L_up rfl ny_L_up rfl ⟨Nat.le_of_ble_eq_true rfl, Nat.le_of_ble_eq_true rfl⟩ hl.1 rfl (Nat.le_of_ble_eq_true rfl) (gdec kL_isStep 6 rfl) ⟨Nat.zero_le _, Nat.zero_le _⟩) (fun H locs h => ?_)
  obtain ⟨h4, hf⟩ := gd_s hf
  by_cases c5 : r2 = 0
  · replace hf := ifp c5 hf
    refine g_tableIn C (tgt := 60) c5 (by decide) (by decide) (by decide) rfl (by decide) (gdec kL_isStep 7 rfl) ?_
    refine g_iload C hl 0 rfl (gdec kL_isStep 8 rfl) ?_
    refine g_iload_n C hl 3 rfl rfl (gdec kL_isStep 9 rfl) ?_
    obtain ⟨r6, q7, hf⟩ := bn1_s hf
    refine g_ci h (g_runS (CO F) h (c_L_up l (eo E0 B F) G (p4 / 16) p3 _ q7) wM_L_9 wT_L_up wN_L wC_L_up rfl ny_L_up rfl ⟨Nat.le_of_ble_eq_true rfl, Nat.le_of_ble_eq_true rfl⟩ hl.1 rfl (Nat.le_of_ble_eq_true rfl) (gdec kL_isStep 10 rfl) ⟨Nat.zero_le _, Nat.zero_le _⟩) (fun H locs h => ?_)
    refine g_istore C [(5, vI r6), (4, vI (p4 / 16)), (0, rO B), (1, rP B), (2, vI p3), (3, vI p4)] hl (by decide) rfl (gdec kL_isStep 11 rfl) (fun ls hl => ?_)
    refine g_aload_n C hl 2 rfl rfl (gdec kL_isStep 12 rfl) ?_
    refine g_iload C hl 0 rfl (gdec kL_isStep 13 rfl) ?_
    refine g_iload C hl 1 rfl (gdec kL_isStep 14 rfl) ?_
    refine g_iconst C (gdec kL_isStep 15 rfl) ?_
    obtain ⟨h8, hf⟩ := gd_s hf
    refine g_ishr C h8 (k := 3) (by decide) (gdec kL_isStep 16 rfl) ?_
    refine g_iconst C (gdec kL_isStep 17 rfl) ?_
    obtain ⟨r9, q10, hf⟩ := bn1_s hf
    refine g_ci h (g_runS (CO F) h (c_L_up l (eo E0 B F) G ((p4 / 16) / 8) 4 _ q10) wM_L_9 wT_L_up wN_L wC_L_up rfl ny_L_up rfl ⟨Nat.le_of_ble_eq_true rfl, Nat.le_of_ble_eq_true rfl⟩ hl.1 rfl (Nat.le_of_ble_eq_true rfl) (gdec kL_isStep 18 rfl) ⟨Nat.zero_le _, Nat.zero_le _⟩) (fun H locs h => ?_)
    refine g_iload C hl 1 rfl (gdec kL_isStep 19 rfl) ?_
    refine g_iconst C (gdec kL_isStep 20 rfl) ?_
    refine g_ishr C h8 (k := 5) (by decide) (gdec kL_isStep 21 rfl) ?_
    refine g_bipush C (gdec kL_isStep 22 rfl) rfl ?_
    obtain ⟨r11, q12, hf⟩ := bn1_s hf
    refine g_ci h (g_runS (CO F) h (c_L_up l (eo E0 B F) G ((p4 / 16) / 32) 40 _ q12) wM_L_9 wT_L_up wN_L wC_L_up rfl ny_L_up rfl ⟨Nat.le_of_ble_eq_true rfl, Nat.le_of_ble_eq_true rfl⟩ hl.1 rfl (Nat.le_of_ble_eq_true rfl) (gdec kL_isStep 23 rfl) ⟨Nat.zero_le _, Nat.zero_le _⟩) (fun H locs h => ?_)
    refine g_iload C hl 1 rfl (gdec kL_isStep 24 rfl) ?_
    refine g_bipush C (gdec kL_isStep 25 rfl) rfl ?_
    refine g_ishr C h8 (k := 11) (by decide) (gdec kL_isStep 26 rfl) ?_
    refine g_iconst C (gdec kL_isStep 27 rfl) ?_
    obtain ⟨r13, q14, hf⟩ := bn1_s hf
    refine g_ci h (g_runS (CO F) h (c_L_up l (eo E0 B F) G ((p4 / 16) / 2048) 5 _ q14) wM_L_9 wT_L_up wN_L wC_L_up rfl ny_L_up rfl ⟨Nat.le_of_ble_eq_true rfl, Nat.le_of_ble_eq_true rfl⟩ hl.1 rfl (Nat.le_of_ble_eq_true rfl) (gdec kL_isStep 28 rfl) ⟨Nat.zero_le _, Nat.zero_le _⟩) (fun H locs h => ?_)
    obtain ⟨h15, hf⟩ := gd_s hf
    refine g_if_ne C (tgt := 104) h15 (by decide) (gdec kL_isStep 29 rfl) (fun c16 => ?_) (fun c16 => ?_)
    · replace hf := ifp c16 hf
      refine g_iconst C (gdec kL_isStep 30 rfl) ?_
      refine g_goto C (tgt := 105) (by decide) (gdec kL_isStep 31 rfl) ?_
      obtain ⟨G19, r17, q18, hf⟩ := bxw_s hf
      refine g_ci h (g_runV (CO F) h ok_o (by decide) rfl (c_X7_setInn l (eo E0 B F) G r6 r9 r11 1 ok_o _ _ q18) wM_L_15 wI_X7_setInn wS_X7_setInn wN_X7 wC_X7_setInn rfl ny_X7_setInn rfl ⟨Nat.le_of_ble_eq_true rfl, Nat.le_of_ble_eq_true rfl⟩ hl.1 rfl (Nat.le_of_ble_eq_true rfl) (gdec kL_isStep 33 rfl) ⟨Nat.zero_le _, Nat.zero_le _⟩) (fun H locs h => ?_)
      refine g_aload_n C hl 3 rfl rfl (gdec kL_isStep 34 rfl) ?_
      refine g_iload_n C hl 4 rfl rfl (gdec kL_isStep 35 rfl) ?_
      refine g_iconst C (gdec kL_isStep 36 rfl) ?_
      refine g_isub C (gdec kL_isStep 37 rfl) ?_
      refine g_iload C hl 0 rfl (gdec kL_isStep 38 rfl) ?_
      refine g_isub C (gdec kL_isStep 39 rfl) ?_
      refine g_iload C hl 1 rfl (gdec kL_isStep 40 rfl) ?_
      refine g_iconst C (gdec kL_isStep 41 rfl) ?_
      refine g_ishr C h8 (k := 3) (by decide) (gdec kL_isStep 42 rfl) ?_
      refine g_iconst C (gdec kL_isStep 43 rfl) ?_
      obtain ⟨r20, q21, hf⟩ := bn1_s hf
      refine g_ci h (g_runS (CO F) h (c_L_up l (eo E0 B F) G19 ((p4 / 16) / 8) 4 _ q21) wM_L_9 wT_L_up wN_L wC_L_up rfl ny_L_up rfl ⟨Nat.le_of_ble_eq_true rfl, Nat.le_of_ble_eq_true rfl⟩ hl.1 rfl (Nat.le_of_ble_eq_true rfl) (gdec kL_isStep 44 rfl) ⟨Nat.zero_le _, Nat.zero_le _⟩) (fun H locs h => ?_)
      refine g_iload C hl 1 rfl (gdec kL_isStep 45 rfl) ?_
      refine g_iconst C (gdec kL_isStep 46 rfl) ?_
      refine g_ishr C h8 (k := 5) (by decide) (gdec kL_isStep 47 rfl) ?_
      refine g_bipush C (gdec kL_isStep 48 rfl) rfl ?_
      obtain ⟨r22, q23, hf⟩ := bn1_s hf
      refine g_ci h (g_runS (CO F) h (c_L_up l (eo E0 B F) G19 ((p4 / 16) / 32) 40 _ q23) wM_L_9 wT_L_up wN_L wC_L_up rfl ny_L_up rfl ⟨Nat.le_of_ble_eq_true rfl, Nat.le_of_ble_eq_true rfl⟩ hl.1 rfl (Nat.le_of_ble_eq_true rfl) (gdec kL_isStep 49 rfl) ⟨Nat.zero_le _, Nat.zero_le _⟩) (fun H locs h => ?_)
      refine g_iload C hl 1 rfl (gdec kL_isStep 50 rfl) ?_
      refine g_bipush C (gdec kL_isStep 51 rfl) rfl ?_
      refine g_ishr C h8 (k := 11) (by decide) (gdec kL_isStep 52 rfl) ?_
      refine g_iconst C (gdec kL_isStep 53 rfl) ?_
      obtain ⟨r24, q25, hf⟩ := bn1_s hf
      refine g_ci h (g_runS (CO F) h (c_L_up l (eo E0 B F) G19 ((p4 / 16) / 2048) 5 _ q25) wM_L_9 wT_L_up wN_L wC_L_up rfl ny_L_up rfl ⟨Nat.le_of_ble_eq_true rfl, Nat.le_of_ble_eq_true rfl⟩ hl.1 rfl (Nat.le_of_ble_eq_true rfl) (gdec kL_isStep 54 rfl) ⟨Nat.zero_le _, Nat.zero_le _⟩) (fun H locs h => ?_)
      obtain ⟨h26, hf⟩ := gd_s hf
      refine g_if_ne C (tgt := 148) h26 (by decide) (gdec kL_isStep 55 rfl) (fun c27 => ?_) (fun c27 => ?_)
      · replace hf := ifp c27 hf
        refine g_iconst C (gdec kL_isStep 56 rfl) ?_
        refine g_goto C (tgt := 149) (by decide) (gdec kL_isStep 57 rfl) ?_
        obtain ⟨F30, r28, q29, hf⟩ := bxw_s hf
        refine g_ci (g_sw h) (g_runV (CP G19) (g_sw h) ok_p (by decide) rfl (c_X7_setInn l (ep E0 B G19) F ((p3 - 1) - r6) r20 r22 1 ok_p _ _ q29) wM_L_15 wI_X7_setInn wS_X7_setInn wN_X7 wC_X7_setInn rfl ny_X7_setInn rfl ⟨Nat.le_of_ble_eq_true rfl, Nat.le_of_ble_eq_true rfl⟩ hl.1 rfl (Nat.le_of_ble_eq_true rfl) (gdec kL_isStep 59 rfl) ⟨Nat.zero_le _, Nat.zero_le _⟩) (fun H locs h => ?_)
        replace h := g_ws h
        obtain ⟨h31, hf⟩ := gd_s hf
        obtain ⟨h32, hf⟩ := gd_s hf
        refine g_icmp_ne C (tgt := 159) h31 h32 (by decide) (gdec kL_isStep_1 0 rfl) (fun c33 => ?_) (fun c33 => ?_)
        · replace hf := ifp c33 hf
          refine g_iconst C (gdec kL_isStep_1 1 rfl) ?_
          refine g_goto C (tgt := 160) (by decide) (gdec kL_isStep_1 2 rfl) ?_
          cases hf
          exact g_zret (CO _) h (Or.inr rfl) rfl (gdec kL_isStep_1 4 rfl)
        · replace hf := ifn c33 hf
          refine g_iconst C (gdec kL_isStep_1 3 rfl) ?_
          cases hf
          exact g_zret (CO _) h (Or.inl rfl) rfl (gdec kL_isStep_1 4 rfl)
      · replace hf := ifn c27 hf
        refine g_iconst C (gdec kL_isStep 58 rfl) ?_
        obtain ⟨F36, r34, q35, hf⟩ := bxw_s hf
        refine g_ci (g_sw h) (g_runV (CP G19) (g_sw h) ok_p (by decide) rfl (c_X7_setInn l (ep E0 B G19) F ((p3 - 1) - r6) r20 r22 0 ok_p _ _ q35) wM_L_15 wI_X7_setInn wS_X7_setInn wN_X7 wC_X7_setInn rfl ny_X7_setInn rfl ⟨Nat.le_of_ble_eq_true rfl, Nat.le_of_ble_eq_true rfl⟩ hl.1 rfl (Nat.le_of_ble_eq_true rfl) (gdec kL_isStep 59 rfl) ⟨Nat.zero_le _, Nat.zero_le _⟩) (fun H locs h => ?_)
        replace h := g_ws h
        obtain ⟨h37, hf⟩ := gd_s hf
        obtain ⟨h38, hf⟩ := gd_s hf
        refine g_icmp_ne C (tgt := 159) h37 h38 (by decide) (gdec kL_isStep_1 0 rfl) (fun c39 => ?_) (fun c39 => ?_)
        · replace hf := ifp c39 hf
          refine g_iconst C (gdec kL_isStep_1 1 rfl) ?_
          refine g_goto C (tgt := 160) (by decide) (gdec kL_isStep_1 2 rfl) ?_
          cases hf
          exact g_zret (CO _) h (Or.inr rfl) rfl (gdec kL_isStep_1 4 rfl)
        · replace hf := ifn c39 hf
          refine g_iconst C (gdec kL_isStep_1 3 rfl) ?_
          cases hf
          exact g_zret (CO _) h (Or.inl rfl) rfl (gdec kL_isStep_1 4 rfl)
    · replace hf := ifn c16 hf
      refine g_iconst C (gdec kL_isStep 32 rfl) ?_
      obtain ⟨G42, r40, q41, hf⟩ := bxw_s hf
      refine g_ci h (g_runV (CO F) h ok_o (by decide) rfl (c_X7_setInn l (eo E0 B F) G r6 r9 r11 0 ok_o _ _ q41) wM_L_15 wI_X7_setInn wS_X7_setInn wN_X7 wC_X7_setInn rfl ny_X7_setInn rfl ⟨Nat.le_of_ble_eq_true rfl, Nat.le_of_ble_eq_true rfl⟩ hl.1 rfl (Nat.le_of_ble_eq_true rfl) (gdec kL_isStep 33 rfl) ⟨Nat.zero_le _, Nat.zero_le _⟩) (fun H locs h => ?_)
      refine g_aload_n C hl 3 rfl rfl (gdec kL_isStep 34 rfl) ?_
      refine g_iload_n C hl 4 rfl rfl (gdec kL_isStep 35 rfl) ?_
      refine g_iconst C (gdec kL_isStep 36 rfl) ?_
      refine g_isub C (gdec kL_isStep 37 rfl) ?_
      refine g_iload C hl 0 rfl (gdec kL_isStep 38 rfl) ?_
      refine g_isub C (gdec kL_isStep 39 rfl) ?_
      refine g_iload C hl 1 rfl (gdec kL_isStep 40 rfl) ?_
      refine g_iconst C (gdec kL_isStep 41 rfl) ?_
      refine g_ishr C h8 (k := 3) (by decide) (gdec kL_isStep 42 rfl) ?_
      refine g_iconst C (gdec kL_isStep 43 rfl) ?_
      obtain ⟨r43, q44, hf⟩ := bn1_s hf
      refine g_ci h (g_runS (CO F) h (c_L_up l (eo E0 B F) G42 ((p4 / 16) / 8) 4 _ q44) wM_L_9 wT_L_up wN_L wC_L_up rfl ny_L_up rfl ⟨Nat.le_of_ble_eq_true rfl, Nat.le_of_ble_eq_true rfl⟩ hl.1 rfl (Nat.le_of_ble_eq_true rfl) (gdec kL_isStep 44 rfl) ⟨Nat.zero_le _, Nat.zero_le _⟩) (fun H locs h => ?_)
      refine g_iload C hl 1 rfl (gdec kL_isStep 45 rfl) ?_
      refine g_iconst C (gdec kL_isStep 46 rfl) ?_
      refine g_ishr C h8 (k := 5) (by decide) (gdec kL_isStep 47 rfl) ?_
      refine g_bipush C (gdec kL_isStep 48 rfl) rfl ?_
      obtain ⟨r45, q46, hf⟩ := bn1_s hf
      refine g_ci h (g_runS (CO F) h (c_L_up l (eo E0 B F) G42 ((p4 / 16) / 32) 40 _ q46) wM_L_9 wT_L_up wN_L wC_L_up rfl ny_L_up rfl ⟨Nat.le_of_ble_eq_true rfl, Nat.le_of_ble_eq_true rfl⟩ hl.1 rfl (Nat.le_of_ble_eq_true rfl) (gdec kL_isStep 49 rfl) ⟨Nat.zero_le _, Nat.zero_le _⟩) (fun H locs h => ?_)
      refine g_iload C hl 1 rfl (gdec kL_isStep 50 rfl) ?_
      refine g_bipush C (gdec kL_isStep 51 rfl) rfl ?_
      refine g_ishr C h8 (k := 11) (by decide) (gdec kL_isStep 52 rfl) ?_
      refine g_iconst C (gdec kL_isStep 53 rfl) ?_
      obtain ⟨r47, q48, hf⟩ := bn1_s hf
      refine g_ci h (g_runS (CO F) h (c_L_up l (eo E0 B F) G42 ((p4 / 16) / 2048) 5 _ q48) wM_L_9 wT_L_up wN_L wC_L_up rfl ny_L_up rfl ⟨Nat.le_of_ble_eq_true rfl, Nat.le_of_ble_eq_true rfl⟩ hl.1 rfl (Nat.le_of_ble_eq_true rfl) (gdec kL_isStep 54 rfl) ⟨Nat.zero_le _, Nat.zero_le _⟩) (fun H locs h => ?_)
      obtain ⟨h49, hf⟩ := gd_s hf
      refine g_if_ne C (tgt := 148) h49 (by decide) (gdec kL_isStep 55 rfl) (fun c50 => ?_) (fun c50 => ?_)
      · replace hf := ifp c50 hf
        refine g_iconst C (gdec kL_isStep 56 rfl) ?_
        refine g_goto C (tgt := 149) (by decide) (gdec kL_isStep 57 rfl) ?_
        obtain ⟨F53, r51, q52, hf⟩ := bxw_s hf
        refine g_ci (g_sw h) (g_runV (CP G42) (g_sw h) ok_p (by decide) rfl (c_X7_setInn l (ep E0 B G42) F ((p3 - 1) - r6) r43 r45 1 ok_p _ _ q52) wM_L_15 wI_X7_setInn wS_X7_setInn wN_X7 wC_X7_setInn rfl ny_X7_setInn rfl ⟨Nat.le_of_ble_eq_true rfl, Nat.le_of_ble_eq_true rfl⟩ hl.1 rfl (Nat.le_of_ble_eq_true rfl) (gdec kL_isStep 59 rfl) ⟨Nat.zero_le _, Nat.zero_le _⟩) (fun H locs h => ?_)
        replace h := g_ws h
        obtain ⟨h54, hf⟩ := gd_s hf
        obtain ⟨h55, hf⟩ := gd_s hf
        refine g_icmp_ne C (tgt := 159) h54 h55 (by decide) (gdec kL_isStep_1 0 rfl) (fun c56 => ?_) (fun c56 => ?_)
        · replace hf := ifp c56 hf
          refine g_iconst C (gdec kL_isStep_1 1 rfl) ?_
          refine g_goto C (tgt := 160) (by decide) (gdec kL_isStep_1 2 rfl) ?_
          cases hf
          exact g_zret (CO _) h (Or.inr rfl) rfl (gdec kL_isStep_1 4 rfl)
        · replace hf := ifn c56 hf
          refine g_iconst C (gdec kL_isStep_1 3 rfl) ?_
          cases hf
          exact g_zret (CO _) h (Or.inl rfl) rfl (gdec kL_isStep_1 4 rfl)
      · replace hf := ifn c50 hf
        refine g_iconst C (gdec kL_isStep 58 rfl) ?_
        obtain ⟨F59, r57, q58, hf⟩ := bxw_s hf
        refine g_ci (g_sw h) (g_runV (CP G42) (g_sw h) ok_p (by decide) rfl (c_X7_setInn l (ep E0 B G42) F ((p3 - 1) - r6) r43 r45 0 ok_p _ _ q58) wM_L_15 wI_X7_setInn wS_X7_setInn wN_X7 wC_X7_setInn rfl ny_X7_setInn rfl ⟨Nat.le_of_ble_eq_true rfl, Nat.le_of_ble_eq_true rfl⟩ hl.1 rfl (Nat.le_of_ble_eq_true rfl) (gdec kL_isStep 59 rfl) ⟨Nat.zero_le _, Nat.zero_le _⟩) (fun H locs h => ?_)
        replace h := g_ws h
        obtain ⟨h60, hf⟩ := gd_s hf
        obtain ⟨h61, hf⟩ := gd_s hf
        refine g_icmp_ne C (tgt := 159) h60 h61 (by decide) (gdec kL_isStep_1 0 rfl) (fun c62 => ?_) (fun c62 => ?_)
        · replace hf := ifp c62 hf
          refine g_iconst C (gdec kL_isStep_1 1 rfl) ?_
          refine g_goto C (tgt := 160) (by decide) (gdec kL_isStep_1 2 rfl) ?_
          cases hf
          exact g_zret (CO _) h (Or.inr rfl) rfl (gdec kL_isStep_1 4 rfl)
        · replace hf := ifn c62 hf
          refine g_iconst C (gdec kL_isStep_1 3 rfl) ?_
          cases hf
          exact g_zret (CO _) h (Or.inl rfl) rfl (gdec kL_isStep_1 4 rfl)
  replace hf := ifn c5 hf
  by_cases c63 : r2 = 1
  · replace hf := ifp c63 hf
    refine g_tableIn C (tgt := 161) c63 (by decide) (by decide) (by decide) rfl (by decide) (gdec kL_isStep 7 rfl) ?_
    refine g_iload C hl 0 rfl (gdec kL_isStep_1 5 rfl) ?_
    refine g_iload_n C hl 3 rfl rfl (gdec kL_isStep_1 6 rfl) ?_
    refine g_iconst C (gdec kL_isStep_1 7 rfl) ?_
    refine g_isub C (gdec kL_isStep_1 8 rfl) ?_
    obtain ⟨r64, q65, hf⟩ := bn1_s hf
    refine g_ci h (g_runS (CO F) h (c_L_up l (eo E0 B F) G (p4 / 16) (p3 - 1) _ q65) wM_L_9 wT_L_up wN_L wC_L_up rfl ny_L_up rfl ⟨Nat.le_of_ble_eq_true rfl, Nat.le_of_ble_eq_true rfl⟩ hl.1 rfl (Nat.le_of_ble_eq_true rfl) (gdec kL_isStep_1 9 rfl) ⟨Nat.zero_le _, Nat.zero_le _⟩) (fun H locs h => ?_)
    refine g_istore C [(5, vI r64), (4, vI (p4 / 16)), (0, rO B), (1, rP B), (2, vI p3), (3, vI p4)] hl (by decide) rfl (gdec kL_isStep_1 10 rfl) (fun ls hl => ?_)
    refine g_iload C hl 1 rfl (gdec kL_isStep_1 11 rfl) ?_
    refine g_bipush C (gdec kL_isStep_1 12 rfl) rfl ?_
    obtain ⟨h66, hf⟩ := gd_s hf
    refine g_ishr C h66 (k := 6) (by decide) (gdec kL_isStep_1 13 rfl) ?_
    refine g_bipush C (gdec kL_isStep_1 14 rfl) rfl ?_
    obtain ⟨r67, q68, hf⟩ := bn1_s hf
    refine g_ci h (g_runS (CO F) h (c_L_up l (eo E0 B F) G ((p4 / 16) / 64) 11 _ q68) wM_L_9 wT_L_up wN_L wC_L_up rfl ny_L_up rfl ⟨Nat.le_of_ble_eq_true rfl, Nat.le_of_ble_eq_true rfl⟩ hl.1 rfl (Nat.le_of_ble_eq_true rfl) (gdec kL_isStep_1 15 rfl) ⟨Nat.zero_le _, Nat.zero_le _⟩) (fun H locs h => ?_)
    refine g_iconst C (gdec kL_isStep_1 16 rfl) ?_
    refine g_isub C (gdec kL_isStep_1 17 rfl) ?_
    refine g_istore C [(6, vI (r67 - 5)), (5, vI r64), (4, vI (p4 / 16)), (0, rO B), (1, rP B), (2, vI p3), (3, vI p4)] hl (by decide) rfl (gdec kL_isStep_1 18 rfl) (fun ls hl => ?_)
    refine g_iload C hl 2 rfl (gdec kL_isStep_1 19 rfl) ?_
    refine g_bipush C (gdec kL_isStep_1 20 rfl) rfl ?_
    refine g_ishr C h66 (k := 10) (by decide) (gdec kL_isStep_1 21 rfl) ?_
    refine g_iconst C (gdec kL_isStep_1 22 rfl) ?_
    obtain ⟨r69, q70, hf⟩ := bn1_s hf
    refine g_ci h (g_runS (CO F) h (c_L_up l (eo E0 B F) G ((p4 / 16) / 1024) 5 _ q70) wM_L_9 wT_L_up wN_L wC_L_up rfl ny_L_up rfl ⟨Nat.le_of_ble_eq_true rfl, Nat.le_of_ble_eq_true rfl⟩ hl.1 rfl (Nat.le_of_ble_eq_true rfl) (gdec kL_isStep_1 23 rfl) ⟨Nat.zero_le _, Nat.zero_le _⟩) (fun H locs h => ?_)
    obtain ⟨h71, hf⟩ := gd_s hf
    refine g_if_ne C (tgt := 201) h71 (by decide) (gdec kL_isStep_1 24 rfl) (fun c72 => ?_) (fun c72 => ?_)
    · replace hf := ifp c72 hf
      refine g_iconst C (gdec kL_isStep_1 25 rfl) ?_
      refine g_goto C (tgt := 202) (by decide) (gdec kL_isStep_1 26 rfl) ?_
      refine g_istore C [(7, vI 1), (6, vI (r67 - 5)), (5, vI r64), (4, vI (p4 / 16)), (0, rO B), (1, rP B), (2, vI p3), (3, vI p4)] hl (by decide) rfl (gdec kL_isStep_1 28 rfl) (fun ls hl => ?_)
      refine g_aload_n C hl 4 rfl rfl (gdec kL_isStep_1 29 rfl) ?_
      refine g_iload C hl 2 rfl (gdec kL_isStep_1 30 rfl) ?_
      refine g_iconst C (gdec kL_isStep_1 31 rfl) ?_
      refine g_iload C hl 3 rfl (gdec kL_isStep_1 32 rfl) ?_
      refine g_iconst C (gdec kL_isStep_1 33 rfl) ?_
      refine g_ishr C h66 (k := 3) (by decide) (gdec kL_isStep_1 34 rfl) ?_
      refine g_bipush C (gdec kL_isStep_1 35 rfl) rfl ?_
      obtain ⟨r73, q74, hf⟩ := bn1_s hf
      refine g_ci h (g_runS (CO F) h (c_L_up l (eo E0 B F) G ((p4 / 16) / 8) 6 _ q74) wM_L_9 wT_L_up wN_L wC_L_up rfl ny_L_up rfl ⟨Nat.le_of_ble_eq_true rfl, Nat.le_of_ble_eq_true rfl⟩ hl.1 rfl (Nat.le_of_ble_eq_true rfl) (gdec kL_isStep_1 36 rfl) ⟨Nat.zero_le _, Nat.zero_le _⟩) (fun H locs h => ?_)
      refine g_iadd C (gdec kL_isStep_1 37 rfl) ?_
      refine g_iload C hl 1 rfl (gdec kL_isStep_1 38 rfl) ?_
      refine g_iload C hl 0 rfl (gdec kL_isStep_1 39 rfl) ?_
      obtain ⟨G77, r75, q76, hf⟩ := bxw_s hf
      refine g_ci h (g_runV (CO F) h ok_o (by decide) rfl (c_X7_setStage l (eo E0 B F) G r64 (1 + r73) (r67 - 5) 1 ok_o _ _ q76) wM_L_21 wI_X7_setStage wS_X7_setStage wN_X7 wC_X7_setStage rfl ny_X7_setStage rfl ⟨Nat.le_of_ble_eq_true rfl, Nat.le_of_ble_eq_true rfl⟩ hl.1 rfl (Nat.le_of_ble_eq_true rfl) (gdec kL_isStep_1 40 rfl) ⟨Nat.zero_le _, Nat.zero_le _⟩) (fun H locs h => ?_)
      refine g_aload_n C hl 5 rfl rfl (gdec kL_isStep_1 41 rfl) ?_
      refine g_iload_n C hl 6 rfl rfl (gdec kL_isStep_1 42 rfl) ?_
      refine g_iconst C (gdec kL_isStep_1 43 rfl) ?_
      refine g_isub C (gdec kL_isStep_1 44 rfl) ?_
      refine g_iload C hl 2 rfl (gdec kL_isStep_1 45 rfl) ?_
      refine g_isub C (gdec kL_isStep_1 46 rfl) ?_
      refine g_iconst C (gdec kL_isStep_1 47 rfl) ?_
      refine g_iload C hl 3 rfl (gdec kL_isStep_1 48 rfl) ?_
      refine g_iconst C (gdec kL_isStep_1 49 rfl) ?_
      refine g_ishr C h66 (k := 3) (by decide) (gdec kL_isStep_1 50 rfl) ?_
      refine g_bipush C (gdec kL_isStep_1 51 rfl) rfl ?_
      obtain ⟨r78, q79, hf⟩ := bn1_s hf
      refine g_ci h (g_runS (CO F) h (c_L_up l (eo E0 B F) G77 ((p4 / 16) / 8) 6 _ q79) wM_L_9 wT_L_up wN_L wC_L_up rfl ny_L_up rfl ⟨Nat.le_of_ble_eq_true rfl, Nat.le_of_ble_eq_true rfl⟩ hl.1 rfl (Nat.le_of_ble_eq_true rfl) (gdec kL_isStep_1 52 rfl) ⟨Nat.zero_le _, Nat.zero_le _⟩) (fun H locs h => ?_)
      refine g_iadd C (gdec kL_isStep_1 53 rfl) ?_
      refine g_iload C hl 1 rfl (gdec kL_isStep_1 54 rfl) ?_
      refine g_ineg C (gdec kL_isStep_1 55 rfl) ?_
      refine g_iload C hl 0 rfl (gdec kL_isStep_1 56 rfl) ?_
      obtain ⟨F82, r80, q81, hf⟩ := bxw_s hf
      refine g_ci (g_sw h) (g_runV (CP G77) (g_sw h) ok_p (by decide) rfl (c_X7_setStage l (ep E0 B G77) F ((p3 - 2) - r64) (1 + r78) (-(r67 - 5)) 1 ok_p _ _ q81) wM_L_21 wI_X7_setStage wS_X7_setStage wN_X7 wC_X7_setStage rfl ny_X7_setStage rfl ⟨Nat.le_of_ble_eq_true rfl, Nat.le_of_ble_eq_true rfl⟩ hl.1 rfl (Nat.le_of_ble_eq_true rfl) (gdec kL_isStep_1 57 rfl) ⟨Nat.zero_le _, Nat.zero_le _⟩) (fun H locs h => ?_)
      replace h := g_ws h
      obtain ⟨h83, hf⟩ := gd_s hf
      obtain ⟨h84, hf⟩ := gd_s hf
      refine g_icmp_ne C (tgt := 258) h83 h84 (by decide) (gdec kL_isStep_1 58 rfl) (fun c85 => ?_) (fun c85 => ?_)
      · replace hf := ifp c85 hf
        refine g_iconst C (gdec kL_isStep_1 59 rfl) ?_
        refine g_goto C (tgt := 259) (by decide) (gdec kL_isStep_2 0 rfl) ?_
        cases hf
        exact g_zret (CO _) h (Or.inr rfl) rfl (gdec kL_isStep_2 2 rfl)
      · replace hf := ifn c85 hf
        refine g_iconst C (gdec kL_isStep_2 1 rfl) ?_
        cases hf
        exact g_zret (CO _) h (Or.inl rfl) rfl (gdec kL_isStep_2 2 rfl)
    · replace hf := ifn c72 hf
      refine g_iconst C (gdec kL_isStep_1 27 rfl) ?_
      refine g_istore C [(7, vI 0), (6, vI (r67 - 5)), (5, vI r64), (4, vI (p4 / 16)), (0, rO B), (1, rP B), (2, vI p3), (3, vI p4)] hl (by decide) rfl (gdec kL_isStep_1 28 rfl) (fun ls hl => ?_)
      refine g_aload_n C hl 4 rfl rfl (gdec kL_isStep_1 29 rfl) ?_
      refine g_iload C hl 2 rfl (gdec kL_isStep_1 30 rfl) ?_
      refine g_iconst C (gdec kL_isStep_1 31 rfl) ?_
      refine g_iload C hl 3 rfl (gdec kL_isStep_1 32 rfl) ?_
      refine g_iconst C (gdec kL_isStep_1 33 rfl) ?_
      refine g_ishr C h66 (k := 3) (by decide) (gdec kL_isStep_1 34 rfl) ?_
      refine g_bipush C (gdec kL_isStep_1 35 rfl) rfl ?_
      obtain ⟨r86, q87, hf⟩ := bn1_s hf
      refine g_ci h (g_runS (CO F) h (c_L_up l (eo E0 B F) G ((p4 / 16) / 8) 6 _ q87) wM_L_9 wT_L_up wN_L wC_L_up rfl ny_L_up rfl ⟨Nat.le_of_ble_eq_true rfl, Nat.le_of_ble_eq_true rfl⟩ hl.1 rfl (Nat.le_of_ble_eq_true rfl) (gdec kL_isStep_1 36 rfl) ⟨Nat.zero_le _, Nat.zero_le _⟩) (fun H locs h => ?_)
      refine g_iadd C (gdec kL_isStep_1 37 rfl) ?_
      refine g_iload C hl 1 rfl (gdec kL_isStep_1 38 rfl) ?_
      refine g_iload C hl 0 rfl (gdec kL_isStep_1 39 rfl) ?_
      obtain ⟨G90, r88, q89, hf⟩ := bxw_s hf
      refine g_ci h (g_runV (CO F) h ok_o (by decide) rfl (c_X7_setStage l (eo E0 B F) G r64 (1 + r86) (r67 - 5) 0 ok_o _ _ q89) wM_L_21 wI_X7_setStage wS_X7_setStage wN_X7 wC_X7_setStage rfl ny_X7_setStage rfl ⟨Nat.le_of_ble_eq_true rfl, Nat.le_of_ble_eq_true rfl⟩ hl.1 rfl (Nat.le_of_ble_eq_true rfl) (gdec kL_isStep_1 40 rfl) ⟨Nat.zero_le _, Nat.zero_le _⟩) (fun H locs h => ?_)
      refine g_aload_n C hl 5 rfl rfl (gdec kL_isStep_1 41 rfl) ?_
      refine g_iload_n C hl 6 rfl rfl (gdec kL_isStep_1 42 rfl) ?_
      refine g_iconst C (gdec kL_isStep_1 43 rfl) ?_
      refine g_isub C (gdec kL_isStep_1 44 rfl) ?_
      refine g_iload C hl 2 rfl (gdec kL_isStep_1 45 rfl) ?_
      refine g_isub C (gdec kL_isStep_1 46 rfl) ?_
      refine g_iconst C (gdec kL_isStep_1 47 rfl) ?_
      refine g_iload C hl 3 rfl (gdec kL_isStep_1 48 rfl) ?_
      refine g_iconst C (gdec kL_isStep_1 49 rfl) ?_
      refine g_ishr C h66 (k := 3) (by decide) (gdec kL_isStep_1 50 rfl) ?_
      refine g_bipush C (gdec kL_isStep_1 51 rfl) rfl ?_
      obtain ⟨r91, q92, hf⟩ := bn1_s hf
      refine g_ci h (g_runS (CO F) h (c_L_up l (eo E0 B F) G90 ((p4 / 16) / 8) 6 _ q92) wM_L_9 wT_L_up wN_L wC_L_up rfl ny_L_up rfl ⟨Nat.le_of_ble_eq_true rfl, Nat.le_of_ble_eq_true rfl⟩ hl.1 rfl (Nat.le_of_ble_eq_true rfl) (gdec kL_isStep_1 52 rfl) ⟨Nat.zero_le _, Nat.zero_le _⟩) (fun H locs h => ?_)
      refine g_iadd C (gdec kL_isStep_1 53 rfl) ?_
      refine g_iload C hl 1 rfl (gdec kL_isStep_1 54 rfl) ?_
      refine g_ineg C (gdec kL_isStep_1 55 rfl) ?_
      refine g_iload C hl 0 rfl (gdec kL_isStep_1 56 rfl) ?_
      obtain ⟨F95, r93, q94, hf⟩ := bxw_s hf
      refine g_ci (g_sw h) (g_runV (CP G90) (g_sw h) ok_p (by decide) rfl (c_X7_setStage l (ep E0 B G90) F ((p3 - 2) - r64) (1 + r91) (-(r67 - 5)) 0 ok_p _ _ q94) wM_L_21 wI_X7_setStage wS_X7_setStage wN_X7 wC_X7_setStage rfl ny_X7_setStage rfl ⟨Nat.le_of_ble_eq_true rfl, Nat.le_of_ble_eq_true rfl⟩ hl.1 rfl (Nat.le_of_ble_eq_true rfl) (gdec kL_isStep_1 57 rfl) ⟨Nat.zero_le _, Nat.zero_le _⟩) (fun H locs h => ?_)
      replace h := g_ws h
      obtain ⟨h96, hf⟩ := gd_s hf
      obtain ⟨h97, hf⟩ := gd_s hf
      refine g_icmp_ne C (tgt := 258) h96 h97 (by decide) (gdec kL_isStep_1 58 rfl) (fun c98 => ?_) (fun c98 => ?_)
      · replace hf := ifp c98 hf
        refine g_iconst C (gdec kL_isStep_1 59 rfl) ?_
        refine g_goto C (tgt := 259) (by decide) (gdec kL_isStep_2 0 rfl) ?_
        cases hf
        exact g_zret (CO _) h (Or.inr rfl) rfl (gdec kL_isStep_2 2 rfl)
      · replace hf := ifn c98 hf
        refine g_iconst C (gdec kL_isStep_2 1 rfl) ?_
        cases hf
        exact g_zret (CO _) h (Or.inl rfl) rfl (gdec kL_isStep_2 2 rfl)
  replace hf := ifn c63 hf
  by_cases c99 : r2 = 2
  · replace hf := ifp c99 hf
    refine g_tableIn C (tgt := 161) c99 (by decide) (by decide) (by decide) rfl (by decide) (gdec kL_isStep 7 rfl) ?_
    refine g_iload C hl 0 rfl (gdec kL_isStep_1 5 rfl) ?_
    refine g_iload_n C hl 3 rfl rfl (gdec kL_isStep_1 6 rfl) ?_
    refine g_iconst C (gdec kL_isStep_1 7 rfl) ?_
    refine g_isub C (gdec kL_isStep_1 8 rfl) ?_
    obtain ⟨r100, q101, hf⟩ := bn1_s hf
    refine g_ci h (g_runS (CO F) h (c_L_up l (eo E0 B F) G (p4 / 16) (p3 - 1) _ q101) wM_L_9 wT_L_up wN_L wC_L_up rfl ny_L_up rfl ⟨Nat.le_of_ble_eq_true rfl, Nat.le_of_ble_eq_true rfl⟩ hl.1 rfl (Nat.le_of_ble_eq_true rfl) (gdec kL_isStep_1 9 rfl) ⟨Nat.zero_le _, Nat.zero_le _⟩) (fun H locs h => ?_)
    refine g_istore C [(5, vI r100), (4, vI (p4 / 16)), (0, rO B), (1, rP B), (2, vI p3), (3, vI p4)] hl (by decide) rfl (gdec kL_isStep_1 10 rfl) (fun ls hl => ?_)
    refine g_iload C hl 1 rfl (gdec kL_isStep_1 11 rfl) ?_
    refine g_bipush C (gdec kL_isStep_1 12 rfl) rfl ?_
    obtain ⟨h102, hf⟩ := gd_s hf
    refine g_ishr C h102 (k := 6) (by decide) (gdec kL_isStep_1 13 rfl) ?_
    refine g_bipush C (gdec kL_isStep_1 14 rfl) rfl ?_
    obtain ⟨r103, q104, hf⟩ := bn1_s hf
    refine g_ci h (g_runS (CO F) h (c_L_up l (eo E0 B F) G ((p4 / 16) / 64) 11 _ q104) wM_L_9 wT_L_up wN_L wC_L_up rfl ny_L_up rfl ⟨Nat.le_of_ble_eq_true rfl, Nat.le_of_ble_eq_true rfl⟩ hl.1 rfl (Nat.le_of_ble_eq_true rfl) (gdec kL_isStep_1 15 rfl) ⟨Nat.zero_le _, Nat.zero_le _⟩) (fun H locs h => ?_)
    refine g_iconst C (gdec kL_isStep_1 16 rfl) ?_
    refine g_isub C (gdec kL_isStep_1 17 rfl) ?_
    refine g_istore C [(6, vI (r103 - 5)), (5, vI r100), (4, vI (p4 / 16)), (0, rO B), (1, rP B), (2, vI p3), (3, vI p4)] hl (by decide) rfl (gdec kL_isStep_1 18 rfl) (fun ls hl => ?_)
    refine g_iload C hl 2 rfl (gdec kL_isStep_1 19 rfl) ?_
    refine g_bipush C (gdec kL_isStep_1 20 rfl) rfl ?_
    refine g_ishr C h102 (k := 10) (by decide) (gdec kL_isStep_1 21 rfl) ?_
    refine g_iconst C (gdec kL_isStep_1 22 rfl) ?_
    obtain ⟨r105, q106, hf⟩ := bn1_s hf
    refine g_ci h (g_runS (CO F) h (c_L_up l (eo E0 B F) G ((p4 / 16) / 1024) 5 _ q106) wM_L_9 wT_L_up wN_L wC_L_up rfl ny_L_up rfl ⟨Nat.le_of_ble_eq_true rfl, Nat.le_of_ble_eq_true rfl⟩ hl.1 rfl (Nat.le_of_ble_eq_true rfl) (gdec kL_isStep_1 23 rfl) ⟨Nat.zero_le _, Nat.zero_le _⟩) (fun H locs h => ?_)
    obtain ⟨h107, hf⟩ := gd_s hf
    refine g_if_ne C (tgt := 201) h107 (by decide) (gdec kL_isStep_1 24 rfl) (fun c108 => ?_) (fun c108 => ?_)
    · replace hf := ifp c108 hf
      refine g_iconst C (gdec kL_isStep_1 25 rfl) ?_
      refine g_goto C (tgt := 202) (by decide) (gdec kL_isStep_1 26 rfl) ?_
      refine g_istore C [(7, vI 1), (6, vI (r103 - 5)), (5, vI r100), (4, vI (p4 / 16)), (0, rO B), (1, rP B), (2, vI p3), (3, vI p4)] hl (by decide) rfl (gdec kL_isStep_1 28 rfl) (fun ls hl => ?_)
      refine g_aload_n C hl 4 rfl rfl (gdec kL_isStep_1 29 rfl) ?_
      refine g_iload C hl 2 rfl (gdec kL_isStep_1 30 rfl) ?_
      refine g_iconst C (gdec kL_isStep_1 31 rfl) ?_
      refine g_iload C hl 3 rfl (gdec kL_isStep_1 32 rfl) ?_
      refine g_iconst C (gdec kL_isStep_1 33 rfl) ?_
      refine g_ishr C h102 (k := 3) (by decide) (gdec kL_isStep_1 34 rfl) ?_
      refine g_bipush C (gdec kL_isStep_1 35 rfl) rfl ?_
      obtain ⟨r109, q110, hf⟩ := bn1_s hf
      refine g_ci h (g_runS (CO F) h (c_L_up l (eo E0 B F) G ((p4 / 16) / 8) 6 _ q110) wM_L_9 wT_L_up wN_L wC_L_up rfl ny_L_up rfl ⟨Nat.le_of_ble_eq_true rfl, Nat.le_of_ble_eq_true rfl⟩ hl.1 rfl (Nat.le_of_ble_eq_true rfl) (gdec kL_isStep_1 36 rfl) ⟨Nat.zero_le _, Nat.zero_le _⟩) (fun H locs h => ?_)
      refine g_iadd C (gdec kL_isStep_1 37 rfl) ?_
      refine g_iload C hl 1 rfl (gdec kL_isStep_1 38 rfl) ?_
      refine g_iload C hl 0 rfl (gdec kL_isStep_1 39 rfl) ?_
      obtain ⟨G113, r111, q112, hf⟩ := bxw_s hf
      refine g_ci h (g_runV (CO F) h ok_o (by decide) rfl (c_X7_setStage l (eo E0 B F) G r100 (1 + r109) (r103 - 5) 1 ok_o _ _ q112) wM_L_21 wI_X7_setStage wS_X7_setStage wN_X7 wC_X7_setStage rfl ny_X7_setStage rfl ⟨Nat.le_of_ble_eq_true rfl, Nat.le_of_ble_eq_true rfl⟩ hl.1 rfl (Nat.le_of_ble_eq_true rfl) (gdec kL_isStep_1 40 rfl) ⟨Nat.zero_le _, Nat.zero_le _⟩) (fun H locs h => ?_)
      refine g_aload_n C hl 5 rfl rfl (gdec kL_isStep_1 41 rfl) ?_
      refine g_iload_n C hl 6 rfl rfl (gdec kL_isStep_1 42 rfl) ?_
      refine g_iconst C (gdec kL_isStep_1 43 rfl) ?_
      refine g_isub C (gdec kL_isStep_1 44 rfl) ?_
      refine g_iload C hl 2 rfl (gdec kL_isStep_1 45 rfl) ?_
      refine g_isub C (gdec kL_isStep_1 46 rfl) ?_
      refine g_iconst C (gdec kL_isStep_1 47 rfl) ?_
      refine g_iload C hl 3 rfl (gdec kL_isStep_1 48 rfl) ?_
      refine g_iconst C (gdec kL_isStep_1 49 rfl) ?_
      refine g_ishr C h102 (k := 3) (by decide) (gdec kL_isStep_1 50 rfl) ?_
      refine g_bipush C (gdec kL_isStep_1 51 rfl) rfl ?_
      obtain ⟨r114, q115, hf⟩ := bn1_s hf
      refine g_ci h (g_runS (CO F) h (c_L_up l (eo E0 B F) G113 ((p4 / 16) / 8) 6 _ q115) wM_L_9 wT_L_up wN_L wC_L_up rfl ny_L_up rfl ⟨Nat.le_of_ble_eq_true rfl, Nat.le_of_ble_eq_true rfl⟩ hl.1 rfl (Nat.le_of_ble_eq_true rfl) (gdec kL_isStep_1 52 rfl) ⟨Nat.zero_le _, Nat.zero_le _⟩) (fun H locs h => ?_)
      refine g_iadd C (gdec kL_isStep_1 53 rfl) ?_
      refine g_iload C hl 1 rfl (gdec kL_isStep_1 54 rfl) ?_
      refine g_ineg C (gdec kL_isStep_1 55 rfl) ?_
      refine g_iload C hl 0 rfl (gdec kL_isStep_1 56 rfl) ?_
      obtain ⟨F118, r116, q117, hf⟩ := bxw_s hf
      refine g_ci (g_sw h) (g_runV (CP G113) (g_sw h) ok_p (by decide) rfl (c_X7_setStage l (ep E0 B G113) F ((p3 - 2) - r100) (1 + r114) (-(r103 - 5)) 1 ok_p _ _ q117) wM_L_21 wI_X7_setStage wS_X7_setStage wN_X7 wC_X7_setStage rfl ny_X7_setStage rfl ⟨Nat.le_of_ble_eq_true rfl, Nat.le_of_ble_eq_true rfl⟩ hl.1 rfl (Nat.le_of_ble_eq_true rfl) (gdec kL_isStep_1 57 rfl) ⟨Nat.zero_le _, Nat.zero_le _⟩) (fun H locs h => ?_)
      replace h := g_ws h
      obtain ⟨h119, hf⟩ := gd_s hf
      obtain ⟨h120, hf⟩ := gd_s hf
      refine g_icmp_ne C (tgt := 258) h119 h120 (by decide) (gdec kL_isStep_1 58 rfl) (fun c121 => ?_) (fun c121 => ?_)
      · replace hf := ifp c121 hf
        refine g_iconst C (gdec kL_isStep_1 59 rfl) ?_
        refine g_goto C (tgt := 259) (by decide) (gdec kL_isStep_2 0 rfl) ?_
        cases hf
        exact g_zret (CO _) h (Or.inr rfl) rfl (gdec kL_isStep_2 2 rfl)
      · replace hf := ifn c121 hf
        refine g_iconst C (gdec kL_isStep_2 1 rfl) ?_
        cases hf
        exact g_zret (CO _) h (Or.inl rfl) rfl (gdec kL_isStep_2 2 rfl)
    · replace hf := ifn c108 hf
      refine g_iconst C (gdec kL_isStep_1 27 rfl) ?_
      refine g_istore C [(7, vI 0), (6, vI (r103 - 5)), (5, vI r100), (4, vI (p4 / 16)), (0, rO B), (1, rP B), (2, vI p3), (3, vI p4)] hl (by decide) rfl (gdec kL_isStep_1 28 rfl) (fun ls hl => ?_)
      refine g_aload_n C hl 4 rfl rfl (gdec kL_isStep_1 29 rfl) ?_
      refine g_iload C hl 2 rfl (gdec kL_isStep_1 30 rfl) ?_
      refine g_iconst C (gdec kL_isStep_1 31 rfl) ?_
      refine g_iload C hl 3 rfl (gdec kL_isStep_1 32 rfl) ?_
      refine g_iconst C (gdec kL_isStep_1 33 rfl) ?_
      refine g_ishr C h102 (k := 3) (by decide) (gdec kL_isStep_1 34 rfl) ?_
      refine g_bipush C (gdec kL_isStep_1 35 rfl) rfl ?_
      obtain ⟨r122, q123, hf⟩ := bn1_s hf
      refine g_ci h (g_runS (CO F) h (c_L_up l (eo E0 B F) G ((p4 / 16) / 8) 6 _ q123) wM_L_9 wT_L_up wN_L wC_L_up rfl ny_L_up rfl ⟨Nat.le_of_ble_eq_true rfl, Nat.le_of_ble_eq_true rfl⟩ hl.1 rfl (Nat.le_of_ble_eq_true rfl) (gdec kL_isStep_1 36 rfl) ⟨Nat.zero_le _, Nat.zero_le _⟩) (fun H locs h => ?_)
      refine g_iadd C (gdec kL_isStep_1 37 rfl) ?_
      refine g_iload C hl 1 rfl (gdec kL_isStep_1 38 rfl) ?_
      refine g_iload C hl 0 rfl (gdec kL_isStep_1 39 rfl) ?_
      obtain ⟨G126, r124, q125, hf⟩ := bxw_s hf
      refine g_ci h (g_runV (CO F) h ok_o (by decide) rfl (c_X7_setStage l (eo E0 B F) G r100 (1 + r122) (r103 - 5) 0 ok_o _ _ q125) wM_L_21 wI_X7_setStage wS_X7_setStage wN_X7 wC_X7_setStage rfl ny_X7_setStage rfl ⟨Nat.le_of_ble_eq_true rfl, Nat.le_of_ble_eq_true rfl⟩ hl.1 rfl (Nat.le_of_ble_eq_true rfl) (gdec kL_isStep_1 40 rfl) ⟨Nat.zero_le _, Nat.zero_le _⟩) (fun H locs h => ?_)
      refine g_aload_n C hl 5 rfl rfl (gdec kL_isStep_1 41 rfl) ?_
      refine g_iload_n C hl 6 rfl rfl (gdec kL_isStep_1 42 rfl) ?_
      refine g_iconst C (gdec kL_isStep_1 43 rfl) ?_
      refine g_isub C (gdec kL_isStep_1 44 rfl) ?_
      refine g_iload C hl 2 rfl (gdec kL_isStep_1 45 rfl) ?_
      refine g_isub C (gdec kL_isStep_1 46 rfl) ?_
      refine g_iconst C (gdec kL_isStep_1 47 rfl) ?_
      refine g_iload C hl 3 rfl (gdec kL_isStep_1 48 rfl) ?_
      refine g_iconst C (gdec kL_isStep_1 49 rfl) ?_
      refine g_ishr C h102 (k := 3) (by decide) (gdec kL_isStep_1 50 rfl) ?_
      refine g_bipush C (gdec kL_isStep_1 51 rfl) rfl ?_
      obtain ⟨r127, q128, hf⟩ := bn1_s hf
      refine g_ci h (g_runS (CO F) h (c_L_up l (eo E0 B F) G126 ((p4 / 16) / 8) 6 _ q128) wM_L_9 wT_L_up wN_L wC_L_up rfl ny_L_up rfl ⟨Nat.le_of_ble_eq_true rfl, Nat.le_of_ble_eq_true rfl⟩ hl.1 rfl (Nat.le_of_ble_eq_true rfl) (gdec kL_isStep_1 52 rfl) ⟨Nat.zero_le _, Nat.zero_le _⟩) (fun H locs h => ?_)
      refine g_iadd C (gdec kL_isStep_1 53 rfl) ?_
      refine g_iload C hl 1 rfl (gdec kL_isStep_1 54 rfl) ?_
      refine g_ineg C (gdec kL_isStep_1 55 rfl) ?_
      refine g_iload C hl 0 rfl (gdec kL_isStep_1 56 rfl) ?_
      obtain ⟨F131, r129, q130, hf⟩ := bxw_s hf
      refine g_ci (g_sw h) (g_runV (CP G126) (g_sw h) ok_p (by decide) rfl (c_X7_setStage l (ep E0 B G126) F ((p3 - 2) - r100) (1 + r127) (-(r103 - 5)) 0 ok_p _ _ q130) wM_L_21 wI_X7_setStage wS_X7_setStage wN_X7 wC_X7_setStage rfl ny_X7_setStage rfl ⟨Nat.le_of_ble_eq_true rfl, Nat.le_of_ble_eq_true rfl⟩ hl.1 rfl (Nat.le_of_ble_eq_true rfl) (gdec kL_isStep_1 57 rfl) ⟨Nat.zero_le _, Nat.zero_le _⟩) (fun H locs h => ?_)
      replace h := g_ws h
      obtain ⟨h132, hf⟩ := gd_s hf
      obtain ⟨h133, hf⟩ := gd_s hf
      refine g_icmp_ne C (tgt := 258) h132 h133 (by decide) (gdec kL_isStep_1 58 rfl) (fun c134 => ?_) (fun c134 => ?_)
      · replace hf := ifp c134 hf
        refine g_iconst C (gdec kL_isStep_1 59 rfl) ?_
        refine g_goto C (tgt := 259) (by decide) (gdec kL_isStep_2 0 rfl) ?_
        cases hf
        exact g_zret (CO _) h (Or.inr rfl) rfl (gdec kL_isStep_2 2 rfl)
      · replace hf := ifn c134 hf
        refine g_iconst C (gdec kL_isStep_2 1 rfl) ?_
        cases hf
        exact g_zret (CO _) h (Or.inl rfl) rfl (gdec kL_isStep_2 2 rfl)
  replace hf := ifn c99 hf
  by_cases c135 : r2 = 3
  · replace hf := ifp c135 hf
    refine g_tableIn C (tgt := 260) c135 (by decide) (by decide) (by decide) rfl (by decide) (gdec kL_isStep 7 rfl) ?_
    refine g_aload_n C hl 1 rfl rfl (gdec kL_isStep_2 3 rfl) ?_
    refine g_iconst C (gdec kL_isStep_2 4 rfl) ?_
    obtain ⟨r136, q137, hf⟩ := bxr_s hf
    refine g_ci h (g_runV (CO F) h ok_o (by decide) rfl (c_X7_value l (eo E0 B F) G 1 ok_o _ q137) wM_L_24 wI_X7_value wS_X7_value wN_X7 wC_X7_value rfl ny_X7_value rfl ⟨Nat.le_of_ble_eq_true rfl, Nat.le_of_ble_eq_true rfl⟩ hl.1 rfl (Nat.le_of_ble_eq_true rfl) (gdec kL_isStep_2 5 rfl) ⟨Nat.zero_le _, Nat.zero_le _⟩) (fun H locs h => ?_)
    refine g_bipush C (gdec kL_isStep_2 6 rfl) rfl ?_
    obtain ⟨h138, hf⟩ := gd_s hf
    refine g_icmp_eq C (tgt := 315) h138 (by decide) (by decide) (gdec kL_isStep_2 7 rfl) (fun c139 => ?_) (fun c139 => ?_)
    · replace hf := ifp c139 hf
      refine g_iconst C (gdec kL_isStep_2 33 rfl) ?_
      refine g_goto C (tgt := 320) (by decide) (gdec kL_isStep_2 34 rfl) ?_
      cases hf
      exact g_zret (CO _) h (Or.inr rfl) rfl (gdec kL_isStep_2 36 rfl)
    · replace hf := ifn c139 hf
      refine g_aload_n C hl 1 rfl rfl (gdec kL_isStep_2 8 rfl) ?_
      refine g_iload C hl 0 rfl (gdec kL_isStep_2 9 rfl) ?_
      refine g_iload_n C hl 3 rfl rfl (gdec kL_isStep_2 10 rfl) ?_
      obtain ⟨r140, q141, hf⟩ := bn1_s hf
      refine g_ci h (g_runS (CO F) h (c_L_up l (eo E0 B F) G (p4 / 16) p3 _ q141) wM_L_9 wT_L_up wN_L wC_L_up rfl ny_L_up rfl ⟨Nat.le_of_ble_eq_true rfl, Nat.le_of_ble_eq_true rfl⟩ hl.1 rfl (Nat.le_of_ble_eq_true rfl) (gdec kL_isStep_2 11 rfl) ⟨Nat.zero_le _, Nat.zero_le _⟩) (fun H locs h => ?_)
      refine g_iload C hl 0 rfl (gdec kL_isStep_2 12 rfl) ?_
      refine g_iconst C (gdec kL_isStep_2 13 rfl) ?_
      obtain ⟨h142, hf⟩ := gd_s hf
      refine g_ishr C h142 (k := 3) (by decide) (gdec kL_isStep_2 14 rfl) ?_
      refine g_bipush C (gdec kL_isStep_2 15 rfl) rfl ?_
      obtain ⟨r143, q144, hf⟩ := bn1_s hf
      refine g_ci h (g_runS (CO F) h (c_L_up l (eo E0 B F) G ((p4 / 16) / 8) 101 _ q144) wM_L_9 wT_L_up wN_L wC_L_up rfl ny_L_up rfl ⟨Nat.le_of_ble_eq_true rfl, Nat.le_of_ble_eq_true rfl⟩ hl.1 rfl (Nat.le_of_ble_eq_true rfl) (gdec kL_isStep_2 16 rfl) ⟨Nat.zero_le _, Nat.zero_le _⟩) (fun H locs h => ?_)
      obtain ⟨G147, r145, q146, hf⟩ := bxw_s hf
      refine g_ci h (g_runV (CO F) h ok_o (by decide) rfl (c_X7_addTeam l (eo E0 B F) G r140 r143 ok_o _ _ q146) wM_L_28 wI_X7_addTeam wS_X7_addTeam wN_X7 wC_X7_addTeam rfl ny_X7_addTeam rfl ⟨Nat.le_of_ble_eq_true rfl, Nat.le_of_ble_eq_true rfl⟩ hl.1 rfl (Nat.le_of_ble_eq_true rfl) (gdec kL_isStep_2 17 rfl) ⟨Nat.zero_le _, Nat.zero_le _⟩) (fun H locs h => ?_)
      refine g_aload_n C hl 2 rfl rfl (gdec kL_isStep_2 18 rfl) ?_
      refine g_iload_n C hl 3 rfl rfl (gdec kL_isStep_2 19 rfl) ?_
      refine g_iconst C (gdec kL_isStep_2 20 rfl) ?_
      refine g_isub C (gdec kL_isStep_2 21 rfl) ?_
      refine g_iload C hl 0 rfl (gdec kL_isStep_2 22 rfl) ?_
      refine g_iload_n C hl 3 rfl rfl (gdec kL_isStep_2 23 rfl) ?_
      obtain ⟨r148, q149, hf⟩ := bn1_s hf
      refine g_ci h (g_runS (CO F) h (c_L_up l (eo E0 B F) G147 (p4 / 16) p3 _ q149) wM_L_9 wT_L_up wN_L wC_L_up rfl ny_L_up rfl ⟨Nat.le_of_ble_eq_true rfl, Nat.le_of_ble_eq_true rfl⟩ hl.1 rfl (Nat.le_of_ble_eq_true rfl) (gdec kL_isStep_2 24 rfl) ⟨Nat.zero_le _, Nat.zero_le _⟩) (fun H locs h => ?_)
      refine g_isub C (gdec kL_isStep_2 25 rfl) ?_
      refine g_iload C hl 0 rfl (gdec kL_isStep_2 26 rfl) ?_
      refine g_iconst C (gdec kL_isStep_2 27 rfl) ?_
      refine g_ishr C h142 (k := 3) (by decide) (gdec kL_isStep_2 28 rfl) ?_
      refine g_bipush C (gdec kL_isStep_2 29 rfl) rfl ?_
      obtain ⟨r150, q151, hf⟩ := bn1_s hf
      refine g_ci h (g_runS (CO F) h (c_L_up l (eo E0 B F) G147 ((p4 / 16) / 8) 101 _ q151) wM_L_9 wT_L_up wN_L wC_L_up rfl ny_L_up rfl ⟨Nat.le_of_ble_eq_true rfl, Nat.le_of_ble_eq_true rfl⟩ hl.1 rfl (Nat.le_of_ble_eq_true rfl) (gdec kL_isStep_2 30 rfl) ⟨Nat.zero_le _, Nat.zero_le _⟩) (fun H locs h => ?_)
      obtain ⟨F154, r152, q153, hf⟩ := bxw_s hf
      refine g_ci (g_sw h) (g_runV (CP G147) (g_sw h) ok_p (by decide) rfl (c_X7_addTeam l (ep E0 B G147) F ((p3 - 1) - r148) r150 ok_p _ _ q153) wM_L_28 wI_X7_addTeam wS_X7_addTeam wN_X7 wC_X7_addTeam rfl ny_X7_addTeam rfl ⟨Nat.le_of_ble_eq_true rfl, Nat.le_of_ble_eq_true rfl⟩ hl.1 rfl (Nat.le_of_ble_eq_true rfl) (gdec kL_isStep_2 31 rfl) ⟨Nat.zero_le _, Nat.zero_le _⟩) (fun H locs h => ?_)
      replace h := g_ws h
      obtain ⟨h155, hf⟩ := gd_s hf
      obtain ⟨h156, hf⟩ := gd_s hf
      refine g_icmp_ne C (tgt := 319) h155 h156 (by decide) (gdec kL_isStep_2 32 rfl) (fun c157 => ?_) (fun c157 => ?_)
      · replace hf := ifp c157 hf
        refine g_iconst C (gdec kL_isStep_2 33 rfl) ?_
        refine g_goto C (tgt := 320) (by decide) (gdec kL_isStep_2 34 rfl) ?_
        cases hf
        exact g_zret (CO _) h (Or.inr rfl) rfl (gdec kL_isStep_2 36 rfl)
      · replace hf := ifn c157 hf
        refine g_iconst C (gdec kL_isStep_2 35 rfl) ?_
        cases hf
        exact g_zret (CO _) h (Or.inl rfl) rfl (gdec kL_isStep_2 36 rfl)
  replace hf := ifn c135 hf
  by_cases c158 : r2 = 4
  · replace hf := ifp c158 hf
    refine g_tableIn C (tgt := 260) c158 (by decide) (by decide) (by decide) rfl (by decide) (gdec kL_isStep 7 rfl) ?_
    refine g_aload_n C hl 1 rfl rfl (gdec kL_isStep_2 3 rfl) ?_
    refine g_iconst C (gdec kL_isStep_2 4 rfl) ?_
    obtain ⟨r159, q160, hf⟩ := bxr_s hf
    refine g_ci h (g_runV (CO F) h ok_o (by decide) rfl (c_X7_value l (eo E0 B F) G 1 ok_o _ q160) wM_L_24 wI_X7_value wS_X7_value wN_X7 wC_X7_value rfl ny_X7_value rfl ⟨Nat.le_of_ble_eq_true rfl, Nat.le_of_ble_eq_true rfl⟩ hl.1 rfl (Nat.le_of_ble_eq_true rfl) (gdec kL_isStep_2 5 rfl) ⟨Nat.zero_le _, Nat.zero_le _⟩) (fun H locs h => ?_)
    refine g_bipush C (gdec kL_isStep_2 6 rfl) rfl ?_
    obtain ⟨h161, hf⟩ := gd_s hf
    refine g_icmp_eq C (tgt := 315) h161 (by decide) (by decide) (gdec kL_isStep_2 7 rfl) (fun c162 => ?_) (fun c162 => ?_)
    · replace hf := ifp c162 hf
      refine g_iconst C (gdec kL_isStep_2 33 rfl) ?_
      refine g_goto C (tgt := 320) (by decide) (gdec kL_isStep_2 34 rfl) ?_
      cases hf
      exact g_zret (CO _) h (Or.inr rfl) rfl (gdec kL_isStep_2 36 rfl)
    · replace hf := ifn c162 hf
      refine g_aload_n C hl 1 rfl rfl (gdec kL_isStep_2 8 rfl) ?_
      refine g_iload C hl 0 rfl (gdec kL_isStep_2 9 rfl) ?_
      refine g_iload_n C hl 3 rfl rfl (gdec kL_isStep_2 10 rfl) ?_
      obtain ⟨r163, q164, hf⟩ := bn1_s hf
      refine g_ci h (g_runS (CO F) h (c_L_up l (eo E0 B F) G (p4 / 16) p3 _ q164) wM_L_9 wT_L_up wN_L wC_L_up rfl ny_L_up rfl ⟨Nat.le_of_ble_eq_true rfl, Nat.le_of_ble_eq_true rfl⟩ hl.1 rfl (Nat.le_of_ble_eq_true rfl) (gdec kL_isStep_2 11 rfl) ⟨Nat.zero_le _, Nat.zero_le _⟩) (fun H locs h => ?_)
      refine g_iload C hl 0 rfl (gdec kL_isStep_2 12 rfl) ?_
      refine g_iconst C (gdec kL_isStep_2 13 rfl) ?_
      obtain ⟨h165, hf⟩ := gd_s hf
      refine g_ishr C h165 (k := 3) (by decide) (gdec kL_isStep_2 14 rfl) ?_
      refine g_bipush C (gdec kL_isStep_2 15 rfl) rfl ?_
      obtain ⟨r166, q167, hf⟩ := bn1_s hf
      refine g_ci h (g_runS (CO F) h (c_L_up l (eo E0 B F) G ((p4 / 16) / 8) 101 _ q167) wM_L_9 wT_L_up wN_L wC_L_up rfl ny_L_up rfl ⟨Nat.le_of_ble_eq_true rfl, Nat.le_of_ble_eq_true rfl⟩ hl.1 rfl (Nat.le_of_ble_eq_true rfl) (gdec kL_isStep_2 16 rfl) ⟨Nat.zero_le _, Nat.zero_le _⟩) (fun H locs h => ?_)
      obtain ⟨G170, r168, q169, hf⟩ := bxw_s hf
      refine g_ci h (g_runV (CO F) h ok_o (by decide) rfl (c_X7_addTeam l (eo E0 B F) G r163 r166 ok_o _ _ q169) wM_L_28 wI_X7_addTeam wS_X7_addTeam wN_X7 wC_X7_addTeam rfl ny_X7_addTeam rfl ⟨Nat.le_of_ble_eq_true rfl, Nat.le_of_ble_eq_true rfl⟩ hl.1 rfl (Nat.le_of_ble_eq_true rfl) (gdec kL_isStep_2 17 rfl) ⟨Nat.zero_le _, Nat.zero_le _⟩) (fun H locs h => ?_)
      refine g_aload_n C hl 2 rfl rfl (gdec kL_isStep_2 18 rfl) ?_
      refine g_iload_n C hl 3 rfl rfl (gdec kL_isStep_2 19 rfl) ?_
      refine g_iconst C (gdec kL_isStep_2 20 rfl) ?_
      refine g_isub C (gdec kL_isStep_2 21 rfl) ?_
      refine g_iload C hl 0 rfl (gdec kL_isStep_2 22 rfl) ?_
      refine g_iload_n C hl 3 rfl rfl (gdec kL_isStep_2 23 rfl) ?_
      obtain ⟨r171, q172, hf⟩ := bn1_s hf
      refine g_ci h (g_runS (CO F) h (c_L_up l (eo E0 B F) G170 (p4 / 16) p3 _ q172) wM_L_9 wT_L_up wN_L wC_L_up rfl ny_L_up rfl ⟨Nat.le_of_ble_eq_true rfl, Nat.le_of_ble_eq_true rfl⟩ hl.1 rfl (Nat.le_of_ble_eq_true rfl) (gdec kL_isStep_2 24 rfl) ⟨Nat.zero_le _, Nat.zero_le _⟩) (fun H locs h => ?_)
      refine g_isub C (gdec kL_isStep_2 25 rfl) ?_
      refine g_iload C hl 0 rfl (gdec kL_isStep_2 26 rfl) ?_
      refine g_iconst C (gdec kL_isStep_2 27 rfl) ?_
      refine g_ishr C h165 (k := 3) (by decide) (gdec kL_isStep_2 28 rfl) ?_
      refine g_bipush C (gdec kL_isStep_2 29 rfl) rfl ?_
      obtain ⟨r173, q174, hf⟩ := bn1_s hf
      refine g_ci h (g_runS (CO F) h (c_L_up l (eo E0 B F) G170 ((p4 / 16) / 8) 101 _ q174) wM_L_9 wT_L_up wN_L wC_L_up rfl ny_L_up rfl ⟨Nat.le_of_ble_eq_true rfl, Nat.le_of_ble_eq_true rfl⟩ hl.1 rfl (Nat.le_of_ble_eq_true rfl) (gdec kL_isStep_2 30 rfl) ⟨Nat.zero_le _, Nat.zero_le _⟩) (fun H locs h => ?_)
      obtain ⟨F177, r175, q176, hf⟩ := bxw_s hf
      refine g_ci (g_sw h) (g_runV (CP G170) (g_sw h) ok_p (by decide) rfl (c_X7_addTeam l (ep E0 B G170) F ((p3 - 1) - r171) r173 ok_p _ _ q176) wM_L_28 wI_X7_addTeam wS_X7_addTeam wN_X7 wC_X7_addTeam rfl ny_X7_addTeam rfl ⟨Nat.le_of_ble_eq_true rfl, Nat.le_of_ble_eq_true rfl⟩ hl.1 rfl (Nat.le_of_ble_eq_true rfl) (gdec kL_isStep_2 31 rfl) ⟨Nat.zero_le _, Nat.zero_le _⟩) (fun H locs h => ?_)
      replace h := g_ws h
      obtain ⟨h178, hf⟩ := gd_s hf
      obtain ⟨h179, hf⟩ := gd_s hf
      refine g_icmp_ne C (tgt := 319) h178 h179 (by decide) (gdec kL_isStep_2 32 rfl) (fun c180 => ?_) (fun c180 => ?_)
      · replace hf := ifp c180 hf
        refine g_iconst C (gdec kL_isStep_2 33 rfl) ?_
        refine g_goto C (tgt := 320) (by decide) (gdec kL_isStep_2 34 rfl) ?_
        cases hf
        exact g_zret (CO _) h (Or.inr rfl) rfl (gdec kL_isStep_2 36 rfl)
      · replace hf := ifn c180 hf
        refine g_iconst C (gdec kL_isStep_2 35 rfl) ?_
        cases hf
        exact g_zret (CO _) h (Or.inl rfl) rfl (gdec kL_isStep_2 36 rfl)
  replace hf := ifn c158 hf
  by_cases c181 : r2 = 5
  · replace hf := ifp c181 hf
    refine g_tableIn C (tgt := 321) c181 (by decide) (by decide) (by decide) rfl (by decide) (gdec kL_isStep 7 rfl) ?_
    refine g_iload C hl 0 rfl (gdec kL_isStep_2 37 rfl) ?_
    refine g_iload_n C hl 3 rfl rfl (gdec kL_isStep_2 38 rfl) ?_
    obtain ⟨r182, q183, hf⟩ := bn1_s hf
    refine g_ci h (g_runS (CO F) h (c_L_up l (eo E0 B F) G (p4 / 16) p3 _ q183) wM_L_9 wT_L_up wN_L wC_L_up rfl ny_L_up rfl ⟨Nat.le_of_ble_eq_true rfl, Nat.le_of_ble_eq_true rfl⟩ hl.1 rfl (Nat.le_of_ble_eq_true rfl) (gdec kL_isStep_2 39 rfl) ⟨Nat.zero_le _, Nat.zero_le _⟩) (fun H locs h => ?_)
    refine g_istore C [(5, vI r182), (4, vI (p4 / 16)), (0, rO B), (1, rP B), (2, vI p3), (3, vI p4)] hl (by decide) rfl (gdec kL_isStep_2 40 rfl) (fun ls hl => ?_)
    refine g_iload C hl 0 rfl (gdec kL_isStep_2 41 rfl) ?_
    refine g_iconst C (gdec kL_isStep_2 42 rfl) ?_
    refine g_iadd C (gdec kL_isStep_2 43 rfl) ?_
    refine g_iload C hl 1 rfl (gdec kL_isStep_2 44 rfl) ?_
    refine g_iconst C (gdec kL_isStep_2 45 rfl) ?_
    obtain ⟨h184, hf⟩ := gd_s hf
    refine g_ishr C h184 (k := 3) (by decide) (gdec kL_isStep_2 46 rfl) ?_
    refine g_iload_n C hl 4 rfl rfl (gdec kL_isStep_2 47 rfl) ?_
    refine g_iconst C (gdec kL_isStep_2 48 rfl) ?_
    refine g_isub C (gdec kL_isStep_2 49 rfl) ?_
    obtain ⟨r185, q186, hf⟩ := bn1_s hf
    refine g_ci h (g_runS (CO F) h (c_L_up l (eo E0 B F) G ((p4 / 16) / 8) (p3 - 1) _ q186) wM_L_9 wT_L_up wN_L wC_L_up rfl ny_L_up rfl ⟨Nat.le_of_ble_eq_true rfl, Nat.le_of_ble_eq_true rfl⟩ hl.1 rfl (Nat.le_of_ble_eq_true rfl) (gdec kL_isStep_2 50 rfl) ⟨Nat.zero_le _, Nat.zero_le _⟩) (fun H locs h => ?_)
    refine g_iadd C (gdec kL_isStep_2 51 rfl) ?_
    refine g_iload_n C hl 4 rfl rfl (gdec kL_isStep_2 52 rfl) ?_
    obtain ⟨h187, hf⟩ := gq_s hf
    obtain ⟨h188, hf⟩ := ga_s hf
    refine g_irem C h188.1 ⟨by omega, by omega⟩ h187.1 ⟨by omega, by omega⟩ (gdec kL_isStep_2 53 rfl) ?_
    refine g_istore C [(6, vI (((r182 + 1) + r185) % p3)), (5, vI r182), (4, vI (p4 / 16)), (0, rO B), (1, rP B), (2, vI p3), (3, vI p4)] hl (by decide) rfl (gdec kL_isStep_2 54 rfl) (fun ls hl => ?_)
    refine g_aload_n C hl 3 rfl rfl (gdec kL_isStep_2 55 rfl) ?_
    refine g_iconst C (gdec kL_isStep_2 56 rfl) ?_
    obtain ⟨r189, q190, hf⟩ := bxr_s hf
    refine g_ci h (g_runV (CO F) h ok_o (by decide) rfl (c_X7_value l (eo E0 B F) G 2 ok_o _ q190) wM_L_24 wI_X7_value wS_X7_value wN_X7 wC_X7_value rfl ny_X7_value rfl ⟨Nat.le_of_ble_eq_true rfl, Nat.le_of_ble_eq_true rfl⟩ hl.1 rfl (Nat.le_of_ble_eq_true rfl) (gdec kL_isStep_2 57 rfl) ⟨Nat.zero_le _, Nat.zero_le _⟩) (fun H locs h => ?_)
    refine g_bipush C (gdec kL_isStep_2 58 rfl) rfl ?_
    obtain ⟨h191, hf⟩ := gd_s hf
    refine g_icmp_eq C (tgt := 417) h191 (by decide) (by decide) (gdec kL_isStep_2 59 rfl) (fun c192 => ?_) (fun c192 => ?_)
    · replace hf := ifp c192 hf
      refine g_iconst C (gdec kL_isStep_3 37 rfl) ?_
      refine g_goto C (tgt := 422) (by decide) (gdec kL_isStep_3 38 rfl) ?_
      cases hf
      exact g_zret (CO _) h (Or.inr rfl) rfl (gdec kL_isStep_3 40 rfl)
    · replace hf := ifn c192 hf
      refine g_aload_n C hl 3 rfl rfl (gdec kL_isStep_3 0 rfl) ?_
      refine g_iload C hl 1 rfl (gdec kL_isStep_3 1 rfl) ?_
      refine g_iload C hl 0 rfl (gdec kL_isStep_3 2 rfl) ?_
      refine g_iload C hl 2 rfl (gdec kL_isStep_3 3 rfl) ?_
      refine g_bipush C (gdec kL_isStep_3 4 rfl) rfl ?_
      refine g_ishr C h184 (k := 8) (by decide) (gdec kL_isStep_3 5 rfl) ?_
      refine g_iconst C (gdec kL_isStep_3 6 rfl) ?_
      refine g_iand1 C (gdec kL_isStep_3 7 rfl) ?_
      refine g_iconst C (gdec kL_isStep_3 8 rfl) ?_
      obtain ⟨h193, hf⟩ := gd_s hf
      refine g_icmp_ne C (tgt := 378) h193 (by decide) (by decide) (gdec kL_isStep_3 9 rfl) (fun c194 => ?_) (fun c194 => ?_)
      · replace hf := ifp c194 hf
        refine g_iconst C (gdec kL_isStep_3 10 rfl) ?_
        refine g_goto C (tgt := 379) (by decide) (gdec kL_isStep_3 11 rfl) ?_
        obtain ⟨G197, r195, q196, hf⟩ := bxw_s hf
        refine g_ci h (g_runV (CO F) h ok_o (by decide) rfl (c_X7_give l (eo E0 B F) G r182 (((r182 + 1) + r185) % p3) 1 ok_o _ _ q196) wM_L_31 wI_X7_give wS_X7_give wN_X7 wC_X7_give rfl ny_X7_give rfl ⟨Nat.le_of_ble_eq_true rfl, Nat.le_of_ble_eq_true rfl⟩ hl.1 rfl (Nat.le_of_ble_eq_true rfl) (gdec kL_isStep_3 13 rfl) ⟨Nat.zero_le _, Nat.zero_le _⟩) (fun H locs h => ?_)
        refine g_aload_n C hl 4 rfl rfl (gdec kL_isStep_3 14 rfl) ?_
        refine g_iload_n C hl 5 rfl rfl (gdec kL_isStep_3 15 rfl) ?_
        refine g_iconst C (gdec kL_isStep_3 16 rfl) ?_
        refine g_isub C (gdec kL_isStep_3 17 rfl) ?_
        refine g_iload C hl 1 rfl (gdec kL_isStep_3 18 rfl) ?_
        refine g_isub C (gdec kL_isStep_3 19 rfl) ?_
        refine g_iload_n C hl 5 rfl rfl (gdec kL_isStep_3 20 rfl) ?_
        refine g_iconst C (gdec kL_isStep_3 21 rfl) ?_
        refine g_isub C (gdec kL_isStep_3 22 rfl) ?_
        refine g_iload C hl 0 rfl (gdec kL_isStep_3 23 rfl) ?_
        refine g_isub C (gdec kL_isStep_3 24 rfl) ?_
        refine g_iload C hl 2 rfl (gdec kL_isStep_3 25 rfl) ?_
        refine g_bipush C (gdec kL_isStep_3 26 rfl) rfl ?_
        refine g_ishr C h184 (k := 8) (by decide) (gdec kL_isStep_3 27 rfl) ?_
        refine g_iconst C (gdec kL_isStep_3 28 rfl) ?_
        refine g_iand1 C (gdec kL_isStep_3 29 rfl) ?_
        refine g_iconst C (gdec kL_isStep_3 30 rfl) ?_
        refine g_icmp_ne C (tgt := 410) h193 (by decide) (by decide) (gdec kL_isStep_3 31 rfl) (fun c0 => ?_) (fun c0 => absurd c194 c0)
        refine g_iconst C (gdec kL_isStep_3 32 rfl) ?_
        refine g_goto C (tgt := 411) (by decide) (gdec kL_isStep_3 33 rfl) ?_
        obtain ⟨F200, r198, q199, hf⟩ := bxw_s hf
        refine g_ci (g_sw h) (g_runV (CP G197) (g_sw h) ok_p (by decide) rfl (c_X7_give l (ep E0 B G197) F ((p3 - 1) - r182) ((p3 - 1) - (((r182 + 1) + r185) % p3)) 1 ok_p _ _ q199) wM_L_31 wI_X7_give wS_X7_give wN_X7 wC_X7_give rfl ny_X7_give rfl ⟨Nat.le_of_ble_eq_true rfl, Nat.le_of_ble_eq_true rfl⟩ hl.1 rfl (Nat.le_of_ble_eq_true rfl) (gdec kL_isStep_3 35 rfl) ⟨Nat.zero_le _, Nat.zero_le _⟩) (fun H locs h => ?_)
        replace h := g_ws h
        obtain ⟨h201, hf⟩ := gd_s hf
        obtain ⟨h202, hf⟩ := gd_s hf
        refine g_icmp_ne C (tgt := 421) h201 h202 (by decide) (gdec kL_isStep_3 36 rfl) (fun c203 => ?_) (fun c203 => ?_)
        · replace hf := ifp c203 hf
          refine g_iconst C (gdec kL_isStep_3 37 rfl) ?_
          refine g_goto C (tgt := 422) (by decide) (gdec kL_isStep_3 38 rfl) ?_
          cases hf
          exact g_zret (CO _) h (Or.inr rfl) rfl (gdec kL_isStep_3 40 rfl)
        · replace hf := ifn c203 hf
          refine g_iconst C (gdec kL_isStep_3 39 rfl) ?_
          cases hf
          exact g_zret (CO _) h (Or.inl rfl) rfl (gdec kL_isStep_3 40 rfl)
      · replace hf := ifn c194 hf
        refine g_iconst C (gdec kL_isStep_3 12 rfl) ?_
        obtain ⟨G206, r204, q205, hf⟩ := bxw_s hf
        refine g_ci h (g_runV (CO F) h ok_o (by decide) rfl (c_X7_give l (eo E0 B F) G r182 (((r182 + 1) + r185) % p3) 0 ok_o _ _ q205) wM_L_31 wI_X7_give wS_X7_give wN_X7 wC_X7_give rfl ny_X7_give rfl ⟨Nat.le_of_ble_eq_true rfl, Nat.le_of_ble_eq_true rfl⟩ hl.1 rfl (Nat.le_of_ble_eq_true rfl) (gdec kL_isStep_3 13 rfl) ⟨Nat.zero_le _, Nat.zero_le _⟩) (fun H locs h => ?_)
        refine g_aload_n C hl 4 rfl rfl (gdec kL_isStep_3 14 rfl) ?_
        refine g_iload_n C hl 5 rfl rfl (gdec kL_isStep_3 15 rfl) ?_
        refine g_iconst C (gdec kL_isStep_3 16 rfl) ?_
        refine g_isub C (gdec kL_isStep_3 17 rfl) ?_
        refine g_iload C hl 1 rfl (gdec kL_isStep_3 18 rfl) ?_
        refine g_isub C (gdec kL_isStep_3 19 rfl) ?_
        refine g_iload_n C hl 5 rfl rfl (gdec kL_isStep_3 20 rfl) ?_
        refine g_iconst C (gdec kL_isStep_3 21 rfl) ?_
        refine g_isub C (gdec kL_isStep_3 22 rfl) ?_
        refine g_iload C hl 0 rfl (gdec kL_isStep_3 23 rfl) ?_
        refine g_isub C (gdec kL_isStep_3 24 rfl) ?_
        refine g_iload C hl 2 rfl (gdec kL_isStep_3 25 rfl) ?_
        refine g_bipush C (gdec kL_isStep_3 26 rfl) rfl ?_
        refine g_ishr C h184 (k := 8) (by decide) (gdec kL_isStep_3 27 rfl) ?_
        refine g_iconst C (gdec kL_isStep_3 28 rfl) ?_
        refine g_iand1 C (gdec kL_isStep_3 29 rfl) ?_
        refine g_iconst C (gdec kL_isStep_3 30 rfl) ?_
        refine g_icmp_ne C (tgt := 410) h193 (by decide) (by decide) (gdec kL_isStep_3 31 rfl) (fun c0 => absurd c0 c194) (fun c0 => ?_)
        refine g_iconst C (gdec kL_isStep_3 34 rfl) ?_
        obtain ⟨F209, r207, q208, hf⟩ := bxw_s hf
        refine g_ci (g_sw h) (g_runV (CP G206) (g_sw h) ok_p (by decide) rfl (c_X7_give l (ep E0 B G206) F ((p3 - 1) - r182) ((p3 - 1) - (((r182 + 1) + r185) % p3)) 0 ok_p _ _ q208) wM_L_31 wI_X7_give wS_X7_give wN_X7 wC_X7_give rfl ny_X7_give rfl ⟨Nat.le_of_ble_eq_true rfl, Nat.le_of_ble_eq_true rfl⟩ hl.1 rfl (Nat.le_of_ble_eq_true rfl) (gdec kL_isStep_3 35 rfl) ⟨Nat.zero_le _, Nat.zero_le _⟩) (fun H locs h => ?_)
        replace h := g_ws h
        obtain ⟨h210, hf⟩ := gd_s hf
        obtain ⟨h211, hf⟩ := gd_s hf
        refine g_icmp_ne C (tgt := 421) h210 h211 (by decide) (gdec kL_isStep_3 36 rfl) (fun c212 => ?_) (fun c212 => ?_)
        · replace hf := ifp c212 hf
          refine g_iconst C (gdec kL_isStep_3 37 rfl) ?_
          refine g_goto C (tgt := 422) (by decide) (gdec kL_isStep_3 38 rfl) ?_
          cases hf
          exact g_zret (CO _) h (Or.inr rfl) rfl (gdec kL_isStep_3 40 rfl)
        · replace hf := ifn c212 hf
          refine g_iconst C (gdec kL_isStep_3 39 rfl) ?_
          cases hf
          exact g_zret (CO _) h (Or.inl rfl) rfl (gdec kL_isStep_3 40 rfl)
  replace hf := ifn c181 hf
  by_cases c213 : r2 = 6
  · replace hf := ifp c213 hf
    refine g_tableIn C (tgt := 321) c213 (by decide) (by decide) (by decide) rfl (by decide) (gdec kL_isStep 7 rfl) ?_
    refine g_iload C hl 0 rfl (gdec kL_isStep_2 37 rfl) ?_
    refine g_iload_n C hl 3 rfl rfl (gdec kL_isStep_2 38 rfl) ?_
    obtain ⟨r214, q215, hf⟩ := bn1_s hf
    refine g_ci h (g_runS (CO F) h (c_L_up l (eo E0 B F) G (p4 / 16) p3 _ q215) wM_L_9 wT_L_up wN_L wC_L_up rfl ny_L_up rfl ⟨Nat.le_of_ble_eq_true rfl, Nat.le_of_ble_eq_true rfl⟩ hl.1 rfl (Nat.le_of_ble_eq_true rfl) (gdec kL_isStep_2 39 rfl) ⟨Nat.zero_le _, Nat.zero_le _⟩) (fun H locs h => ?_)
    refine g_istore C [(5, vI r214), (4, vI (p4 / 16)), (0, rO B), (1, rP B), (2, vI p3), (3, vI p4)] hl (by decide) rfl (gdec kL_isStep_2 40 rfl) (fun ls hl => ?_)
    refine g_iload C hl 0 rfl (gdec kL_isStep_2 41 rfl) ?_
    refine g_iconst C (gdec kL_isStep_2 42 rfl) ?_
    refine g_iadd C (gdec kL_isStep_2 43 rfl) ?_
    refine g_iload C hl 1 rfl (gdec kL_isStep_2 44 rfl) ?_
    refine g_iconst C (gdec kL_isStep_2 45 rfl) ?_
    obtain ⟨h216, hf⟩ := gd_s hf
    refine g_ishr C h216 (k := 3) (by decide) (gdec kL_isStep_2 46 rfl) ?_
    refine g_iload_n C hl 4 rfl rfl (gdec kL_isStep_2 47 rfl) ?_
    refine g_iconst C (gdec kL_isStep_2 48 rfl) ?_
    refine g_isub C (gdec kL_isStep_2 49 rfl) ?_
    obtain ⟨r217, q218, hf⟩ := bn1_s hf
    refine g_ci h (g_runS (CO F) h (c_L_up l (eo E0 B F) G ((p4 / 16) / 8) (p3 - 1) _ q218) wM_L_9 wT_L_up wN_L wC_L_up rfl ny_L_up rfl ⟨Nat.le_of_ble_eq_true rfl, Nat.le_of_ble_eq_true rfl⟩ hl.1 rfl (Nat.le_of_ble_eq_true rfl) (gdec kL_isStep_2 50 rfl) ⟨Nat.zero_le _, Nat.zero_le _⟩) (fun H locs h => ?_)
    refine g_iadd C (gdec kL_isStep_2 51 rfl) ?_
    refine g_iload_n C hl 4 rfl rfl (gdec kL_isStep_2 52 rfl) ?_
    obtain ⟨h219, hf⟩ := gq_s hf
    obtain ⟨h220, hf⟩ := ga_s hf
    refine g_irem C h220.1 ⟨by omega, by omega⟩ h219.1 ⟨by omega, by omega⟩ (gdec kL_isStep_2 53 rfl) ?_
    refine g_istore C [(6, vI (((r214 + 1) + r217) % p3)), (5, vI r214), (4, vI (p4 / 16)), (0, rO B), (1, rP B), (2, vI p3), (3, vI p4)] hl (by decide) rfl (gdec kL_isStep_2 54 rfl) (fun ls hl => ?_)
    refine g_aload_n C hl 3 rfl rfl (gdec kL_isStep_2 55 rfl) ?_
    refine g_iconst C (gdec kL_isStep_2 56 rfl) ?_
    obtain ⟨r221, q222, hf⟩ := bxr_s hf
    refine g_ci h (g_runV (CO F) h ok_o (by decide) rfl (c_X7_value l (eo E0 B F) G 2 ok_o _ q222) wM_L_24 wI_X7_value wS_X7_value wN_X7 wC_X7_value rfl ny_X7_value rfl ⟨Nat.le_of_ble_eq_true rfl, Nat.le_of_ble_eq_true rfl⟩ hl.1 rfl (Nat.le_of_ble_eq_true rfl) (gdec kL_isStep_2 57 rfl) ⟨Nat.zero_le _, Nat.zero_le _⟩) (fun H locs h => ?_)
    refine g_bipush C (gdec kL_isStep_2 58 rfl) rfl ?_
    obtain ⟨h223, hf⟩ := gd_s hf
    refine g_icmp_eq C (tgt := 417) h223 (by decide) (by decide) (gdec kL_isStep_2 59 rfl) (fun c224 => ?_) (fun c224 => ?_)
    · replace hf := ifp c224 hf
      refine g_iconst C (gdec kL_isStep_3 37 rfl) ?_
      refine g_goto C (tgt := 422) (by decide) (gdec kL_isStep_3 38 rfl) ?_
      cases hf
      exact g_zret (CO _) h (Or.inr rfl) rfl (gdec kL_isStep_3 40 rfl)
    · replace hf := ifn c224 hf
      refine g_aload_n C hl 3 rfl rfl (gdec kL_isStep_3 0 rfl) ?_
      refine g_iload C hl 1 rfl (gdec kL_isStep_3 1 rfl) ?_
      refine g_iload C hl 0 rfl (gdec kL_isStep_3 2 rfl) ?_
      refine g_iload C hl 2 rfl (gdec kL_isStep_3 3 rfl) ?_
      refine g_bipush C (gdec kL_isStep_3 4 rfl) rfl ?_
      refine g_ishr C h216 (k := 8) (by decide) (gdec kL_isStep_3 5 rfl) ?_
      refine g_iconst C (gdec kL_isStep_3 6 rfl) ?_
      refine g_iand1 C (gdec kL_isStep_3 7 rfl) ?_
      refine g_iconst C (gdec kL_isStep_3 8 rfl) ?_
      obtain ⟨h225, hf⟩ := gd_s hf
      refine g_icmp_ne C (tgt := 378) h225 (by decide) (by decide) (gdec kL_isStep_3 9 rfl) (fun c226 => ?_) (fun c226 => ?_)
      · replace hf := ifp c226 hf
        refine g_iconst C (gdec kL_isStep_3 10 rfl) ?_
        refine g_goto C (tgt := 379) (by decide) (gdec kL_isStep_3 11 rfl) ?_
        obtain ⟨G229, r227, q228, hf⟩ := bxw_s hf
        refine g_ci h (g_runV (CO F) h ok_o (by decide) rfl (c_X7_give l (eo E0 B F) G r214 (((r214 + 1) + r217) % p3) 1 ok_o _ _ q228) wM_L_31 wI_X7_give wS_X7_give wN_X7 wC_X7_give rfl ny_X7_give rfl ⟨Nat.le_of_ble_eq_true rfl, Nat.le_of_ble_eq_true rfl⟩ hl.1 rfl (Nat.le_of_ble_eq_true rfl) (gdec kL_isStep_3 13 rfl) ⟨Nat.zero_le _, Nat.zero_le _⟩) (fun H locs h => ?_)
        refine g_aload_n C hl 4 rfl rfl (gdec kL_isStep_3 14 rfl) ?_
        refine g_iload_n C hl 5 rfl rfl (gdec kL_isStep_3 15 rfl) ?_
        refine g_iconst C (gdec kL_isStep_3 16 rfl) ?_
        refine g_isub C (gdec kL_isStep_3 17 rfl) ?_
        refine g_iload C hl 1 rfl (gdec kL_isStep_3 18 rfl) ?_
        refine g_isub C (gdec kL_isStep_3 19 rfl) ?_
        refine g_iload_n C hl 5 rfl rfl (gdec kL_isStep_3 20 rfl) ?_
        refine g_iconst C (gdec kL_isStep_3 21 rfl) ?_
        refine g_isub C (gdec kL_isStep_3 22 rfl) ?_
        refine g_iload C hl 0 rfl (gdec kL_isStep_3 23 rfl) ?_
        refine g_isub C (gdec kL_isStep_3 24 rfl) ?_
        refine g_iload C hl 2 rfl (gdec kL_isStep_3 25 rfl) ?_
        refine g_bipush C (gdec kL_isStep_3 26 rfl) rfl ?_
        refine g_ishr C h216 (k := 8) (by decide) (gdec kL_isStep_3 27 rfl) ?_
        refine g_iconst C (gdec kL_isStep_3 28 rfl) ?_
        refine g_iand1 C (gdec kL_isStep_3 29 rfl) ?_
        refine g_iconst C (gdec kL_isStep_3 30 rfl) ?_
        refine g_icmp_ne C (tgt := 410) h225 (by decide) (by decide) (gdec kL_isStep_3 31 rfl) (fun c0 => ?_) (fun c0 => absurd c226 c0)
        refine g_iconst C (gdec kL_isStep_3 32 rfl) ?_
        refine g_goto C (tgt := 411) (by decide) (gdec kL_isStep_3 33 rfl) ?_
        obtain ⟨F232, r230, q231, hf⟩ := bxw_s hf
        refine g_ci (g_sw h) (g_runV (CP G229) (g_sw h) ok_p (by decide) rfl (c_X7_give l (ep E0 B G229) F ((p3 - 1) - r214) ((p3 - 1) - (((r214 + 1) + r217) % p3)) 1 ok_p _ _ q231) wM_L_31 wI_X7_give wS_X7_give wN_X7 wC_X7_give rfl ny_X7_give rfl ⟨Nat.le_of_ble_eq_true rfl, Nat.le_of_ble_eq_true rfl⟩ hl.1 rfl (Nat.le_of_ble_eq_true rfl) (gdec kL_isStep_3 35 rfl) ⟨Nat.zero_le _, Nat.zero_le _⟩) (fun H locs h => ?_)
        replace h := g_ws h
        obtain ⟨h233, hf⟩ := gd_s hf
        obtain ⟨h234, hf⟩ := gd_s hf
        refine g_icmp_ne C (tgt := 421) h233 h234 (by decide) (gdec kL_isStep_3 36 rfl) (fun c235 => ?_) (fun c235 => ?_)
        · replace hf := ifp c235 hf
          refine g_iconst C (gdec kL_isStep_3 37 rfl) ?_
          refine g_goto C (tgt := 422) (by decide) (gdec kL_isStep_3 38 rfl) ?_
          cases hf
          exact g_zret (CO _) h (Or.inr rfl) rfl (gdec kL_isStep_3 40 rfl)
        · replace hf := ifn c235 hf
          refine g_iconst C (gdec kL_isStep_3 39 rfl) ?_
          cases hf
          exact g_zret (CO _) h (Or.inl rfl) rfl (gdec kL_isStep_3 40 rfl)
      · replace hf := ifn c226 hf
        refine g_iconst C (gdec kL_isStep_3 12 rfl) ?_
        obtain ⟨G238, r236, q237, hf⟩ := bxw_s hf
        refine g_ci h (g_runV (CO F) h ok_o (by decide) rfl (c_X7_give l (eo E0 B F) G r214 (((r214 + 1) + r217) % p3) 0 ok_o _ _ q237) wM_L_31 wI_X7_give wS_X7_give wN_X7 wC_X7_give rfl ny_X7_give rfl ⟨Nat.le_of_ble_eq_true rfl, Nat.le_of_ble_eq_true rfl⟩ hl.1 rfl (Nat.le_of_ble_eq_true rfl) (gdec kL_isStep_3 13 rfl) ⟨Nat.zero_le _, Nat.zero_le _⟩) (fun H locs h => ?_)
        refine g_aload_n C hl 4 rfl rfl (gdec kL_isStep_3 14 rfl) ?_
        refine g_iload_n C hl 5 rfl rfl (gdec kL_isStep_3 15 rfl) ?_
        refine g_iconst C (gdec kL_isStep_3 16 rfl) ?_
        refine g_isub C (gdec kL_isStep_3 17 rfl) ?_
        refine g_iload C hl 1 rfl (gdec kL_isStep_3 18 rfl) ?_
        refine g_isub C (gdec kL_isStep_3 19 rfl) ?_
        refine g_iload_n C hl 5 rfl rfl (gdec kL_isStep_3 20 rfl) ?_
        refine g_iconst C (gdec kL_isStep_3 21 rfl) ?_
        refine g_isub C (gdec kL_isStep_3 22 rfl) ?_
        refine g_iload C hl 0 rfl (gdec kL_isStep_3 23 rfl) ?_
        refine g_isub C (gdec kL_isStep_3 24 rfl) ?_
        refine g_iload C hl 2 rfl (gdec kL_isStep_3 25 rfl) ?_
        refine g_bipush C (gdec kL_isStep_3 26 rfl) rfl ?_
        refine g_ishr C h216 (k := 8) (by decide) (gdec kL_isStep_3 27 rfl) ?_
        refine g_iconst C (gdec kL_isStep_3 28 rfl) ?_
        refine g_iand1 C (gdec kL_isStep_3 29 rfl) ?_
        refine g_iconst C (gdec kL_isStep_3 30 rfl) ?_
        refine g_icmp_ne C (tgt := 410) h225 (by decide) (by decide) (gdec kL_isStep_3 31 rfl) (fun c0 => absurd c0 c226) (fun c0 => ?_)
        refine g_iconst C (gdec kL_isStep_3 34 rfl) ?_
        obtain ⟨F241, r239, q240, hf⟩ := bxw_s hf
        refine g_ci (g_sw h) (g_runV (CP G238) (g_sw h) ok_p (by decide) rfl (c_X7_give l (ep E0 B G238) F ((p3 - 1) - r214) ((p3 - 1) - (((r214 + 1) + r217) % p3)) 0 ok_p _ _ q240) wM_L_31 wI_X7_give wS_X7_give wN_X7 wC_X7_give rfl ny_X7_give rfl ⟨Nat.le_of_ble_eq_true rfl, Nat.le_of_ble_eq_true rfl⟩ hl.1 rfl (Nat.le_of_ble_eq_true rfl) (gdec kL_isStep_3 35 rfl) ⟨Nat.zero_le _, Nat.zero_le _⟩) (fun H locs h => ?_)
        replace h := g_ws h
        obtain ⟨h242, hf⟩ := gd_s hf
        obtain ⟨h243, hf⟩ := gd_s hf
        refine g_icmp_ne C (tgt := 421) h242 h243 (by decide) (gdec kL_isStep_3 36 rfl) (fun c244 => ?_) (fun c244 => ?_)
        · replace hf := ifp c244 hf
          refine g_iconst C (gdec kL_isStep_3 37 rfl) ?_
          refine g_goto C (tgt := 422) (by decide) (gdec kL_isStep_3 38 rfl) ?_
          cases hf
          exact g_zret (CO _) h (Or.inr rfl) rfl (gdec kL_isStep_3 40 rfl)
        · replace hf := ifn c244 hf
          refine g_iconst C (gdec kL_isStep_3 39 rfl) ?_
          cases hf
          exact g_zret (CO _) h (Or.inl rfl) rfl (gdec kL_isStep_3 40 rfl)
  replace hf := ifn c213 hf
  by_cases c245 : r2 = 7
  · replace hf := ifp c245 hf
    refine g_tableIn C (tgt := 321) c245 (by decide) (by decide) (by decide) rfl (by decide) (gdec kL_isStep 7 rfl) ?_
    refine g_iload C hl 0 rfl (gdec kL_isStep_2 37 rfl) ?_
    refine g_iload_n C hl 3 rfl rfl (gdec kL_isStep_2 38 rfl) ?_
    obtain ⟨r246, q247, hf⟩ := bn1_s hf
    refine g_ci h (g_runS (CO F) h (c_L_up l (eo E0 B F) G (p4 / 16) p3 _ q247) wM_L_9 wT_L_up wN_L wC_L_up rfl ny_L_up rfl ⟨Nat.le_of_ble_eq_true rfl, Nat.le_of_ble_eq_true rfl⟩ hl.1 rfl (Nat.le_of_ble_eq_true rfl) (gdec kL_isStep_2 39 rfl) ⟨Nat.zero_le _, Nat.zero_le _⟩) (fun H locs h => ?_)
    refine g_istore C [(5, vI r246), (4, vI (p4 / 16)), (0, rO B), (1, rP B), (2, vI p3), (3, vI p4)] hl (by decide) rfl (gdec kL_isStep_2 40 rfl) (fun ls hl => ?_)
    refine g_iload C hl 0 rfl (gdec kL_isStep_2 41 rfl) ?_
    refine g_iconst C (gdec kL_isStep_2 42 rfl) ?_
    refine g_iadd C (gdec kL_isStep_2 43 rfl) ?_
    refine g_iload C hl 1 rfl (gdec kL_isStep_2 44 rfl) ?_
    refine g_iconst C (gdec kL_isStep_2 45 rfl) ?_
    obtain ⟨h248, hf⟩ := gd_s hf
    refine g_ishr C h248 (k := 3) (by decide) (gdec kL_isStep_2 46 rfl) ?_
    refine g_iload_n C hl 4 rfl rfl (gdec kL_isStep_2 47 rfl) ?_
    refine g_iconst C (gdec kL_isStep_2 48 rfl) ?_
    refine g_isub C (gdec kL_isStep_2 49 rfl) ?_
    obtain ⟨r249, q250, hf⟩ := bn1_s hf
    refine g_ci h (g_runS (CO F) h (c_L_up l (eo E0 B F) G ((p4 / 16) / 8) (p3 - 1) _ q250) wM_L_9 wT_L_up wN_L wC_L_up rfl ny_L_up rfl ⟨Nat.le_of_ble_eq_true rfl, Nat.le_of_ble_eq_true rfl⟩ hl.1 rfl (Nat.le_of_ble_eq_true rfl) (gdec kL_isStep_2 50 rfl) ⟨Nat.zero_le _, Nat.zero_le _⟩) (fun H locs h => ?_)
    refine g_iadd C (gdec kL_isStep_2 51 rfl) ?_
    refine g_iload_n C hl 4 rfl rfl (gdec kL_isStep_2 52 rfl) ?_
    obtain ⟨h251, hf⟩ := gq_s hf
    obtain ⟨h252, hf⟩ := ga_s hf
    refine g_irem C h252.1 ⟨by omega, by omega⟩ h251.1 ⟨by omega, by omega⟩ (gdec kL_isStep_2 53 rfl) ?_
    refine g_istore C [(6, vI (((r246 + 1) + r249) % p3)), (5, vI r246), (4, vI (p4 / 16)), (0, rO B), (1, rP B), (2, vI p3), (3, vI p4)] hl (by decide) rfl (gdec kL_isStep_2 54 rfl) (fun ls hl => ?_)
    refine g_aload_n C hl 3 rfl rfl (gdec kL_isStep_2 55 rfl) ?_
    refine g_iconst C (gdec kL_isStep_2 56 rfl) ?_
    obtain ⟨r253, q254, hf⟩ := bxr_s hf
    refine g_ci h (g_runV (CO F) h ok_o (by decide) rfl (c_X7_value l (eo E0 B F) G 2 ok_o _ q254) wM_L_24 wI_X7_value wS_X7_value wN_X7 wC_X7_value rfl ny_X7_value rfl ⟨Nat.le_of_ble_eq_true rfl, Nat.le_of_ble_eq_true rfl⟩ hl.1 rfl (Nat.le_of_ble_eq_true rfl) (gdec kL_isStep_2 57 rfl) ⟨Nat.zero_le _, Nat.zero_le _⟩) (fun H locs h => ?_)
    refine g_bipush C (gdec kL_isStep_2 58 rfl) rfl ?_
    obtain ⟨h255, hf⟩ := gd_s hf
    refine g_icmp_eq C (tgt := 417) h255 (by decide) (by decide) (gdec kL_isStep_2 59 rfl) (fun c256 => ?_) (fun c256 => ?_)
    · replace hf := ifp c256 hf
      refine g_iconst C (gdec kL_isStep_3 37 rfl) ?_
      refine g_goto C (tgt := 422) (by decide) (gdec kL_isStep_3 38 rfl) ?_
      cases hf
      exact g_zret (CO _) h (Or.inr rfl) rfl (gdec kL_isStep_3 40 rfl)
    · replace hf := ifn c256 hf
      refine g_aload_n C hl 3 rfl rfl (gdec kL_isStep_3 0 rfl) ?_
      refine g_iload C hl 1 rfl (gdec kL_isStep_3 1 rfl) ?_
      refine g_iload C hl 0 rfl (gdec kL_isStep_3 2 rfl) ?_
      refine g_iload C hl 2 rfl (gdec kL_isStep_3 3 rfl) ?_
      refine g_bipush C (gdec kL_isStep_3 4 rfl) rfl ?_
      refine g_ishr C h248 (k := 8) (by decide) (gdec kL_isStep_3 5 rfl) ?_
      refine g_iconst C (gdec kL_isStep_3 6 rfl) ?_
      refine g_iand1 C (gdec kL_isStep_3 7 rfl) ?_
      refine g_iconst C (gdec kL_isStep_3 8 rfl) ?_
      obtain ⟨h257, hf⟩ := gd_s hf
      refine g_icmp_ne C (tgt := 378) h257 (by decide) (by decide) (gdec kL_isStep_3 9 rfl) (fun c258 => ?_) (fun c258 => ?_)
      · replace hf := ifp c258 hf
        refine g_iconst C (gdec kL_isStep_3 10 rfl) ?_
        refine g_goto C (tgt := 379) (by decide) (gdec kL_isStep_3 11 rfl) ?_
        obtain ⟨G261, r259, q260, hf⟩ := bxw_s hf
        refine g_ci h (g_runV (CO F) h ok_o (by decide) rfl (c_X7_give l (eo E0 B F) G r246 (((r246 + 1) + r249) % p3) 1 ok_o _ _ q260) wM_L_31 wI_X7_give wS_X7_give wN_X7 wC_X7_give rfl ny_X7_give rfl ⟨Nat.le_of_ble_eq_true rfl, Nat.le_of_ble_eq_true rfl⟩ hl.1 rfl (Nat.le_of_ble_eq_true rfl) (gdec kL_isStep_3 13 rfl) ⟨Nat.zero_le _, Nat.zero_le _⟩) (fun H locs h => ?_)
        refine g_aload_n C hl 4 rfl rfl (gdec kL_isStep_3 14 rfl) ?_
        refine g_iload_n C hl 5 rfl rfl (gdec kL_isStep_3 15 rfl) ?_
        refine g_iconst C (gdec kL_isStep_3 16 rfl) ?_
        refine g_isub C (gdec kL_isStep_3 17 rfl) ?_
        refine g_iload C hl 1 rfl (gdec kL_isStep_3 18 rfl) ?_
        refine g_isub C (gdec kL_isStep_3 19 rfl) ?_
        refine g_iload_n C hl 5 rfl rfl (gdec kL_isStep_3 20 rfl) ?_
        refine g_iconst C (gdec kL_isStep_3 21 rfl) ?_
        refine g_isub C (gdec kL_isStep_3 22 rfl) ?_
        refine g_iload C hl 0 rfl (gdec kL_isStep_3 23 rfl) ?_
        refine g_isub C (gdec kL_isStep_3 24 rfl) ?_
        refine g_iload C hl 2 rfl (gdec kL_isStep_3 25 rfl) ?_
        refine g_bipush C (gdec kL_isStep_3 26 rfl) rfl ?_
        refine g_ishr C h248 (k := 8) (by decide) (gdec kL_isStep_3 27 rfl) ?_
        refine g_iconst C (gdec kL_isStep_3 28 rfl) ?_
        refine g_iand1 C (gdec kL_isStep_3 29 rfl) ?_
        refine g_iconst C (gdec kL_isStep_3 30 rfl) ?_
        refine g_icmp_ne C (tgt := 410) h257 (by decide) (by decide) (gdec kL_isStep_3 31 rfl) (fun c0 => ?_) (fun c0 => absurd c258 c0)
        refine g_iconst C (gdec kL_isStep_3 32 rfl) ?_
        refine g_goto C (tgt := 411) (by decide) (gdec kL_isStep_3 33 rfl) ?_
        obtain ⟨F264, r262, q263, hf⟩ := bxw_s hf
        refine g_ci (g_sw h) (g_runV (CP G261) (g_sw h) ok_p (by decide) rfl (c_X7_give l (ep E0 B G261) F ((p3 - 1) - r246) ((p3 - 1) - (((r246 + 1) + r249) % p3)) 1 ok_p _ _ q263) wM_L_31 wI_X7_give wS_X7_give wN_X7 wC_X7_give rfl ny_X7_give rfl ⟨Nat.le_of_ble_eq_true rfl, Nat.le_of_ble_eq_true rfl⟩ hl.1 rfl (Nat.le_of_ble_eq_true rfl) (gdec kL_isStep_3 35 rfl) ⟨Nat.zero_le _, Nat.zero_le _⟩) (fun H locs h => ?_)
        replace h := g_ws h
        obtain ⟨h265, hf⟩ := gd_s hf
        obtain ⟨h266, hf⟩ := gd_s hf
        refine g_icmp_ne C (tgt := 421) h265 h266 (by decide) (gdec kL_isStep_3 36 rfl) (fun c267 => ?_) (fun c267 => ?_)
        · replace hf := ifp c267 hf
          refine g_iconst C (gdec kL_isStep_3 37 rfl) ?_
          refine g_goto C (tgt := 422) (by decide) (gdec kL_isStep_3 38 rfl) ?_
          cases hf
          exact g_zret (CO _) h (Or.inr rfl) rfl (gdec kL_isStep_3 40 rfl)
        · replace hf := ifn c267 hf
          refine g_iconst C (gdec kL_isStep_3 39 rfl) ?_
          cases hf
          exact g_zret (CO _) h (Or.inl rfl) rfl (gdec kL_isStep_3 40 rfl)
      · replace hf := ifn c258 hf
        refine g_iconst C (gdec kL_isStep_3 12 rfl) ?_
        obtain ⟨G270, r268, q269, hf⟩ := bxw_s hf
        refine g_ci h (g_runV (CO F) h ok_o (by decide) rfl (c_X7_give l (eo E0 B F) G r246 (((r246 + 1) + r249) % p3) 0 ok_o _ _ q269) wM_L_31 wI_X7_give wS_X7_give wN_X7 wC_X7_give rfl ny_X7_give rfl ⟨Nat.le_of_ble_eq_true rfl, Nat.le_of_ble_eq_true rfl⟩ hl.1 rfl (Nat.le_of_ble_eq_true rfl) (gdec kL_isStep_3 13 rfl) ⟨Nat.zero_le _, Nat.zero_le _⟩) (fun H locs h => ?_)
        refine g_aload_n C hl 4 rfl rfl (gdec kL_isStep_3 14 rfl) ?_
        refine g_iload_n C hl 5 rfl rfl (gdec kL_isStep_3 15 rfl) ?_
        refine g_iconst C (gdec kL_isStep_3 16 rfl) ?_
        refine g_isub C (gdec kL_isStep_3 17 rfl) ?_
        refine g_iload C hl 1 rfl (gdec kL_isStep_3 18 rfl) ?_
        refine g_isub C (gdec kL_isStep_3 19 rfl) ?_
        refine g_iload_n C hl 5 rfl rfl (gdec kL_isStep_3 20 rfl) ?_
        refine g_iconst C (gdec kL_isStep_3 21 rfl) ?_
        refine g_isub C (gdec kL_isStep_3 22 rfl) ?_
        refine g_iload C hl 0 rfl (gdec kL_isStep_3 23 rfl) ?_
        refine g_isub C (gdec kL_isStep_3 24 rfl) ?_
        refine g_iload C hl 2 rfl (gdec kL_isStep_3 25 rfl) ?_
        refine g_bipush C (gdec kL_isStep_3 26 rfl) rfl ?_
        refine g_ishr C h248 (k := 8) (by decide) (gdec kL_isStep_3 27 rfl) ?_
        refine g_iconst C (gdec kL_isStep_3 28 rfl) ?_
        refine g_iand1 C (gdec kL_isStep_3 29 rfl) ?_
        refine g_iconst C (gdec kL_isStep_3 30 rfl) ?_
        refine g_icmp_ne C (tgt := 410) h257 (by decide) (by decide) (gdec kL_isStep_3 31 rfl) (fun c0 => absurd c0 c258) (fun c0 => ?_)
        refine g_iconst C (gdec kL_isStep_3 34 rfl) ?_
        obtain ⟨F273, r271, q272, hf⟩ := bxw_s hf
        refine g_ci (g_sw h) (g_runV (CP G270) (g_sw h) ok_p (by decide) rfl (c_X7_give l (ep E0 B G270) F ((p3 - 1) - r246) ((p3 - 1) - (((r246 + 1) + r249) % p3)) 0 ok_p _ _ q272) wM_L_31 wI_X7_give wS_X7_give wN_X7 wC_X7_give rfl ny_X7_give rfl ⟨Nat.le_of_ble_eq_true rfl, Nat.le_of_ble_eq_true rfl⟩ hl.1 rfl (Nat.le_of_ble_eq_true rfl) (gdec kL_isStep_3 35 rfl) ⟨Nat.zero_le _, Nat.zero_le _⟩) (fun H locs h => ?_)
        replace h := g_ws h
        obtain ⟨h274, hf⟩ := gd_s hf
        obtain ⟨h275, hf⟩ := gd_s hf
        refine g_icmp_ne C (tgt := 421) h274 h275 (by decide) (gdec kL_isStep_3 36 rfl) (fun c276 => ?_) (fun c276 => ?_)
        · replace hf := ifp c276 hf
          refine g_iconst C (gdec kL_isStep_3 37 rfl) ?_
          refine g_goto C (tgt := 422) (by decide) (gdec kL_isStep_3 38 rfl) ?_
          cases hf
          exact g_zret (CO _) h (Or.inr rfl) rfl (gdec kL_isStep_3 40 rfl)
        · replace hf := ifn c276 hf
          refine g_iconst C (gdec kL_isStep_3 39 rfl) ?_
          cases hf
          exact g_zret (CO _) h (Or.inl rfl) rfl (gdec kL_isStep_3 40 rfl)
  replace hf := ifn c245 hf
  by_cases c277 : r2 = 8
  · replace hf := ifp c277 hf
    refine g_tableIn C (tgt := 423) c277 (by decide) (by decide) (by decide) rfl (by decide) (gdec kL_isStep 7 rfl) ?_
    refine g_aload_n C hl 1 rfl rfl (gdec kL_isStep_3 41 rfl) ?_
    obtain ⟨G280, r278, q279, hf⟩ := bnd_s hf
    refine g_ci h (g_runV (CO F) h ok_o (by decide) rfl (c_X7_collect l (eo E0 B F) G ok_o _ _ q279) wM_L_35 wI_X7_collect wS_X7_collect wN_X7 wC_X7_collect rfl ny_X7_collect rfl ⟨Nat.le_of_ble_eq_true rfl, Nat.le_of_ble_eq_true rfl⟩ hl.1 rfl (Nat.le_of_ble_eq_true rfl) (gdec kL_isStep_3 42 rfl) ⟨Nat.zero_le _, Nat.zero_le _⟩) (fun H locs h => ?_)
    refine g_aload_n C hl 2 rfl rfl (gdec kL_isStep_3 43 rfl) ?_
    obtain ⟨F283, r281, q282, hf⟩ := bnd_s hf
    refine g_ci (g_sw h) (g_runV (CP G280) (g_sw h) ok_p (by decide) rfl (c_X7_collect l (ep E0 B G280) F ok_p _ _ q282) wM_L_35 wI_X7_collect wS_X7_collect wN_X7 wC_X7_collect rfl ny_X7_collect rfl ⟨Nat.le_of_ble_eq_true rfl, Nat.le_of_ble_eq_true rfl⟩ hl.1 rfl (Nat.le_of_ble_eq_true rfl) (gdec kL_isStep_3 44 rfl) ⟨Nat.zero_le _, Nat.zero_le _⟩) (fun H locs h => ?_)
    replace h := g_ws h
    obtain ⟨h284, hf⟩ := gd_s hf
    obtain ⟨h285, hf⟩ := gd_s hf
    refine g_icmp_ne C (tgt := 438) h284 h285 (by decide) (gdec kL_isStep_3 45 rfl) (fun c286 => ?_) (fun c286 => ?_)
    · replace hf := ifp c286 hf
      refine g_iconst C (gdec kL_isStep_3 46 rfl) ?_
      refine g_goto C (tgt := 439) (by decide) (gdec kL_isStep_3 47 rfl) ?_
      cases hf
      exact g_zret (CO _) h (Or.inr rfl) rfl (gdec kL_isStep_3 49 rfl)
    · replace hf := ifn c286 hf
      refine g_iconst C (gdec kL_isStep_3 48 rfl) ?_
      cases hf
      exact g_zret (CO _) h (Or.inl rfl) rfl (gdec kL_isStep_3 49 rfl)
  replace hf := ifn c277 hf
  refine g_tableOut C (tgt := 440) h4 (by omega) (by decide) (gdec kL_isStep 7 rfl) ?_
  refine g_aload_n C hl 1 rfl rfl (gdec kL_isStep_3 50 rfl) ?_
  refine g_iconst C (gdec kL_isStep_3 51 rfl) ?_
  refine g_iload C hl 0 rfl (gdec kL_isStep_3 52 rfl) ?_
  refine g_bipush C (gdec kL_isStep_3 53 rfl) rfl ?_
  obtain ⟨r287, q288, hf⟩ := bn1_s hf
  refine g_ci h (g_runS (CO F) h (c_L_up l (eo E0 B F) G (p4 / 16) 12 _ q288) wM_L_9 wT_L_up wN_L wC_L_up rfl ny_L_up rfl ⟨Nat.le_of_ble_eq_true rfl, Nat.le_of_ble_eq_true rfl⟩ hl.1 rfl (Nat.le_of_ble_eq_true rfl) (gdec kL_isStep_3 54 rfl) ⟨Nat.zero_le _, Nat.zero_le _⟩) (fun H locs h => ?_)
  refine g_iadd C (gdec kL_isStep_3 55 rfl) ?_
  obtain ⟨G291, r289, q290, hf⟩ := bxw_s hf
  refine g_ci h (g_runV (CO F) h ok_o (by decide) rfl (c_X7_pass l (eo E0 B F) G (1 + r287) ok_o _ _ q290) wM_L_39 wI_X7_pass wS_X7_pass wN_X7 wC_X7_pass rfl ny_X7_pass rfl ⟨Nat.le_of_ble_eq_true rfl, Nat.le_of_ble_eq_true rfl⟩ hl.1 rfl (Nat.le_of_ble_eq_true rfl) (gdec kL_isStep_3 56 rfl) ⟨Nat.zero_le _, Nat.zero_le _⟩) (fun H locs h => ?_)
  refine g_aload_n C hl 2 rfl rfl (gdec kL_isStep_3 57 rfl) ?_
  refine g_iconst C (gdec kL_isStep_3 58 rfl) ?_
  refine g_iload C hl 0 rfl (gdec kL_isStep_3 59 rfl) ?_
  refine g_bipush C (gdec kL_isStep_4 0 rfl) rfl ?_
  obtain ⟨r292, q293, hf⟩ := bn1_s hf
  refine g_ci h (g_runS (CO F) h (c_L_up l (eo E0 B F) G291 (p4 / 16) 12 _ q293) wM_L_9 wT_L_up wN_L wC_L_up rfl ny_L_up rfl ⟨Nat.le_of_ble_eq_true rfl, Nat.le_of_ble_eq_true rfl⟩ hl.1 rfl (Nat.le_of_ble_eq_true rfl) (gdec kL_isStep_4 1 rfl) ⟨Nat.zero_le _, Nat.zero_le _⟩) (fun H locs h => ?_)
  refine g_iadd C (gdec kL_isStep_4 2 rfl) ?_
  obtain ⟨F296, r294, q295, hf⟩ := bxw_s hf
  refine g_ci (g_sw h) (g_runV (CP G291) (g_sw h) ok_p (by decide) rfl (c_X7_pass l (ep E0 B G291) F (1 + r292) ok_p _ _ q295) wM_L_39 wI_X7_pass wS_X7_pass wN_X7 wC_X7_pass rfl ny_X7_pass rfl ⟨Nat.le_of_ble_eq_true rfl, Nat.le_of_ble_eq_true rfl⟩ hl.1 rfl (Nat.le_of_ble_eq_true rfl) (gdec kL_isStep_4 3 rfl) ⟨Nat.zero_le _, Nat.zero_le _⟩) (fun H locs h => ?_)
  replace h := g_ws h
  obtain ⟨h297, hf⟩ := gd_s hf
  obtain ⟨h298, hf⟩ := gd_s hf
  refine g_icmp_ne C (tgt := 473) h297 h298 (by decide) (gdec kL_isStep_4 4 rfl) (fun c299 => ?_) (fun c299 => ?_)
  · replace hf := ifp c299 hf
    refine g_iconst C (gdec kL_isStep_4 5 rfl) ?_
    refine g_goto C (tgt := 474) (by decide) (gdec kL_isStep_4 6 rfl) ?_
    cases hf
    exact g_zret (CO _) h (Or.inr rfl) rfl (gdec kL_isStep_4 8 rfl)
  · replace hf := ifn c299 hf
    refine g_iconst C (gdec kL_isStep_4 7 rfl) ?_
    cases hf
    exact g_zret (CO _) h (Or.inl rfl) rfl (gdec kL_isStep_4 8 rfl)

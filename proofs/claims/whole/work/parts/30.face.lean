def f_X7_checkNumber (G : GS) (p1 : Int) (p2 : Int) : Option (Int) :=
  gd p1 (if p1 < 0 then some 1 else gd p2 (if p1 < p2 then some 0 else some 1))
set_option maxHeartbeats 4000000 in
set_option maxRecDepth 100000 in
theorem c_X7_checkNumber (l : Launch) (hst : l.stackTraces = false) (E : gEnv) (G : GS) (p1 : Int) (p2 : Int) (xz : Int) (hf : f_X7_checkNumber G p1 p2 = some xz) : gMetX l yX7_checkNumber cX7_checkNumber 2 none 6 82 1 6 [vI p1, vI p2] E G (gQvX E G xz) (gXC E G xz) := by
  refine g_metX (by decide +kernel) (Nat.le_of_ble_eq_true rfl) ?_
  intro p e s m below meth c C hout H locs h ls hl
  have C : gC p s m _ meth c RX7 cX7_checkNumber 2 none E := C
  have hl : lv_has ls 2 [(0, vI p1), (1, vI p2)] := hl
  unfold f_X7_checkNumber at hf
  refine g_iload_n C hl 0 rfl rfl (gdec kX7_checkNumber 0 rfl) ?_
  obtain ⟨h1, hf⟩ := gd_s hf
  refine g_if_lt C (tgt := 9) h1 (by decide) (gdec kX7_checkNumber 1 rfl) (fun c2 => ?_) (fun c2 => ?_)
  · replace hf := ifp c2 hf
    cases hf
    exact g_throw C hout hst h (by decide +kernel) wK_X7_210 wN_java_lang_IndexOutOfBoundsException wStr_X7_212 gAt_X7_214 gVo_X7_214 hl.1 (gdec kX7_checkNumber 5 rfl) (gdec kX7_checkNumber 6 rfl) (gdec kX7_checkNumber 7 rfl) (gdec kX7_checkNumber 8 rfl) (gdec kX7_checkNumber 9 rfl) ⟨Nat.le_of_ble_eq_true rfl, Nat.le_of_ble_eq_true rfl⟩ ⟨Nat.le_of_ble_eq_true rfl, Nat.le_of_ble_eq_true rfl⟩ ⟨Nat.le_of_ble_eq_true rfl, Nat.le_of_ble_eq_true rfl⟩ (by decide) rfl
  · replace hf := ifn c2 hf
    refine g_iload_n C hl 0 rfl rfl (gdec kX7_checkNumber 2 rfl) ?_
    refine g_iload_n C hl 1 rfl rfl (gdec kX7_checkNumber 3 rfl) ?_
    obtain ⟨h3, hf⟩ := gd_s hf
    refine g_icmp_lt C (tgt := 19) h1 h3 (by decide) (gdec kX7_checkNumber 4 rfl) (fun c4 => ?_) (fun c4 => ?_)
    · replace hf := ifp c4 hf
      exact g_xvret C h hf ⟨Nat.le_of_ble_eq_true rfl, Nat.le_of_ble_eq_true rfl⟩ (gdec kX7_checkNumber 10 rfl)
    · replace hf := ifn c4 hf
      cases hf
      exact g_throw C hout hst h (by decide +kernel) wK_X7_210 wN_java_lang_IndexOutOfBoundsException wStr_X7_212 gAt_X7_214 gVo_X7_214 hl.1 (gdec kX7_checkNumber 5 rfl) (gdec kX7_checkNumber 6 rfl) (gdec kX7_checkNumber 7 rfl) (gdec kX7_checkNumber 8 rfl) (gdec kX7_checkNumber 9 rfl) ⟨Nat.le_of_ble_eq_true rfl, Nat.le_of_ble_eq_true rfl⟩ ⟨Nat.le_of_ble_eq_true rfl, Nat.le_of_ble_eq_true rfl⟩ ⟨Nat.le_of_ble_eq_true rfl, Nat.le_of_ble_eq_true rfl⟩ (by decide) rfl
def f_X7_checkRange (G : GS) (p1 : Int) (p2 : Int) (p3 : Int) : Option (Int) :=
  gd p1 (gd p2 (if p1 < p2 then some 2 else gd p3 (if p3 < p1 then some 2 else some 0)))
set_option maxHeartbeats 4000000 in
set_option maxRecDepth 100000 in
theorem c_X7_checkRange (l : Launch) (hst : l.stackTraces = false) (E : gEnv) (G : GS) (p1 : Int) (p2 : Int) (p3 : Int) (xz : Int) (hf : f_X7_checkRange G p1 p2 p3 = some xz) : gMetX l yX7_checkRange cX7_checkRange 3 none 6 82 1 6 [vI p1, vI p2, vI p3] E G (gQvX E G xz) (gXC E G xz) := by
  refine g_metX (by decide +kernel) (Nat.le_of_ble_eq_true rfl) ?_
  intro p e s m below meth c C hout H locs h ls hl
  have C : gC p s m _ meth c RX7 cX7_checkRange 3 none E := C
  have hl : lv_has ls 3 [(0, vI p1), (1, vI p2), (2, vI p3)] := hl
  unfold f_X7_checkRange at hf
  refine g_iload_n C hl 0 rfl rfl (gdec kX7_checkRange 0 rfl) ?_
  refine g_iload_n C hl 1 rfl rfl (gdec kX7_checkRange 1 rfl) ?_
  obtain ⟨h1, hf⟩ := gd_s hf
  obtain ⟨h2, hf⟩ := gd_s hf
  refine g_icmp_lt C (tgt := 10) h1 h2 (by decide) (gdec kX7_checkRange 2 rfl) (fun c3 => ?_) (fun c3 => ?_)
  · replace hf := ifp c3 hf
    cases hf
    exact g_throw C hout hst h (by decide +kernel) wK_X7_82 wN_java_lang_IllegalArgumentException wStr_X7_215 gAt_X7_86 gVo_X7_86 hl.1 (gdec kX7_checkRange 6 rfl) (gdec kX7_checkRange 7 rfl) (gdec kX7_checkRange 8 rfl) (gdec kX7_checkRange 9 rfl) (gdec kX7_checkRange 10 rfl) ⟨Nat.le_of_ble_eq_true rfl, Nat.le_of_ble_eq_true rfl⟩ ⟨Nat.le_of_ble_eq_true rfl, Nat.le_of_ble_eq_true rfl⟩ ⟨Nat.le_of_ble_eq_true rfl, Nat.le_of_ble_eq_true rfl⟩ (by decide) rfl
  · replace hf := ifn c3 hf
    refine g_iload_n C hl 0 rfl rfl (gdec kX7_checkRange 3 rfl) ?_
    refine g_iload_n C hl 2 rfl rfl (gdec kX7_checkRange 4 rfl) ?_
    obtain ⟨h4, hf⟩ := gd_s hf
    refine g_icmp_le C (tgt := 20) h1 h4 (by decide) (gdec kX7_checkRange 5 rfl) (fun c5 => ?_) (fun c5 => ?_)
    · replace hf := ifp c5 hf
      cases hf
      exact g_throw C hout hst h (by decide +kernel) wK_X7_82 wN_java_lang_IllegalArgumentException wStr_X7_215 gAt_X7_86 gVo_X7_86 hl.1 (gdec kX7_checkRange 6 rfl) (gdec kX7_checkRange 7 rfl) (gdec kX7_checkRange 8 rfl) (gdec kX7_checkRange 9 rfl) (gdec kX7_checkRange 10 rfl) ⟨Nat.le_of_ble_eq_true rfl, Nat.le_of_ble_eq_true rfl⟩ ⟨Nat.le_of_ble_eq_true rfl, Nat.le_of_ble_eq_true rfl⟩ ⟨Nat.le_of_ble_eq_true rfl, Nat.le_of_ble_eq_true rfl⟩ (by decide) rfl
    · replace hf := ifn c5 hf
      exact g_xvret C h hf ⟨Nat.le_of_ble_eq_true rfl, Nat.le_of_ble_eq_true rfl⟩ (gdec kX7_checkRange 11 rfl)
def f_X7_setStage (G : GS) (p1 : Int) (p2 : Int) (p3 : Int) (p4 : Int) : Option (GS × (Int × Int)) :=
  bn1 (f_X7_checkNumber G p1 ((G 3 0 4) - 1)) (fun x1 => if x1 = 0 then bn1 (f_X7_checkRange G p2 1 9) (fun x3 => if x3 = 0 then bn1 (f_X7_checkRange G p3 (-5) 5) (fun x5 => if x5 = 0 then bn1 (f_X0_save G 0) (fun G7 => ga p1 7 (bn1 (f_X5_set G7 (7 * 0 + p1) p2 p3 p4) (fun G11 => some (G11, (0, G7 5 (7 * 0 + p1) 0))))) else some (G, (x5, 0))) else some (G, (x3, 0))) else some (G, (x1, 0)))
set_option maxHeartbeats 4000000 in
set_option maxRecDepth 100000 in
theorem c_X7_setStage (l : Launch) (hst : l.stackTraces = false) (E : gEnv) (G : GS) (p1 : Int) (p2 : Int) (p3 : Int) (p4 : Int) (ho : gOk E 7 0) (Gz : GS) (xz rz : Int) (hf : f_X7_setStage G p1 p2 p3 p4 = some (Gz, (xz, rz))) : gMetX l yX7_setStage cX7_setStage 7 (some .int) 7 104 3 18 [.ref (eA E 7 0), vI p1, vI p2, vI p3, vI p4] E G (gQiX E Gz xz rz) (gXC E Gz xz) := by
  refine g_metX (by decide +kernel) (Nat.le_of_ble_eq_true rfl) ?_
  intro p e s m below meth c C hout H locs h ls hl
  have C : gC p s m _ meth c RX7 cX7_setStage 7 (some .int) E := C
  have hl : lv_has ls 7 [(0, .ref (eA E 7 0)), (1, vI p1), (2, vI p2), (3, vI p3), (4, vI p4)] := hl
  unfold f_X7_setStage at hf
  refine g_iload_n C hl 1 rfl rfl (gdec kX7_setStage 0 rfl) ?_
  refine g_aload_n C hl 0 rfl rfl (gdec kX7_setStage 1 rfl) ?_
  refine gf_X7_12 C h ho (gdec kX7_setStage 2 rfl) ?_
  refine gf_X7_33 C h (gcl_7_0 C ho) (gdec kX7_setStage 3 rfl) ?_
  refine g_iconst C (gdec kX7_setStage 4 rfl) ?_
  refine g_isub C (gdec kX7_setStage 5 rfl) ?_
  obtain ⟨x1, q2, hf⟩ := bn1_s hf
  refine g_xcv h (g_xrunS C h (c_X7_checkNumber l hst E _ _ _ _ q2) wM_X7_37 wT_X7_checkNumber wN_X7 wC_X7_checkNumber rfl ny_X7_checkNumber rfl ⟨Nat.le_of_ble_eq_true rfl, Nat.le_of_ble_eq_true rfl⟩ hl.1 rfl (Nat.le_of_ble_eq_true rfl) (gdec kX7_setStage 6 rfl) ⟨Nat.le_of_ble_eq_true rfl, Nat.le_of_ble_eq_true rfl⟩) (fun hx ce q9 H locs h hce hcv hcl => ?_) (fun hx H locs h => ?_)
  · replace hf := ifn hx hf
    cases hf
    exact g_xout C hout h hx hce hcv hcl ⟨Nat.le_of_ble_eq_true rfl, Nat.le_of_ble_eq_true rfl⟩ rfl rfl
  · replace hf := ifp hx hf
    refine g_iload_n C hl 2 rfl rfl (gdec kX7_setStage 7 rfl) ?_
    refine g_iconst C (gdec kX7_setStage 8 rfl) ?_
    refine g_bipush C (gdec kX7_setStage 9 rfl) rfl ?_
    obtain ⟨x3, q4, hf⟩ := bn1_s hf
    refine g_xcv h (g_xrunS C h (c_X7_checkRange l hst E _ _ _ _ _ q4) wM_X7_41 wT_X7_checkRange wN_X7 wC_X7_checkRange rfl ny_X7_checkRange rfl ⟨Nat.le_of_ble_eq_true rfl, Nat.le_of_ble_eq_true rfl⟩ hl.1 rfl (Nat.le_of_ble_eq_true rfl) (gdec kX7_setStage 10 rfl) ⟨Nat.le_of_ble_eq_true rfl, Nat.le_of_ble_eq_true rfl⟩) (fun hx ce q9 H locs h hce hcv hcl => ?_) (fun hx H locs h => ?_)
    · replace hf := ifn hx hf
      cases hf
      exact g_xout C hout h hx hce hcv hcl ⟨Nat.le_of_ble_eq_true rfl, Nat.le_of_ble_eq_true rfl⟩ rfl rfl
    · replace hf := ifp hx hf
      refine g_iload_n C hl 3 rfl rfl (gdec kX7_setStage 11 rfl) ?_
      refine g_bipush C (gdec kX7_setStage 12 rfl) rfl ?_
      refine g_iconst C (gdec kX7_setStage 13 rfl) ?_
      obtain ⟨x5, q6, hf⟩ := bn1_s hf
      refine g_xcv h (g_xrunS C h (c_X7_checkRange l hst E _ _ _ _ _ q6) wM_X7_41 wT_X7_checkRange wN_X7 wC_X7_checkRange rfl ny_X7_checkRange rfl ⟨Nat.le_of_ble_eq_true rfl, Nat.le_of_ble_eq_true rfl⟩ hl.1 rfl (Nat.le_of_ble_eq_true rfl) (gdec kX7_setStage 14 rfl) ⟨Nat.le_of_ble_eq_true rfl, Nat.le_of_ble_eq_true rfl⟩) (fun hx ce q9 H locs h hce hcv hcl => ?_) (fun hx H locs h => ?_)
      · replace hf := ifn hx hf
        cases hf
        exact g_xout C hout h hx hce hcv hcl ⟨Nat.le_of_ble_eq_true rfl, Nat.le_of_ble_eq_true rfl⟩ rfl rfl
      · replace hf := ifp hx hf
        refine g_aload_n C hl 0 rfl rfl (gdec kX7_setStage 15 rfl) ?_
        refine gf_X7_22 C h ho (gdec kX7_setStage 16 rfl) ?_
        refine g_aload_n C hl 0 rfl rfl (gdec kX7_setStage 17 rfl) ?_
        refine gf_X7_12 C h ho (gdec kX7_setStage 18 rfl) ?_
        obtain ⟨G7, q8, hf⟩ := bn1_s hf
        refine g_cv h (g_runV C h (gcl_7_2 C ho) (by decide) rfl (c_X0_save l E _ _ (gcl_7_2 C ho) (gcl_7_0 C ho) _ q8) wM_X7_45 wI_X0_save wS_X0_save wN_X0 wC_X0_save rfl ny_X0_save rfl ⟨Nat.le_of_ble_eq_true rfl, Nat.le_of_ble_eq_true rfl⟩ hl.1 rfl (Nat.le_of_ble_eq_true rfl) (gdec kX7_setStage 19 rfl) ⟨Nat.le_of_ble_eq_true rfl, Nat.le_of_ble_eq_true rfl⟩) (fun H locs h => ?_)
        refine g_aload_n C hl 0 rfl rfl (gdec kX7_setStage 20 rfl) ?_
        refine gf_X7_12 C h ho (gdec kX7_setStage 21 rfl) ?_
        refine g_iload_n C hl 1 rfl rfl (gdec kX7_setStage 22 rfl) ?_
        obtain ⟨h9, hf⟩ := ga_s hf
        refine g_cr h (g_runV C h (gcl_7_0 C ho) (by decide) rfl (c_X3_stageRow l E _ _ _ (gcl_7_0 C ho) _ (e_X3_stageRow _ _ _ h9)) wM_X7_49 wI_X3_stageRow wS_X3_stageRow wN_X3 wC_X3_stageRow rfl ny_X3_stageRow rfl ⟨Nat.le_of_ble_eq_true rfl, Nat.le_of_ble_eq_true rfl⟩ hl.1 rfl (Nat.le_of_ble_eq_true rfl) (gdec kX7_setStage 23 rfl) ⟨Nat.le_of_ble_eq_true rfl, Nat.le_of_ble_eq_true rfl⟩) (fun H locs h => ?_)
        have k10 : gOk E 5 (7 * 0 + p1) := gok5 C (gcl_3_0 C (gcl_7_0 C ho)) h9
        refine g_astore C [(5, .ref (eA E 5 (7 * 0 + p1))), (0, .ref (eA E 7 0)), (1, vI p1), (2, vI p2), (3, vI p3), (4, vI p4)] hl (by decide) rfl (gdec kX7_setStage 24 rfl) (fun ls hl => ?_)
        refine g_aload C hl 0 rfl (gdec kX7_setStage 25 rfl) ?_
        refine gf_X7_53 C h k10 (gdec kX7_setStage 26 rfl) ?_
        refine g_istore C [(6, vI (G7 5 (7 * 0 + p1) 0)), (5, .ref (eA E 5 (7 * 0 + p1))), (0, .ref (eA E 7 0)), (1, vI p1), (2, vI p2), (3, vI p3), (4, vI p4)] hl (by decide) rfl (gdec kX7_setStage 27 rfl) (fun ls hl => ?_)
        refine g_aload C hl 1 rfl (gdec kX7_setStage 28 rfl) ?_
        refine g_iload_n C hl 4 rfl rfl (gdec kX7_setStage 29 rfl) ?_
        refine g_iload_n C hl 5 rfl rfl (gdec kX7_setStage 30 rfl) ?_
        refine g_iload C hl 6 rfl (gdec kX7_setStage 31 rfl) ?_
        obtain ⟨G11, q12, hf⟩ := bn1_s hf
        refine g_cv h (g_runV C h k10 (by decide) rfl (c_X5_set l E _ _ _ _ _ k10 _ q12) wM_X7_58 wI_X5_set wS_X5_set wN_X5 wC_X5_set rfl ny_X5_set rfl ⟨Nat.le_of_ble_eq_true rfl, Nat.le_of_ble_eq_true rfl⟩ hl.1 rfl (Nat.le_of_ble_eq_true rfl) (gdec kX7_setStage 32 rfl) ⟨Nat.le_of_ble_eq_true rfl, Nat.le_of_ble_eq_true rfl⟩) (fun H locs h => ?_)
        refine g_iload C hl 0 rfl (gdec kX7_setStage 33 rfl) ?_
        exact g_xiret C h hf ⟨Nat.le_of_ble_eq_true rfl, Nat.le_of_ble_eq_true rfl⟩ (gdec kX7_setStage 34 rfl)
def f_X7_setInn (G : GS) (p1 : Int) (p2 : Int) (p3 : Int) (p4 : Int) : Option (GS × (Int × Int)) :=
  bn1 (f_X7_checkNumber G p1 (G 3 0 4)) (fun x1 => if x1 = 0 then bn1 (f_X7_checkRange G p2 0 6) (fun x3 => if x3 = 0 then bn1 (f_X7_checkRange G p3 0 999) (fun x5 => if x5 = 0 then bn1 (f_X0_save G 0) (fun G7 => ga p1 8 (bn1 (f_X1_set G7 (8 * 0 + p1) p2 p3 p4) (fun G11 => some (G11, (0, G7 1 (8 * 0 + p1) 1))))) else some (G, (x5, 0))) else some (G, (x3, 0))) else some (G, (x1, 0)))
set_option maxHeartbeats 4000000 in
set_option maxRecDepth 100000 in
theorem c_X7_setInn (l : Launch) (hst : l.stackTraces = false) (E : gEnv) (G : GS) (p1 : Int) (p2 : Int) (p3 : Int) (p4 : Int) (ho : gOk E 7 0) (Gz : GS) (xz rz : Int) (hf : f_X7_setInn G p1 p2 p3 p4 = some (Gz, (xz, rz))) : gMetX l yX7_setInn cX7_setInn 7 (some .int) 7 104 3 18 [.ref (eA E 7 0), vI p1, vI p2, vI p3, vI p4] E G (gQiX E Gz xz rz) (gXC E Gz xz) := by
  refine g_metX (by decide +kernel) (Nat.le_of_ble_eq_true rfl) ?_
  intro p e s m below meth c C hout H locs h ls hl
  have C : gC p s m _ meth c RX7 cX7_setInn 7 (some .int) E := C
  have hl : lv_has ls 7 [(0, .ref (eA E 7 0)), (1, vI p1), (2, vI p2), (3, vI p3), (4, vI p4)] := hl
  unfold f_X7_setInn at hf
  refine g_iload_n C hl 1 rfl rfl (gdec kX7_setInn 0 rfl) ?_
  refine g_aload_n C hl 0 rfl rfl (gdec kX7_setInn 1 rfl) ?_
  refine gf_X7_12 C h ho (gdec kX7_setInn 2 rfl) ?_
  refine gf_X7_33 C h (gcl_7_0 C ho) (gdec kX7_setInn 3 rfl) ?_
  obtain ⟨x1, q2, hf⟩ := bn1_s hf
  refine g_xcv h (g_xrunS C h (c_X7_checkNumber l hst E _ _ _ _ q2) wM_X7_37 wT_X7_checkNumber wN_X7 wC_X7_checkNumber rfl ny_X7_checkNumber rfl ⟨Nat.le_of_ble_eq_true rfl, Nat.le_of_ble_eq_true rfl⟩ hl.1 rfl (Nat.le_of_ble_eq_true rfl) (gdec kX7_setInn 4 rfl) ⟨Nat.le_of_ble_eq_true rfl, Nat.le_of_ble_eq_true rfl⟩) (fun hx ce q9 H locs h hce hcv hcl => ?_) (fun hx H locs h => ?_)
  · replace hf := ifn hx hf
    cases hf
    exact g_xout C hout h hx hce hcv hcl ⟨Nat.le_of_ble_eq_true rfl, Nat.le_of_ble_eq_true rfl⟩ rfl rfl
  · replace hf := ifp hx hf
    refine g_iload_n C hl 2 rfl rfl (gdec kX7_setInn 5 rfl) ?_
    refine g_iconst C (gdec kX7_setInn 6 rfl) ?_
    refine g_bipush C (gdec kX7_setInn 7 rfl) rfl ?_
    obtain ⟨x3, q4, hf⟩ := bn1_s hf
    refine g_xcv h (g_xrunS C h (c_X7_checkRange l hst E _ _ _ _ _ q4) wM_X7_41 wT_X7_checkRange wN_X7 wC_X7_checkRange rfl ny_X7_checkRange rfl ⟨Nat.le_of_ble_eq_true rfl, Nat.le_of_ble_eq_true rfl⟩ hl.1 rfl (Nat.le_of_ble_eq_true rfl) (gdec kX7_setInn 8 rfl) ⟨Nat.le_of_ble_eq_true rfl, Nat.le_of_ble_eq_true rfl⟩) (fun hx ce q9 H locs h hce hcv hcl => ?_) (fun hx H locs h => ?_)
    · replace hf := ifn hx hf
      cases hf
      exact g_xout C hout h hx hce hcv hcl ⟨Nat.le_of_ble_eq_true rfl, Nat.le_of_ble_eq_true rfl⟩ rfl rfl
    · replace hf := ifp hx hf
      refine g_iload_n C hl 3 rfl rfl (gdec kX7_setInn 9 rfl) ?_
      refine g_iconst C (gdec kX7_setInn 10 rfl) ?_
      refine g_sipush C (gdec kX7_setInn 11 rfl) rfl ?_
      obtain ⟨x5, q6, hf⟩ := bn1_s hf
      refine g_xcv h (g_xrunS C h (c_X7_checkRange l hst E _ _ _ _ _ q6) wM_X7_41 wT_X7_checkRange wN_X7 wC_X7_checkRange rfl ny_X7_checkRange rfl ⟨Nat.le_of_ble_eq_true rfl, Nat.le_of_ble_eq_true rfl⟩ hl.1 rfl (Nat.le_of_ble_eq_true rfl) (gdec kX7_setInn 12 rfl) ⟨Nat.le_of_ble_eq_true rfl, Nat.le_of_ble_eq_true rfl⟩) (fun hx ce q9 H locs h hce hcv hcl => ?_) (fun hx H locs h => ?_)
      · replace hf := ifn hx hf
        cases hf
        exact g_xout C hout h hx hce hcv hcl ⟨Nat.le_of_ble_eq_true rfl, Nat.le_of_ble_eq_true rfl⟩ rfl rfl
      · replace hf := ifp hx hf
        refine g_aload_n C hl 0 rfl rfl (gdec kX7_setInn 13 rfl) ?_
        refine gf_X7_22 C h ho (gdec kX7_setInn 14 rfl) ?_
        refine g_aload_n C hl 0 rfl rfl (gdec kX7_setInn 15 rfl) ?_
        refine gf_X7_12 C h ho (gdec kX7_setInn 16 rfl) ?_
        obtain ⟨G7, q8, hf⟩ := bn1_s hf
        refine g_cv h (g_runV C h (gcl_7_2 C ho) (by decide) rfl (c_X0_save l E _ _ (gcl_7_2 C ho) (gcl_7_0 C ho) _ q8) wM_X7_45 wI_X0_save wS_X0_save wN_X0 wC_X0_save rfl ny_X0_save rfl ⟨Nat.le_of_ble_eq_true rfl, Nat.le_of_ble_eq_true rfl⟩ hl.1 rfl (Nat.le_of_ble_eq_true rfl) (gdec kX7_setInn 17 rfl) ⟨Nat.le_of_ble_eq_true rfl, Nat.le_of_ble_eq_true rfl⟩) (fun H locs h => ?_)
        refine g_aload_n C hl 0 rfl rfl (gdec kX7_setInn 18 rfl) ?_
        refine gf_X7_12 C h ho (gdec kX7_setInn 19 rfl) ?_
        refine g_iload_n C hl 1 rfl rfl (gdec kX7_setInn 20 rfl) ?_
        obtain ⟨h9, hf⟩ := ga_s hf
        refine g_cr h (g_runV C h (gcl_7_0 C ho) (by decide) rfl (c_X3_innRow l E _ _ _ (gcl_7_0 C ho) _ (e_X3_innRow _ _ _ h9)) wM_X7_62 wI_X3_innRow wS_X3_innRow wN_X3 wC_X3_innRow rfl ny_X3_innRow rfl ⟨Nat.le_of_ble_eq_true rfl, Nat.le_of_ble_eq_true rfl⟩ hl.1 rfl (Nat.le_of_ble_eq_true rfl) (gdec kX7_setInn 21 rfl) ⟨Nat.le_of_ble_eq_true rfl, Nat.le_of_ble_eq_true rfl⟩) (fun H locs h => ?_)
        have k10 : gOk E 1 (8 * 0 + p1) := gok1 C (gcl_3_1 C (gcl_7_0 C ho)) h9
        refine g_astore C [(5, .ref (eA E 1 (8 * 0 + p1))), (0, .ref (eA E 7 0)), (1, vI p1), (2, vI p2), (3, vI p3), (4, vI p4)] hl (by decide) rfl (gdec kX7_setInn 22 rfl) (fun ls hl => ?_)
        refine g_aload C hl 0 rfl (gdec kX7_setInn 23 rfl) ?_
        refine gf_X7_66 C h k10 (gdec kX7_setInn 24 rfl) ?_
        refine g_istore C [(6, vI (G7 1 (8 * 0 + p1) 1)), (5, .ref (eA E 1 (8 * 0 + p1))), (0, .ref (eA E 7 0)), (1, vI p1), (2, vI p2), (3, vI p3), (4, vI p4)] hl (by decide) rfl (gdec kX7_setInn 25 rfl) (fun ls hl => ?_)
        refine g_aload C hl 1 rfl (gdec kX7_setInn 26 rfl) ?_
        refine g_iload_n C hl 4 rfl rfl (gdec kX7_setInn 27 rfl) ?_
        refine g_iload_n C hl 5 rfl rfl (gdec kX7_setInn 28 rfl) ?_
        refine g_iload C hl 6 rfl (gdec kX7_setInn 29 rfl) ?_
        obtain ⟨G11, q12, hf⟩ := bn1_s hf
        refine g_cv h (g_runV C h k10 (by decide) rfl (c_X1_set l E _ _ _ _ _ k10 _ q12) wM_X7_71 wI_X1_set wS_X1_set wN_X1 wC_X1_set rfl ny_X1_set rfl ⟨Nat.le_of_ble_eq_true rfl, Nat.le_of_ble_eq_true rfl⟩ hl.1 rfl (Nat.le_of_ble_eq_true rfl) (gdec kX7_setInn 30 rfl) ⟨Nat.le_of_ble_eq_true rfl, Nat.le_of_ble_eq_true rfl⟩) (fun H locs h => ?_)
        refine g_iload C hl 0 rfl (gdec kX7_setInn 31 rfl) ?_
        exact g_xiret C h hf ⟨Nat.le_of_ble_eq_true rfl, Nat.le_of_ble_eq_true rfl⟩ (gdec kX7_setInn 32 rfl)
def f_X7_checkRoom (G : GS) (p1 : Int) (p2 : Int) : Option (Int) :=
  gd p1 (gd p2 (if p1 < p2 then some 0 else some 3))
set_option maxHeartbeats 4000000 in
set_option maxRecDepth 100000 in
theorem c_X7_checkRoom (l : Launch) (hst : l.stackTraces = false) (E : gEnv) (G : GS) (p1 : Int) (p2 : Int) (xz : Int) (hf : f_X7_checkRoom G p1 p2 = some xz) : gMetX l yX7_checkRoom cX7_checkRoom 2 none 6 82 1 6 [vI p1, vI p2] E G (gQvX E G xz) (gXC E G xz) := by
  refine g_metX (by decide +kernel) (Nat.le_of_ble_eq_true rfl) ?_
  intro p e s m below meth c C hout H locs h ls hl
  have C : gC p s m _ meth c RX7 cX7_checkRoom 2 none E := C
  have hl : lv_has ls 2 [(0, vI p1), (1, vI p2)] := hl
  unfold f_X7_checkRoom at hf
  refine g_iload_n C hl 0 rfl rfl (gdec kX7_checkRoom 0 rfl) ?_
  refine g_iload_n C hl 1 rfl rfl (gdec kX7_checkRoom 1 rfl) ?_
  obtain ⟨h1, hf⟩ := gd_s hf
  obtain ⟨h2, hf⟩ := gd_s hf
  refine g_icmp_lt C (tgt := 15) h1 h2 (by decide) (gdec kX7_checkRoom 2 rfl) (fun c3 => ?_) (fun c3 => ?_)
  · replace hf := ifp c3 hf
    exact g_xvret C h hf ⟨Nat.le_of_ble_eq_true rfl, Nat.le_of_ble_eq_true rfl⟩ (gdec kX7_checkRoom 8 rfl)
  · replace hf := ifn c3 hf
    cases hf
    exact g_throw C hout hst h (by decide +kernel) wK_X7_103 wN_java_lang_IllegalStateException wStr_X7_217 gAt_X7_107 gVo_X7_107 hl.1 (gdec kX7_checkRoom 3 rfl) (gdec kX7_checkRoom 4 rfl) (gdec kX7_checkRoom 5 rfl) (gdec kX7_checkRoom 6 rfl) (gdec kX7_checkRoom 7 rfl) ⟨Nat.le_of_ble_eq_true rfl, Nat.le_of_ble_eq_true rfl⟩ ⟨Nat.le_of_ble_eq_true rfl, Nat.le_of_ble_eq_true rfl⟩ ⟨Nat.le_of_ble_eq_true rfl, Nat.le_of_ble_eq_true rfl⟩ (by decide) rfl
def f_X7_addTeam (G : GS) (p1 : Int) (p2 : Int) : Option (GS × (Int × Int)) :=
  bn1 (f_X7_checkNumber G p1 (G 3 0 4)) (fun x1 => if x1 = 0 then bn1 (f_X7_checkRange G p2 0 100) (fun x3 => if x3 = 0 then bn1 (f_X7_checkRoom G (G 3 0 5) 10) (fun x5 => if x5 = 0 then bn1 (f_X0_save G 0) (fun G7 => bnd (f_X3_placeTeam G7 0 p1 p2) (fun G9 r10 => some (G9, (0, r10)))) else some (G, (x5, 0))) else some (G, (x3, 0))) else some (G, (x1, 0)))
set_option maxHeartbeats 4000000 in
set_option maxRecDepth 100000 in
theorem c_X7_addTeam (l : Launch) (hst : l.stackTraces = false) (E : gEnv) (G : GS) (p1 : Int) (p2 : Int) (ho : gOk E 7 0) (Gz : GS) (xz rz : Int) (hf : f_X7_addTeam G p1 p2 = some (Gz, (xz, rz))) : gMetX l yX7_addTeam cX7_addTeam 3 (some .int) 7 104 3 18 [.ref (eA E 7 0), vI p1, vI p2] E G (gQiX E Gz xz rz) (gXC E Gz xz) := by
  refine g_metX (by decide +kernel) (Nat.le_of_ble_eq_true rfl) ?_
  intro p e s m below meth c C hout H locs h ls hl
  have C : gC p s m _ meth c RX7 cX7_addTeam 3 (some .int) E := C
  have hl : lv_has ls 3 [(0, .ref (eA E 7 0)), (1, vI p1), (2, vI p2)] := hl
  unfold f_X7_addTeam at hf
  refine g_iload_n C hl 1 rfl rfl (gdec kX7_addTeam 0 rfl) ?_
  refine g_aload_n C hl 0 rfl rfl (gdec kX7_addTeam 1 rfl) ?_
  refine gf_X7_12 C h ho (gdec kX7_addTeam 2 rfl) ?_
  refine gf_X7_33 C h (gcl_7_0 C ho) (gdec kX7_addTeam 3 rfl) ?_
  obtain ⟨x1, q2, hf⟩ := bn1_s hf
  refine g_xcv h (g_xrunS C h (c_X7_checkNumber l hst E _ _ _ _ q2) wM_X7_37 wT_X7_checkNumber wN_X7 wC_X7_checkNumber rfl ny_X7_checkNumber rfl ⟨Nat.le_of_ble_eq_true rfl, Nat.le_of_ble_eq_true rfl⟩ hl.1 rfl (Nat.le_of_ble_eq_true rfl) (gdec kX7_addTeam 4 rfl) ⟨Nat.le_of_ble_eq_true rfl, Nat.le_of_ble_eq_true rfl⟩) (fun hx ce q9 H locs h hce hcv hcl => ?_) (fun hx H locs h => ?_)
  · replace hf := ifn hx hf
    cases hf
    exact g_xout C hout h hx hce hcv hcl ⟨Nat.le_of_ble_eq_true rfl, Nat.le_of_ble_eq_true rfl⟩ rfl rfl
  · replace hf := ifp hx hf
    refine g_iload_n C hl 2 rfl rfl (gdec kX7_addTeam 5 rfl) ?_
    refine g_iconst C (gdec kX7_addTeam 6 rfl) ?_
    refine g_bipush C (gdec kX7_addTeam 7 rfl) rfl ?_
    obtain ⟨x3, q4, hf⟩ := bn1_s hf
    refine g_xcv h (g_xrunS C h (c_X7_checkRange l hst E _ _ _ _ _ q4) wM_X7_41 wT_X7_checkRange wN_X7 wC_X7_checkRange rfl ny_X7_checkRange rfl ⟨Nat.le_of_ble_eq_true rfl, Nat.le_of_ble_eq_true rfl⟩ hl.1 rfl (Nat.le_of_ble_eq_true rfl) (gdec kX7_addTeam 8 rfl) ⟨Nat.le_of_ble_eq_true rfl, Nat.le_of_ble_eq_true rfl⟩) (fun hx ce q9 H locs h hce hcv hcl => ?_) (fun hx H locs h => ?_)
    · replace hf := ifn hx hf
      cases hf
      exact g_xout C hout h hx hce hcv hcl ⟨Nat.le_of_ble_eq_true rfl, Nat.le_of_ble_eq_true rfl⟩ rfl rfl
    · replace hf := ifp hx hf
      refine g_aload_n C hl 0 rfl rfl (gdec kX7_addTeam 9 rfl) ?_
      refine gf_X7_12 C h ho (gdec kX7_addTeam 10 rfl) ?_
      refine gf_X7_72 C h (gcl_7_0 C ho) (gdec kX7_addTeam 11 rfl) ?_
      refine g_bipush C (gdec kX7_addTeam 12 rfl) rfl ?_
      obtain ⟨x5, q6, hf⟩ := bn1_s hf
      refine g_xcv h (g_xrunS C h (c_X7_checkRoom l hst E _ _ _ _ q6) wM_X7_75 wT_X7_checkRoom wN_X7 wC_X7_checkRoom rfl ny_X7_checkRoom rfl ⟨Nat.le_of_ble_eq_true rfl, Nat.le_of_ble_eq_true rfl⟩ hl.1 rfl (Nat.le_of_ble_eq_true rfl) (gdec kX7_addTeam 13 rfl) ⟨Nat.le_of_ble_eq_true rfl, Nat.le_of_ble_eq_true rfl⟩) (fun hx ce q9 H locs h hce hcv hcl => ?_) (fun hx H locs h => ?_)
      · replace hf := ifn hx hf
        cases hf
        exact g_xout C hout h hx hce hcv hcl ⟨Nat.le_of_ble_eq_true rfl, Nat.le_of_ble_eq_true rfl⟩ rfl rfl
      · replace hf := ifp hx hf
        refine g_aload_n C hl 0 rfl rfl (gdec kX7_addTeam 14 rfl) ?_
        refine gf_X7_22 C h ho (gdec kX7_addTeam 15 rfl) ?_
        refine g_aload_n C hl 0 rfl rfl (gdec kX7_addTeam 16 rfl) ?_
        refine gf_X7_12 C h ho (gdec kX7_addTeam 17 rfl) ?_
        obtain ⟨G7, q8, hf⟩ := bn1_s hf
        refine g_cv h (g_runV C h (gcl_7_2 C ho) (by decide) rfl (c_X0_save l E _ _ (gcl_7_2 C ho) (gcl_7_0 C ho) _ q8) wM_X7_45 wI_X0_save wS_X0_save wN_X0 wC_X0_save rfl ny_X0_save rfl ⟨Nat.le_of_ble_eq_true rfl, Nat.le_of_ble_eq_true rfl⟩ hl.1 rfl (Nat.le_of_ble_eq_true rfl) (gdec kX7_addTeam 18 rfl) ⟨Nat.le_of_ble_eq_true rfl, Nat.le_of_ble_eq_true rfl⟩) (fun H locs h => ?_)
        refine g_aload_n C hl 0 rfl rfl (gdec kX7_addTeam 19 rfl) ?_
        refine gf_X7_12 C h ho (gdec kX7_addTeam 20 rfl) ?_
        refine g_iload_n C hl 1 rfl rfl (gdec kX7_addTeam 21 rfl) ?_
        refine g_iload_n C hl 2 rfl rfl (gdec kX7_addTeam 22 rfl) ?_
        obtain ⟨G9, r10, q11, hf⟩ := bnd_s hf
        refine g_ci h (g_runV C h (gcl_7_0 C ho) (by decide) rfl (c_X3_placeTeam l E _ _ _ _ (gcl_7_0 C ho) _ _ q11) wM_X7_78 wI_X3_placeTeam wS_X3_placeTeam wN_X3 wC_X3_placeTeam rfl ny_X3_placeTeam rfl ⟨Nat.le_of_ble_eq_true rfl, Nat.le_of_ble_eq_true rfl⟩ hl.1 rfl (Nat.le_of_ble_eq_true rfl) (gdec kX7_addTeam 23 rfl) ⟨Nat.le_of_ble_eq_true rfl, Nat.le_of_ble_eq_true rfl⟩) (fun H locs h => ?_)
        exact g_xiret C h hf ⟨Nat.le_of_ble_eq_true rfl, Nat.le_of_ble_eq_true rfl⟩ (gdec kX7_addTeam 24 rfl)
def f_X7_give (G : GS) (p1 : Int) (p2 : Int) (p3 : Int) : Option (GS × (Int × Int)) :=
  bn1 (f_X7_checkNumber G p1 (G 3 0 4)) (fun x1 => if x1 = 0 then bn1 (f_X7_checkNumber G p2 (G 3 0 4)) (fun x3 => if x3 = 0 then gd p1 (gd p2 (if p1 = p2 then some (G, (2, 0)) else bn1 (f_X7_checkRoom G (G 3 0 6) 12) (fun x8 => if x8 = 0 then bn1 (f_X0_save G 0) (fun G10 => bnd (f_X3_placeLetter G10 0 p1 p2 p3) (fun G12 r13 => some (G12, (0, r13)))) else some (G, (x8, 0))))) else some (G, (x3, 0))) else some (G, (x1, 0)))
set_option maxHeartbeats 4000000 in
set_option maxRecDepth 100000 in
theorem c_X7_give (l : Launch) (hst : l.stackTraces = false) (E : gEnv) (G : GS) (p1 : Int) (p2 : Int) (p3 : Int) (ho : gOk E 7 0) (Gz : GS) (xz rz : Int) (hf : f_X7_give G p1 p2 p3 = some (Gz, (xz, rz))) : gMetX l yX7_give cX7_give 4 (some .int) 7 103 4 24 [.ref (eA E 7 0), vI p1, vI p2, vI p3] E G (gQiX E Gz xz rz) (gXC E Gz xz) := by
  refine g_metX (by decide +kernel) (Nat.le_of_ble_eq_true rfl) ?_
  intro p e s m below meth c C hout H locs h ls hl
  have C : gC p s m _ meth c RX7 cX7_give 4 (some .int) E := C
  have hl : lv_has ls 4 [(0, .ref (eA E 7 0)), (1, vI p1), (2, vI p2), (3, vI p3)] := hl
  unfold f_X7_give at hf
  refine g_iload_n C hl 1 rfl rfl (gdec kX7_give 0 rfl) ?_
  refine g_aload_n C hl 0 rfl rfl (gdec kX7_give 1 rfl) ?_
  refine gf_X7_12 C h ho (gdec kX7_give 2 rfl) ?_
  refine gf_X7_33 C h (gcl_7_0 C ho) (gdec kX7_give 3 rfl) ?_
  obtain ⟨x1, q2, hf⟩ := bn1_s hf
  refine g_xcv h (g_xrunS C h (c_X7_checkNumber l hst E _ _ _ _ q2) wM_X7_37 wT_X7_checkNumber wN_X7 wC_X7_checkNumber rfl ny_X7_checkNumber rfl ⟨Nat.le_of_ble_eq_true rfl, Nat.le_of_ble_eq_true rfl⟩ hl.1 rfl (Nat.le_of_ble_eq_true rfl) (gdec kX7_give 4 rfl) ⟨Nat.le_of_ble_eq_true rfl, Nat.le_of_ble_eq_true rfl⟩) (fun hx ce q9 H locs h hce hcv hcl => ?_) (fun hx H locs h => ?_)
  · replace hf := ifn hx hf
    cases hf
    exact g_xout C hout h hx hce hcv hcl ⟨Nat.le_of_ble_eq_true rfl, Nat.le_of_ble_eq_true rfl⟩ rfl rfl
  · replace hf := ifp hx hf
    refine g_iload_n C hl 2 rfl rfl (gdec kX7_give 5 rfl) ?_
    refine g_aload_n C hl 0 rfl rfl (gdec kX7_give 6 rfl) ?_
    refine gf_X7_12 C h ho (gdec kX7_give 7 rfl) ?_
    refine gf_X7_33 C h (gcl_7_0 C ho) (gdec kX7_give 8 rfl) ?_
    obtain ⟨x3, q4, hf⟩ := bn1_s hf
    refine g_xcv h (g_xrunS C h (c_X7_checkNumber l hst E _ _ _ _ q4) wM_X7_37 wT_X7_checkNumber wN_X7 wC_X7_checkNumber rfl ny_X7_checkNumber rfl ⟨Nat.le_of_ble_eq_true rfl, Nat.le_of_ble_eq_true rfl⟩ hl.1 rfl (Nat.le_of_ble_eq_true rfl) (gdec kX7_give 9 rfl) ⟨Nat.le_of_ble_eq_true rfl, Nat.le_of_ble_eq_true rfl⟩) (fun hx ce q9 H locs h hce hcv hcl => ?_) (fun hx H locs h => ?_)
    · replace hf := ifn hx hf
      cases hf
      exact g_xout C hout h hx hce hcv hcl ⟨Nat.le_of_ble_eq_true rfl, Nat.le_of_ble_eq_true rfl⟩ rfl rfl
    · replace hf := ifp hx hf
      refine g_iload_n C hl 1 rfl rfl (gdec kX7_give 10 rfl) ?_
      refine g_iload_n C hl 2 rfl rfl (gdec kX7_give 11 rfl) ?_
      obtain ⟨h5, hf⟩ := gd_s hf
      obtain ⟨h6, hf⟩ := gd_s hf
      refine g_icmp_ne C (tgt := 37) h5 h6 (by decide) (gdec kX7_give 12 rfl) (fun c7 => ?_) (fun c7 => ?_)
      · replace hf := ifp c7 hf
        cases hf
        exact g_throw C hout hst h (by decide +kernel) wK_X7_82 wN_java_lang_IllegalArgumentException wStr_X7_84 gAt_X7_86 gVo_X7_86 hl.1 (gdec kX7_give 13 rfl) (gdec kX7_give 14 rfl) (gdec kX7_give 15 rfl) (gdec kX7_give 16 rfl) (gdec kX7_give 17 rfl) ⟨Nat.le_of_ble_eq_true rfl, Nat.le_of_ble_eq_true rfl⟩ ⟨Nat.le_of_ble_eq_true rfl, Nat.le_of_ble_eq_true rfl⟩ ⟨Nat.le_of_ble_eq_true rfl, Nat.le_of_ble_eq_true rfl⟩ (by decide) rfl
      · replace hf := ifn c7 hf
        refine g_aload_n C hl 0 rfl rfl (gdec kX7_give 18 rfl) ?_
        refine gf_X7_12 C h ho (gdec kX7_give 19 rfl) ?_
        refine gf_X7_89 C h (gcl_7_0 C ho) (gdec kX7_give 20 rfl) ?_
        refine g_bipush C (gdec kX7_give 21 rfl) rfl ?_
        obtain ⟨x8, q9, hf⟩ := bn1_s hf
        refine g_xcv h (g_xrunS C h (c_X7_checkRoom l hst E _ _ _ _ q9) wM_X7_75 wT_X7_checkRoom wN_X7 wC_X7_checkRoom rfl ny_X7_checkRoom rfl ⟨Nat.le_of_ble_eq_true rfl, Nat.le_of_ble_eq_true rfl⟩ hl.1 rfl (Nat.le_of_ble_eq_true rfl) (gdec kX7_give 22 rfl) ⟨Nat.le_of_ble_eq_true rfl, Nat.le_of_ble_eq_true rfl⟩) (fun hx ce q9 H locs h hce hcv hcl => ?_) (fun hx H locs h => ?_)
        · replace hf := ifn hx hf
          cases hf
          exact g_xout C hout h hx hce hcv hcl ⟨Nat.le_of_ble_eq_true rfl, Nat.le_of_ble_eq_true rfl⟩ rfl rfl
        · replace hf := ifp hx hf
          refine g_aload_n C hl 0 rfl rfl (gdec kX7_give 23 rfl) ?_
          refine gf_X7_22 C h ho (gdec kX7_give 24 rfl) ?_
          refine g_aload_n C hl 0 rfl rfl (gdec kX7_give 25 rfl) ?_
          refine gf_X7_12 C h ho (gdec kX7_give 26 rfl) ?_
          obtain ⟨G10, q11, hf⟩ := bn1_s hf
          refine g_cv h (g_runV C h (gcl_7_2 C ho) (by decide) rfl (c_X0_save l E _ _ (gcl_7_2 C ho) (gcl_7_0 C ho) _ q11) wM_X7_45 wI_X0_save wS_X0_save wN_X0 wC_X0_save rfl ny_X0_save rfl ⟨Nat.le_of_ble_eq_true rfl, Nat.le_of_ble_eq_true rfl⟩ hl.1 rfl (Nat.le_of_ble_eq_true rfl) (gdec kX7_give 27 rfl) ⟨Nat.le_of_ble_eq_true rfl, Nat.le_of_ble_eq_true rfl⟩) (fun H locs h => ?_)
          refine g_aload_n C hl 0 rfl rfl (gdec kX7_give 28 rfl) ?_
          refine gf_X7_12 C h ho (gdec kX7_give 29 rfl) ?_
          refine g_iload_n C hl 1 rfl rfl (gdec kX7_give 30 rfl) ?_
          refine g_iload_n C hl 2 rfl rfl (gdec kX7_give 31 rfl) ?_
          refine g_iload_n C hl 3 rfl rfl (gdec kX7_give 32 rfl) ?_
          obtain ⟨G12, r13, q14, hf⟩ := bnd_s hf
          refine g_ci h (g_runV C h (gcl_7_0 C ho) (by decide) rfl (c_X3_placeLetter l E _ _ _ _ _ (gcl_7_0 C ho) _ _ q14) wM_X7_92 wI_X3_placeLetter wS_X3_placeLetter wN_X3 wC_X3_placeLetter rfl ny_X3_placeLetter rfl ⟨Nat.le_of_ble_eq_true rfl, Nat.le_of_ble_eq_true rfl⟩ hl.1 rfl (Nat.le_of_ble_eq_true rfl) (gdec kX7_give 33 rfl) ⟨Nat.le_of_ble_eq_true rfl, Nat.le_of_ble_eq_true rfl⟩) (fun H locs h => ?_)
          exact g_xiret C h hf ⟨Nat.le_of_ble_eq_true rfl, Nat.le_of_ble_eq_true rfl⟩ (gdec kX7_give 34 rfl)
def f_X7_pass_L54 (p1 : Int) : Nat → GS → Int → Int → (GS → Int → Int → Option (GS × (Int × Int))) → Option (GS × (Int × Int))
  | 0, _, _, _, _ => none
  | n + 1, G, x2, x3, k => gd x3 (gd p1 (if x3 < p1 then bn1 (f_X3_passHour G 0) (fun G10 => f_X7_pass_L54 p1 n G10 x2 (x3 + 1) k) else k G x2 x3))
def f_X7_pass (G : GS) (p1 : Int) : Option (GS × (Int × Int)) :=
  bn1 (f_X7_checkRange G p1 1 200) (fun x1 => if x1 = 0 then gd ((G 3 0 7) + p1) (if 10000 < ((G 3 0 7) + p1) then some (G, (3, 0)) else bn1 (f_X0_save G 0) (fun G5 => f_X7_pass_L54 p1 gFuel G5 (G5 3 0 8) 0 (fun G13 y2_12 y3_12 => some (G13, (0, (G13 3 0 8) - y2_12))))) else some (G, (x1, 0)))
set_option maxHeartbeats 4000000 in
set_option maxRecDepth 100000 in
theorem c_X7_pass (l : Launch) (hst : l.stackTraces = false) (E : gEnv) (G : GS) (p1 : Int) (ho : gOk E 7 0) (Gz : GS) (xz rz : Int) (hf : f_X7_pass G p1 = some (Gz, (xz, rz))) : gMetX l yX7_pass cX7_pass 4 (some .int) 7 113 2 12 [.ref (eA E 7 0), vI p1] E G (gQiX E Gz xz rz) (gXC E Gz xz) := by
  refine g_metX (by decide +kernel) (Nat.le_of_ble_eq_true rfl) ?_
  intro p e s m below meth c C hout H locs h ls hl
  have C : gC p s m _ meth c RX7 cX7_pass 4 (some .int) E := C
  have hl : lv_has ls 4 [(0, .ref (eA E 7 0)), (1, vI p1)] := hl
  have L54 : ∀ (n : Nat) (G : GS) (x2 : Int) (x3 : Int) (k : (GS → Int → Int → Option (GS × (Int × Int)))) (hK : ∀ (G : GS) (x2 : Int) (x3 : Int), k G x2 x3 = some (Gz, (xz, rz)) → ∀ (H : Heap) (locs : List Loc), gH E s G H locs → ∀ ls, lv_has ls 4 [(0, .ref (eA E 7 0)), (1, vI p1), (2, vI x2), (3, vI x3)] → W p l e (gRm 7 113 2 12) s m ([.ref (eA E 7 0), vI p1] : List Value).toArray below meth c H locs 2 12 (vx_MQ below (gQiX E Gz xz rz) (gXC E Gz xz) ([.ref (eA E 7 0), vI p1] : List Value).toArray s 2 12 (eF E)) (F0 m 72 ls [])), ∀ (H : Heap) (locs : List Loc), gH E s G H locs → ∀ ls, lv_has ls 4 [(0, .ref (eA E 7 0)), (1, vI p1), (2, vI x2), (3, vI x3)] → f_X7_pass_L54 p1 n G x2 x3 k = some (Gz, (xz, rz)) → W p l e (gRm 7 113 2 12) s m ([.ref (eA E 7 0), vI p1] : List Value).toArray below meth c H locs 2 12 (vx_MQ below (gQiX E Gz xz rz) (gXC E Gz xz) ([.ref (eA E 7 0), vI p1] : List Value).toArray s 2 12 (eF E)) (F0 m 54 ls []) := by
    intro n
    induction n with
    | zero =>
      intro G x2 x3 k hK H locs h ls hl hf
      exact absurd hf (by simp [f_X7_pass_L54])
    | succ n ih =>
      intro G x2 x3 k hK H locs h ls hl hf
      unfold f_X7_pass_L54 at hf
      refine g_iload_n C hl 3 rfl rfl (gdec kX7_pass 27 rfl) ?_
      refine g_iload_n C hl 1 rfl rfl (gdec kX7_pass 28 rfl) ?_
      obtain ⟨h7, hf⟩ := gd_s hf
      obtain ⟨h8, hf⟩ := gd_s hf
      refine g_icmp_ge C (tgt := 72) h7 h8 (by decide) (gdec kX7_pass 29 rfl) (fun c9 => ?_) (fun c9 => ?_)
      · replace hf := ifp c9 hf
        refine g_aload_n C hl 0 rfl rfl (gdec kX7_pass 30 rfl) ?_
        refine gf_X7_12 C h ho (gdec kX7_pass 31 rfl) ?_
        obtain ⟨G10, q11, hf⟩ := bn1_s hf
        refine g_cv h (g_runV C h (gcl_7_0 C ho) (by decide) rfl (c_X3_passHour l E _ _ (gcl_7_0 C ho) _ q11) wM_X7_111 wI_X3_passHour wS_X3_passHour wN_X3 wC_X3_passHour rfl ny_X3_passHour rfl ⟨Nat.le_of_ble_eq_true rfl, Nat.le_of_ble_eq_true rfl⟩ hl.1 rfl (Nat.le_of_ble_eq_true rfl) (gdec kX7_pass 32 rfl) ⟨Nat.le_of_ble_eq_true rfl, Nat.le_of_ble_eq_true rfl⟩) (fun H locs h => ?_)
        refine g_iinc C (k := 3) [(3, vI (x3 + 1)), (0, .ref (eA E 7 0)), (1, vI p1), (2, vI x2)] hl rfl (by decide) rfl (gdec kX7_pass 33 rfl) (fun ls hl => ?_)
        refine g_goto C (tgt := 54) (by decide) (gdec kX7_pass 34 rfl) ?_
        exact ih _ _ _ k hK H locs h ls (lv_sub hl [1, 2, 3, 0] rfl) hf
      · replace hf := ifn c9 hf
        exact hK _ _ _ hf H locs h ls (lv_sub hl [0, 1, 2, 3] rfl)
  unfold f_X7_pass at hf
  refine g_iload_n C hl 1 rfl rfl (gdec kX7_pass 0 rfl) ?_
  refine g_iconst C (gdec kX7_pass 1 rfl) ?_
  refine g_sipush C (gdec kX7_pass 2 rfl) rfl ?_
  obtain ⟨x1, q2, hf⟩ := bn1_s hf
  refine g_xcv h (g_xrunS C h (c_X7_checkRange l hst E _ _ _ _ _ q2) wM_X7_41 wT_X7_checkRange wN_X7 wC_X7_checkRange rfl ny_X7_checkRange rfl ⟨Nat.le_of_ble_eq_true rfl, Nat.le_of_ble_eq_true rfl⟩ hl.1 rfl (Nat.le_of_ble_eq_true rfl) (gdec kX7_pass 3 rfl) ⟨Nat.le_of_ble_eq_true rfl, Nat.le_of_ble_eq_true rfl⟩) (fun hx ce q9 H locs h hce hcv hcl => ?_) (fun hx H locs h => ?_)
  · replace hf := ifn hx hf
    cases hf
    exact g_xout C hout h hx hce hcv hcl ⟨Nat.le_of_ble_eq_true rfl, Nat.le_of_ble_eq_true rfl⟩ rfl rfl
  · replace hf := ifp hx hf
    refine g_aload_n C hl 0 rfl rfl (gdec kX7_pass 4 rfl) ?_
    refine gf_X7_12 C h ho (gdec kX7_pass 5 rfl) ?_
    refine gf_X7_100 C h (gcl_7_0 C ho) (gdec kX7_pass 6 rfl) ?_
    refine g_iload_n C hl 1 rfl rfl (gdec kX7_pass 7 rfl) ?_
    refine g_iadd C (gdec kX7_pass 8 rfl) ?_
    refine g_sipush C (gdec kX7_pass 9 rfl) rfl ?_
    obtain ⟨h3, hf⟩ := gd_s hf
    refine g_icmp_le C (tgt := 33) h3 (by decide) (by decide) (gdec kX7_pass 10 rfl) (fun c4 => ?_) (fun c4 => ?_)
    · replace hf := ifp c4 hf
      cases hf
      exact g_throw C hout hst h (by decide +kernel) wK_X7_103 wN_java_lang_IllegalStateException wStr_X7_105 gAt_X7_107 gVo_X7_107 hl.1 (gdec kX7_pass 11 rfl) (gdec kX7_pass 12 rfl) (gdec kX7_pass 13 rfl) (gdec kX7_pass 14 rfl) (gdec kX7_pass 15 rfl) ⟨Nat.le_of_ble_eq_true rfl, Nat.le_of_ble_eq_true rfl⟩ ⟨Nat.le_of_ble_eq_true rfl, Nat.le_of_ble_eq_true rfl⟩ ⟨Nat.le_of_ble_eq_true rfl, Nat.le_of_ble_eq_true rfl⟩ (by decide) rfl
    · replace hf := ifn c4 hf
      refine g_aload_n C hl 0 rfl rfl (gdec kX7_pass 16 rfl) ?_
      refine gf_X7_22 C h ho (gdec kX7_pass 17 rfl) ?_
      refine g_aload_n C hl 0 rfl rfl (gdec kX7_pass 18 rfl) ?_
      refine gf_X7_12 C h ho (gdec kX7_pass 19 rfl) ?_
      obtain ⟨G5, q6, hf⟩ := bn1_s hf
      refine g_cv h (g_runV C h (gcl_7_2 C ho) (by decide) rfl (c_X0_save l E _ _ (gcl_7_2 C ho) (gcl_7_0 C ho) _ q6) wM_X7_45 wI_X0_save wS_X0_save wN_X0 wC_X0_save rfl ny_X0_save rfl ⟨Nat.le_of_ble_eq_true rfl, Nat.le_of_ble_eq_true rfl⟩ hl.1 rfl (Nat.le_of_ble_eq_true rfl) (gdec kX7_pass 20 rfl) ⟨Nat.le_of_ble_eq_true rfl, Nat.le_of_ble_eq_true rfl⟩) (fun H locs h => ?_)
      refine g_aload_n C hl 0 rfl rfl (gdec kX7_pass 21 rfl) ?_
      refine gf_X7_12 C h ho (gdec kX7_pass 22 rfl) ?_
      refine gf_X7_108 C h (gcl_7_0 C ho) (gdec kX7_pass 23 rfl) ?_
      refine g_istore_n C [(2, vI (G5 3 0 8)), (0, .ref (eA E 7 0)), (1, vI p1)] hl rfl (by decide) rfl (gdec kX7_pass 24 rfl) (fun ls hl => ?_)
      refine g_iconst C (gdec kX7_pass 25 rfl) ?_
      refine g_istore_n C [(3, vI 0), (2, vI (G5 3 0 8)), (0, .ref (eA E 7 0)), (1, vI p1)] hl rfl (by decide) rfl (gdec kX7_pass 26 rfl) (fun ls hl => ?_)
      refine W.widen (k := 2) (n := 12) (Nat.le_of_ble_eq_true rfl) (Nat.le_of_ble_eq_true rfl) ?_
      refine L54 gFuel _ _ _ _ (fun G13 y2_12 y3_12 hf H locs h ls hl => ?_) H locs h ls (lv_sub hl [2, 3, 1, 0] rfl) hf
      refine g_aload_n C hl 0 rfl rfl (gdec kX7_pass 35 rfl) ?_
      refine gf_X7_12 C h ho (gdec kX7_pass 36 rfl) ?_
      refine gf_X7_108 C h (gcl_7_0 C ho) (gdec kX7_pass 37 rfl) ?_
      refine g_iload_n C hl 2 rfl rfl (gdec kX7_pass 38 rfl) ?_
      refine g_isub C (gdec kX7_pass 39 rfl) ?_
      exact g_xiret C h hf ⟨Nat.le_of_ble_eq_true rfl, Nat.le_of_ble_eq_true rfl⟩ (gdec kX7_pass 40 rfl)
def f_X7_stage (G : GS) (p1 : Int) (p2 : Int) : Option (Int × Int) :=
  bn1 (f_X7_checkNumber G p1 ((G 3 0 4) - 1)) (fun x1 => if x1 = 0 then bn1 (f_X7_checkRange G p2 0 5) (fun x3 => if x3 = 0 then bn1 (f_X3_aboutStage G 0 p1 p2) (fun r5 => some (0, r5)) else some (x3, 0)) else some (x1, 0))
set_option maxHeartbeats 4000000 in
set_option maxRecDepth 100000 in
theorem c_X7_stage (l : Launch) (hst : l.stackTraces = false) (E : gEnv) (G : GS) (p1 : Int) (p2 : Int) (ho : gOk E 7 0) (xz rz : Int) (hf : f_X7_stage G p1 p2 = some (xz, rz)) : gMetX l yX7_stage cX7_stage 3 (some .int) 7 104 2 12 [.ref (eA E 7 0), vI p1, vI p2] E G (gQiX E G xz rz) (gXC E G xz) := by
  refine g_metX (by decide +kernel) (Nat.le_of_ble_eq_true rfl) ?_
  intro p e s m below meth c C hout H locs h ls hl
  have C : gC p s m _ meth c RX7 cX7_stage 3 (some .int) E := C
  have hl : lv_has ls 3 [(0, .ref (eA E 7 0)), (1, vI p1), (2, vI p2)] := hl
  unfold f_X7_stage at hf
  refine g_iload_n C hl 1 rfl rfl (gdec kX7_stage 0 rfl) ?_
  refine g_aload_n C hl 0 rfl rfl (gdec kX7_stage 1 rfl) ?_
  refine gf_X7_12 C h ho (gdec kX7_stage 2 rfl) ?_
  refine gf_X7_33 C h (gcl_7_0 C ho) (gdec kX7_stage 3 rfl) ?_
  refine g_iconst C (gdec kX7_stage 4 rfl) ?_
  refine g_isub C (gdec kX7_stage 5 rfl) ?_
  obtain ⟨x1, q2, hf⟩ := bn1_s hf
  refine g_xcv h (g_xrunS C h (c_X7_checkNumber l hst E _ _ _ _ q2) wM_X7_37 wT_X7_checkNumber wN_X7 wC_X7_checkNumber rfl ny_X7_checkNumber rfl ⟨Nat.le_of_ble_eq_true rfl, Nat.le_of_ble_eq_true rfl⟩ hl.1 rfl (Nat.le_of_ble_eq_true rfl) (gdec kX7_stage 6 rfl) ⟨Nat.le_of_ble_eq_true rfl, Nat.le_of_ble_eq_true rfl⟩) (fun hx ce q9 H locs h hce hcv hcl => ?_) (fun hx H locs h => ?_)
  · replace hf := ifn hx hf
    cases hf
    exact g_xout C hout h hx hce hcv hcl ⟨Nat.le_of_ble_eq_true rfl, Nat.le_of_ble_eq_true rfl⟩ rfl rfl
  · replace hf := ifp hx hf
    refine g_iload_n C hl 2 rfl rfl (gdec kX7_stage 7 rfl) ?_
    refine g_iconst C (gdec kX7_stage 8 rfl) ?_
    refine g_iconst C (gdec kX7_stage 9 rfl) ?_
    obtain ⟨x3, q4, hf⟩ := bn1_s hf
    refine g_xcv h (g_xrunS C h (c_X7_checkRange l hst E _ _ _ _ _ q4) wM_X7_41 wT_X7_checkRange wN_X7 wC_X7_checkRange rfl ny_X7_checkRange rfl ⟨Nat.le_of_ble_eq_true rfl, Nat.le_of_ble_eq_true rfl⟩ hl.1 rfl (Nat.le_of_ble_eq_true rfl) (gdec kX7_stage 10 rfl) ⟨Nat.le_of_ble_eq_true rfl, Nat.le_of_ble_eq_true rfl⟩) (fun hx ce q9 H locs h hce hcv hcl => ?_) (fun hx H locs h => ?_)
    · replace hf := ifn hx hf
      cases hf
      exact g_xout C hout h hx hce hcv hcl ⟨Nat.le_of_ble_eq_true rfl, Nat.le_of_ble_eq_true rfl⟩ rfl rfl
    · replace hf := ifp hx hf
      refine g_aload_n C hl 0 rfl rfl (gdec kX7_stage 11 rfl) ?_
      refine gf_X7_12 C h ho (gdec kX7_stage 12 rfl) ?_
      refine g_iload_n C hl 1 rfl rfl (gdec kX7_stage 13 rfl) ?_
      refine g_iload_n C hl 2 rfl rfl (gdec kX7_stage 14 rfl) ?_
      obtain ⟨r5, q6, hf⟩ := bn1_s hf
      refine g_ci h (g_runV C h (gcl_7_0 C ho) (by decide) rfl (c_X3_aboutStage l E _ _ _ _ (gcl_7_0 C ho) _ q6) wM_X7_114 wI_X3_aboutStage wS_X3_aboutStage wN_X3 wC_X3_aboutStage rfl ny_X3_aboutStage rfl ⟨Nat.le_of_ble_eq_true rfl, Nat.le_of_ble_eq_true rfl⟩ hl.1 rfl (Nat.le_of_ble_eq_true rfl) (gdec kX7_stage 15 rfl) ⟨Nat.le_of_ble_eq_true rfl, Nat.le_of_ble_eq_true rfl⟩) (fun H locs h => ?_)
      exact g_xiret C h (congrArg (Option.map (Prod.mk _)) hf) ⟨Nat.le_of_ble_eq_true rfl, Nat.le_of_ble_eq_true rfl⟩ (gdec kX7_stage 16 rfl)
def f_X7_inn (G : GS) (p1 : Int) (p2 : Int) : Option (Int × Int) :=
  bn1 (f_X7_checkNumber G p1 (G 3 0 4)) (fun x1 => if x1 = 0 then bn1 (f_X7_checkRange G p2 0 6) (fun x3 => if x3 = 0 then bn1 (f_X3_aboutInn G 0 p1 p2) (fun r5 => some (0, r5)) else some (x3, 0)) else some (x1, 0))
set_option maxHeartbeats 4000000 in
set_option maxRecDepth 100000 in
theorem c_X7_inn (l : Launch) (hst : l.stackTraces = false) (E : gEnv) (G : GS) (p1 : Int) (p2 : Int) (ho : gOk E 7 0) (xz rz : Int) (hf : f_X7_inn G p1 p2 = some (xz, rz)) : gMetX l yX7_inn cX7_inn 3 (some .int) 7 104 2 12 [.ref (eA E 7 0), vI p1, vI p2] E G (gQiX E G xz rz) (gXC E G xz) := by
  refine g_metX (by decide +kernel) (Nat.le_of_ble_eq_true rfl) ?_
  intro p e s m below meth c C hout H locs h ls hl
  have C : gC p s m _ meth c RX7 cX7_inn 3 (some .int) E := C
  have hl : lv_has ls 3 [(0, .ref (eA E 7 0)), (1, vI p1), (2, vI p2)] := hl
  unfold f_X7_inn at hf
  refine g_iload_n C hl 1 rfl rfl (gdec kX7_inn 0 rfl) ?_
  refine g_aload_n C hl 0 rfl rfl (gdec kX7_inn 1 rfl) ?_
  refine gf_X7_12 C h ho (gdec kX7_inn 2 rfl) ?_
  refine gf_X7_33 C h (gcl_7_0 C ho) (gdec kX7_inn 3 rfl) ?_
  obtain ⟨x1, q2, hf⟩ := bn1_s hf
  refine g_xcv h (g_xrunS C h (c_X7_checkNumber l hst E _ _ _ _ q2) wM_X7_37 wT_X7_checkNumber wN_X7 wC_X7_checkNumber rfl ny_X7_checkNumber rfl ⟨Nat.le_of_ble_eq_true rfl, Nat.le_of_ble_eq_true rfl⟩ hl.1 rfl (Nat.le_of_ble_eq_true rfl) (gdec kX7_inn 4 rfl) ⟨Nat.le_of_ble_eq_true rfl, Nat.le_of_ble_eq_true rfl⟩) (fun hx ce q9 H locs h hce hcv hcl => ?_) (fun hx H locs h => ?_)
  · replace hf := ifn hx hf
    cases hf
    exact g_xout C hout h hx hce hcv hcl ⟨Nat.le_of_ble_eq_true rfl, Nat.le_of_ble_eq_true rfl⟩ rfl rfl
  · replace hf := ifp hx hf
    refine g_iload_n C hl 2 rfl rfl (gdec kX7_inn 5 rfl) ?_
    refine g_iconst C (gdec kX7_inn 6 rfl) ?_
    refine g_bipush C (gdec kX7_inn 7 rfl) rfl ?_
    obtain ⟨x3, q4, hf⟩ := bn1_s hf
    refine g_xcv h (g_xrunS C h (c_X7_checkRange l hst E _ _ _ _ _ q4) wM_X7_41 wT_X7_checkRange wN_X7 wC_X7_checkRange rfl ny_X7_checkRange rfl ⟨Nat.le_of_ble_eq_true rfl, Nat.le_of_ble_eq_true rfl⟩ hl.1 rfl (Nat.le_of_ble_eq_true rfl) (gdec kX7_inn 8 rfl) ⟨Nat.le_of_ble_eq_true rfl, Nat.le_of_ble_eq_true rfl⟩) (fun hx ce q9 H locs h hce hcv hcl => ?_) (fun hx H locs h => ?_)
    · replace hf := ifn hx hf
      cases hf
      exact g_xout C hout h hx hce hcv hcl ⟨Nat.le_of_ble_eq_true rfl, Nat.le_of_ble_eq_true rfl⟩ rfl rfl
    · replace hf := ifp hx hf
      refine g_aload_n C hl 0 rfl rfl (gdec kX7_inn 9 rfl) ?_
      refine gf_X7_12 C h ho (gdec kX7_inn 10 rfl) ?_
      refine g_iload_n C hl 1 rfl rfl (gdec kX7_inn 11 rfl) ?_
      refine g_iload_n C hl 2 rfl rfl (gdec kX7_inn 12 rfl) ?_
      obtain ⟨r5, q6, hf⟩ := bn1_s hf
      refine g_ci h (g_runV C h (gcl_7_0 C ho) (by decide) rfl (c_X3_aboutInn l E _ _ _ _ (gcl_7_0 C ho) _ q6) wM_X7_117 wI_X3_aboutInn wS_X3_aboutInn wN_X3 wC_X3_aboutInn rfl ny_X3_aboutInn rfl ⟨Nat.le_of_ble_eq_true rfl, Nat.le_of_ble_eq_true rfl⟩ hl.1 rfl (Nat.le_of_ble_eq_true rfl) (gdec kX7_inn 13 rfl) ⟨Nat.le_of_ble_eq_true rfl, Nat.le_of_ble_eq_true rfl⟩) (fun H locs h => ?_)
      exact g_xiret C h (congrArg (Option.map (Prod.mk _)) hf) ⟨Nat.le_of_ble_eq_true rfl, Nat.le_of_ble_eq_true rfl⟩ (gdec kX7_inn 14 rfl)
def f_X7_team (G : GS) (p1 : Int) (p2 : Int) : Option (Int × Int) :=
  bn1 (f_X7_checkNumber G p1 (G 3 0 5)) (fun x1 => if x1 = 0 then bn1 (f_X7_checkRange G p2 0 9) (fun x3 => if x3 = 0 then ga p1 10 (bn1 (f_X6_about G (10 * 0 + p1) p2) (fun r7 => some (0, r7))) else some (x3, 0)) else some (x1, 0))
set_option maxHeartbeats 4000000 in
set_option maxRecDepth 100000 in
theorem c_X7_team (l : Launch) (hst : l.stackTraces = false) (E : gEnv) (G : GS) (p1 : Int) (p2 : Int) (ho : gOk E 7 0) (xz rz : Int) (hf : f_X7_team G p1 p2 = some (xz, rz)) : gMetX l yX7_team cX7_team 3 (some .int) 7 104 2 12 [.ref (eA E 7 0), vI p1, vI p2] E G (gQiX E G xz rz) (gXC E G xz) := by
  refine g_metX (by decide +kernel) (Nat.le_of_ble_eq_true rfl) ?_
  intro p e s m below meth c C hout H locs h ls hl
  have C : gC p s m _ meth c RX7 cX7_team 3 (some .int) E := C
  have hl : lv_has ls 3 [(0, .ref (eA E 7 0)), (1, vI p1), (2, vI p2)] := hl
  unfold f_X7_team at hf
  refine g_iload_n C hl 1 rfl rfl (gdec kX7_team 0 rfl) ?_
  refine g_aload_n C hl 0 rfl rfl (gdec kX7_team 1 rfl) ?_
  refine gf_X7_12 C h ho (gdec kX7_team 2 rfl) ?_
  refine gf_X7_72 C h (gcl_7_0 C ho) (gdec kX7_team 3 rfl) ?_
  obtain ⟨x1, q2, hf⟩ := bn1_s hf
  refine g_xcv h (g_xrunS C h (c_X7_checkNumber l hst E _ _ _ _ q2) wM_X7_37 wT_X7_checkNumber wN_X7 wC_X7_checkNumber rfl ny_X7_checkNumber rfl ⟨Nat.le_of_ble_eq_true rfl, Nat.le_of_ble_eq_true rfl⟩ hl.1 rfl (Nat.le_of_ble_eq_true rfl) (gdec kX7_team 4 rfl) ⟨Nat.le_of_ble_eq_true rfl, Nat.le_of_ble_eq_true rfl⟩) (fun hx ce q9 H locs h hce hcv hcl => ?_) (fun hx H locs h => ?_)
  · replace hf := ifn hx hf
    cases hf
    exact g_xout C hout h hx hce hcv hcl ⟨Nat.le_of_ble_eq_true rfl, Nat.le_of_ble_eq_true rfl⟩ rfl rfl
  · replace hf := ifp hx hf
    refine g_iload_n C hl 2 rfl rfl (gdec kX7_team 5 rfl) ?_
    refine g_iconst C (gdec kX7_team 6 rfl) ?_
    refine g_bipush C (gdec kX7_team 7 rfl) rfl ?_
    obtain ⟨x3, q4, hf⟩ := bn1_s hf
    refine g_xcv h (g_xrunS C h (c_X7_checkRange l hst E _ _ _ _ _ q4) wM_X7_41 wT_X7_checkRange wN_X7 wC_X7_checkRange rfl ny_X7_checkRange rfl ⟨Nat.le_of_ble_eq_true rfl, Nat.le_of_ble_eq_true rfl⟩ hl.1 rfl (Nat.le_of_ble_eq_true rfl) (gdec kX7_team 8 rfl) ⟨Nat.le_of_ble_eq_true rfl, Nat.le_of_ble_eq_true rfl⟩) (fun hx ce q9 H locs h hce hcv hcl => ?_) (fun hx H locs h => ?_)
    · replace hf := ifn hx hf
      cases hf
      exact g_xout C hout h hx hce hcv hcl ⟨Nat.le_of_ble_eq_true rfl, Nat.le_of_ble_eq_true rfl⟩ rfl rfl
    · replace hf := ifp hx hf
      refine g_aload_n C hl 0 rfl rfl (gdec kX7_team 9 rfl) ?_
      refine gf_X7_12 C h ho (gdec kX7_team 10 rfl) ?_
      refine g_iload_n C hl 1 rfl rfl (gdec kX7_team 11 rfl) ?_
      obtain ⟨h5, hf⟩ := ga_s hf
      refine g_cr h (g_runV C h (gcl_7_0 C ho) (by decide) rfl (c_X3_teamRow l E _ _ _ (gcl_7_0 C ho) _ (e_X3_teamRow _ _ _ h5)) wM_X7_120 wI_X3_teamRow wS_X3_teamRow wN_X3 wC_X3_teamRow rfl ny_X3_teamRow rfl ⟨Nat.le_of_ble_eq_true rfl, Nat.le_of_ble_eq_true rfl⟩ hl.1 rfl (Nat.le_of_ble_eq_true rfl) (gdec kX7_team 12 rfl) ⟨Nat.le_of_ble_eq_true rfl, Nat.le_of_ble_eq_true rfl⟩) (fun H locs h => ?_)
      have k6 : gOk E 6 (10 * 0 + p1) := gok6 C (gcl_3_2 C (gcl_7_0 C ho)) h5
      refine g_iload_n C hl 2 rfl rfl (gdec kX7_team 13 rfl) ?_
      obtain ⟨r7, q8, hf⟩ := bn1_s hf
      refine g_ci h (g_runV C h k6 (by decide) rfl (c_X6_about l E _ _ _ k6 _ q8) wM_X7_124 wI_X6_about wS_X6_about wN_X6 wC_X6_about rfl ny_X6_about rfl ⟨Nat.le_of_ble_eq_true rfl, Nat.le_of_ble_eq_true rfl⟩ hl.1 rfl (Nat.le_of_ble_eq_true rfl) (gdec kX7_team 14 rfl) ⟨Nat.le_of_ble_eq_true rfl, Nat.le_of_ble_eq_true rfl⟩) (fun H locs h => ?_)
      exact g_xiret C h (congrArg (Option.map (Prod.mk _)) hf) ⟨Nat.le_of_ble_eq_true rfl, Nat.le_of_ble_eq_true rfl⟩ (gdec kX7_team 15 rfl)
def f_X7_letter (G : GS) (p1 : Int) (p2 : Int) : Option (Int × Int) :=
  bn1 (f_X7_checkNumber G p1 (G 3 0 6)) (fun x1 => if x1 = 0 then bn1 (f_X7_checkRange G p2 0 7) (fun x3 => if x3 = 0 then ga p1 12 (bn1 (f_X2_about G (12 * 0 + p1) p2) (fun r7 => some (0, r7))) else some (x3, 0)) else some (x1, 0))
set_option maxHeartbeats 4000000 in
set_option maxRecDepth 100000 in
theorem c_X7_letter (l : Launch) (hst : l.stackTraces = false) (E : gEnv) (G : GS) (p1 : Int) (p2 : Int) (ho : gOk E 7 0) (xz rz : Int) (hf : f_X7_letter G p1 p2 = some (xz, rz)) : gMetX l yX7_letter cX7_letter 3 (some .int) 7 104 2 12 [.ref (eA E 7 0), vI p1, vI p2] E G (gQiX E G xz rz) (gXC E G xz) := by
  refine g_metX (by decide +kernel) (Nat.le_of_ble_eq_true rfl) ?_
  intro p e s m below meth c C hout H locs h ls hl
  have C : gC p s m _ meth c RX7 cX7_letter 3 (some .int) E := C
  have hl : lv_has ls 3 [(0, .ref (eA E 7 0)), (1, vI p1), (2, vI p2)] := hl
  unfold f_X7_letter at hf
  refine g_iload_n C hl 1 rfl rfl (gdec kX7_letter 0 rfl) ?_
  refine g_aload_n C hl 0 rfl rfl (gdec kX7_letter 1 rfl) ?_
  refine gf_X7_12 C h ho (gdec kX7_letter 2 rfl) ?_
  refine gf_X7_89 C h (gcl_7_0 C ho) (gdec kX7_letter 3 rfl) ?_
  obtain ⟨x1, q2, hf⟩ := bn1_s hf
  refine g_xcv h (g_xrunS C h (c_X7_checkNumber l hst E _ _ _ _ q2) wM_X7_37 wT_X7_checkNumber wN_X7 wC_X7_checkNumber rfl ny_X7_checkNumber rfl ⟨Nat.le_of_ble_eq_true rfl, Nat.le_of_ble_eq_true rfl⟩ hl.1 rfl (Nat.le_of_ble_eq_true rfl) (gdec kX7_letter 4 rfl) ⟨Nat.le_of_ble_eq_true rfl, Nat.le_of_ble_eq_true rfl⟩) (fun hx ce q9 H locs h hce hcv hcl => ?_) (fun hx H locs h => ?_)
  · replace hf := ifn hx hf
    cases hf
    exact g_xout C hout h hx hce hcv hcl ⟨Nat.le_of_ble_eq_true rfl, Nat.le_of_ble_eq_true rfl⟩ rfl rfl
  · replace hf := ifp hx hf
    refine g_iload_n C hl 2 rfl rfl (gdec kX7_letter 5 rfl) ?_
    refine g_iconst C (gdec kX7_letter 6 rfl) ?_
    refine g_bipush C (gdec kX7_letter 7 rfl) rfl ?_
    obtain ⟨x3, q4, hf⟩ := bn1_s hf
    refine g_xcv h (g_xrunS C h (c_X7_checkRange l hst E _ _ _ _ _ q4) wM_X7_41 wT_X7_checkRange wN_X7 wC_X7_checkRange rfl ny_X7_checkRange rfl ⟨Nat.le_of_ble_eq_true rfl, Nat.le_of_ble_eq_true rfl⟩ hl.1 rfl (Nat.le_of_ble_eq_true rfl) (gdec kX7_letter 8 rfl) ⟨Nat.le_of_ble_eq_true rfl, Nat.le_of_ble_eq_true rfl⟩) (fun hx ce q9 H locs h hce hcv hcl => ?_) (fun hx H locs h => ?_)
    · replace hf := ifn hx hf
      cases hf
      exact g_xout C hout h hx hce hcv hcl ⟨Nat.le_of_ble_eq_true rfl, Nat.le_of_ble_eq_true rfl⟩ rfl rfl
    · replace hf := ifp hx hf
      refine g_aload_n C hl 0 rfl rfl (gdec kX7_letter 9 rfl) ?_
      refine gf_X7_12 C h ho (gdec kX7_letter 10 rfl) ?_
      refine g_iload_n C hl 1 rfl rfl (gdec kX7_letter 11 rfl) ?_
      obtain ⟨h5, hf⟩ := ga_s hf
      refine g_cr h (g_runV C h (gcl_7_0 C ho) (by decide) rfl (c_X3_letterRow l E _ _ _ (gcl_7_0 C ho) _ (e_X3_letterRow _ _ _ h5)) wM_X7_130 wI_X3_letterRow wS_X3_letterRow wN_X3 wC_X3_letterRow rfl ny_X3_letterRow rfl ⟨Nat.le_of_ble_eq_true rfl, Nat.le_of_ble_eq_true rfl⟩ hl.1 rfl (Nat.le_of_ble_eq_true rfl) (gdec kX7_letter 12 rfl) ⟨Nat.le_of_ble_eq_true rfl, Nat.le_of_ble_eq_true rfl⟩) (fun H locs h => ?_)
      have k6 : gOk E 2 (12 * 0 + p1) := gok2 C (gcl_3_3 C (gcl_7_0 C ho)) h5
      refine g_iload_n C hl 2 rfl rfl (gdec kX7_letter 13 rfl) ?_
      obtain ⟨r7, q8, hf⟩ := bn1_s hf
      refine g_ci h (g_runV C h k6 (by decide) rfl (c_X2_about l E _ _ _ k6 _ q8) wM_X7_134 wI_X2_about wS_X2_about wN_X2 wC_X2_about rfl ny_X2_about rfl ⟨Nat.le_of_ble_eq_true rfl, Nat.le_of_ble_eq_true rfl⟩ hl.1 rfl (Nat.le_of_ble_eq_true rfl) (gdec kX7_letter 14 rfl) ⟨Nat.le_of_ble_eq_true rfl, Nat.le_of_ble_eq_true rfl⟩) (fun H locs h => ?_)
      exact g_xiret C h (congrArg (Option.map (Prod.mk _)) hf) ⟨Nat.le_of_ble_eq_true rfl, Nat.le_of_ble_eq_true rfl⟩ (gdec kX7_letter 15 rfl)
def f_X7_value (G : GS) (p1 : Int) : Option (Int × Int) :=
  bn1 (f_X7_checkRange G p1 0 10) (fun x1 => if x1 = 0 then bn1 (f_X3_number G 0 p1) (fun r3 => some (0, r3)) else some (x1, 0))
set_option maxHeartbeats 4000000 in
set_option maxRecDepth 100000 in
theorem c_X7_value (l : Launch) (hst : l.stackTraces = false) (E : gEnv) (G : GS) (p1 : Int) (ho : gOk E 7 0) (xz rz : Int) (hf : f_X7_value G p1 = some (xz, rz)) : gMetX l yX7_value cX7_value 2 (some .int) 7 104 1 6 [.ref (eA E 7 0), vI p1] E G (gQiX E G xz rz) (gXC E G xz) := by
  refine g_metX (by decide +kernel) (Nat.le_of_ble_eq_true rfl) ?_
  intro p e s m below meth c C hout H locs h ls hl
  have C : gC p s m _ meth c RX7 cX7_value 2 (some .int) E := C
  have hl : lv_has ls 2 [(0, .ref (eA E 7 0)), (1, vI p1)] := hl
  unfold f_X7_value at hf
  refine g_iload_n C hl 1 rfl rfl (gdec kX7_value 0 rfl) ?_
  refine g_iconst C (gdec kX7_value 1 rfl) ?_
  refine g_bipush C (gdec kX7_value 2 rfl) rfl ?_
  obtain ⟨x1, q2, hf⟩ := bn1_s hf
  refine g_xcv h (g_xrunS C h (c_X7_checkRange l hst E _ _ _ _ _ q2) wM_X7_41 wT_X7_checkRange wN_X7 wC_X7_checkRange rfl ny_X7_checkRange rfl ⟨Nat.le_of_ble_eq_true rfl, Nat.le_of_ble_eq_true rfl⟩ hl.1 rfl (Nat.le_of_ble_eq_true rfl) (gdec kX7_value 3 rfl) ⟨Nat.le_of_ble_eq_true rfl, Nat.le_of_ble_eq_true rfl⟩) (fun hx ce q9 H locs h hce hcv hcl => ?_) (fun hx H locs h => ?_)
  · replace hf := ifn hx hf
    cases hf
    exact g_xout C hout h hx hce hcv hcl ⟨Nat.le_of_ble_eq_true rfl, Nat.le_of_ble_eq_true rfl⟩ rfl rfl
  · replace hf := ifp hx hf
    refine g_aload_n C hl 0 rfl rfl (gdec kX7_value 4 rfl) ?_
    refine gf_X7_12 C h ho (gdec kX7_value 5 rfl) ?_
    refine g_iload_n C hl 1 rfl rfl (gdec kX7_value 6 rfl) ?_
    obtain ⟨r3, q4, hf⟩ := bn1_s hf
    refine g_ci h (g_runV C h (gcl_7_0 C ho) (by decide) rfl (c_X3_number l E _ _ _ (gcl_7_0 C ho) _ q4) wM_X7_137 wI_X3_number wS_X3_number wN_X3 wC_X3_number rfl ny_X3_number rfl ⟨Nat.le_of_ble_eq_true rfl, Nat.le_of_ble_eq_true rfl⟩ hl.1 rfl (Nat.le_of_ble_eq_true rfl) (gdec kX7_value 7 rfl) ⟨Nat.le_of_ble_eq_true rfl, Nat.le_of_ble_eq_true rfl⟩) (fun H locs h => ?_)
    exact g_xiret C h (congrArg (Option.map (Prod.mk _)) hf) ⟨Nat.le_of_ble_eq_true rfl, Nat.le_of_ble_eq_true rfl⟩ (gdec kX7_value 8 rfl)
def f_X7_why (G : GS) (p1 : Int) : Option (Int × Int) :=
  bn1 (f_X7_checkNumber G p1 (G 3 0 6)) (fun x1 => if x1 = 0 then bn1 (f_X3_hindrance G 0 p1) (fun r3 => some (0, r3)) else some (x1, 0))
set_option maxHeartbeats 4000000 in
set_option maxRecDepth 100000 in
theorem c_X7_why (l : Launch) (hst : l.stackTraces = false) (E : gEnv) (G : GS) (p1 : Int) (ho : gOk E 7 0) (xz rz : Int) (hf : f_X7_why G p1 = some (xz, rz)) : gMetX l yX7_why cX7_why 2 (some .int) 7 103 1 6 [.ref (eA E 7 0), vI p1] E G (gQiX E G xz rz) (gXC E G xz) := by
  refine g_metX (by decide +kernel) (Nat.le_of_ble_eq_true rfl) ?_
  intro p e s m below meth c C hout H locs h ls hl
  have C : gC p s m _ meth c RX7 cX7_why 2 (some .int) E := C
  have hl : lv_has ls 2 [(0, .ref (eA E 7 0)), (1, vI p1)] := hl
  unfold f_X7_why at hf
  refine g_iload_n C hl 1 rfl rfl (gdec kX7_why 0 rfl) ?_
  refine g_aload_n C hl 0 rfl rfl (gdec kX7_why 1 rfl) ?_
  refine gf_X7_12 C h ho (gdec kX7_why 2 rfl) ?_
  refine gf_X7_89 C h (gcl_7_0 C ho) (gdec kX7_why 3 rfl) ?_
  obtain ⟨x1, q2, hf⟩ := bn1_s hf
  refine g_xcv h (g_xrunS C h (c_X7_checkNumber l hst E _ _ _ _ q2) wM_X7_37 wT_X7_checkNumber wN_X7 wC_X7_checkNumber rfl ny_X7_checkNumber rfl ⟨Nat.le_of_ble_eq_true rfl, Nat.le_of_ble_eq_true rfl⟩ hl.1 rfl (Nat.le_of_ble_eq_true rfl) (gdec kX7_why 4 rfl) ⟨Nat.le_of_ble_eq_true rfl, Nat.le_of_ble_eq_true rfl⟩) (fun hx ce q9 H locs h hce hcv hcl => ?_) (fun hx H locs h => ?_)
  · replace hf := ifn hx hf
    cases hf
    exact g_xout C hout h hx hce hcv hcl ⟨Nat.le_of_ble_eq_true rfl, Nat.le_of_ble_eq_true rfl⟩ rfl rfl
  · replace hf := ifp hx hf
    refine g_aload_n C hl 0 rfl rfl (gdec kX7_why 5 rfl) ?_
    refine gf_X7_12 C h ho (gdec kX7_why 6 rfl) ?_
    refine g_iload_n C hl 1 rfl rfl (gdec kX7_why 7 rfl) ?_
    obtain ⟨r3, q4, hf⟩ := bn1_s hf
    refine g_ci h (g_runV C h (gcl_7_0 C ho) (by decide) rfl (c_X3_hindrance l E _ _ _ (gcl_7_0 C ho) _ q4) wM_X7_140 wI_X3_hindrance wS_X3_hindrance wN_X3 wC_X3_hindrance rfl ny_X3_hindrance rfl ⟨Nat.le_of_ble_eq_true rfl, Nat.le_of_ble_eq_true rfl⟩ hl.1 rfl (Nat.le_of_ble_eq_true rfl) (gdec kX7_why 8 rfl) ⟨Nat.le_of_ble_eq_true rfl, Nat.le_of_ble_eq_true rfl⟩) (fun H locs h => ?_)
    exact g_xiret C h (congrArg (Option.map (Prod.mk _)) hf) ⟨Nat.le_of_ble_eq_true rfl, Nat.le_of_ble_eq_true rfl⟩ (gdec kX7_why 9 rfl)
def f_X7_hoursTo (G : GS) (p1 : Int) : Option (GS × (Int × Int)) :=
  bn1 (f_X7_checkNumber G p1 (G 3 0 6)) (fun x1 => if x1 = 0 then bn1 (f_X3_copyFrom G 1 0) (fun G3 => bnd (f_X3_hoursUntilDelivered G3 1 p1) (fun G5 r6 => some (G5, (0, r6)))) else some (G, (x1, 0)))
set_option maxHeartbeats 4000000 in
set_option maxRecDepth 100000 in
theorem c_X7_hoursTo (l : Launch) (hst : l.stackTraces = false) (E : gEnv) (G : GS) (p1 : Int) (ho : gOk E 7 0) (Gz : GS) (xz rz : Int) (hf : f_X7_hoursTo G p1 = some (Gz, (xz, rz))) : gMetX l yX7_hoursTo cX7_hoursTo 2 (some .int) 7 137 1 6 [.ref (eA E 7 0), vI p1] E G (gQiX E Gz xz rz) (gXC E Gz xz) := by
  refine g_metX (by decide +kernel) (Nat.le_of_ble_eq_true rfl) ?_
  intro p e s m below meth c C hout H locs h ls hl
  have C : gC p s m _ meth c RX7 cX7_hoursTo 2 (some .int) E := C
  have hl : lv_has ls 2 [(0, .ref (eA E 7 0)), (1, vI p1)] := hl
  unfold f_X7_hoursTo at hf
  refine g_iload_n C hl 1 rfl rfl (gdec kX7_hoursTo 0 rfl) ?_
  refine g_aload_n C hl 0 rfl rfl (gdec kX7_hoursTo 1 rfl) ?_
  refine gf_X7_12 C h ho (gdec kX7_hoursTo 2 rfl) ?_
  refine gf_X7_89 C h (gcl_7_0 C ho) (gdec kX7_hoursTo 3 rfl) ?_
  obtain ⟨x1, q2, hf⟩ := bn1_s hf
  refine g_xcv h (g_xrunS C h (c_X7_checkNumber l hst E _ _ _ _ q2) wM_X7_37 wT_X7_checkNumber wN_X7 wC_X7_checkNumber rfl ny_X7_checkNumber rfl ⟨Nat.le_of_ble_eq_true rfl, Nat.le_of_ble_eq_true rfl⟩ hl.1 rfl (Nat.le_of_ble_eq_true rfl) (gdec kX7_hoursTo 4 rfl) ⟨Nat.le_of_ble_eq_true rfl, Nat.le_of_ble_eq_true rfl⟩) (fun hx ce q9 H locs h hce hcv hcl => ?_) (fun hx H locs h => ?_)
  · replace hf := ifn hx hf
    cases hf
    exact g_xout C hout h hx hce hcv hcl ⟨Nat.le_of_ble_eq_true rfl, Nat.le_of_ble_eq_true rfl⟩ rfl rfl
  · replace hf := ifp hx hf
    refine g_aload_n C hl 0 rfl rfl (gdec kX7_hoursTo 5 rfl) ?_
    refine gf_X7_16 C h ho (gdec kX7_hoursTo 6 rfl) ?_
    refine g_aload_n C hl 0 rfl rfl (gdec kX7_hoursTo 7 rfl) ?_
    refine gf_X7_12 C h ho (gdec kX7_hoursTo 8 rfl) ?_
    obtain ⟨G3, q4, hf⟩ := bn1_s hf
    refine g_cv h (g_runV C h (gcl_7_1 C ho) (by decide) rfl (c_X3_copyFrom l E _ _ _ (gcl_7_1 C ho) (gcl_7_0 C ho) _ q4) wM_X7_143 wI_X3_copyFrom wS_X3_copyFrom wN_X3 wC_X3_copyFrom rfl ny_X3_copyFrom rfl ⟨Nat.le_of_ble_eq_true rfl, Nat.le_of_ble_eq_true rfl⟩ hl.1 rfl (Nat.le_of_ble_eq_true rfl) (gdec kX7_hoursTo 9 rfl) ⟨Nat.le_of_ble_eq_true rfl, Nat.le_of_ble_eq_true rfl⟩) (fun H locs h => ?_)
    refine g_aload_n C hl 0 rfl rfl (gdec kX7_hoursTo 10 rfl) ?_
    refine gf_X7_16 C h ho (gdec kX7_hoursTo 11 rfl) ?_
    refine g_iload_n C hl 1 rfl rfl (gdec kX7_hoursTo 12 rfl) ?_
    obtain ⟨G5, r6, q7, hf⟩ := bnd_s hf
    refine g_ci h (g_runV C h (gcl_7_1 C ho) (by decide) rfl (c_X3_hoursUntilDelivered l E _ _ _ (gcl_7_1 C ho) _ _ q7) wM_X7_146 wI_X3_hoursUntilDelivered wS_X3_hoursUntilDelivered wN_X3 wC_X3_hoursUntilDelivered rfl ny_X3_hoursUntilDelivered rfl ⟨Nat.le_of_ble_eq_true rfl, Nat.le_of_ble_eq_true rfl⟩ hl.1 rfl (Nat.le_of_ble_eq_true rfl) (gdec kX7_hoursTo 13 rfl) ⟨Nat.le_of_ble_eq_true rfl, Nat.le_of_ble_eq_true rfl⟩) (fun H locs h => ?_)
    exact g_xiret C h hf ⟨Nat.le_of_ble_eq_true rfl, Nat.le_of_ble_eq_true rfl⟩ (gdec kX7_hoursTo 14 rfl)
def f_X7_way (G : GS) (p1 : Int) (p2 : Int) : Option (Int × Int) :=
  bn1 (f_X7_checkNumber G p1 (G 3 0 4)) (fun x1 => if x1 = 0 then bn1 (f_X7_checkNumber G p2 (G 3 0 4)) (fun x3 => if x3 = 0 then gd p1 (gd p2 (bn1 (f_X3_hoursBetween G 0 (if p2 < p1 then p2 else p1) (if p1 < p2 then p2 else p1)) (fun r7 => some (0, r7)))) else some (x3, 0)) else some (x1, 0))
set_option maxHeartbeats 4000000 in
set_option maxRecDepth 100000 in
theorem c_X7_way (l : Launch) (hst : l.stackTraces = false) (E : gEnv) (G : GS) (p1 : Int) (p2 : Int) (ho : gOk E 7 0) (xz rz : Int) (hf : f_X7_way G p1 p2 = some (xz, rz)) : gMetX l yX7_way cX7_way 3 (some .int) 7 103 2 12 [.ref (eA E 7 0), vI p1, vI p2] E G (gQiX E G xz rz) (gXC E G xz) := by
  refine g_metX (by decide +kernel) (Nat.le_of_ble_eq_true rfl) ?_
  intro p e s m below meth c C hout H locs h ls hl
  have C : gC p s m _ meth c RX7 cX7_way 3 (some .int) E := C
  have hl : lv_has ls 3 [(0, .ref (eA E 7 0)), (1, vI p1), (2, vI p2)] := hl
  unfold f_X7_way at hf
  refine g_iload_n C hl 1 rfl rfl (gdec kX7_way 0 rfl) ?_
  refine g_aload_n C hl 0 rfl rfl (gdec kX7_way 1 rfl) ?_
  refine gf_X7_12 C h ho (gdec kX7_way 2 rfl) ?_
  refine gf_X7_33 C h (gcl_7_0 C ho) (gdec kX7_way 3 rfl) ?_
  obtain ⟨x1, q2, hf⟩ := bn1_s hf
  refine g_xcv h (g_xrunS C h (c_X7_checkNumber l hst E _ _ _ _ q2) wM_X7_37 wT_X7_checkNumber wN_X7 wC_X7_checkNumber rfl ny_X7_checkNumber rfl ⟨Nat.le_of_ble_eq_true rfl, Nat.le_of_ble_eq_true rfl⟩ hl.1 rfl (Nat.le_of_ble_eq_true rfl) (gdec kX7_way 4 rfl) ⟨Nat.le_of_ble_eq_true rfl, Nat.le_of_ble_eq_true rfl⟩) (fun hx ce q9 H locs h hce hcv hcl => ?_) (fun hx H locs h => ?_)
  · replace hf := ifn hx hf
    cases hf
    exact g_xout C hout h hx hce hcv hcl ⟨Nat.le_of_ble_eq_true rfl, Nat.le_of_ble_eq_true rfl⟩ rfl rfl
  · replace hf := ifp hx hf
    refine g_iload_n C hl 2 rfl rfl (gdec kX7_way 5 rfl) ?_
    refine g_aload_n C hl 0 rfl rfl (gdec kX7_way 6 rfl) ?_
    refine gf_X7_12 C h ho (gdec kX7_way 7 rfl) ?_
    refine gf_X7_33 C h (gcl_7_0 C ho) (gdec kX7_way 8 rfl) ?_
    obtain ⟨x3, q4, hf⟩ := bn1_s hf
    refine g_xcv h (g_xrunS C h (c_X7_checkNumber l hst E _ _ _ _ q4) wM_X7_37 wT_X7_checkNumber wN_X7 wC_X7_checkNumber rfl ny_X7_checkNumber rfl ⟨Nat.le_of_ble_eq_true rfl, Nat.le_of_ble_eq_true rfl⟩ hl.1 rfl (Nat.le_of_ble_eq_true rfl) (gdec kX7_way 9 rfl) ⟨Nat.le_of_ble_eq_true rfl, Nat.le_of_ble_eq_true rfl⟩) (fun hx ce q9 H locs h hce hcv hcl => ?_) (fun hx H locs h => ?_)
    · replace hf := ifn hx hf
      cases hf
      exact g_xout C hout h hx hce hcv hcl ⟨Nat.le_of_ble_eq_true rfl, Nat.le_of_ble_eq_true rfl⟩ rfl rfl
    · replace hf := ifp hx hf
      refine g_aload_n C hl 0 rfl rfl (gdec kX7_way 10 rfl) ?_
      refine gf_X7_12 C h ho (gdec kX7_way 11 rfl) ?_
      refine g_iload_n C hl 1 rfl rfl (gdec kX7_way 12 rfl) ?_
      refine g_iload_n C hl 2 rfl rfl (gdec kX7_way 13 rfl) ?_
      obtain ⟨h5, hf⟩ := gd_s hf
      obtain ⟨h6, hf⟩ := gd_s hf
      refine g_min C h5 h6 wM_X7_149 wT_Math_min wN_java_lang_Math wC_Math_min hl.1 (by decide) (Nat.le_of_ble_eq_true rfl) (Nat.le_of_ble_eq_true rfl) (Nat.le_of_ble_eq_true rfl) (gdec kX7_way 14 rfl) ?_
      refine g_iload_n C hl 1 rfl rfl (gdec kX7_way 15 rfl) ?_
      refine g_iload_n C hl 2 rfl rfl (gdec kX7_way 16 rfl) ?_
      refine g_max C h5 h6 wM_X7_154 wT_Math_max wN_java_lang_Math wC_Math_max hl.1 (by decide) (Nat.le_of_ble_eq_true rfl) (Nat.le_of_ble_eq_true rfl) (Nat.le_of_ble_eq_true rfl) (gdec kX7_way 17 rfl) ?_
      obtain ⟨r7, q8, hf⟩ := bn1_s hf
      refine g_ci h (g_runV C h (gcl_7_0 C ho) (by decide) rfl (c_X3_hoursBetween l E _ _ _ _ (gcl_7_0 C ho) _ q8) wM_X7_157 wI_X3_hoursBetween wS_X3_hoursBetween wN_X3 wC_X3_hoursBetween rfl ny_X3_hoursBetween rfl ⟨Nat.le_of_ble_eq_true rfl, Nat.le_of_ble_eq_true rfl⟩ hl.1 rfl (Nat.le_of_ble_eq_true rfl) (gdec kX7_way 18 rfl) ⟨Nat.le_of_ble_eq_true rfl, Nat.le_of_ble_eq_true rfl⟩) (fun H locs h => ?_)
      exact g_xiret C h (congrArg (Option.map (Prod.mk _)) hf) ⟨Nat.le_of_ble_eq_true rfl, Nat.le_of_ble_eq_true rfl⟩ (gdec kX7_way 19 rfl)
def f_X7_effortHome (G : GS) (p1 : Int) : Option (Int × Int) :=
  bn1 (f_X7_checkNumber G p1 (G 3 0 5)) (fun x1 => if x1 = 0 then ga p1 10 (bn1 (f_X3_effortBetween G 0 (G 6 (10 * 0 + p1) 2) (G 6 (10 * 0 + p1) 0)) (fun r5 => some (0, r5))) else some (x1, 0))
set_option maxHeartbeats 4000000 in
set_option maxRecDepth 100000 in
theorem c_X7_effortHome (l : Launch) (hst : l.stackTraces = false) (E : gEnv) (G : GS) (p1 : Int) (ho : gOk E 7 0) (xz rz : Int) (hf : f_X7_effortHome G p1 = some (xz, rz)) : gMetX l yX7_effortHome cX7_effortHome 3 (some .int) 7 103 1 6 [.ref (eA E 7 0), vI p1] E G (gQiX E G xz rz) (gXC E G xz) := by
  refine g_metX (by decide +kernel) (Nat.le_of_ble_eq_true rfl) ?_
  intro p e s m below meth c C hout H locs h ls hl
  have C : gC p s m _ meth c RX7 cX7_effortHome 3 (some .int) E := C
  have hl : lv_has ls 3 [(0, .ref (eA E 7 0)), (1, vI p1)] := hl
  unfold f_X7_effortHome at hf
  refine g_iload_n C hl 1 rfl rfl (gdec kX7_effortHome 0 rfl) ?_
  refine g_aload_n C hl 0 rfl rfl (gdec kX7_effortHome 1 rfl) ?_
  refine gf_X7_12 C h ho (gdec kX7_effortHome 2 rfl) ?_
  refine gf_X7_72 C h (gcl_7_0 C ho) (gdec kX7_effortHome 3 rfl) ?_
  obtain ⟨x1, q2, hf⟩ := bn1_s hf
  refine g_xcv h (g_xrunS C h (c_X7_checkNumber l hst E _ _ _ _ q2) wM_X7_37 wT_X7_checkNumber wN_X7 wC_X7_checkNumber rfl ny_X7_checkNumber rfl ⟨Nat.le_of_ble_eq_true rfl, Nat.le_of_ble_eq_true rfl⟩ hl.1 rfl (Nat.le_of_ble_eq_true rfl) (gdec kX7_effortHome 4 rfl) ⟨Nat.le_of_ble_eq_true rfl, Nat.le_of_ble_eq_true rfl⟩) (fun hx ce q9 H locs h hce hcv hcl => ?_) (fun hx H locs h => ?_)
  · replace hf := ifn hx hf
    cases hf
    exact g_xout C hout h hx hce hcv hcl ⟨Nat.le_of_ble_eq_true rfl, Nat.le_of_ble_eq_true rfl⟩ rfl rfl
  · replace hf := ifp hx hf
    refine g_aload_n C hl 0 rfl rfl (gdec kX7_effortHome 5 rfl) ?_
    refine gf_X7_12 C h ho (gdec kX7_effortHome 6 rfl) ?_
    refine g_iload_n C hl 1 rfl rfl (gdec kX7_effortHome 7 rfl) ?_
    obtain ⟨h3, hf⟩ := ga_s hf
    refine g_cr h (g_runV C h (gcl_7_0 C ho) (by decide) rfl (c_X3_teamRow l E _ _ _ (gcl_7_0 C ho) _ (e_X3_teamRow _ _ _ h3)) wM_X7_120 wI_X3_teamRow wS_X3_teamRow wN_X3 wC_X3_teamRow rfl ny_X3_teamRow rfl ⟨Nat.le_of_ble_eq_true rfl, Nat.le_of_ble_eq_true rfl⟩ hl.1 rfl (Nat.le_of_ble_eq_true rfl) (gdec kX7_effortHome 8 rfl) ⟨Nat.le_of_ble_eq_true rfl, Nat.le_of_ble_eq_true rfl⟩) (fun H locs h => ?_)
    have k4 : gOk E 6 (10 * 0 + p1) := gok6 C (gcl_3_2 C (gcl_7_0 C ho)) h3
    refine g_astore_n C [(2, .ref (eA E 6 (10 * 0 + p1))), (0, .ref (eA E 7 0)), (1, vI p1)] hl rfl (by decide) rfl (gdec kX7_effortHome 9 rfl) (fun ls hl => ?_)
    refine g_aload_n C hl 1 rfl rfl (gdec kX7_effortHome 10 rfl) ?_
    refine gf_X7_12 C h ho (gdec kX7_effortHome 11 rfl) ?_
    refine g_aload_n C hl 0 rfl rfl (gdec kX7_effortHome 12 rfl) ?_
    refine gf_X7_160 C h k4 (gdec kX7_effortHome 13 rfl) ?_
    refine g_aload_n C hl 0 rfl rfl (gdec kX7_effortHome 14 rfl) ?_
    refine gf_X7_163 C h k4 (gdec kX7_effortHome 15 rfl) ?_
    obtain ⟨r5, q6, hf⟩ := bn1_s hf
    refine g_ci h (g_runV C h (gcl_7_0 C ho) (by decide) rfl (c_X3_effortBetween l E _ _ _ _ (gcl_7_0 C ho) _ q6) wM_X7_166 wI_X3_effortBetween wS_X3_effortBetween wN_X3 wC_X3_effortBetween rfl ny_X3_effortBetween rfl ⟨Nat.le_of_ble_eq_true rfl, Nat.le_of_ble_eq_true rfl⟩ hl.1 rfl (Nat.le_of_ble_eq_true rfl) (gdec kX7_effortHome 16 rfl) ⟨Nat.le_of_ble_eq_true rfl, Nat.le_of_ble_eq_true rfl⟩) (fun H locs h => ?_)
    exact g_xiret C h (congrArg (Option.map (Prod.mk _)) hf) ⟨Nat.le_of_ble_eq_true rfl, Nat.le_of_ble_eq_true rfl⟩ (gdec kX7_effortHome 17 rfl)
def f_X7_append (G : GS) (p1 : Int) : Option (GS × (Int × Int)) :=
  bn1 (f_X7_checkRange G p1 0 127) (fun x1 => if x1 = 0 then gy p1 (bnd (f_X4_add G p1) (fun G4 r5 => gd r5 (if r5 = 0 then some (G4, (3, 0)) else some (G4, (0, G4 4 0 1))))) else some (G, (x1, 0)))
set_option maxHeartbeats 4000000 in
set_option maxRecDepth 100000 in
theorem c_X7_append (l : Launch) (hst : l.stackTraces = false) (E : gEnv) (G : GS) (p1 : Int) (ho : gOk E 7 0) (Gz : GS) (xz rz : Int) (hf : f_X7_append G p1 = some (Gz, (xz, rz))) : gMetX l yX7_append cX7_append 2 (some .int) 7 104 2 12 [.ref (eA E 7 0), vI p1] E G (gQiX E Gz xz rz) (gXC E Gz xz) := by
  refine g_metX (by decide +kernel) (Nat.le_of_ble_eq_true rfl) ?_
  intro p e s m below meth c C hout H locs h ls hl
  have C : gC p s m _ meth c RX7 cX7_append 2 (some .int) E := C
  have hl : lv_has ls 2 [(0, .ref (eA E 7 0)), (1, vI p1)] := hl
  unfold f_X7_append at hf
  refine g_iload_n C hl 1 rfl rfl (gdec kX7_append 0 rfl) ?_
  refine g_iconst C (gdec kX7_append 1 rfl) ?_
  refine g_bipush C (gdec kX7_append 2 rfl) rfl ?_
  obtain ⟨x1, q2, hf⟩ := bn1_s hf
  refine g_xcv h (g_xrunS C h (c_X7_checkRange l hst E _ _ _ _ _ q2) wM_X7_41 wT_X7_checkRange wN_X7 wC_X7_checkRange rfl ny_X7_checkRange rfl ⟨Nat.le_of_ble_eq_true rfl, Nat.le_of_ble_eq_true rfl⟩ hl.1 rfl (Nat.le_of_ble_eq_true rfl) (gdec kX7_append 3 rfl) ⟨Nat.le_of_ble_eq_true rfl, Nat.le_of_ble_eq_true rfl⟩) (fun hx ce q9 H locs h hce hcv hcl => ?_) (fun hx H locs h => ?_)
  · replace hf := ifn hx hf
    cases hf
    exact g_xout C hout h hx hce hcv hcl ⟨Nat.le_of_ble_eq_true rfl, Nat.le_of_ble_eq_true rfl⟩ rfl rfl
  · replace hf := ifp hx hf
    refine g_aload_n C hl 0 rfl rfl (gdec kX7_append 4 rfl) ?_
    refine gf_X7_29 C h ho (gdec kX7_append 5 rfl) ?_
    refine g_iload_n C hl 1 rfl rfl (gdec kX7_append 6 rfl) ?_
    obtain ⟨h3, hf⟩ := gy_s hf
    refine g_i2b C h3 (gdec kX7_append 7 rfl) ?_
    obtain ⟨G4, r5, q6, hf⟩ := bnd_s hf
    refine g_ci h (g_runV C h (gcl_7_3 C ho) (by decide) rfl (c_X4_add l E _ _ (gcl_7_3 C ho) _ _ q6) wM_X7_172 wI_X4_add wS_X4_add wN_X4 wC_X4_add rfl ny_X4_add rfl ⟨Nat.le_of_ble_eq_true rfl, Nat.le_of_ble_eq_true rfl⟩ hl.1 rfl (Nat.le_of_ble_eq_true rfl) (gdec kX7_append 8 rfl) ⟨Nat.le_of_ble_eq_true rfl, Nat.le_of_ble_eq_true rfl⟩) (fun H locs h => ?_)
    obtain ⟨h7, hf⟩ := gd_s hf
    refine g_if_ne C (tgt := 29) h7 (by decide) (gdec kX7_append 9 rfl) (fun c8 => ?_) (fun c8 => ?_)
    · replace hf := ifp c8 hf
      cases hf
      exact g_throw C hout hst h (by decide +kernel) wK_X7_103 wN_java_lang_IllegalStateException wStr_X7_176 gAt_X7_107 gVo_X7_107 hl.1 (gdec kX7_append 10 rfl) (gdec kX7_append 11 rfl) (gdec kX7_append 12 rfl) (gdec kX7_append 13 rfl) (gdec kX7_append 14 rfl) ⟨Nat.le_of_ble_eq_true rfl, Nat.le_of_ble_eq_true rfl⟩ ⟨Nat.le_of_ble_eq_true rfl, Nat.le_of_ble_eq_true rfl⟩ ⟨Nat.le_of_ble_eq_true rfl, Nat.le_of_ble_eq_true rfl⟩ (by decide) rfl
    · replace hf := ifn c8 hf
      refine g_aload_n C hl 0 rfl rfl (gdec kX7_append 15 rfl) ?_
      refine gf_X7_29 C h ho (gdec kX7_append 16 rfl) ?_
      refine gf_X7_178 C h (gcl_7_3 C ho) (gdec kX7_append 17 rfl) ?_
      exact g_xiret C h hf ⟨Nat.le_of_ble_eq_true rfl, Nat.le_of_ble_eq_true rfl⟩ (gdec kX7_append 18 rfl)
def f_X7_undo (G : GS) : Option (GS × (Int × Int)) :=
  gd (G 0 0 1) (if (G 0 0 1) = 0 then some (G, (3, 0)) else bn1 (f_X0_restore G 0) (fun G3 => some (G3, (0, G3 0 0 1))))
set_option maxHeartbeats 4000000 in
set_option maxRecDepth 100000 in
theorem c_X7_undo (l : Launch) (hst : l.stackTraces = false) (E : gEnv) (G : GS) (ho : gOk E 7 0) (Gz : GS) (xz rz : Int) (hf : f_X7_undo G = some (Gz, (xz, rz))) : gMetX l yX7_undo cX7_undo 1 (some .int) 6 87 1 6 [.ref (eA E 7 0)] E G (gQiX E Gz xz rz) (gXC E Gz xz) := by
  refine g_metX (by decide +kernel) (Nat.le_of_ble_eq_true rfl) ?_
  intro p e s m below meth c C hout H locs h ls hl
  have C : gC p s m _ meth c RX7 cX7_undo 1 (some .int) E := C
  have hl : lv_has ls 1 [(0, .ref (eA E 7 0))] := hl
  unfold f_X7_undo at hf
  refine g_aload_n C hl 0 rfl rfl (gdec kX7_undo 0 rfl) ?_
  refine gf_X7_22 C h ho (gdec kX7_undo 1 rfl) ?_
  refine gf_X7_188 C h (gcl_7_2 C ho) (gdec kX7_undo 2 rfl) ?_
  obtain ⟨h1, hf⟩ := gd_s hf
  refine g_if_ne C (tgt := 20) h1 (by decide) (gdec kX7_undo 3 rfl) (fun c2 => ?_) (fun c2 => ?_)
  · replace hf := ifp c2 hf
    cases hf
    exact g_throw C hout hst h (by decide +kernel) wK_X7_103 wN_java_lang_IllegalStateException wStr_X7_191 gAt_X7_107 gVo_X7_107 hl.1 (gdec kX7_undo 4 rfl) (gdec kX7_undo 5 rfl) (gdec kX7_undo 6 rfl) (gdec kX7_undo 7 rfl) (gdec kX7_undo 8 rfl) ⟨Nat.le_of_ble_eq_true rfl, Nat.le_of_ble_eq_true rfl⟩ ⟨Nat.le_of_ble_eq_true rfl, Nat.le_of_ble_eq_true rfl⟩ ⟨Nat.le_of_ble_eq_true rfl, Nat.le_of_ble_eq_true rfl⟩ (by decide) rfl
  · replace hf := ifn c2 hf
    refine g_aload_n C hl 0 rfl rfl (gdec kX7_undo 9 rfl) ?_
    refine gf_X7_22 C h ho (gdec kX7_undo 10 rfl) ?_
    refine g_aload_n C hl 0 rfl rfl (gdec kX7_undo 11 rfl) ?_
    refine gf_X7_12 C h ho (gdec kX7_undo 12 rfl) ?_
    obtain ⟨G3, q4, hf⟩ := bn1_s hf
    refine g_cv h (g_runV C h (gcl_7_2 C ho) (by decide) rfl (c_X0_restore l E _ _ (gcl_7_2 C ho) (gcl_7_0 C ho) _ q4) wM_X7_193 wI_X0_restore wS_X0_restore wN_X0 wC_X0_restore rfl ny_X0_restore rfl ⟨Nat.le_of_ble_eq_true rfl, Nat.le_of_ble_eq_true rfl⟩ hl.1 rfl (Nat.le_of_ble_eq_true rfl) (gdec kX7_undo 13 rfl) ⟨Nat.le_of_ble_eq_true rfl, Nat.le_of_ble_eq_true rfl⟩) (fun H locs h => ?_)
    refine g_aload_n C hl 0 rfl rfl (gdec kX7_undo 14 rfl) ?_
    refine gf_X7_22 C h ho (gdec kX7_undo 15 rfl) ?_
    refine gf_X7_188 C h (gcl_7_2 C ho) (gdec kX7_undo 16 rfl) ?_
    exact g_xiret C h hf ⟨Nat.le_of_ble_eq_true rfl, Nat.le_of_ble_eq_true rfl⟩ (gdec kX7_undo 17 rfl)

def f_X2_isDelivered (G : GS) (o : Int) : Option (Int) :=
  gd (G 2 o 6) (if (G 2 o 6) = (-1) then some 0 else some 1)
set_option maxHeartbeats 4000000 in
set_option maxRecDepth 100000 in
theorem c_X2_isDelivered (l : Launch) (E : gEnv) (G : GS) (o : Int) (ho : gOk 2 o) (rz : Int) (hf : f_X2_isDelivered G o = some rz) : gMet l yX2_isDelivered cX2_isDelivered 1 (some .boolean) 0 0 0 0 [.ref (eA E 2 o)] E G (gQi E G rz) := by
  refine g_met (by decide +kernel) (Nat.le_of_ble_eq_true rfl) ?_
  intro p e s m below meth c C H locs h ls hl
  have C : gC p s m _ meth c RX2 cX2_isDelivered 1 (some .boolean) E := C
  have hl : lv_has ls 1 [(0, .ref (eA E 2 o))] := hl
  unfold f_X2_isDelivered at hf
  refine g_aload_n C hl 0 rfl rfl (gdec kX2_isDelivered 0 rfl) ?_
  refine gf_X2_31 C h ho (gdec kX2_isDelivered 1 rfl) ?_
  refine g_iconst C (gdec kX2_isDelivered 2 rfl) ?_
  obtain ⟨h1, hf⟩ := gd_s hf
  refine g_icmp_eq C (tgt := 12) h1 (by decide) (by decide) (gdec kX2_isDelivered 3 rfl) (fun c2 => ?_) (fun c2 => ?_)
  · replace hf := ifp c2 hf
    refine g_iconst C (gdec kX2_isDelivered 6 rfl) ?_
    exact g_zret C h (Or.inl rfl) (congrArg (Option.map (Prod.mk _)) hf) (gdec kX2_isDelivered 7 rfl)
  · replace hf := ifn c2 hf
    refine g_iconst C (gdec kX2_isDelivered 4 rfl) ?_
    refine g_goto C (tgt := 13) (by decide) (gdec kX2_isDelivered 5 rfl) ?_
    exact g_zret C h (Or.inr rfl) (congrArg (Option.map (Prod.mk _)) hf) (gdec kX2_isDelivered 7 rfl)
def f_X6_standsAt (G : GS) (o : Int) (p1 : Int) : Option (Int) :=
  gd (G 6 o 3) (if (G 6 o 3) = (-1) then gd (G 6 o 2) (gd p1 (if (G 6 o 2) = p1 then some 1 else some 0)) else some 0)
set_option maxHeartbeats 4000000 in
set_option maxRecDepth 100000 in
theorem c_X6_standsAt (l : Launch) (E : gEnv) (G : GS) (o : Int) (p1 : Int) (ho : gOk 6 o) (rz : Int) (hf : f_X6_standsAt G o p1 = some rz) : gMet l yX6_standsAt cX6_standsAt 2 (some .boolean) 0 0 0 0 [.ref (eA E 6 o), vI p1] E G (gQi E G rz) := by
  refine g_met (by decide +kernel) (Nat.le_of_ble_eq_true rfl) ?_
  intro p e s m below meth c C H locs h ls hl
  have C : gC p s m _ meth c RX6 cX6_standsAt 2 (some .boolean) E := C
  have hl : lv_has ls 2 [(0, .ref (eA E 6 o)), (1, vI p1)] := hl
  unfold f_X6_standsAt at hf
  refine g_aload_n C hl 0 rfl rfl (gdec kX6_standsAt 0 rfl) ?_
  refine gf_X6_41 C h ho (gdec kX6_standsAt 1 rfl) ?_
  refine g_iconst C (gdec kX6_standsAt 2 rfl) ?_
  obtain ⟨h1, hf⟩ := gd_s hf
  refine g_icmp_ne C (tgt := 20) h1 (by decide) (by decide) (gdec kX6_standsAt 3 rfl) (fun c2 => ?_) (fun c2 => ?_)
  · replace hf := ifp c2 hf
    refine g_aload_n C hl 0 rfl rfl (gdec kX6_standsAt 4 rfl) ?_
    refine gf_X6_38 C h ho (gdec kX6_standsAt 5 rfl) ?_
    refine g_iload_n C hl 1 rfl rfl (gdec kX6_standsAt 6 rfl) ?_
    obtain ⟨h3, hf⟩ := gd_s hf
    obtain ⟨h4, hf⟩ := gd_s hf
    refine g_icmp_ne C (tgt := 20) h3 h4 (by decide) (gdec kX6_standsAt 7 rfl) (fun c5 => ?_) (fun c5 => ?_)
    · replace hf := ifp c5 hf
      refine g_iconst C (gdec kX6_standsAt 8 rfl) ?_
      refine g_goto C (tgt := 21) (by decide) (gdec kX6_standsAt 9 rfl) ?_
      exact g_zret C h (Or.inr rfl) (congrArg (Option.map (Prod.mk _)) hf) (gdec kX6_standsAt 11 rfl)
    · replace hf := ifn c5 hf
      refine g_iconst C (gdec kX6_standsAt 10 rfl) ?_
      exact g_zret C h (Or.inl rfl) (congrArg (Option.map (Prod.mk _)) hf) (gdec kX6_standsAt 11 rfl)
  · replace hf := ifn c2 hf
    refine g_iconst C (gdec kX6_standsAt 10 rfl) ?_
    exact g_zret C h (Or.inl rfl) (congrArg (Option.map (Prod.mk _)) hf) (gdec kX6_standsAt 11 rfl)
def f_X6_rest (G : GS) (o : Int) (p1 : Int) : Option (GS) :=
  gd ((G 6 o 1) - p1) (some (gup G 6 o 1 (if 0 < (G 6 o 1) - p1 then (G 6 o 1) - p1 else 0)))
set_option maxHeartbeats 4000000 in
set_option maxRecDepth 100000 in
theorem c_X6_rest (l : Launch) (E : gEnv) (G : GS) (o : Int) (p1 : Int) (ho : gOk 6 o) (Gz : GS) (hf : f_X6_rest G o p1 = some Gz) : gMet l yX6_rest cX6_rest 2 none 1 21 0 0 [.ref (eA E 6 o), vI p1] E G (gQv E Gz) := by
  refine g_met (by decide +kernel) (Nat.le_of_ble_eq_true rfl) ?_
  intro p e s m below meth c C H locs h ls hl
  have C : gC p s m _ meth c RX6 cX6_rest 2 none E := C
  have hl : lv_has ls 2 [(0, .ref (eA E 6 o)), (1, vI p1)] := hl
  unfold f_X6_rest at hf
  refine g_aload_n C hl 0 rfl rfl (gdec kX6_rest 0 rfl) ?_
  refine g_iconst C (gdec kX6_rest 1 rfl) ?_
  refine g_aload_n C hl 0 rfl rfl (gdec kX6_rest 2 rfl) ?_
  refine gf_X6_15 C h ho (gdec kX6_rest 3 rfl) ?_
  refine g_iload_n C hl 1 rfl rfl (gdec kX6_rest 4 rfl) ?_
  refine g_isub C (gdec kX6_rest 5 rfl) ?_
  obtain ⟨h1, hf⟩ := gd_s hf
  refine g_max C (by decide) h1 wM_X6_57 wT_Math_max wN_java_lang_Math wC_Math_max hl.1 (by decide) (Nat.le_of_ble_eq_true rfl) (Nat.zero_le _) (Nat.zero_le _) (gdec kX6_rest 6 rfl) ?_
  refine gp_X6_15 C h ho (gdec kX6_rest 7 rfl) (fun H locs h => ?_)
  exact g_vret C h hf (gdec kX6_rest 8 rfl)
def f_X3_restTeam (G : GS) (o : Int) (p1 : Int) : Option (GS) :=
  ga (G 6 p1 2) 8 (gd (G 6 p1 1) (if 0 < (G 6 p1 1) then gd (G 1 (8 * o + (G 6 p1 2)) 1) (if 0 < (G 1 (8 * o + (G 6 p1 2)) 1) then nm (gup (gup G 1 (8 * o + (G 6 p1 2)) 1 ((G 1 (8 * o + (G 6 p1 2)) 1) - 1)) 6 p1 11 (((gup G 1 (8 * o + (G 6 p1 2)) 1 ((G 1 (8 * o + (G 6 p1 2)) 1) - 1)) 6 p1 11) + 1)) (fun G7 => bn1 (f_X6_rest (gup G7 3 o 12 ((G7 3 o 12) + 1)) p1 6) (fun G9 => some G9)) else bn1 (f_X6_rest G p1 1) (fun G11 => some G11)) else bn1 (f_X6_rest G p1 1) (fun G13 => some G13)))
set_option maxHeartbeats 4000000 in
set_option maxRecDepth 100000 in
theorem c_X3_restTeam (l : Launch) (E : gEnv) (G : GS) (o : Int) (p1 : Int) (ho : gOk 3 o) (hp1 : gOk 6 p1) (Gz : GS) (hf : f_X3_restTeam G o p1 = some Gz) : gMet l yX3_restTeam cX3_restTeam 3 none 2 42 0 0 [.ref (eA E 3 o), .ref (eA E 6 p1)] E G (gQv E Gz) := by
  refine g_met (by decide +kernel) (Nat.le_of_ble_eq_true rfl) ?_
  intro p e s m below meth c C H locs h ls hl
  have C : gC p s m _ meth c RX3 cX3_restTeam 3 none E := C
  have hl : lv_has ls 3 [(0, .ref (eA E 3 o)), (1, .ref (eA E 6 p1))] := hl
  unfold f_X3_restTeam at hf
  refine g_aload_n C hl 0 rfl rfl (gdec kX3_restTeam 0 rfl) ?_
  refine gf_X3_19 C h ho (gdec kX3_restTeam 1 rfl) ?_
  refine g_aload_n C hl 1 rfl rfl (gdec kX3_restTeam 2 rfl) ?_
  refine gf_X3_127 C h hp1 (gdec kX3_restTeam 3 rfl) ?_
  obtain ⟨h1, hf⟩ := ga_s hf
  refine g_ald15 C h (gok15 ho) h1 (gdec kX3_restTeam 4 rfl) ?_
  have k2 : gOk 1 (8 * o + (G 6 p1 2)) := gok1 (gok15 ho) h1
  refine g_astore_n C [(2, .ref (eA E 1 (8 * o + (G 6 p1 2)))), (0, .ref (eA E 3 o)), (1, .ref (eA E 6 p1))] hl rfl (by decide) rfl (gdec kX3_restTeam 5 rfl) (fun ls hl => ?_)
  refine g_aload_n C hl 2 rfl rfl (gdec kX3_restTeam 6 rfl) ?_
  refine gf_X3_130 C h hp1 (gdec kX3_restTeam 7 rfl) ?_
  obtain ⟨h3, hf⟩ := gd_s hf
  refine g_if_le C (tgt := 63) h3 (by decide) (gdec kX3_restTeam 8 rfl) (fun c4 => ?_) (fun c4 => ?_)
  · replace hf := ifp c4 hf
    refine g_aload_n C hl 0 rfl rfl (gdec kX3_restTeam 9 rfl) ?_
    refine gf_X3_133 C h k2 (gdec kX3_restTeam 10 rfl) ?_
    obtain ⟨h5, hf⟩ := gd_s hf
    refine g_if_le C (tgt := 63) h5 (by decide) (gdec kX3_restTeam 11 rfl) (fun c6 => ?_) (fun c6 => ?_)
    · replace hf := ifp c6 hf
      refine g_aload_n C hl 0 rfl rfl (gdec kX3_restTeam 12 rfl) ?_
      refine g_dup C rfl (gdec kX3_restTeam 13 rfl) ?_
      refine gf_X3_133 C h k2 (gdec kX3_restTeam 14 rfl) ?_
      refine g_iconst C (gdec kX3_restTeam 15 rfl) ?_
      refine g_isub C (gdec kX3_restTeam 16 rfl) ?_
      refine gp_X3_133 C h k2 (gdec kX3_restTeam 17 rfl) (fun H locs h => ?_)
      refine g_aload_n C hl 2 rfl rfl (gdec kX3_restTeam 18 rfl) ?_
      refine g_dup C rfl (gdec kX3_restTeam 19 rfl) ?_
      refine gf_X3_136 C h hp1 (gdec kX3_restTeam 20 rfl) ?_
      refine g_iconst C (gdec kX3_restTeam 21 rfl) ?_
      refine g_iadd C (gdec kX3_restTeam 22 rfl) ?_
      refine gp_X3_136 C h hp1 (gdec kX3_restTeam 23 rfl) (fun H locs h => ?_)
      obtain ⟨G7, e8, hf⟩ := nm_s hf
      rw [e8] at h
      refine g_aload_n C hl 1 rfl rfl (gdec kX3_restTeam 24 rfl) ?_
      refine g_dup C rfl (gdec kX3_restTeam 25 rfl) ?_
      refine gf_X3_72 C h ho (gdec kX3_restTeam 26 rfl) ?_
      refine g_iconst C (gdec kX3_restTeam 27 rfl) ?_
      refine g_iadd C (gdec kX3_restTeam 28 rfl) ?_
      refine gp_X3_72 C h ho (gdec kX3_restTeam 29 rfl) (fun H locs h => ?_)
      refine g_aload_n C hl 2 rfl rfl (gdec kX3_restTeam 30 rfl) ?_
      refine g_bipush C (gdec kX3_restTeam 31 rfl) rfl ?_
      obtain ⟨G9, q10, hf⟩ := bn1_s hf
      refine g_cv h (g_runV C h hp1 (by decide) rfl (c_X6_rest l E _ _ _ hp1 _ q10) wM_X3_137 wI_X6_rest wS_X6_rest wN_X6 wC_X6_rest rfl ny_X6_rest rfl ⟨Nat.le_of_ble_eq_true rfl, Nat.le_of_ble_eq_true rfl⟩ hl.1 rfl (Nat.le_of_ble_eq_true rfl) (gdec kX3_restTeam 32 rfl) ⟨Nat.zero_le _, Nat.zero_le _⟩) (fun H locs h => ?_)
      refine g_goto C (tgt := 68) (by decide) (gdec kX3_restTeam 33 rfl) ?_
      exact g_vret C h hf (gdec kX3_restTeam 37 rfl)
    · replace hf := ifn c6 hf
      refine g_aload_n C hl 2 rfl rfl (gdec kX3_restTeam 34 rfl) ?_
      refine g_iconst C (gdec kX3_restTeam 35 rfl) ?_
      obtain ⟨G11, q12, hf⟩ := bn1_s hf
      refine g_cv h (g_runV C h hp1 (by decide) rfl (c_X6_rest l E _ _ _ hp1 _ q12) wM_X3_137 wI_X6_rest wS_X6_rest wN_X6 wC_X6_rest rfl ny_X6_rest rfl ⟨Nat.le_of_ble_eq_true rfl, Nat.le_of_ble_eq_true rfl⟩ hl.1 rfl (Nat.le_of_ble_eq_true rfl) (gdec kX3_restTeam 36 rfl) ⟨Nat.zero_le _, Nat.zero_le _⟩) (fun H locs h => ?_)
      exact g_vret C h hf (gdec kX3_restTeam 37 rfl)
  · replace hf := ifn c4 hf
    refine g_aload_n C hl 2 rfl rfl (gdec kX3_restTeam 34 rfl) ?_
    refine g_iconst C (gdec kX3_restTeam 35 rfl) ?_
    obtain ⟨G13, q14, hf⟩ := bn1_s hf
    refine g_cv h (g_runV C h hp1 (by decide) rfl (c_X6_rest l E _ _ _ hp1 _ q14) wM_X3_137 wI_X6_rest wS_X6_rest wN_X6 wC_X6_rest rfl ny_X6_rest rfl ⟨Nat.le_of_ble_eq_true rfl, Nat.le_of_ble_eq_true rfl⟩ hl.1 rfl (Nat.le_of_ble_eq_true rfl) (gdec kX3_restTeam 36 rfl) ⟨Nat.zero_le _, Nat.zero_le _⟩) (fun H locs h => ?_)
    exact g_vret C h hf (gdec kX3_restTeam 37 rfl)
def f_X3_fittestTeamAt_L8 (G : GS) (o : Int) (p1 : Int) : Nat → Int → Int → Int → (Int → Int → Int → Option (Int)) → Option (Int)
  | 0, _, _, _, _ => none
  | n + 1, x2, x3, x4, k => gd x4 (gd (G 3 o 5) (if x4 < (G 3 o 5) then ga x4 10 (bn1 (f_X6_standsAt G (10 * o + x4) p1) (fun r6 => gd r6 (if r6 = 0 then f_X3_fittestTeamAt_L8 G o p1 n x2 x3 (x4 + 1) k else gd (G 6 (10 * o + x4) 1) (gd x3 (if (G 6 (10 * o + x4) 1) < x3 then f_X3_fittestTeamAt_L8 G o p1 n x4 (G 6 (10 * o + x4) 1) (x4 + 1) k else f_X3_fittestTeamAt_L8 G o p1 n x2 x3 (x4 + 1) k))))) else k x2 x3 x4))
def f_X3_fittestTeamAt (G : GS) (o : Int) (p1 : Int) : Option (Int) :=
  f_X3_fittestTeamAt_L8 G o p1 gFuel (-1) 101 0 (fun y2_15 y3_15 y4_15 => some y2_15)
set_option maxHeartbeats 4000000 in
set_option maxRecDepth 100000 in
theorem c_X3_fittestTeamAt (l : Launch) (E : gEnv) (G : GS) (o : Int) (p1 : Int) (ho : gOk 3 o) (rz : Int) (hf : f_X3_fittestTeamAt G o p1 = some rz) : gMet l yX3_fittestTeamAt cX3_fittestTeamAt 5 (some .int) 1 21 0 0 [.ref (eA E 3 o), vI p1] E G (gQi E G rz) := by
  refine g_met (by decide +kernel) (Nat.le_of_ble_eq_true rfl) ?_
  intro p e s m below meth c C H locs h ls hl
  have C : gC p s m _ meth c RX3 cX3_fittestTeamAt 5 (some .int) E := C
  have hl : lv_has ls 5 [(0, .ref (eA E 3 o)), (1, vI p1)] := hl
  have L8 : ∀ (n : Nat) (x2 : Int) (x3 : Int) (x4 : Int) (k : (Int → Int → Int → Option (Int))) (hK : ∀ (x2 : Int) (x3 : Int) (x4 : Int), k x2 x3 x4 = some rz → ∀ (H : Heap) (locs : List Loc), gH E s G H locs → ∀ ls, lv_has ls 5 [(0, .ref (eA E 3 o)), (1, vI p1), (2, vI x2), (3, vI x3), (4, vI x4)] → W p l e (gRm 1 21 0 0) s m ([.ref (eA E 3 o), vI p1] : List Value).toArray below meth c H locs 0 0 (MQ below (gQi E G rz) ([.ref (eA E 3 o), vI p1] : List Value).toArray s 0 0 (eF E)) (F0 m 65 ls [])), ∀ (H : Heap) (locs : List Loc), gH E s G H locs → ∀ ls, lv_has ls 5 [(0, .ref (eA E 3 o)), (1, vI p1), (2, vI x2), (3, vI x3), (4, vI x4)] → f_X3_fittestTeamAt_L8 G o p1 n x2 x3 x4 k = some rz → W p l e (gRm 1 21 0 0) s m ([.ref (eA E 3 o), vI p1] : List Value).toArray below meth c H locs 0 0 (MQ below (gQi E G rz) ([.ref (eA E 3 o), vI p1] : List Value).toArray s 0 0 (eF E)) (F0 m 8 ls []) := by
    intro n
    induction n with
    | zero =>
      intro x2 x3 x4 k hK H locs h ls hl hf
      exact absurd hf (by simp [f_X3_fittestTeamAt_L8])
    | succ n ih =>
      intro x2 x3 x4 k hK H locs h ls hl hf
      unfold f_X3_fittestTeamAt_L8 at hf
      refine g_iload C hl 4 rfl (gdec kX3_fittestTeamAt 6 rfl) ?_
      refine g_aload_n C hl 0 rfl rfl (gdec kX3_fittestTeamAt 7 rfl) ?_
      refine gf_X3_51 C h ho (gdec kX3_fittestTeamAt 8 rfl) ?_
      obtain ⟨h1, hf⟩ := gd_s hf
      obtain ⟨h2, hf⟩ := gd_s hf
      refine g_icmp_ge C (tgt := 65) h1 h2 (by decide) (gdec kX3_fittestTeamAt 9 rfl) (fun c3 => ?_) (fun c3 => ?_)
      · replace hf := ifp c3 hf
        refine g_aload_n C hl 0 rfl rfl (gdec kX3_fittestTeamAt 10 rfl) ?_
        refine gf_X3_25 C h ho (gdec kX3_fittestTeamAt 11 rfl) ?_
        refine g_iload C hl 4 rfl (gdec kX3_fittestTeamAt 12 rfl) ?_
        obtain ⟨h4, hf⟩ := ga_s hf
        refine g_ald16 C h (gok16 ho) h4 (gdec kX3_fittestTeamAt 13 rfl) ?_
        have k5 : gOk 6 (10 * o + x4) := gok6 (gok16 ho) h4
        refine g_iload_n C hl 1 rfl rfl (gdec kX3_fittestTeamAt 14 rfl) ?_
        obtain ⟨r6, q7, hf⟩ := bn1_s hf
        refine g_ci h (g_runV C h k5 (by decide) rfl (c_X6_standsAt l E _ _ _ k5 _ q7) wM_X3_224 wI_X6_standsAt wS_X6_standsAt wN_X6 wC_X6_standsAt rfl ny_X6_standsAt rfl ⟨Nat.le_of_ble_eq_true rfl, Nat.le_of_ble_eq_true rfl⟩ hl.1 rfl (Nat.le_of_ble_eq_true rfl) (gdec kX3_fittestTeamAt 15 rfl) ⟨Nat.zero_le _, Nat.zero_le _⟩) (fun H locs h => ?_)
        obtain ⟨h8, hf⟩ := gd_s hf
        refine g_if_eq C (tgt := 59) h8 (by decide) (gdec kX3_fittestTeamAt 16 rfl) (fun c9 => ?_) (fun c9 => ?_)
        · replace hf := ifp c9 hf
          refine g_iinc C (k := 4) [(4, vI (x4 + 1)), (0, .ref (eA E 3 o)), (1, vI p1), (2, vI x2), (3, vI x3)] hl rfl (by decide) rfl (gdec kX3_fittestTeamAt 32 rfl) (fun ls hl => ?_)
          refine g_goto C (tgt := 8) (by decide) (gdec kX3_fittestTeamAt 33 rfl) ?_
          exact ih _ _ _ k hK H locs h ls (lv_sub hl [1, 2, 3, 4, 0] rfl) hf
        · replace hf := ifn c9 hf
          refine g_aload_n C hl 0 rfl rfl (gdec kX3_fittestTeamAt 17 rfl) ?_
          refine gf_X3_25 C h ho (gdec kX3_fittestTeamAt 18 rfl) ?_
          refine g_iload C hl 4 rfl (gdec kX3_fittestTeamAt 19 rfl) ?_
          refine g_ald16 C h (gok16 ho) h4 (gdec kX3_fittestTeamAt 20 rfl) ?_
          have k10 : gOk 6 (10 * o + x4) := gok6 (gok16 ho) h4
          refine gf_X3_130 C h k10 (gdec kX3_fittestTeamAt 21 rfl) ?_
          refine g_iload_n C hl 3 rfl rfl (gdec kX3_fittestTeamAt 22 rfl) ?_
          obtain ⟨h11, hf⟩ := gd_s hf
          obtain ⟨h12, hf⟩ := gd_s hf
          refine g_icmp_ge C (tgt := 59) h11 h12 (by decide) (gdec kX3_fittestTeamAt 23 rfl) (fun c13 => ?_) (fun c13 => ?_)
          · replace hf := ifp c13 hf
            refine g_iload C hl 4 rfl (gdec kX3_fittestTeamAt 24 rfl) ?_
            refine g_istore_n C [(2, vI x4), (0, .ref (eA E 3 o)), (1, vI p1), (3, vI x3), (4, vI x4)] hl rfl (by decide) rfl (gdec kX3_fittestTeamAt 25 rfl) (fun ls hl => ?_)
            refine g_aload_n C hl 1 rfl rfl (gdec kX3_fittestTeamAt 26 rfl) ?_
            refine gf_X3_25 C h ho (gdec kX3_fittestTeamAt 27 rfl) ?_
            refine g_iload C hl 4 rfl (gdec kX3_fittestTeamAt 28 rfl) ?_
            refine g_ald16 C h (gok16 ho) h4 (gdec kX3_fittestTeamAt 29 rfl) ?_
            have k14 : gOk 6 (10 * o + x4) := gok6 (gok16 ho) h4
            refine gf_X3_130 C h k14 (gdec kX3_fittestTeamAt 30 rfl) ?_
            refine g_istore_n C [(3, vI (G 6 (10 * o + x4) 1)), (2, vI x4), (0, .ref (eA E 3 o)), (1, vI p1), (4, vI x4)] hl rfl (by decide) rfl (gdec kX3_fittestTeamAt 31 rfl) (fun ls hl => ?_)
            refine g_iinc C (k := 4) [(4, vI (x4 + 1)), (3, vI (G 6 (10 * o + x4) 1)), (2, vI x4), (0, .ref (eA E 3 o)), (1, vI p1)] hl rfl (by decide) rfl (gdec kX3_fittestTeamAt 32 rfl) (fun ls hl => ?_)
            refine g_goto C (tgt := 8) (by decide) (gdec kX3_fittestTeamAt 33 rfl) ?_
            exact ih _ _ _ k hK H locs h ls (lv_sub hl [3, 4, 2, 1, 0] rfl) hf
          · replace hf := ifn c13 hf
            refine g_iinc C (k := 4) [(4, vI (x4 + 1)), (0, .ref (eA E 3 o)), (1, vI p1), (2, vI x2), (3, vI x3)] hl rfl (by decide) rfl (gdec kX3_fittestTeamAt 32 rfl) (fun ls hl => ?_)
            refine g_goto C (tgt := 8) (by decide) (gdec kX3_fittestTeamAt 33 rfl) ?_
            exact ih _ _ _ k hK H locs h ls (lv_sub hl [1, 2, 3, 4, 0] rfl) hf
      · replace hf := ifn c3 hf
        exact hK _ _ _ hf H locs h ls (lv_sub hl [0, 1, 2, 3, 4] rfl)
  unfold f_X3_fittestTeamAt at hf
  refine g_iconst C (gdec kX3_fittestTeamAt 0 rfl) ?_
  refine g_istore_n C [(2, vI (-1)), (0, .ref (eA E 3 o)), (1, vI p1)] hl rfl (by decide) rfl (gdec kX3_fittestTeamAt 1 rfl) (fun ls hl => ?_)
  refine g_bipush C (gdec kX3_fittestTeamAt 2 rfl) rfl ?_
  refine g_istore_n C [(3, vI 101), (2, vI (-1)), (0, .ref (eA E 3 o)), (1, vI p1)] hl rfl (by decide) rfl (gdec kX3_fittestTeamAt 3 rfl) (fun ls hl => ?_)
  refine g_iconst C (gdec kX3_fittestTeamAt 4 rfl) ?_
  refine g_istore C [(4, vI 0), (3, vI 101), (2, vI (-1)), (0, .ref (eA E 3 o)), (1, vI p1)] hl (by decide) rfl (gdec kX3_fittestTeamAt 5 rfl) (fun ls hl => ?_)
  refine L8 gFuel _ _ _ _ (fun y2_15 y3_15 y4_15 hf H locs h ls hl => ?_) H locs h ls (lv_sub hl [3, 4, 2, 1, 0] rfl) hf
  refine g_iload_n C hl 2 rfl rfl (gdec kX3_fittestTeamAt 34 rfl) ?_
  exact g_iret C h (congrArg (Option.map (Prod.mk _)) hf) (gdec kX3_fittestTeamAt 35 rfl)
def f_X0_dropOldest_L9 : Nat → GS → Int → Int → (GS → Int → Int → Option (GS)) → Option (GS)
  | 0, _, _, _, _ => none
  | n + 1, G, x1, x2, k => gd x2 (if x2 < 4 then ga x2 4 (ga (G 12 0 x2) 6 (ga (x2 - 1) 4 (f_X0_dropOldest_L9 n (gup G 12 0 (x2 - 1) (G 12 0 x2)) x1 (x2 + 1) k))) else k G x1 x2)
def f_X0_dropOldest (G : GS) : Option (GS) :=
  ga (G 12 0 0) 6 (f_X0_dropOldest_L9 gFuel G (G 12 0 0) 1 (fun G10 y1_9 y2_9 => some (gup (gup G10 12 0 3 y1_9) 0 0 1 3)))
set_option maxHeartbeats 4000000 in
set_option maxRecDepth 100000 in
theorem c_X0_dropOldest (l : Launch) (E : gEnv) (G : GS) (Gz : GS) (hf : f_X0_dropOldest G = some Gz) : gMet l yX0_dropOldest cX0_dropOldest 3 none 0 0 0 0 [.ref (eA E 0 0)] E G (gQv E Gz) := by
  refine g_met (by decide +kernel) (Nat.le_of_ble_eq_true rfl) ?_
  intro p e s m below meth c C H locs h ls hl
  have C : gC p s m _ meth c RX0 cX0_dropOldest 3 none E := C
  have hl : lv_has ls 3 [(0, .ref (eA E 0 0))] := hl
  have L9 : ∀ (n : Nat) (G : GS) (x1 : Int) (hx1 : gOk 3 x1) (x2 : Int) (k : (GS → Int → Int → Option (GS))) (hK : ∀ (G : GS) (x1 : Int) (hx1 : gOk 3 x1) (x2 : Int), k G x1 x2 = some Gz → ∀ (H : Heap) (locs : List Loc), gH E s G H locs → ∀ ls, lv_has ls 3 [(0, .ref (eA E 0 0)), (1, .ref (eA E 3 x1)), (2, vI x2)] → W p l e (gRm 0 0 0 0) s m ([.ref (eA E 0 0)] : List Value).toArray below meth c H locs 0 0 (MQ below (gQv E Gz) ([.ref (eA E 0 0)] : List Value).toArray s 0 0 (eF E)) (F0 m 34 ls [])), ∀ (H : Heap) (locs : List Loc), gH E s G H locs → ∀ ls, lv_has ls 3 [(0, .ref (eA E 0 0)), (1, .ref (eA E 3 x1)), (2, vI x2)] → f_X0_dropOldest_L9 n G x1 x2 k = some Gz → W p l e (gRm 0 0 0 0) s m ([.ref (eA E 0 0)] : List Value).toArray below meth c H locs 0 0 (MQ below (gQv E Gz) ([.ref (eA E 0 0)] : List Value).toArray s 0 0 (eF E)) (F0 m 9 ls []) := by
    intro n
    induction n with
    | zero =>
      intro G x1 hx1 x2 k hK H locs h ls hl hf
      exact absurd hf (by simp [f_X0_dropOldest_L9])
    | succ n ih =>
      intro G x1 hx1 x2 k hK H locs h ls hl hf
      unfold f_X0_dropOldest_L9 at hf
      refine g_iload_n C hl 2 rfl rfl (gdec kX0_dropOldest 7 rfl) ?_
      refine g_iconst C (gdec kX0_dropOldest 8 rfl) ?_
      obtain ⟨h3, hf⟩ := gd_s hf
      refine g_icmp_ge C (tgt := 34) h3 (by decide) (by decide) (gdec kX0_dropOldest 9 rfl) (fun c4 => ?_) (fun c4 => ?_)
      · replace hf := ifp c4 hf
        refine g_aload_n C hl 0 rfl rfl (gdec kX0_dropOldest 10 rfl) ?_
        refine gf_X0_11 C h ok0_0 (gdec kX0_dropOldest 11 rfl) ?_
        refine g_iload_n C hl 2 rfl rfl (gdec kX0_dropOldest 12 rfl) ?_
        refine g_iconst C (gdec kX0_dropOldest 13 rfl) ?_
        refine g_isub C (gdec kX0_dropOldest 14 rfl) ?_
        refine g_aload_n C hl 0 rfl rfl (gdec kX0_dropOldest 15 rfl) ?_
        refine gf_X0_11 C h ok0_0 (gdec kX0_dropOldest 16 rfl) ?_
        refine g_iload_n C hl 2 rfl rfl (gdec kX0_dropOldest 17 rfl) ?_
        obtain ⟨h5, hf⟩ := ga_s hf
        refine g_ald12 C h ok12_0 h5 (gdec kX0_dropOldest 18 rfl) ?_
        obtain ⟨h6, hf⟩ := ga_s hf
        have k7 : gOk 3 (G 12 0 x2) := gok3 h6
        obtain ⟨h8, hf⟩ := ga_s hf
        refine g_ast12 C h ok12_0 k7 h8 (gdec kX0_dropOldest 19 rfl) (fun H locs h => ?_)
        refine g_iinc C (k := 2) [(2, vI (x2 + 1)), (0, .ref (eA E 0 0)), (1, .ref (eA E 3 x1))] hl rfl (by decide) rfl (gdec kX0_dropOldest 20 rfl) (fun ls hl => ?_)
        refine g_goto C (tgt := 9) (by decide) (gdec kX0_dropOldest 21 rfl) ?_
        exact ih _ _ hx1 _ k hK H locs h ls (lv_sub hl [1, 2, 0] rfl) hf
      · replace hf := ifn c4 hf
        exact hK _ _ hx1 _ hf H locs h ls (lv_sub hl [0, 1, 2] rfl)
  unfold f_X0_dropOldest at hf
  refine g_aload_n C hl 0 rfl rfl (gdec kX0_dropOldest 0 rfl) ?_
  refine gf_X0_11 C h ok0_0 (gdec kX0_dropOldest 1 rfl) ?_
  refine g_iconst C (gdec kX0_dropOldest 2 rfl) ?_
  refine g_ald12 C h ok12_0 (⟨by decide, by decide⟩ : (0 : Int) ≤ 0 ∧ (0 : Int) < 4) (gdec kX0_dropOldest 3 rfl) ?_
  obtain ⟨h1, hf⟩ := ga_s hf
  have k2 : gOk 3 (G 12 0 0) := gok3 h1
  refine g_astore_n C [(1, .ref (eA E 3 (G 12 0 0))), (0, .ref (eA E 0 0))] hl rfl (by decide) rfl (gdec kX0_dropOldest 4 rfl) (fun ls hl => ?_)
  refine g_iconst C (gdec kX0_dropOldest 5 rfl) ?_
  refine g_istore_n C [(2, vI 1), (1, .ref (eA E 3 (G 12 0 0))), (0, .ref (eA E 0 0))] hl rfl (by decide) rfl (gdec kX0_dropOldest 6 rfl) (fun ls hl => ?_)
  refine L9 gFuel _ _ k2 _ _ (fun G10 y1_9 hy1_9 y2_9 hf H locs h ls hl => ?_) H locs h ls (lv_sub hl [2, 1, 0] rfl) hf
  refine g_aload_n C hl 0 rfl rfl (gdec kX0_dropOldest 22 rfl) ?_
  refine gf_X0_11 C h ok0_0 (gdec kX0_dropOldest 23 rfl) ?_
  refine g_iconst C (gdec kX0_dropOldest 24 rfl) ?_
  refine g_aload_n C hl 1 rfl rfl (gdec kX0_dropOldest 25 rfl) ?_
  refine g_ast12 C h ok12_0 hy1_9 (⟨by decide, by decide⟩ : (0 : Int) ≤ 3 ∧ (3 : Int) < 4) (gdec kX0_dropOldest 26 rfl) (fun H locs h => ?_)
  refine g_aload_n C hl 0 rfl rfl (gdec kX0_dropOldest 27 rfl) ?_
  refine g_iconst C (gdec kX0_dropOldest 28 rfl) ?_
  refine gp_X0_18 C h ok0_0 (gdec kX0_dropOldest 29 rfl) (fun H locs h => ?_)
  exact g_vret C h hf (gdec kX0_dropOldest 30 rfl)
def f_X5_effort (G : GS) (o : Int) (p1 : Int) : Option (Int) :=
  gd p1 (if p1 = 0 then gd ((5 * (G 5 o 0)) + ((-4) * (G 5 o 1))) (some (if 5 < (5 * (G 5 o 0)) + ((-4) * (G 5 o 1)) then (5 * (G 5 o 0)) + ((-4) * (G 5 o 1)) else 5)) else gd ((5 * (G 5 o 0)) + (4 * (G 5 o 1))) (some (if 5 < (5 * (G 5 o 0)) + (4 * (G 5 o 1)) then (5 * (G 5 o 0)) + (4 * (G 5 o 1)) else 5)))
set_option maxHeartbeats 4000000 in
set_option maxRecDepth 100000 in
theorem c_X5_effort (l : Launch) (E : gEnv) (G : GS) (o : Int) (p1 : Int) (ho : gOk 5 o) (rz : Int) (hf : f_X5_effort G o p1 = some rz) : gMet l yX5_effort cX5_effort 3 (some .int) 1 21 0 0 [.ref (eA E 5 o), vI p1] E G (gQi E G rz) := by
  refine g_met (by decide +kernel) (Nat.le_of_ble_eq_true rfl) ?_
  intro p e s m below meth c C H locs h ls hl
  have C : gC p s m _ meth c RX5 cX5_effort 3 (some .int) E := C
  have hl : lv_has ls 3 [(0, .ref (eA E 5 o)), (1, vI p1)] := hl
  unfold f_X5_effort at hf
  refine g_iload_n C hl 1 rfl rfl (gdec kX5_effort 0 rfl) ?_
  obtain ⟨h1, hf⟩ := gd_s hf
  refine g_if_eq C (tgt := 13) h1 (by decide) (gdec kX5_effort 1 rfl) (fun c2 => ?_) (fun c2 => ?_)
  · replace hf := ifp c2 hf
    refine g_bipush C (gdec kX5_effort 7 rfl) rfl ?_
    refine g_aload_n C hl 0 rfl rfl (gdec kX5_effort 8 rfl) ?_
    refine gf_X5_13 C h ho (gdec kX5_effort 9 rfl) ?_
    refine g_imul C (gdec kX5_effort 10 rfl) ?_
    refine g_istore_n C [(2, vI ((-4) * (G 5 o 1))), (0, .ref (eA E 5 o)), (1, vI p1)] hl rfl (by decide) rfl (gdec kX5_effort 11 rfl) (fun ls hl => ?_)
    refine g_iconst C (gdec kX5_effort 12 rfl) ?_
    refine g_iconst C (gdec kX5_effort 13 rfl) ?_
    refine g_aload_n C hl 1 rfl rfl (gdec kX5_effort 14 rfl) ?_
    refine gf_X5_7 C h ho (gdec kX5_effort 15 rfl) ?_
    refine g_imul C (gdec kX5_effort 16 rfl) ?_
    refine g_iload_n C hl 0 rfl rfl (gdec kX5_effort 17 rfl) ?_
    refine g_iadd C (gdec kX5_effort 18 rfl) ?_
    obtain ⟨h3, hf⟩ := gd_s hf
    refine g_max C (by decide) h3 wM_X5_24 wT_Math_max wN_java_lang_Math wC_Math_max hl.1 (by decide) (Nat.le_of_ble_eq_true rfl) (Nat.zero_le _) (Nat.zero_le _) (gdec kX5_effort 19 rfl) ?_
    exact g_iret C h (congrArg (Option.map (Prod.mk _)) hf) (gdec kX5_effort 20 rfl)
  · replace hf := ifn c2 hf
    refine g_iconst C (gdec kX5_effort 2 rfl) ?_
    refine g_aload_n C hl 0 rfl rfl (gdec kX5_effort 3 rfl) ?_
    refine gf_X5_13 C h ho (gdec kX5_effort 4 rfl) ?_
    refine g_imul C (gdec kX5_effort 5 rfl) ?_
    refine g_goto C (tgt := 20) (by decide) (gdec kX5_effort 6 rfl) ?_
    refine g_istore_n C [(2, vI (4 * (G 5 o 1))), (0, .ref (eA E 5 o)), (1, vI p1)] hl rfl (by decide) rfl (gdec kX5_effort 11 rfl) (fun ls hl => ?_)
    refine g_iconst C (gdec kX5_effort 12 rfl) ?_
    refine g_iconst C (gdec kX5_effort 13 rfl) ?_
    refine g_aload_n C hl 1 rfl rfl (gdec kX5_effort 14 rfl) ?_
    refine gf_X5_7 C h ho (gdec kX5_effort 15 rfl) ?_
    refine g_imul C (gdec kX5_effort 16 rfl) ?_
    refine g_iload_n C hl 0 rfl rfl (gdec kX5_effort 17 rfl) ?_
    refine g_iadd C (gdec kX5_effort 18 rfl) ?_
    obtain ⟨h4, hf⟩ := gd_s hf
    refine g_max C (by decide) h4 wM_X5_24 wT_Math_max wN_java_lang_Math wC_Math_max hl.1 (by decide) (Nat.le_of_ble_eq_true rfl) (Nat.zero_le _) (Nat.zero_le _) (gdec kX5_effort 19 rfl) ?_
    exact g_iret C h (congrArg (Option.map (Prod.mk _)) hf) (gdec kX5_effort 20 rfl)

def f_X5_set (G : GS) (o : Int) (p1 : Int) (p2 : Int) (p3 : Int) : Option (GS) :=
  gb p3 (some (gup (gup (gup G 5 o 0 p1) 5 o 1 p2) 5 o 2 p3))
set_option maxHeartbeats 4000000 in
set_option maxRecDepth 100000 in
theorem c_X5_set (l : Launch) (E : gEnv) (G : GS) (o : Int) (p1 : Int) (p2 : Int) (p3 : Int) (ho : gOk E 5 o) (Gz : GS) (hf : f_X5_set G o p1 p2 p3 = some Gz) : gMet l yX5_set cX5_set 4 none 0 0 0 0 [.ref (eA E 5 o), vI p1, vI p2, vI p3] E G (gQv E Gz) := by
  refine g_met (by decide +kernel) (Nat.le_of_ble_eq_true rfl) ?_
  intro p e s m below meth c C H locs h ls hl
  have C : gC p s m _ meth c RX5 cX5_set 4 none E := C
  have hl : lv_has ls 4 [(0, .ref (eA E 5 o)), (1, vI p1), (2, vI p2), (3, vI p3)] := hl
  unfold f_X5_set at hf
  refine g_aload_n C hl 0 rfl rfl (gdec kX5_set 0 rfl) ?_
  refine g_iload_n C hl 1 rfl rfl (gdec kX5_set 1 rfl) ?_
  refine gp_X5_7 C h ho (gdec kX5_set 2 rfl) (fun H locs h => ?_)
  refine g_aload_n C hl 0 rfl rfl (gdec kX5_set 3 rfl) ?_
  refine g_iload_n C hl 2 rfl rfl (gdec kX5_set 4 rfl) ?_
  refine gp_X5_13 C h ho (gdec kX5_set 5 rfl) (fun H locs h => ?_)
  refine g_aload_n C hl 0 rfl rfl (gdec kX5_set 6 rfl) ?_
  refine g_iload_n C hl 3 rfl rfl (gdec kX5_set 7 rfl) ?_
  obtain ⟨h1, hf⟩ := gb_s hf
  refine gp_X5_16 C h ho h1 (gdec kX5_set 8 rfl) (fun H locs h => ?_)
  exact g_vret C h hf (gdec kX5_set 9 rfl)
def f_X1_set (G : GS) (o : Int) (p1 : Int) (p2 : Int) (p3 : Int) : Option (GS) :=
  gb p3 (some (gup (gup (gup G 1 o 0 p1) 1 o 1 p2) 1 o 2 p3))
set_option maxHeartbeats 4000000 in
set_option maxRecDepth 100000 in
theorem c_X1_set (l : Launch) (E : gEnv) (G : GS) (o : Int) (p1 : Int) (p2 : Int) (p3 : Int) (ho : gOk E 1 o) (Gz : GS) (hf : f_X1_set G o p1 p2 p3 = some Gz) : gMet l yX1_set cX1_set 4 none 0 0 0 0 [.ref (eA E 1 o), vI p1, vI p2, vI p3] E G (gQv E Gz) := by
  refine g_met (by decide +kernel) (Nat.le_of_ble_eq_true rfl) ?_
  intro p e s m below meth c C H locs h ls hl
  have C : gC p s m _ meth c RX1 cX1_set 4 none E := C
  have hl : lv_has ls 4 [(0, .ref (eA E 1 o)), (1, vI p1), (2, vI p2), (3, vI p3)] := hl
  unfold f_X1_set at hf
  refine g_aload_n C hl 0 rfl rfl (gdec kX1_set 0 rfl) ?_
  refine g_iload_n C hl 1 rfl rfl (gdec kX1_set 1 rfl) ?_
  refine gp_X1_7 C h ho (gdec kX1_set 2 rfl) (fun H locs h => ?_)
  refine g_aload_n C hl 0 rfl rfl (gdec kX1_set 3 rfl) ?_
  refine g_iload_n C hl 2 rfl rfl (gdec kX1_set 4 rfl) ?_
  refine gp_X1_13 C h ho (gdec kX1_set 5 rfl) (fun H locs h => ?_)
  refine g_aload_n C hl 0 rfl rfl (gdec kX1_set 6 rfl) ?_
  refine g_iload_n C hl 3 rfl rfl (gdec kX1_set 7 rfl) ?_
  obtain ⟨h1, hf⟩ := gb_s hf
  refine gp_X1_16 C h ho h1 (gdec kX1_set 8 rfl) (fun H locs h => ?_)
  exact g_vret C h hf (gdec kX1_set 9 rfl)
def f_X3_restart_L2 (o : Int) : Nat → GS → Int → (GS → Int → Option (GS)) → Option (GS)
  | 0, _, _, _ => none
  | n + 1, G, x1, k => gd x1 (if x1 < 7 then ga x1 7 (bn1 (f_X5_set G (7 * o + x1) 2 0 0) (fun G5 => f_X3_restart_L2 o n G5 (x1 + 1) k)) else k G x1)
def f_X3_restart_L28 (o : Int) : Nat → GS → Int → (GS → Int → Option (GS)) → Option (GS)
  | 0, _, _, _ => none
  | n + 1, G, x1, k => gd x1 (if x1 < 8 then ga x1 8 (bn1 (f_X1_set G (8 * o + x1) 2 100 0) (fun G13 => f_X3_restart_L28 o n G13 (x1 + 1) k)) else k G x1)
def f_X3_restart (G : GS) (o : Int) : Option (GS) :=
  f_X3_restart_L2 o gFuel G 0 (fun G8 y1_7 => f_X3_restart_L28 o gFuel G8 0 (fun G16 y1_15 => some (gup (gup (gup (gup (gup (gup (gup (gup (gup G16 3 o 4 2) 3 o 5 0) 3 o 6 0) 3 o 7 0) 3 o 8 0) 3 o 9 0) 3 o 10 0) 3 o 11 0) 3 o 12 0)))
set_option maxHeartbeats 4000000 in
set_option maxRecDepth 100000 in
theorem c_X3_restart (l : Launch) (E : gEnv) (G : GS) (o : Int) (ho : gOk E 3 o) (Gz : GS) (hf : f_X3_restart G o = some Gz) : gMet l yX3_restart cX3_restart 2 none 1 23 0 0 [.ref (eA E 3 o)] E G (gQv E Gz) := by
  refine g_met (by decide +kernel) (Nat.le_of_ble_eq_true rfl) ?_
  intro p e s m below meth c C H locs h ls hl
  have C : gC p s m _ meth c RX3 cX3_restart 2 none E := C
  have hl : lv_has ls 2 [(0, .ref (eA E 3 o))] := hl
  have L2 : ∀ (n : Nat) (G : GS) (x1 : Int) (k : (GS → Int → Option (GS))) (hK : ∀ (G : GS) (x1 : Int), k G x1 = some Gz → ∀ (H : Heap) (locs : List Loc), gH E s G H locs → ∀ ls, lv_has ls 2 [(0, .ref (eA E 3 o)), (1, vI x1)] → W p l e (gRm 1 23 0 0) s m ([.ref (eA E 3 o)] : List Value).toArray below meth c H locs 0 0 (MQ below (gQv E Gz) ([.ref (eA E 3 o)] : List Value).toArray s 0 0 (eF E)) (F0 m 26 ls [])), ∀ (H : Heap) (locs : List Loc), gH E s G H locs → ∀ ls, lv_has ls 2 [(0, .ref (eA E 3 o)), (1, vI x1)] → f_X3_restart_L2 o n G x1 k = some Gz → W p l e (gRm 1 23 0 0) s m ([.ref (eA E 3 o)] : List Value).toArray below meth c H locs 0 0 (MQ below (gQv E Gz) ([.ref (eA E 3 o)] : List Value).toArray s 0 0 (eF E)) (F0 m 2 ls []) := by
    intro n
    induction n with
    | zero =>
      intro G x1 k hK H locs h ls hl hf
      exact absurd hf (by simp [f_X3_restart_L2])
    | succ n ih =>
      intro G x1 k hK H locs h ls hl hf
      unfold f_X3_restart_L2 at hf
      refine g_iload_n C hl 1 rfl rfl (gdec kX3_restart 2 rfl) ?_
      refine g_bipush C (gdec kX3_restart 3 rfl) rfl ?_
      obtain ⟨h1, hf⟩ := gd_s hf
      refine g_icmp_ge C (tgt := 26) h1 (by decide) (by decide) (gdec kX3_restart 4 rfl) (fun c2 => ?_) (fun c2 => ?_)
      · replace hf := ifp c2 hf
        refine g_aload_n C hl 0 rfl rfl (gdec kX3_restart 5 rfl) ?_
        refine gf_X3_11 C h ho (gdec kX3_restart 6 rfl) ?_
        refine g_iload_n C hl 1 rfl rfl (gdec kX3_restart 7 rfl) ?_
        obtain ⟨h3, hf⟩ := ga_s hf
        refine g_ald14 C h (gcl_3_0 C ho) h3 (gdec kX3_restart 8 rfl) ?_
        have k4 : gOk E 5 (7 * o + x1) := gok5 C (gcl_3_0 C ho) h3
        refine g_iconst C (gdec kX3_restart 9 rfl) ?_
        refine g_iconst C (gdec kX3_restart 10 rfl) ?_
        refine g_iconst C (gdec kX3_restart 11 rfl) ?_
        obtain ⟨G5, q6, hf⟩ := bn1_s hf
        refine g_cv h (g_runV C h k4 (by decide) rfl (c_X5_set l E _ _ _ _ _ k4 _ q6) wM_X3_42 wI_X5_set wS_X5_set wN_X5 wC_X5_set rfl ny_X5_set rfl ⟨Nat.le_of_ble_eq_true rfl, Nat.le_of_ble_eq_true rfl⟩ hl.1 rfl (Nat.le_of_ble_eq_true rfl) (gdec kX3_restart 12 rfl) ⟨Nat.zero_le _, Nat.zero_le _⟩) (fun H locs h => ?_)
        refine g_iinc C (k := 1) [(1, vI (x1 + 1)), (0, .ref (eA E 3 o))] hl rfl (by decide) rfl (gdec kX3_restart 13 rfl) (fun ls hl => ?_)
        refine g_goto C (tgt := 2) (by decide) (gdec kX3_restart 14 rfl) ?_
        exact ih _ _ k hK H locs h ls (lv_sub hl [1, 0] rfl) hf
      · replace hf := ifn c2 hf
        exact hK _ _ hf H locs h ls (lv_sub hl [0, 1] rfl)
  have L28 : ∀ (n : Nat) (G : GS) (x1 : Int) (k : (GS → Int → Option (GS))) (hK : ∀ (G : GS) (x1 : Int), k G x1 = some Gz → ∀ (H : Heap) (locs : List Loc), gH E s G H locs → ∀ ls, lv_has ls 2 [(0, .ref (eA E 3 o)), (1, vI x1)] → W p l e (gRm 1 23 0 0) s m ([.ref (eA E 3 o)] : List Value).toArray below meth c H locs 0 0 (MQ below (gQv E Gz) ([.ref (eA E 3 o)] : List Value).toArray s 0 0 (eF E)) (F0 m 53 ls [])), ∀ (H : Heap) (locs : List Loc), gH E s G H locs → ∀ ls, lv_has ls 2 [(0, .ref (eA E 3 o)), (1, vI x1)] → f_X3_restart_L28 o n G x1 k = some Gz → W p l e (gRm 1 23 0 0) s m ([.ref (eA E 3 o)] : List Value).toArray below meth c H locs 0 0 (MQ below (gQv E Gz) ([.ref (eA E 3 o)] : List Value).toArray s 0 0 (eF E)) (F0 m 28 ls []) := by
    intro n
    induction n with
    | zero =>
      intro G x1 k hK H locs h ls hl hf
      exact absurd hf (by simp [f_X3_restart_L28])
    | succ n ih =>
      intro G x1 k hK H locs h ls hl hf
      unfold f_X3_restart_L28 at hf
      refine g_iload_n C hl 1 rfl rfl (gdec kX3_restart 17 rfl) ?_
      refine g_bipush C (gdec kX3_restart 18 rfl) rfl ?_
      obtain ⟨h9, hf⟩ := gd_s hf
      refine g_icmp_ge C (tgt := 53) h9 (by decide) (by decide) (gdec kX3_restart 19 rfl) (fun c10 => ?_) (fun c10 => ?_)
      · replace hf := ifp c10 hf
        refine g_aload_n C hl 0 rfl rfl (gdec kX3_restart 20 rfl) ?_
        refine gf_X3_19 C h ho (gdec kX3_restart 21 rfl) ?_
        refine g_iload_n C hl 1 rfl rfl (gdec kX3_restart 22 rfl) ?_
        obtain ⟨h11, hf⟩ := ga_s hf
        refine g_ald15 C h (gcl_3_1 C ho) h11 (gdec kX3_restart 23 rfl) ?_
        have k12 : gOk E 1 (8 * o + x1) := gok1 C (gcl_3_1 C ho) h11
        refine g_iconst C (gdec kX3_restart 24 rfl) ?_
        refine g_bipush C (gdec kX3_restart 25 rfl) rfl ?_
        refine g_iconst C (gdec kX3_restart 26 rfl) ?_
        obtain ⟨G13, q14, hf⟩ := bn1_s hf
        refine g_cv h (g_runV C h k12 (by decide) rfl (c_X1_set l E _ _ _ _ _ k12 _ q14) wM_X3_46 wI_X1_set wS_X1_set wN_X1 wC_X1_set rfl ny_X1_set rfl ⟨Nat.le_of_ble_eq_true rfl, Nat.le_of_ble_eq_true rfl⟩ hl.1 rfl (Nat.le_of_ble_eq_true rfl) (gdec kX3_restart 27 rfl) ⟨Nat.zero_le _, Nat.zero_le _⟩) (fun H locs h => ?_)
        refine g_iinc C (k := 1) [(1, vI (x1 + 1)), (0, .ref (eA E 3 o))] hl rfl (by decide) rfl (gdec kX3_restart 28 rfl) (fun ls hl => ?_)
        refine g_goto C (tgt := 28) (by decide) (gdec kX3_restart 29 rfl) ?_
        exact ih _ _ k hK H locs h ls (lv_sub hl [1, 0] rfl) hf
      · replace hf := ifn c10 hf
        exact hK _ _ hf H locs h ls (lv_sub hl [0, 1] rfl)
  unfold f_X3_restart at hf
  refine g_iconst C (gdec kX3_restart 0 rfl) ?_
  refine g_istore_n C [(1, vI 0), (0, .ref (eA E 3 o))] hl rfl (by decide) rfl (gdec kX3_restart 1 rfl) (fun ls hl => ?_)
  refine L2 gFuel _ _ _ (fun G8 y1_7 hf H locs h ls hl => ?_) H locs h ls (lv_sub hl [1, 0] rfl) hf
  refine g_iconst C (gdec kX3_restart 15 rfl) ?_
  refine g_istore_n C [(1, vI 0), (0, .ref (eA E 3 o))] hl rfl (by decide) rfl (gdec kX3_restart 16 rfl) (fun ls hl => ?_)
  refine L28 gFuel _ _ _ (fun G16 y1_15 hf H locs h ls hl => ?_) H locs h ls (lv_sub hl [1, 0] rfl) hf
  refine g_aload_n C hl 0 rfl rfl (gdec kX3_restart 30 rfl) ?_
  refine g_iconst C (gdec kX3_restart 31 rfl) ?_
  refine gp_X3_47 C h ho (gdec kX3_restart 32 rfl) (fun H locs h => ?_)
  refine g_aload_n C hl 0 rfl rfl (gdec kX3_restart 33 rfl) ?_
  refine g_iconst C (gdec kX3_restart 34 rfl) ?_
  refine gp_X3_51 C h ho (gdec kX3_restart 35 rfl) (fun H locs h => ?_)
  refine g_aload_n C hl 0 rfl rfl (gdec kX3_restart 36 rfl) ?_
  refine g_iconst C (gdec kX3_restart 37 rfl) ?_
  refine gp_X3_54 C h ho (gdec kX3_restart 38 rfl) (fun H locs h => ?_)
  refine g_aload_n C hl 0 rfl rfl (gdec kX3_restart 39 rfl) ?_
  refine g_iconst C (gdec kX3_restart 40 rfl) ?_
  refine gp_X3_57 C h ho (gdec kX3_restart 41 rfl) (fun H locs h => ?_)
  refine g_aload_n C hl 0 rfl rfl (gdec kX3_restart 42 rfl) ?_
  refine g_iconst C (gdec kX3_restart 43 rfl) ?_
  refine gp_X3_60 C h ho (gdec kX3_restart 44 rfl) (fun H locs h => ?_)
  refine g_aload_n C hl 0 rfl rfl (gdec kX3_restart 45 rfl) ?_
  refine g_iconst C (gdec kX3_restart 46 rfl) ?_
  refine gp_X3_63 C h ho (gdec kX3_restart 47 rfl) (fun H locs h => ?_)
  refine g_aload_n C hl 0 rfl rfl (gdec kX3_restart 48 rfl) ?_
  refine g_iconst C (gdec kX3_restart 49 rfl) ?_
  refine gp_X3_66 C h ho (gdec kX3_restart 50 rfl) (fun H locs h => ?_)
  refine g_aload_n C hl 0 rfl rfl (gdec kX3_restart 51 rfl) ?_
  refine g_iconst C (gdec kX3_restart 52 rfl) ?_
  refine gp_X3_69 C h ho (gdec kX3_restart 53 rfl) (fun H locs h => ?_)
  refine g_aload_n C hl 0 rfl rfl (gdec kX3_restart 54 rfl) ?_
  refine g_iconst C (gdec kX3_restart 55 rfl) ?_
  refine gp_X3_72 C h ho (gdec kX3_restart 56 rfl) (fun H locs h => ?_)
  exact g_vret C h hf (gdec kX3_restart 57 rfl)
def f_X7_checkRange (G : GS) (p1 : Int) (p2 : Int) (p3 : Int) : Option (Int) :=
  gd p1 (gd p2 (if p1 < p2 then some 2 else gd p3 (if p3 < p1 then some 2 else some 0)))
set_option maxHeartbeats 4000000 in
set_option maxRecDepth 100000 in
theorem c_X7_checkRange (l : Launch) (E : gEnv) (G : GS) (p1 : Int) (p2 : Int) (p3 : Int)  (hf : f_X7_checkRange G p1 p2 p3 = some 0) : gMet l yX7_checkRange cX7_checkRange 3 none 0 0 0 0 [vI p1, vI p2, vI p3] E G (gQv E G) := by
  refine g_met (by decide +kernel) (Nat.le_of_ble_eq_true rfl) ?_
  intro p e s m below meth c C H locs h ls hl
  have C : gC p s m _ meth c RX7 cX7_checkRange 3 none E := C
  have hl : lv_has ls 3 [(0, vI p1), (1, vI p2), (2, vI p3)] := hl
  unfold f_X7_checkRange at hf
  refine g_iload_n C hl 0 rfl rfl (gdec kX7_checkRange 0 rfl) ?_
  refine g_iload_n C hl 1 rfl rfl (gdec kX7_checkRange 1 rfl) ?_
  obtain ⟨h1, hf⟩ := gd_s hf
  obtain ⟨h2, hf⟩ := gd_s hf
  refine g_icmp_lt C (tgt := 10) h1 h2 (by decide) (gdec kX7_checkRange 2 rfl) (fun c3 => ?_) (fun c3 => ?_)
  · replace hf := ifp c3 hf
    exact absurd hf (gx_n1 (by decide))
  · replace hf := ifn c3 hf
    refine g_iload_n C hl 0 rfl rfl (gdec kX7_checkRange 3 rfl) ?_
    refine g_iload_n C hl 2 rfl rfl (gdec kX7_checkRange 4 rfl) ?_
    obtain ⟨h4, hf⟩ := gd_s hf
    refine g_icmp_le C (tgt := 20) h1 h4 (by decide) (gdec kX7_checkRange 5 rfl) (fun c5 => ?_) (fun c5 => ?_)
    · replace hf := ifp c5 hf
      exact absurd hf (gx_n1 (by decide))
    · replace hf := ifn c5 hf
      exact g_vret C h rfl (gdec kX7_checkRange 11 rfl)
def f_X0_dropOldest_L9 : Nat → GS → Int → Int → (GS → Int → Int → Option (GS)) → Option (GS)
  | 0, _, _, _, _ => none
  | n + 1, G, x1, x2, k => gd x2 (if x2 < 4 then ga x2 4 (ga (G 12 0 x2) 6 (ga (x2 - 1) 4 (f_X0_dropOldest_L9 n (gup G 12 0 (x2 - 1) (G 12 0 x2)) x1 (x2 + 1) k))) else k G x1 x2)
def f_X0_dropOldest (G : GS) : Option (GS) :=
  ga (G 12 0 0) 6 (f_X0_dropOldest_L9 gFuel G (G 12 0 0) 1 (fun G10 y1_9 y2_9 => some (gup (gup G10 12 0 3 y1_9) 0 0 1 3)))
set_option maxHeartbeats 4000000 in
set_option maxRecDepth 100000 in
theorem c_X0_dropOldest (l : Launch) (E : gEnv) (G : GS) (ho : gOk E 0 0) (Gz : GS) (hf : f_X0_dropOldest G = some Gz) : gMet l yX0_dropOldest cX0_dropOldest 3 none 0 0 0 0 [.ref (eA E 0 0)] E G (gQv E Gz) := by
  refine g_met (by decide +kernel) (Nat.le_of_ble_eq_true rfl) ?_
  intro p e s m below meth c C H locs h ls hl
  have C : gC p s m _ meth c RX0 cX0_dropOldest 3 none E := C
  have hl : lv_has ls 3 [(0, .ref (eA E 0 0))] := hl
  have L9 : ∀ (n : Nat) (G : GS) (x1 : Int) (hx1 : gOk E 3 x1) (x2 : Int) (k : (GS → Int → Int → Option (GS))) (hK : ∀ (G : GS) (x1 : Int) (hx1 : gOk E 3 x1) (x2 : Int), k G x1 x2 = some Gz → ∀ (H : Heap) (locs : List Loc), gH E s G H locs → ∀ ls, lv_has ls 3 [(0, .ref (eA E 0 0)), (1, .ref (eA E 3 x1)), (2, vI x2)] → W p l e (gRm 0 0 0 0) s m ([.ref (eA E 0 0)] : List Value).toArray below meth c H locs 0 0 (MQ below (gQv E Gz) ([.ref (eA E 0 0)] : List Value).toArray s 0 0 (eF E)) (F0 m 34 ls [])), ∀ (H : Heap) (locs : List Loc), gH E s G H locs → ∀ ls, lv_has ls 3 [(0, .ref (eA E 0 0)), (1, .ref (eA E 3 x1)), (2, vI x2)] → f_X0_dropOldest_L9 n G x1 x2 k = some Gz → W p l e (gRm 0 0 0 0) s m ([.ref (eA E 0 0)] : List Value).toArray below meth c H locs 0 0 (MQ below (gQv E Gz) ([.ref (eA E 0 0)] : List Value).toArray s 0 0 (eF E)) (F0 m 9 ls []) := by
    intro n
    induction n with
    | zero =>
      intro G x1 hx1 x2 k hK H locs h ls hl hf
      exact absurd hf (by simp [f_X0_dropOldest_L9])
    | succ n ih =>
      intro G x1 hx1 x2 k hK H locs h ls hl hf
      unfold f_X0_dropOldest_L9 at hf
      refine g_iload_n C hl 2 rfl rfl (gdec kX0_dropOldest 7 rfl) ?_
      refine g_iconst C (gdec kX0_dropOldest 8 rfl) ?_
      obtain ⟨h3, hf⟩ := gd_s hf
      refine g_icmp_ge C (tgt := 34) h3 (by decide) (by decide) (gdec kX0_dropOldest 9 rfl) (fun c4 => ?_) (fun c4 => ?_)
      · replace hf := ifp c4 hf
        refine g_aload_n C hl 0 rfl rfl (gdec kX0_dropOldest 10 rfl) ?_
        refine gf_X0_11 C h ho (gdec kX0_dropOldest 11 rfl) ?_
        refine g_iload_n C hl 2 rfl rfl (gdec kX0_dropOldest 12 rfl) ?_
        refine g_iconst C (gdec kX0_dropOldest 13 rfl) ?_
        refine g_isub C (gdec kX0_dropOldest 14 rfl) ?_
        refine g_aload_n C hl 0 rfl rfl (gdec kX0_dropOldest 15 rfl) ?_
        refine gf_X0_11 C h ho (gdec kX0_dropOldest 16 rfl) ?_
        refine g_iload_n C hl 2 rfl rfl (gdec kX0_dropOldest 17 rfl) ?_
        obtain ⟨h5, hf⟩ := ga_s hf
        refine g_ald12 C h (gcl_0_0 C ho) h5 (gdec kX0_dropOldest 18 rfl) ?_
        obtain ⟨h6, hf⟩ := ga_s hf
        have k7 : gOk E 3 (G 12 0 x2) := gok3 C (gcl_0_0 C ho) h6
        obtain ⟨h8, hf⟩ := ga_s hf
        refine g_ast12 C h (gcl_0_0 C ho) k7 h8 (gdec kX0_dropOldest 19 rfl) (fun H locs h => ?_)
        refine g_iinc C (k := 2) [(2, vI (x2 + 1)), (0, .ref (eA E 0 0)), (1, .ref (eA E 3 x1))] hl rfl (by decide) rfl (gdec kX0_dropOldest 20 rfl) (fun ls hl => ?_)
        refine g_goto C (tgt := 9) (by decide) (gdec kX0_dropOldest 21 rfl) ?_
        exact ih _ _ hx1 _ k hK H locs h ls (lv_sub hl [1, 2, 0] rfl) hf
      · replace hf := ifn c4 hf
        exact hK _ _ hx1 _ hf H locs h ls (lv_sub hl [0, 1, 2] rfl)
  unfold f_X0_dropOldest at hf
  refine g_aload_n C hl 0 rfl rfl (gdec kX0_dropOldest 0 rfl) ?_
  refine gf_X0_11 C h ho (gdec kX0_dropOldest 1 rfl) ?_
  refine g_iconst C (gdec kX0_dropOldest 2 rfl) ?_
  refine g_ald12 C h (gcl_0_0 C ho) (⟨by decide, by decide⟩ : (0 : Int) ≤ 0 ∧ (0 : Int) < 4) (gdec kX0_dropOldest 3 rfl) ?_
  obtain ⟨h1, hf⟩ := ga_s hf
  have k2 : gOk E 3 (G 12 0 0) := gok3 C (gcl_0_0 C ho) h1
  refine g_astore_n C [(1, .ref (eA E 3 (G 12 0 0))), (0, .ref (eA E 0 0))] hl rfl (by decide) rfl (gdec kX0_dropOldest 4 rfl) (fun ls hl => ?_)
  refine g_iconst C (gdec kX0_dropOldest 5 rfl) ?_
  refine g_istore_n C [(2, vI 1), (1, .ref (eA E 3 (G 12 0 0))), (0, .ref (eA E 0 0))] hl rfl (by decide) rfl (gdec kX0_dropOldest 6 rfl) (fun ls hl => ?_)
  refine L9 gFuel _ _ k2 _ _ (fun G10 y1_9 hy1_9 y2_9 hf H locs h ls hl => ?_) H locs h ls (lv_sub hl [2, 1, 0] rfl) hf
  refine g_aload_n C hl 0 rfl rfl (gdec kX0_dropOldest 22 rfl) ?_
  refine gf_X0_11 C h ho (gdec kX0_dropOldest 23 rfl) ?_
  refine g_iconst C (gdec kX0_dropOldest 24 rfl) ?_
  refine g_aload_n C hl 1 rfl rfl (gdec kX0_dropOldest 25 rfl) ?_
  refine g_ast12 C h (gcl_0_0 C ho) hy1_9 (⟨by decide, by decide⟩ : (0 : Int) ≤ 3 ∧ (3 : Int) < 4) (gdec kX0_dropOldest 26 rfl) (fun H locs h => ?_)
  refine g_aload_n C hl 0 rfl rfl (gdec kX0_dropOldest 27 rfl) ?_
  refine g_iconst C (gdec kX0_dropOldest 28 rfl) ?_
  refine gp_X0_18 C h ho (gdec kX0_dropOldest 29 rfl) (fun H locs h => ?_)
  exact g_vret C h hf (gdec kX0_dropOldest 30 rfl)
def f_X0_state (G : GS) (p1 : Int) : Option (Int) :=
  gd p1 (if p1 < 0 then ga (G 12 0 0) 6 (some (G 12 0 0)) else if p1 < 4 then ga p1 4 (ga (G 12 0 p1) 6 (some (G 12 0 p1))) else ga (G 12 0 0) 6 (some (G 12 0 0)))
set_option maxHeartbeats 4000000 in
set_option maxRecDepth 100000 in
theorem c_X0_state (l : Launch) (E : gEnv) (G : GS) (p1 : Int) (ho : gOk E 0 0) (rz : Int) (hf : f_X0_state G p1 = some rz) : gMet l yX0_state cX0_state 2 (some (.object RX3)) 0 0 0 0 [.ref (eA E 0 0), vI p1] E G (gQr E G 3 rz) := by
  refine g_met (by decide +kernel) (Nat.le_of_ble_eq_true rfl) ?_
  intro p e s m below meth c C H locs h ls hl
  have C : gC p s m _ meth c RX0 cX0_state 2 (some (.object RX3)) E := C
  have hl : lv_has ls 2 [(0, .ref (eA E 0 0)), (1, vI p1)] := hl
  unfold f_X0_state at hf
  refine g_aload_n C hl 0 rfl rfl (gdec kX0_state 0 rfl) ?_
  refine gf_X0_11 C h ho (gdec kX0_state 1 rfl) ?_
  refine g_iload_n C hl 1 rfl rfl (gdec kX0_state 2 rfl) ?_
  obtain ⟨h1, hf⟩ := gd_s hf
  refine g_if_lt C (tgt := 17) h1 (by decide) (gdec kX0_state 3 rfl) (fun c2 => ?_) (fun c2 => ?_)
  · replace hf := ifp c2 hf
    refine g_iconst C (gdec kX0_state 9 rfl) ?_
    refine g_ald12 C h (gcl_0_0 C ho) (⟨by decide, by decide⟩ : (0 : Int) ≤ 0 ∧ (0 : Int) < 4) (gdec kX0_state 10 rfl) ?_
    obtain ⟨h3, hf⟩ := ga_s hf
    have k4 : gOk E 3 (G 12 0 0) := gok3 C (gcl_0_0 C ho) h3
    exact g_aret C h (congrArg (Option.map (Prod.mk _)) hf) (gdec kX0_state 11 rfl)
  · replace hf := ifn c2 hf
    refine g_iload_n C hl 1 rfl rfl (gdec kX0_state 4 rfl) ?_
    refine g_iconst C (gdec kX0_state 5 rfl) ?_
    refine g_icmp_ge C (tgt := 17) h1 (by decide) (by decide) (gdec kX0_state 6 rfl) (fun c5 => ?_) (fun c5 => ?_)
    · replace hf := ifp c5 hf
      refine g_iload_n C hl 1 rfl rfl (gdec kX0_state 7 rfl) ?_
      refine g_goto C (tgt := 18) (by decide) (gdec kX0_state 8 rfl) ?_
      obtain ⟨h6, hf⟩ := ga_s hf
      refine g_ald12 C h (gcl_0_0 C ho) h6 (gdec kX0_state 10 rfl) ?_
      obtain ⟨h7, hf⟩ := ga_s hf
      have k8 : gOk E 3 (G 12 0 p1) := gok3 C (gcl_0_0 C ho) h7
      exact g_aret C h (congrArg (Option.map (Prod.mk _)) hf) (gdec kX0_state 11 rfl)
    · replace hf := ifn c5 hf
      refine g_iconst C (gdec kX0_state 9 rfl) ?_
      refine g_ald12 C h (gcl_0_0 C ho) (⟨by decide, by decide⟩ : (0 : Int) ≤ 0 ∧ (0 : Int) < 4) (gdec kX0_state 10 rfl) ?_
      obtain ⟨h9, hf⟩ := ga_s hf
      have k10 : gOk E 3 (G 12 0 0) := gok3 C (gcl_0_0 C ho) h9
      exact g_aret C h (congrArg (Option.map (Prod.mk _)) hf) (gdec kX0_state 11 rfl)
theorem e_X0_state (G : GS) (p1 : Int) (h : 0 ≤ p1 ∧ p1 < 4) (h2 : 0 ≤ G 12 0 p1 ∧ G 12 0 p1 < 6) : f_X0_state G p1 = some (G 12 0 p1) := by
  unfold f_X0_state gd ga
  rw [if_pos (show inR p1 by unfold inR; omega), if_neg (by omega), if_pos h.2, if_pos h, if_pos h2]
def f_X5_copyFrom (G : GS) (o : Int) (p1 : Int) : Option (GS) :=
  bn1 (f_X5_set G o (G 5 p1 0) (G 5 p1 1) (G 5 p1 2)) (fun G1 => some G1)
set_option maxHeartbeats 4000000 in
set_option maxRecDepth 100000 in
theorem c_X5_copyFrom (l : Launch) (E : gEnv) (G : GS) (o : Int) (p1 : Int) (ho : gOk E 5 o) (hp1 : gOk E 5 p1) (Gz : GS) (hf : f_X5_copyFrom G o p1 = some Gz) : gMet l yX5_copyFrom cX5_copyFrom 2 none 1 23 0 0 [.ref (eA E 5 o), .ref (eA E 5 p1)] E G (gQv E Gz) := by
  refine g_met (by decide +kernel) (Nat.le_of_ble_eq_true rfl) ?_
  intro p e s m below meth c C H locs h ls hl
  have C : gC p s m _ meth c RX5 cX5_copyFrom 2 none E := C
  have hl : lv_has ls 2 [(0, .ref (eA E 5 o)), (1, .ref (eA E 5 p1))] := hl
  unfold f_X5_copyFrom at hf
  refine g_aload_n C hl 0 rfl rfl (gdec kX5_copyFrom 0 rfl) ?_
  refine g_aload_n C hl 1 rfl rfl (gdec kX5_copyFrom 1 rfl) ?_
  refine gf_X5_7 C h hp1 (gdec kX5_copyFrom 2 rfl) ?_
  refine g_aload_n C hl 1 rfl rfl (gdec kX5_copyFrom 3 rfl) ?_
  refine gf_X5_13 C h hp1 (gdec kX5_copyFrom 4 rfl) ?_
  refine g_aload_n C hl 1 rfl rfl (gdec kX5_copyFrom 5 rfl) ?_
  refine gf_X5_16 C h hp1 (gdec kX5_copyFrom 6 rfl) ?_
  obtain ⟨G1, q2, hf⟩ := bn1_s hf
  refine g_cv h (g_runV C h ho (by decide) rfl (c_X5_set l E _ _ _ _ _ ho _ q2) wM_X5_20 wI_X5_set wS_X5_set wN_X5 wC_X5_set rfl ny_X5_set rfl ⟨Nat.le_of_ble_eq_true rfl, Nat.le_of_ble_eq_true rfl⟩ hl.1 rfl (Nat.le_of_ble_eq_true rfl) (gdec kX5_copyFrom 7 rfl) ⟨Nat.zero_le _, Nat.zero_le _⟩) (fun H locs h => ?_)
  exact g_vret C h hf (gdec kX5_copyFrom 8 rfl)
def f_X1_copyFrom (G : GS) (o : Int) (p1 : Int) : Option (GS) :=
  bn1 (f_X1_set G o (G 1 p1 0) (G 1 p1 1) (G 1 p1 2)) (fun G1 => some G1)
set_option maxHeartbeats 4000000 in
set_option maxRecDepth 100000 in
theorem c_X1_copyFrom (l : Launch) (E : gEnv) (G : GS) (o : Int) (p1 : Int) (ho : gOk E 1 o) (hp1 : gOk E 1 p1) (Gz : GS) (hf : f_X1_copyFrom G o p1 = some Gz) : gMet l yX1_copyFrom cX1_copyFrom 2 none 1 23 0 0 [.ref (eA E 1 o), .ref (eA E 1 p1)] E G (gQv E Gz) := by
  refine g_met (by decide +kernel) (Nat.le_of_ble_eq_true rfl) ?_
  intro p e s m below meth c C H locs h ls hl
  have C : gC p s m _ meth c RX1 cX1_copyFrom 2 none E := C
  have hl : lv_has ls 2 [(0, .ref (eA E 1 o)), (1, .ref (eA E 1 p1))] := hl
  unfold f_X1_copyFrom at hf
  refine g_aload_n C hl 0 rfl rfl (gdec kX1_copyFrom 0 rfl) ?_
  refine g_aload_n C hl 1 rfl rfl (gdec kX1_copyFrom 1 rfl) ?_
  refine gf_X1_7 C h hp1 (gdec kX1_copyFrom 2 rfl) ?_
  refine g_aload_n C hl 1 rfl rfl (gdec kX1_copyFrom 3 rfl) ?_
  refine gf_X1_13 C h hp1 (gdec kX1_copyFrom 4 rfl) ?_
  refine g_aload_n C hl 1 rfl rfl (gdec kX1_copyFrom 5 rfl) ?_
  refine gf_X1_16 C h hp1 (gdec kX1_copyFrom 6 rfl) ?_
  obtain ⟨G1, q2, hf⟩ := bn1_s hf
  refine g_cv h (g_runV C h ho (by decide) rfl (c_X1_set l E _ _ _ _ _ ho _ q2) wM_X1_20 wI_X1_set wS_X1_set wN_X1 wC_X1_set rfl ny_X1_set rfl ⟨Nat.le_of_ble_eq_true rfl, Nat.le_of_ble_eq_true rfl⟩ hl.1 rfl (Nat.le_of_ble_eq_true rfl) (gdec kX1_copyFrom 7 rfl) ⟨Nat.zero_le _, Nat.zero_le _⟩) (fun H locs h => ?_)
  exact g_vret C h hf (gdec kX1_copyFrom 8 rfl)
def f_X3_teamRow (G : GS) (o : Int) (p1 : Int) : Option (Int) :=
  gd p1 (if p1 < 0 then some (10 * o + 0) else if p1 < 10 then ga p1 10 (some (10 * o + p1)) else some (10 * o + 0))
set_option maxHeartbeats 4000000 in
set_option maxRecDepth 100000 in
theorem c_X3_teamRow (l : Launch) (E : gEnv) (G : GS) (o : Int) (p1 : Int) (ho : gOk E 3 o) (rz : Int) (hf : f_X3_teamRow G o p1 = some rz) : gMet l yX3_teamRow cX3_teamRow 2 (some (.object RX6)) 0 0 0 0 [.ref (eA E 3 o), vI p1] E G (gQr E G 6 rz) := by
  refine g_met (by decide +kernel) (Nat.le_of_ble_eq_true rfl) ?_
  intro p e s m below meth c C H locs h ls hl
  have C : gC p s m _ meth c RX3 cX3_teamRow 2 (some (.object RX6)) E := C
  have hl : lv_has ls 2 [(0, .ref (eA E 3 o)), (1, vI p1)] := hl
  unfold f_X3_teamRow at hf
  refine g_aload_n C hl 0 rfl rfl (gdec kX3_teamRow 0 rfl) ?_
  refine gf_X3_25 C h ho (gdec kX3_teamRow 1 rfl) ?_
  refine g_iload_n C hl 1 rfl rfl (gdec kX3_teamRow 2 rfl) ?_
  obtain ⟨h1, hf⟩ := gd_s hf
  refine g_if_lt C (tgt := 18) h1 (by decide) (gdec kX3_teamRow 3 rfl) (fun c2 => ?_) (fun c2 => ?_)
  · replace hf := ifp c2 hf
    refine g_iconst C (gdec kX3_teamRow 9 rfl) ?_
    refine g_ald16 C h (gcl_3_2 C ho) (⟨by decide, by decide⟩ : (0 : Int) ≤ 0 ∧ (0 : Int) < 10) (gdec kX3_teamRow 10 rfl) ?_
    have k3 : gOk E 6 (10 * o + 0) := gok6 C (gcl_3_2 C ho) (⟨by decide, by decide⟩ : (0 : Int) ≤ 0 ∧ (0 : Int) < 10)
    exact g_aret C h (congrArg (Option.map (Prod.mk _)) hf) (gdec kX3_teamRow 11 rfl)
  · replace hf := ifn c2 hf
    refine g_iload_n C hl 1 rfl rfl (gdec kX3_teamRow 4 rfl) ?_
    refine g_bipush C (gdec kX3_teamRow 5 rfl) rfl ?_
    refine g_icmp_ge C (tgt := 18) h1 (by decide) (by decide) (gdec kX3_teamRow 6 rfl) (fun c4 => ?_) (fun c4 => ?_)
    · replace hf := ifp c4 hf
      refine g_iload_n C hl 1 rfl rfl (gdec kX3_teamRow 7 rfl) ?_
      refine g_goto C (tgt := 19) (by decide) (gdec kX3_teamRow 8 rfl) ?_
      obtain ⟨h5, hf⟩ := ga_s hf
      refine g_ald16 C h (gcl_3_2 C ho) h5 (gdec kX3_teamRow 10 rfl) ?_
      have k6 : gOk E 6 (10 * o + p1) := gok6 C (gcl_3_2 C ho) h5
      exact g_aret C h (congrArg (Option.map (Prod.mk _)) hf) (gdec kX3_teamRow 11 rfl)
    · replace hf := ifn c4 hf
      refine g_iconst C (gdec kX3_teamRow 9 rfl) ?_
      refine g_ald16 C h (gcl_3_2 C ho) (⟨by decide, by decide⟩ : (0 : Int) ≤ 0 ∧ (0 : Int) < 10) (gdec kX3_teamRow 10 rfl) ?_
      have k7 : gOk E 6 (10 * o + 0) := gok6 C (gcl_3_2 C ho) (⟨by decide, by decide⟩ : (0 : Int) ≤ 0 ∧ (0 : Int) < 10)
      exact g_aret C h (congrArg (Option.map (Prod.mk _)) hf) (gdec kX3_teamRow 11 rfl)
theorem e_X3_teamRow (G : GS) (o p1 : Int) (h : 0 ≤ p1 ∧ p1 < 10) : f_X3_teamRow G o p1 = some (10 * o + p1) := by
  unfold f_X3_teamRow gd ga
  rw [if_pos (show inR p1 by unfold inR; omega), if_neg (by omega), if_pos h.2, if_pos h]
def f_X6_copyFrom (G : GS) (o : Int) (p1 : Int) : Option (GS) :=
  nm (gup (gup (gup G 6 o 0 (G 6 p1 0)) 6 o 1 ((gup G 6 o 0 (G 6 p1 0)) 6 p1 1)) 6 o 2 ((gup (gup G 6 o 0 (G 6 p1 0)) 6 o 1 ((gup G 6 o 0 (G 6 p1 0)) 6 p1 1)) 6 p1 2)) (fun G1 => gb ((gup G1 6 o 3 (G1 6 p1 3)) 6 p1 4) (nm (gup (gup (gup G1 6 o 3 (G1 6 p1 3)) 6 o 4 ((gup G1 6 o 3 (G1 6 p1 3)) 6 p1 4)) 6 o 5 ((gup (gup G1 6 o 3 (G1 6 p1 3)) 6 o 4 ((gup G1 6 o 3 (G1 6 p1 3)) 6 p1 4)) 6 p1 5)) (fun G4 => gb ((gup G4 6 o 6 (G4 6 p1 6)) 6 p1 7) (nm (gup (gup (gup G4 6 o 6 (G4 6 p1 6)) 6 o 7 ((gup G4 6 o 6 (G4 6 p1 6)) 6 p1 7)) 6 o 8 ((gup (gup G4 6 o 6 (G4 6 p1 6)) 6 o 7 ((gup G4 6 o 6 (G4 6 p1 6)) 6 p1 7)) 6 p1 8)) (fun G7 => nm (gup (gup (gup G7 6 o 9 (G7 6 p1 9)) 6 o 10 ((gup G7 6 o 9 (G7 6 p1 9)) 6 p1 10)) 6 o 11 ((gup (gup G7 6 o 9 (G7 6 p1 9)) 6 o 10 ((gup G7 6 o 9 (G7 6 p1 9)) 6 p1 10)) 6 p1 11)) (fun G9 => some G9))))))
set_option maxHeartbeats 4000000 in
set_option maxRecDepth 100000 in
theorem c_X6_copyFrom (l : Launch) (E : gEnv) (G : GS) (o : Int) (p1 : Int) (ho : gOk E 6 o) (hp1 : gOk E 6 p1) (Gz : GS) (hf : f_X6_copyFrom G o p1 = some Gz) : gMet l yX6_copyFrom cX6_copyFrom 2 none 0 0 0 0 [.ref (eA E 6 o), .ref (eA E 6 p1)] E G (gQv E Gz) := by
  refine g_met (by decide +kernel) (Nat.le_of_ble_eq_true rfl) ?_
  intro p e s m below meth c C H locs h ls hl
  have C : gC p s m _ meth c RX6 cX6_copyFrom 2 none E := C
  have hl : lv_has ls 2 [(0, .ref (eA E 6 o)), (1, .ref (eA E 6 p1))] := hl
  unfold f_X6_copyFrom at hf
  refine g_aload_n C hl 0 rfl rfl (gdec kX6_copyFrom 0 rfl) ?_
  refine g_aload_n C hl 1 rfl rfl (gdec kX6_copyFrom 1 rfl) ?_
  refine gf_X6_9 C h hp1 (gdec kX6_copyFrom 2 rfl) ?_
  refine gp_X6_9 C h ho (gdec kX6_copyFrom 3 rfl) (fun H locs h => ?_)
  refine g_aload_n C hl 0 rfl rfl (gdec kX6_copyFrom 4 rfl) ?_
  refine g_aload_n C hl 1 rfl rfl (gdec kX6_copyFrom 5 rfl) ?_
  refine gf_X6_15 C h hp1 (gdec kX6_copyFrom 6 rfl) ?_
  refine gp_X6_15 C h ho (gdec kX6_copyFrom 7 rfl) (fun H locs h => ?_)
  refine g_aload_n C hl 0 rfl rfl (gdec kX6_copyFrom 8 rfl) ?_
  refine g_aload_n C hl 1 rfl rfl (gdec kX6_copyFrom 9 rfl) ?_
  refine gf_X6_38 C h hp1 (gdec kX6_copyFrom 10 rfl) ?_
  refine gp_X6_38 C h ho (gdec kX6_copyFrom 11 rfl) (fun H locs h => ?_)
  obtain ⟨G1, e2, hf⟩ := nm_s hf
  rw [e2] at h
  refine g_aload_n C hl 0 rfl rfl (gdec kX6_copyFrom 12 rfl) ?_
  refine g_aload_n C hl 1 rfl rfl (gdec kX6_copyFrom 13 rfl) ?_
  refine gf_X6_41 C h hp1 (gdec kX6_copyFrom 14 rfl) ?_
  refine gp_X6_41 C h ho (gdec kX6_copyFrom 15 rfl) (fun H locs h => ?_)
  refine g_aload_n C hl 0 rfl rfl (gdec kX6_copyFrom 16 rfl) ?_
  refine g_aload_n C hl 1 rfl rfl (gdec kX6_copyFrom 17 rfl) ?_
  refine gf_X6_22 C h hp1 (gdec kX6_copyFrom 18 rfl) ?_
  obtain ⟨h3, hf⟩ := gb_s hf
  refine gp_X6_22 C h ho h3 (gdec kX6_copyFrom 19 rfl) (fun H locs h => ?_)
  refine g_aload_n C hl 0 rfl rfl (gdec kX6_copyFrom 20 rfl) ?_
  refine g_aload_n C hl 1 rfl rfl (gdec kX6_copyFrom 21 rfl) ?_
  refine gf_X6_44 C h hp1 (gdec kX6_copyFrom 22 rfl) ?_
  refine gp_X6_44 C h ho (gdec kX6_copyFrom 23 rfl) (fun H locs h => ?_)
  obtain ⟨G4, e5, hf⟩ := nm_s hf
  rw [e5] at h
  refine g_aload_n C hl 0 rfl rfl (gdec kX6_copyFrom 24 rfl) ?_
  refine g_aload_n C hl 1 rfl rfl (gdec kX6_copyFrom 25 rfl) ?_
  refine gf_X6_47 C h hp1 (gdec kX6_copyFrom 26 rfl) ?_
  refine gp_X6_47 C h ho (gdec kX6_copyFrom 27 rfl) (fun H locs h => ?_)
  refine g_aload_n C hl 0 rfl rfl (gdec kX6_copyFrom 28 rfl) ?_
  refine g_aload_n C hl 1 rfl rfl (gdec kX6_copyFrom 29 rfl) ?_
  refine gf_X6_50 C h hp1 (gdec kX6_copyFrom 30 rfl) ?_
  obtain ⟨h6, hf⟩ := gb_s hf
  refine gp_X6_50 C h ho h6 (gdec kX6_copyFrom 31 rfl) (fun H locs h => ?_)
  refine g_aload_n C hl 0 rfl rfl (gdec kX6_copyFrom 32 rfl) ?_
  refine g_aload_n C hl 1 rfl rfl (gdec kX6_copyFrom 33 rfl) ?_
  refine gf_X6_26 C h hp1 (gdec kX6_copyFrom 34 rfl) ?_
  refine gp_X6_26 C h ho (gdec kX6_copyFrom 35 rfl) (fun H locs h => ?_)
  obtain ⟨G7, e8, hf⟩ := nm_s hf
  rw [e8] at h
  refine g_aload_n C hl 0 rfl rfl (gdec kX6_copyFrom 36 rfl) ?_
  refine g_aload_n C hl 1 rfl rfl (gdec kX6_copyFrom 37 rfl) ?_
  refine gf_X6_29 C h hp1 (gdec kX6_copyFrom 38 rfl) ?_
  refine gp_X6_29 C h ho (gdec kX6_copyFrom 39 rfl) (fun H locs h => ?_)
  refine g_aload_n C hl 0 rfl rfl (gdec kX6_copyFrom 40 rfl) ?_
  refine g_aload_n C hl 1 rfl rfl (gdec kX6_copyFrom 41 rfl) ?_
  refine gf_X6_32 C h hp1 (gdec kX6_copyFrom 42 rfl) ?_
  refine gp_X6_32 C h ho (gdec kX6_copyFrom 43 rfl) (fun H locs h => ?_)
  refine g_aload_n C hl 0 rfl rfl (gdec kX6_copyFrom 44 rfl) ?_
  refine g_aload_n C hl 1 rfl rfl (gdec kX6_copyFrom 45 rfl) ?_
  refine gf_X6_35 C h hp1 (gdec kX6_copyFrom 46 rfl) ?_
  refine gp_X6_35 C h ho (gdec kX6_copyFrom 47 rfl) (fun H locs h => ?_)
  obtain ⟨G9, e10, hf⟩ := nm_s hf
  rw [e10] at h
  exact g_vret C h hf (gdec kX6_copyFrom 48 rfl)
def f_X3_letterRow (G : GS) (o : Int) (p1 : Int) : Option (Int) :=
  gd p1 (if p1 < 0 then some (12 * o + 0) else if p1 < 12 then ga p1 12 (some (12 * o + p1)) else some (12 * o + 0))
set_option maxHeartbeats 4000000 in
set_option maxRecDepth 100000 in
theorem c_X3_letterRow (l : Launch) (E : gEnv) (G : GS) (o : Int) (p1 : Int) (ho : gOk E 3 o) (rz : Int) (hf : f_X3_letterRow G o p1 = some rz) : gMet l yX3_letterRow cX3_letterRow 2 (some (.object RX2)) 0 0 0 0 [.ref (eA E 3 o), vI p1] E G (gQr E G 2 rz) := by
  refine g_met (by decide +kernel) (Nat.le_of_ble_eq_true rfl) ?_
  intro p e s m below meth c C H locs h ls hl
  have C : gC p s m _ meth c RX3 cX3_letterRow 2 (some (.object RX2)) E := C
  have hl : lv_has ls 2 [(0, .ref (eA E 3 o)), (1, vI p1)] := hl
  unfold f_X3_letterRow at hf
  refine g_aload_n C hl 0 rfl rfl (gdec kX3_letterRow 0 rfl) ?_
  refine gf_X3_31 C h ho (gdec kX3_letterRow 1 rfl) ?_
  refine g_iload_n C hl 1 rfl rfl (gdec kX3_letterRow 2 rfl) ?_
  obtain ⟨h1, hf⟩ := gd_s hf
  refine g_if_lt C (tgt := 18) h1 (by decide) (gdec kX3_letterRow 3 rfl) (fun c2 => ?_) (fun c2 => ?_)
  · replace hf := ifp c2 hf
    refine g_iconst C (gdec kX3_letterRow 9 rfl) ?_
    refine g_ald17 C h (gcl_3_3 C ho) (⟨by decide, by decide⟩ : (0 : Int) ≤ 0 ∧ (0 : Int) < 12) (gdec kX3_letterRow 10 rfl) ?_
    have k3 : gOk E 2 (12 * o + 0) := gok2 C (gcl_3_3 C ho) (⟨by decide, by decide⟩ : (0 : Int) ≤ 0 ∧ (0 : Int) < 12)
    exact g_aret C h (congrArg (Option.map (Prod.mk _)) hf) (gdec kX3_letterRow 11 rfl)
  · replace hf := ifn c2 hf
    refine g_iload_n C hl 1 rfl rfl (gdec kX3_letterRow 4 rfl) ?_
    refine g_bipush C (gdec kX3_letterRow 5 rfl) rfl ?_
    refine g_icmp_ge C (tgt := 18) h1 (by decide) (by decide) (gdec kX3_letterRow 6 rfl) (fun c4 => ?_) (fun c4 => ?_)
    · replace hf := ifp c4 hf
      refine g_iload_n C hl 1 rfl rfl (gdec kX3_letterRow 7 rfl) ?_
      refine g_goto C (tgt := 19) (by decide) (gdec kX3_letterRow 8 rfl) ?_
      obtain ⟨h5, hf⟩ := ga_s hf
      refine g_ald17 C h (gcl_3_3 C ho) h5 (gdec kX3_letterRow 10 rfl) ?_
      have k6 : gOk E 2 (12 * o + p1) := gok2 C (gcl_3_3 C ho) h5
      exact g_aret C h (congrArg (Option.map (Prod.mk _)) hf) (gdec kX3_letterRow 11 rfl)
    · replace hf := ifn c4 hf
      refine g_iconst C (gdec kX3_letterRow 9 rfl) ?_
      refine g_ald17 C h (gcl_3_3 C ho) (⟨by decide, by decide⟩ : (0 : Int) ≤ 0 ∧ (0 : Int) < 12) (gdec kX3_letterRow 10 rfl) ?_
      have k7 : gOk E 2 (12 * o + 0) := gok2 C (gcl_3_3 C ho) (⟨by decide, by decide⟩ : (0 : Int) ≤ 0 ∧ (0 : Int) < 12)
      exact g_aret C h (congrArg (Option.map (Prod.mk _)) hf) (gdec kX3_letterRow 11 rfl)
theorem e_X3_letterRow (G : GS) (o p1 : Int) (h : 0 ≤ p1 ∧ p1 < 12) : f_X3_letterRow G o p1 = some (12 * o + p1) := by
  unfold f_X3_letterRow gd ga
  rw [if_pos (show inR p1 by unfold inR; omega), if_neg (by omega), if_pos h.2, if_pos h]
def f_X2_copyFrom (G : GS) (o : Int) (p1 : Int) : Option (GS) :=
  gb ((gup (gup G 2 o 0 (G 2 p1 0)) 2 o 1 ((gup G 2 o 0 (G 2 p1 0)) 2 p1 1)) 2 p1 2) (nm (gup (gup (gup G 2 o 0 (G 2 p1 0)) 2 o 1 ((gup G 2 o 0 (G 2 p1 0)) 2 p1 1)) 2 o 2 ((gup (gup G 2 o 0 (G 2 p1 0)) 2 o 1 ((gup G 2 o 0 (G 2 p1 0)) 2 p1 1)) 2 p1 2)) (fun G2 => nm (gup (gup (gup G2 2 o 3 (G2 2 p1 3)) 2 o 4 ((gup G2 2 o 3 (G2 2 p1 3)) 2 p1 4)) 2 o 5 ((gup (gup G2 2 o 3 (G2 2 p1 3)) 2 o 4 ((gup G2 2 o 3 (G2 2 p1 3)) 2 p1 4)) 2 p1 5)) (fun G4 => some (gup (gup G4 2 o 6 (G4 2 p1 6)) 2 o 7 ((gup G4 2 o 6 (G4 2 p1 6)) 2 p1 7)))))
set_option maxHeartbeats 4000000 in
set_option maxRecDepth 100000 in
theorem c_X2_copyFrom (l : Launch) (E : gEnv) (G : GS) (o : Int) (p1 : Int) (ho : gOk E 2 o) (hp1 : gOk E 2 p1) (Gz : GS) (hf : f_X2_copyFrom G o p1 = some Gz) : gMet l yX2_copyFrom cX2_copyFrom 2 none 0 0 0 0 [.ref (eA E 2 o), .ref (eA E 2 p1)] E G (gQv E Gz) := by
  refine g_met (by decide +kernel) (Nat.le_of_ble_eq_true rfl) ?_
  intro p e s m below meth c C H locs h ls hl
  have C : gC p s m _ meth c RX2 cX2_copyFrom 2 none E := C
  have hl : lv_has ls 2 [(0, .ref (eA E 2 o)), (1, .ref (eA E 2 p1))] := hl
  unfold f_X2_copyFrom at hf
  refine g_aload_n C hl 0 rfl rfl (gdec kX2_copyFrom 0 rfl) ?_
  refine g_aload_n C hl 1 rfl rfl (gdec kX2_copyFrom 1 rfl) ?_
  refine gf_X2_9 C h hp1 (gdec kX2_copyFrom 2 rfl) ?_
  refine gp_X2_9 C h ho (gdec kX2_copyFrom 3 rfl) (fun H locs h => ?_)
  refine g_aload_n C hl 0 rfl rfl (gdec kX2_copyFrom 4 rfl) ?_
  refine g_aload_n C hl 1 rfl rfl (gdec kX2_copyFrom 5 rfl) ?_
  refine gf_X2_15 C h hp1 (gdec kX2_copyFrom 6 rfl) ?_
  refine gp_X2_15 C h ho (gdec kX2_copyFrom 7 rfl) (fun H locs h => ?_)
  refine g_aload_n C hl 0 rfl rfl (gdec kX2_copyFrom 8 rfl) ?_
  refine g_aload_n C hl 1 rfl rfl (gdec kX2_copyFrom 9 rfl) ?_
  refine gf_X2_18 C h hp1 (gdec kX2_copyFrom 10 rfl) ?_
  obtain ⟨h1, hf⟩ := gb_s hf
  refine gp_X2_18 C h ho h1 (gdec kX2_copyFrom 11 rfl) (fun H locs h => ?_)
  obtain ⟨G2, e3, hf⟩ := nm_s hf
  rw [e3] at h
  refine g_aload_n C hl 0 rfl rfl (gdec kX2_copyFrom 12 rfl) ?_
  refine g_aload_n C hl 1 rfl rfl (gdec kX2_copyFrom 13 rfl) ?_
  refine gf_X2_22 C h hp1 (gdec kX2_copyFrom 14 rfl) ?_
  refine gp_X2_22 C h ho (gdec kX2_copyFrom 15 rfl) (fun H locs h => ?_)
  refine g_aload_n C hl 0 rfl rfl (gdec kX2_copyFrom 16 rfl) ?_
  refine g_aload_n C hl 1 rfl rfl (gdec kX2_copyFrom 17 rfl) ?_
  refine gf_X2_25 C h hp1 (gdec kX2_copyFrom 18 rfl) ?_
  refine gp_X2_25 C h ho (gdec kX2_copyFrom 19 rfl) (fun H locs h => ?_)
  refine g_aload_n C hl 0 rfl rfl (gdec kX2_copyFrom 20 rfl) ?_
  refine g_aload_n C hl 1 rfl rfl (gdec kX2_copyFrom 21 rfl) ?_
  refine gf_X2_28 C h hp1 (gdec kX2_copyFrom 22 rfl) ?_
  refine gp_X2_28 C h ho (gdec kX2_copyFrom 23 rfl) (fun H locs h => ?_)
  obtain ⟨G4, e5, hf⟩ := nm_s hf
  rw [e5] at h
  refine g_aload_n C hl 0 rfl rfl (gdec kX2_copyFrom 24 rfl) ?_
  refine g_aload_n C hl 1 rfl rfl (gdec kX2_copyFrom 25 rfl) ?_
  refine gf_X2_31 C h hp1 (gdec kX2_copyFrom 26 rfl) ?_
  refine gp_X2_31 C h ho (gdec kX2_copyFrom 27 rfl) (fun H locs h => ?_)
  refine g_aload_n C hl 0 rfl rfl (gdec kX2_copyFrom 28 rfl) ?_
  refine g_aload_n C hl 1 rfl rfl (gdec kX2_copyFrom 29 rfl) ?_
  refine gf_X2_34 C h hp1 (gdec kX2_copyFrom 30 rfl) ?_
  refine gp_X2_34 C h ho (gdec kX2_copyFrom 31 rfl) (fun H locs h => ?_)
  exact g_vret C h hf (gdec kX2_copyFrom 32 rfl)
def f_X3_copyFrom_L74 (o : Int) (p1 : Int) : Nat → GS → Int → (GS → Int → Option (GS)) → Option (GS)
  | 0, _, _, _ => none
  | n + 1, G, x2, k => gd x2 (if x2 < 7 then ga x2 7 (bn1 (f_X5_copyFrom G (7 * o + x2) (7 * p1 + x2)) (fun G12 => f_X3_copyFrom_L74 o p1 n G12 (x2 + 1) k)) else k G x2)
def f_X3_copyFrom_L103 (o : Int) (p1 : Int) : Nat → GS → Int → (GS → Int → Option (GS)) → Option (GS)
  | 0, _, _, _ => none
  | n + 1, G, x2, k => gd x2 (if x2 < 8 then ga x2 8 (bn1 (f_X1_copyFrom G (8 * o + x2) (8 * p1 + x2)) (fun G21 => f_X3_copyFrom_L103 o p1 n G21 (x2 + 1) k)) else k G x2)
def f_X3_copyFrom_L132 (o : Int) (p1 : Int) : Nat → GS → Int → (GS → Int → Option (GS)) → Option (GS)
  | 0, _, _, _ => none
  | n + 1, G, x2, k => gd x2 (gd (G 3 o 5) (if x2 < (G 3 o 5) then ga x2 10 (bn1 (f_X6_copyFrom G (10 * o + x2) (10 * p1 + x2)) (fun G31 => f_X3_copyFrom_L132 o p1 n G31 (x2 + 1) k)) else k G x2))
def f_X3_copyFrom_L161 (o : Int) (p1 : Int) : Nat → GS → Int → (GS → Int → Option (GS)) → Option (GS)
  | 0, _, _, _ => none
  | n + 1, G, x2, k => gd x2 (gd (G 3 o 6) (if x2 < (G 3 o 6) then ga x2 12 (bn1 (f_X2_copyFrom G (12 * o + x2) (12 * p1 + x2)) (fun G41 => f_X3_copyFrom_L161 o p1 n G41 (x2 + 1) k)) else k G x2))
def f_X3_copyFrom (G : GS) (o : Int) (p1 : Int) : Option (GS) :=
  nm (gup (gup (gup G 3 o 4 (G 3 p1 4)) 3 o 5 ((gup G 3 o 4 (G 3 p1 4)) 3 p1 5)) 3 o 6 ((gup (gup G 3 o 4 (G 3 p1 4)) 3 o 5 ((gup G 3 o 4 (G 3 p1 4)) 3 p1 5)) 3 p1 6)) (fun G1 => nm (gup (gup (gup G1 3 o 7 (G1 3 p1 7)) 3 o 8 ((gup G1 3 o 7 (G1 3 p1 7)) 3 p1 8)) 3 o 9 ((gup (gup G1 3 o 7 (G1 3 p1 7)) 3 o 8 ((gup G1 3 o 7 (G1 3 p1 7)) 3 p1 8)) 3 p1 9)) (fun G3 => nm (gup (gup (gup G3 3 o 10 (G3 3 p1 10)) 3 o 11 ((gup G3 3 o 10 (G3 3 p1 10)) 3 p1 11)) 3 o 12 ((gup (gup G3 3 o 10 (G3 3 p1 10)) 3 o 11 ((gup G3 3 o 10 (G3 3 p1 10)) 3 p1 11)) 3 p1 12)) (fun G5 => f_X3_copyFrom_L74 o p1 gFuel G5 0 (fun G15 y2_14 => f_X3_copyFrom_L103 o p1 gFuel G15 0 (fun G24 y2_23 => f_X3_copyFrom_L132 o p1 gFuel G24 0 (fun G34 y2_33 => f_X3_copyFrom_L161 o p1 gFuel G34 0 (fun G44 y2_43 => some G44)))))))
set_option maxHeartbeats 4000000 in
set_option maxRecDepth 100000 in
theorem c_X3_copyFrom (l : Launch) (E : gEnv) (G : GS) (o : Int) (p1 : Int) (ho : gOk E 3 o) (hp1 : gOk E 3 p1) (Gz : GS) (hf : f_X3_copyFrom G o p1 = some Gz) : gMet l yX3_copyFrom cX3_copyFrom 3 none 2 44 0 0 [.ref (eA E 3 o), .ref (eA E 3 p1)] E G (gQv E Gz) := by
  refine g_met (by decide +kernel) (Nat.le_of_ble_eq_true rfl) ?_
  intro p e s m below meth c C H locs h ls hl
  have C : gC p s m _ meth c RX3 cX3_copyFrom 3 none E := C
  have hl : lv_has ls 3 [(0, .ref (eA E 3 o)), (1, .ref (eA E 3 p1))] := hl
  have L74 : ∀ (n : Nat) (G : GS) (x2 : Int) (k : (GS → Int → Option (GS))) (hK : ∀ (G : GS) (x2 : Int), k G x2 = some Gz → ∀ (H : Heap) (locs : List Loc), gH E s G H locs → ∀ ls, lv_has ls 3 [(0, .ref (eA E 3 o)), (1, .ref (eA E 3 p1)), (2, vI x2)] → W p l e (gRm 2 44 0 0) s m ([.ref (eA E 3 o), .ref (eA E 3 p1)] : List Value).toArray below meth c H locs 0 0 (MQ below (gQv E Gz) ([.ref (eA E 3 o), .ref (eA E 3 p1)] : List Value).toArray s 0 0 (eF E)) (F0 m 101 ls [])), ∀ (H : Heap) (locs : List Loc), gH E s G H locs → ∀ ls, lv_has ls 3 [(0, .ref (eA E 3 o)), (1, .ref (eA E 3 p1)), (2, vI x2)] → f_X3_copyFrom_L74 o p1 n G x2 k = some Gz → W p l e (gRm 2 44 0 0) s m ([.ref (eA E 3 o), .ref (eA E 3 p1)] : List Value).toArray below meth c H locs 0 0 (MQ below (gQv E Gz) ([.ref (eA E 3 o), .ref (eA E 3 p1)] : List Value).toArray s 0 0 (eF E)) (F0 m 74 ls []) := by
    intro n
    induction n with
    | zero =>
      intro G x2 k hK H locs h ls hl hf
      exact absurd hf (by simp [f_X3_copyFrom_L74])
    | succ n ih =>
      intro G x2 k hK H locs h ls hl hf
      unfold f_X3_copyFrom_L74 at hf
      refine g_iload_n C hl 2 rfl rfl (gdec kX3_copyFrom 38 rfl) ?_
      refine g_bipush C (gdec kX3_copyFrom 39 rfl) rfl ?_
      obtain ⟨h7, hf⟩ := gd_s hf
      refine g_icmp_ge C (tgt := 101) h7 (by decide) (by decide) (gdec kX3_copyFrom 40 rfl) (fun c8 => ?_) (fun c8 => ?_)
      · replace hf := ifp c8 hf
        refine g_aload_n C hl 0 rfl rfl (gdec kX3_copyFrom 41 rfl) ?_
        refine gf_X3_11 C h ho (gdec kX3_copyFrom 42 rfl) ?_
        refine g_iload_n C hl 2 rfl rfl (gdec kX3_copyFrom 43 rfl) ?_
        obtain ⟨h9, hf⟩ := ga_s hf
        refine g_ald14 C h (gcl_3_0 C ho) h9 (gdec kX3_copyFrom 44 rfl) ?_
        have k10 : gOk E 5 (7 * o + x2) := gok5 C (gcl_3_0 C ho) h9
        refine g_aload_n C hl 1 rfl rfl (gdec kX3_copyFrom 45 rfl) ?_
        refine gf_X3_11 C h hp1 (gdec kX3_copyFrom 46 rfl) ?_
        refine g_iload_n C hl 2 rfl rfl (gdec kX3_copyFrom 47 rfl) ?_
        refine g_ald14 C h (gcl_3_0 C hp1) h9 (gdec kX3_copyFrom 48 rfl) ?_
        have k11 : gOk E 5 (7 * p1 + x2) := gok5 C (gcl_3_0 C hp1) h9
        obtain ⟨G12, q13, hf⟩ := bn1_s hf
        refine g_cv h (g_runV C h k10 (by decide) rfl (c_X5_copyFrom l E _ _ _ k10 k11 _ q13) wM_X3_75 wI_X5_copyFrom wS_X5_copyFrom wN_X5 wC_X5_copyFrom rfl ny_X5_copyFrom rfl ⟨Nat.le_of_ble_eq_true rfl, Nat.le_of_ble_eq_true rfl⟩ hl.1 rfl (Nat.le_of_ble_eq_true rfl) (gdec kX3_copyFrom 49 rfl) ⟨Nat.zero_le _, Nat.zero_le _⟩) (fun H locs h => ?_)
        refine g_iinc C (k := 2) [(2, vI (x2 + 1)), (0, .ref (eA E 3 o)), (1, .ref (eA E 3 p1))] hl rfl (by decide) rfl (gdec kX3_copyFrom 50 rfl) (fun ls hl => ?_)
        refine g_goto C (tgt := 74) (by decide) (gdec kX3_copyFrom 51 rfl) ?_
        exact ih _ _ k hK H locs h ls (lv_sub hl [1, 2, 0] rfl) hf
      · replace hf := ifn c8 hf
        exact hK _ _ hf H locs h ls (lv_sub hl [0, 1, 2] rfl)
  have L103 : ∀ (n : Nat) (G : GS) (x2 : Int) (k : (GS → Int → Option (GS))) (hK : ∀ (G : GS) (x2 : Int), k G x2 = some Gz → ∀ (H : Heap) (locs : List Loc), gH E s G H locs → ∀ ls, lv_has ls 3 [(0, .ref (eA E 3 o)), (1, .ref (eA E 3 p1)), (2, vI x2)] → W p l e (gRm 2 44 0 0) s m ([.ref (eA E 3 o), .ref (eA E 3 p1)] : List Value).toArray below meth c H locs 0 0 (MQ below (gQv E Gz) ([.ref (eA E 3 o), .ref (eA E 3 p1)] : List Value).toArray s 0 0 (eF E)) (F0 m 130 ls [])), ∀ (H : Heap) (locs : List Loc), gH E s G H locs → ∀ ls, lv_has ls 3 [(0, .ref (eA E 3 o)), (1, .ref (eA E 3 p1)), (2, vI x2)] → f_X3_copyFrom_L103 o p1 n G x2 k = some Gz → W p l e (gRm 2 44 0 0) s m ([.ref (eA E 3 o), .ref (eA E 3 p1)] : List Value).toArray below meth c H locs 0 0 (MQ below (gQv E Gz) ([.ref (eA E 3 o), .ref (eA E 3 p1)] : List Value).toArray s 0 0 (eF E)) (F0 m 103 ls []) := by
    intro n
    induction n with
    | zero =>
      intro G x2 k hK H locs h ls hl hf
      exact absurd hf (by simp [f_X3_copyFrom_L103])
    | succ n ih =>
      intro G x2 k hK H locs h ls hl hf
      unfold f_X3_copyFrom_L103 at hf
      refine g_iload_n C hl 2 rfl rfl (gdec kX3_copyFrom 54 rfl) ?_
      refine g_bipush C (gdec kX3_copyFrom 55 rfl) rfl ?_
      obtain ⟨h16, hf⟩ := gd_s hf
      refine g_icmp_ge C (tgt := 130) h16 (by decide) (by decide) (gdec kX3_copyFrom 56 rfl) (fun c17 => ?_) (fun c17 => ?_)
      · replace hf := ifp c17 hf
        refine g_aload_n C hl 0 rfl rfl (gdec kX3_copyFrom 57 rfl) ?_
        refine gf_X3_19 C h ho (gdec kX3_copyFrom 58 rfl) ?_
        refine g_iload_n C hl 2 rfl rfl (gdec kX3_copyFrom 59 rfl) ?_
        obtain ⟨h18, hf⟩ := ga_s hf
        refine g_ald15 C h (gcl_3_1 C ho) h18 (gdec kX3_copyFrom_1 0 rfl) ?_
        have k19 : gOk E 1 (8 * o + x2) := gok1 C (gcl_3_1 C ho) h18
        refine g_aload_n C hl 1 rfl rfl (gdec kX3_copyFrom_1 1 rfl) ?_
        refine gf_X3_19 C h hp1 (gdec kX3_copyFrom_1 2 rfl) ?_
        refine g_iload_n C hl 2 rfl rfl (gdec kX3_copyFrom_1 3 rfl) ?_
        refine g_ald15 C h (gcl_3_1 C hp1) h18 (gdec kX3_copyFrom_1 4 rfl) ?_
        have k20 : gOk E 1 (8 * p1 + x2) := gok1 C (gcl_3_1 C hp1) h18
        obtain ⟨G21, q22, hf⟩ := bn1_s hf
        refine g_cv h (g_runV C h k19 (by decide) rfl (c_X1_copyFrom l E _ _ _ k19 k20 _ q22) wM_X3_79 wI_X1_copyFrom wS_X1_copyFrom wN_X1 wC_X1_copyFrom rfl ny_X1_copyFrom rfl ⟨Nat.le_of_ble_eq_true rfl, Nat.le_of_ble_eq_true rfl⟩ hl.1 rfl (Nat.le_of_ble_eq_true rfl) (gdec kX3_copyFrom_1 5 rfl) ⟨Nat.zero_le _, Nat.zero_le _⟩) (fun H locs h => ?_)
        refine g_iinc C (k := 2) [(2, vI (x2 + 1)), (0, .ref (eA E 3 o)), (1, .ref (eA E 3 p1))] hl rfl (by decide) rfl (gdec kX3_copyFrom_1 6 rfl) (fun ls hl => ?_)
        refine g_goto C (tgt := 103) (by decide) (gdec kX3_copyFrom_1 7 rfl) ?_
        exact ih _ _ k hK H locs h ls (lv_sub hl [1, 2, 0] rfl) hf
      · replace hf := ifn c17 hf
        exact hK _ _ hf H locs h ls (lv_sub hl [0, 1, 2] rfl)
  have L132 : ∀ (n : Nat) (G : GS) (x2 : Int) (k : (GS → Int → Option (GS))) (hK : ∀ (G : GS) (x2 : Int), k G x2 = some Gz → ∀ (H : Heap) (locs : List Loc), gH E s G H locs → ∀ ls, lv_has ls 3 [(0, .ref (eA E 3 o)), (1, .ref (eA E 3 p1)), (2, vI x2)] → W p l e (gRm 2 44 0 0) s m ([.ref (eA E 3 o), .ref (eA E 3 p1)] : List Value).toArray below meth c H locs 0 0 (MQ below (gQv E Gz) ([.ref (eA E 3 o), .ref (eA E 3 p1)] : List Value).toArray s 0 0 (eF E)) (F0 m 159 ls [])), ∀ (H : Heap) (locs : List Loc), gH E s G H locs → ∀ ls, lv_has ls 3 [(0, .ref (eA E 3 o)), (1, .ref (eA E 3 p1)), (2, vI x2)] → f_X3_copyFrom_L132 o p1 n G x2 k = some Gz → W p l e (gRm 2 44 0 0) s m ([.ref (eA E 3 o), .ref (eA E 3 p1)] : List Value).toArray below meth c H locs 0 0 (MQ below (gQv E Gz) ([.ref (eA E 3 o), .ref (eA E 3 p1)] : List Value).toArray s 0 0 (eF E)) (F0 m 132 ls []) := by
    intro n
    induction n with
    | zero =>
      intro G x2 k hK H locs h ls hl hf
      exact absurd hf (by simp [f_X3_copyFrom_L132])
    | succ n ih =>
      intro G x2 k hK H locs h ls hl hf
      unfold f_X3_copyFrom_L132 at hf
      refine g_iload_n C hl 2 rfl rfl (gdec kX3_copyFrom_1 10 rfl) ?_
      refine g_aload_n C hl 0 rfl rfl (gdec kX3_copyFrom_1 11 rfl) ?_
      refine gf_X3_51 C h ho (gdec kX3_copyFrom_1 12 rfl) ?_
      obtain ⟨h25, hf⟩ := gd_s hf
      obtain ⟨h26, hf⟩ := gd_s hf
      refine g_icmp_ge C (tgt := 159) h25 h26 (by decide) (gdec kX3_copyFrom_1 13 rfl) (fun c27 => ?_) (fun c27 => ?_)
      · replace hf := ifp c27 hf
        refine g_aload_n C hl 0 rfl rfl (gdec kX3_copyFrom_1 14 rfl) ?_
        refine g_iload_n C hl 2 rfl rfl (gdec kX3_copyFrom_1 15 rfl) ?_
        obtain ⟨h28, hf⟩ := ga_s hf
        refine g_cr h (g_runV C h ho (by decide) rfl (c_X3_teamRow l E _ _ _ ho _ (e_X3_teamRow _ _ _ h28)) wM_X3_82 wI_X3_teamRow wS_X3_teamRow wN_X3 wC_X3_teamRow rfl ny_X3_teamRow rfl ⟨Nat.le_of_ble_eq_true rfl, Nat.le_of_ble_eq_true rfl⟩ hl.1 rfl (Nat.le_of_ble_eq_true rfl) (gdec kX3_copyFrom_1 16 rfl) ⟨Nat.zero_le _, Nat.zero_le _⟩) (fun H locs h => ?_)
        have k29 : gOk E 6 (10 * o + x2) := gok6 C (gcl_3_2 C ho) h28
        refine g_aload_n C hl 1 rfl rfl (gdec kX3_copyFrom_1 17 rfl) ?_
        refine g_iload_n C hl 2 rfl rfl (gdec kX3_copyFrom_1 18 rfl) ?_
        refine g_cr h (g_runV C h hp1 (by decide) rfl (c_X3_teamRow l E _ _ _ hp1 _ (e_X3_teamRow _ _ _ h28)) wM_X3_82 wI_X3_teamRow wS_X3_teamRow wN_X3 wC_X3_teamRow rfl ny_X3_teamRow rfl ⟨Nat.le_of_ble_eq_true rfl, Nat.le_of_ble_eq_true rfl⟩ hl.1 rfl (Nat.le_of_ble_eq_true rfl) (gdec kX3_copyFrom_1 19 rfl) ⟨Nat.zero_le _, Nat.zero_le _⟩) (fun H locs h => ?_)
        have k30 : gOk E 6 (10 * p1 + x2) := gok6 C (gcl_3_2 C hp1) h28
        obtain ⟨G31, q32, hf⟩ := bn1_s hf
        refine g_cv h (g_runV C h k29 (by decide) rfl (c_X6_copyFrom l E _ _ _ k29 k30 _ q32) wM_X3_86 wI_X6_copyFrom wS_X6_copyFrom wN_X6 wC_X6_copyFrom rfl ny_X6_copyFrom rfl ⟨Nat.le_of_ble_eq_true rfl, Nat.le_of_ble_eq_true rfl⟩ hl.1 rfl (Nat.le_of_ble_eq_true rfl) (gdec kX3_copyFrom_1 20 rfl) ⟨Nat.zero_le _, Nat.zero_le _⟩) (fun H locs h => ?_)
        refine g_iinc C (k := 2) [(2, vI (x2 + 1)), (0, .ref (eA E 3 o)), (1, .ref (eA E 3 p1))] hl rfl (by decide) rfl (gdec kX3_copyFrom_1 21 rfl) (fun ls hl => ?_)
        refine g_goto C (tgt := 132) (by decide) (gdec kX3_copyFrom_1 22 rfl) ?_
        exact ih _ _ k hK H locs h ls (lv_sub hl [1, 2, 0] rfl) hf
      · replace hf := ifn c27 hf
        exact hK _ _ hf H locs h ls (lv_sub hl [0, 1, 2] rfl)
  have L161 : ∀ (n : Nat) (G : GS) (x2 : Int) (k : (GS → Int → Option (GS))) (hK : ∀ (G : GS) (x2 : Int), k G x2 = some Gz → ∀ (H : Heap) (locs : List Loc), gH E s G H locs → ∀ ls, lv_has ls 3 [(0, .ref (eA E 3 o)), (1, .ref (eA E 3 p1)), (2, vI x2)] → W p l e (gRm 2 44 0 0) s m ([.ref (eA E 3 o), .ref (eA E 3 p1)] : List Value).toArray below meth c H locs 0 0 (MQ below (gQv E Gz) ([.ref (eA E 3 o), .ref (eA E 3 p1)] : List Value).toArray s 0 0 (eF E)) (F0 m 188 ls [])), ∀ (H : Heap) (locs : List Loc), gH E s G H locs → ∀ ls, lv_has ls 3 [(0, .ref (eA E 3 o)), (1, .ref (eA E 3 p1)), (2, vI x2)] → f_X3_copyFrom_L161 o p1 n G x2 k = some Gz → W p l e (gRm 2 44 0 0) s m ([.ref (eA E 3 o), .ref (eA E 3 p1)] : List Value).toArray below meth c H locs 0 0 (MQ below (gQv E Gz) ([.ref (eA E 3 o), .ref (eA E 3 p1)] : List Value).toArray s 0 0 (eF E)) (F0 m 161 ls []) := by
    intro n
    induction n with
    | zero =>
      intro G x2 k hK H locs h ls hl hf
      exact absurd hf (by simp [f_X3_copyFrom_L161])
    | succ n ih =>
      intro G x2 k hK H locs h ls hl hf
      unfold f_X3_copyFrom_L161 at hf
      refine g_iload_n C hl 2 rfl rfl (gdec kX3_copyFrom_1 25 rfl) ?_
      refine g_aload_n C hl 0 rfl rfl (gdec kX3_copyFrom_1 26 rfl) ?_
      refine gf_X3_54 C h ho (gdec kX3_copyFrom_1 27 rfl) ?_
      obtain ⟨h35, hf⟩ := gd_s hf
      obtain ⟨h36, hf⟩ := gd_s hf
      refine g_icmp_ge C (tgt := 188) h35 h36 (by decide) (gdec kX3_copyFrom_1 28 rfl) (fun c37 => ?_) (fun c37 => ?_)
      · replace hf := ifp c37 hf
        refine g_aload_n C hl 0 rfl rfl (gdec kX3_copyFrom_1 29 rfl) ?_
        refine g_iload_n C hl 2 rfl rfl (gdec kX3_copyFrom_1 30 rfl) ?_
        obtain ⟨h38, hf⟩ := ga_s hf
        refine g_cr h (g_runV C h ho (by decide) rfl (c_X3_letterRow l E _ _ _ ho _ (e_X3_letterRow _ _ _ h38)) wM_X3_89 wI_X3_letterRow wS_X3_letterRow wN_X3 wC_X3_letterRow rfl ny_X3_letterRow rfl ⟨Nat.le_of_ble_eq_true rfl, Nat.le_of_ble_eq_true rfl⟩ hl.1 rfl (Nat.le_of_ble_eq_true rfl) (gdec kX3_copyFrom_1 31 rfl) ⟨Nat.zero_le _, Nat.zero_le _⟩) (fun H locs h => ?_)
        have k39 : gOk E 2 (12 * o + x2) := gok2 C (gcl_3_3 C ho) h38
        refine g_aload_n C hl 1 rfl rfl (gdec kX3_copyFrom_1 32 rfl) ?_
        refine g_iload_n C hl 2 rfl rfl (gdec kX3_copyFrom_1 33 rfl) ?_
        refine g_cr h (g_runV C h hp1 (by decide) rfl (c_X3_letterRow l E _ _ _ hp1 _ (e_X3_letterRow _ _ _ h38)) wM_X3_89 wI_X3_letterRow wS_X3_letterRow wN_X3 wC_X3_letterRow rfl ny_X3_letterRow rfl ⟨Nat.le_of_ble_eq_true rfl, Nat.le_of_ble_eq_true rfl⟩ hl.1 rfl (Nat.le_of_ble_eq_true rfl) (gdec kX3_copyFrom_1 34 rfl) ⟨Nat.zero_le _, Nat.zero_le _⟩) (fun H locs h => ?_)
        have k40 : gOk E 2 (12 * p1 + x2) := gok2 C (gcl_3_3 C hp1) h38
        obtain ⟨G41, q42, hf⟩ := bn1_s hf
        refine g_cv h (g_runV C h k39 (by decide) rfl (c_X2_copyFrom l E _ _ _ k39 k40 _ q42) wM_X3_93 wI_X2_copyFrom wS_X2_copyFrom wN_X2 wC_X2_copyFrom rfl ny_X2_copyFrom rfl ⟨Nat.le_of_ble_eq_true rfl, Nat.le_of_ble_eq_true rfl⟩ hl.1 rfl (Nat.le_of_ble_eq_true rfl) (gdec kX3_copyFrom_1 35 rfl) ⟨Nat.zero_le _, Nat.zero_le _⟩) (fun H locs h => ?_)
        refine g_iinc C (k := 2) [(2, vI (x2 + 1)), (0, .ref (eA E 3 o)), (1, .ref (eA E 3 p1))] hl rfl (by decide) rfl (gdec kX3_copyFrom_1 36 rfl) (fun ls hl => ?_)
        refine g_goto C (tgt := 161) (by decide) (gdec kX3_copyFrom_1 37 rfl) ?_
        exact ih _ _ k hK H locs h ls (lv_sub hl [1, 2, 0] rfl) hf
      · replace hf := ifn c37 hf
        exact hK _ _ hf H locs h ls (lv_sub hl [0, 1, 2] rfl)
  unfold f_X3_copyFrom at hf
  refine g_aload_n C hl 0 rfl rfl (gdec kX3_copyFrom 0 rfl) ?_
  refine g_aload_n C hl 1 rfl rfl (gdec kX3_copyFrom 1 rfl) ?_
  refine gf_X3_47 C h hp1 (gdec kX3_copyFrom 2 rfl) ?_
  refine gp_X3_47 C h ho (gdec kX3_copyFrom 3 rfl) (fun H locs h => ?_)
  refine g_aload_n C hl 0 rfl rfl (gdec kX3_copyFrom 4 rfl) ?_
  refine g_aload_n C hl 1 rfl rfl (gdec kX3_copyFrom 5 rfl) ?_
  refine gf_X3_51 C h hp1 (gdec kX3_copyFrom 6 rfl) ?_
  refine gp_X3_51 C h ho (gdec kX3_copyFrom 7 rfl) (fun H locs h => ?_)
  refine g_aload_n C hl 0 rfl rfl (gdec kX3_copyFrom 8 rfl) ?_
  refine g_aload_n C hl 1 rfl rfl (gdec kX3_copyFrom 9 rfl) ?_
  refine gf_X3_54 C h hp1 (gdec kX3_copyFrom 10 rfl) ?_
  refine gp_X3_54 C h ho (gdec kX3_copyFrom 11 rfl) (fun H locs h => ?_)
  obtain ⟨G1, e2, hf⟩ := nm_s hf
  rw [e2] at h
  refine g_aload_n C hl 0 rfl rfl (gdec kX3_copyFrom 12 rfl) ?_
  refine g_aload_n C hl 1 rfl rfl (gdec kX3_copyFrom 13 rfl) ?_
  refine gf_X3_57 C h hp1 (gdec kX3_copyFrom 14 rfl) ?_
  refine gp_X3_57 C h ho (gdec kX3_copyFrom 15 rfl) (fun H locs h => ?_)
  refine g_aload_n C hl 0 rfl rfl (gdec kX3_copyFrom 16 rfl) ?_
  refine g_aload_n C hl 1 rfl rfl (gdec kX3_copyFrom 17 rfl) ?_
  refine gf_X3_60 C h hp1 (gdec kX3_copyFrom 18 rfl) ?_
  refine gp_X3_60 C h ho (gdec kX3_copyFrom 19 rfl) (fun H locs h => ?_)
  refine g_aload_n C hl 0 rfl rfl (gdec kX3_copyFrom 20 rfl) ?_
  refine g_aload_n C hl 1 rfl rfl (gdec kX3_copyFrom 21 rfl) ?_
  refine gf_X3_63 C h hp1 (gdec kX3_copyFrom 22 rfl) ?_
  refine gp_X3_63 C h ho (gdec kX3_copyFrom 23 rfl) (fun H locs h => ?_)
  obtain ⟨G3, e4, hf⟩ := nm_s hf
  rw [e4] at h
  refine g_aload_n C hl 0 rfl rfl (gdec kX3_copyFrom 24 rfl) ?_
  refine g_aload_n C hl 1 rfl rfl (gdec kX3_copyFrom 25 rfl) ?_
  refine gf_X3_66 C h hp1 (gdec kX3_copyFrom 26 rfl) ?_
  refine gp_X3_66 C h ho (gdec kX3_copyFrom 27 rfl) (fun H locs h => ?_)
  refine g_aload_n C hl 0 rfl rfl (gdec kX3_copyFrom 28 rfl) ?_
  refine g_aload_n C hl 1 rfl rfl (gdec kX3_copyFrom 29 rfl) ?_
  refine gf_X3_69 C h hp1 (gdec kX3_copyFrom 30 rfl) ?_
  refine gp_X3_69 C h ho (gdec kX3_copyFrom 31 rfl) (fun H locs h => ?_)
  refine g_aload_n C hl 0 rfl rfl (gdec kX3_copyFrom 32 rfl) ?_
  refine g_aload_n C hl 1 rfl rfl (gdec kX3_copyFrom 33 rfl) ?_
  refine gf_X3_72 C h hp1 (gdec kX3_copyFrom 34 rfl) ?_
  refine gp_X3_72 C h ho (gdec kX3_copyFrom 35 rfl) (fun H locs h => ?_)
  obtain ⟨G5, e6, hf⟩ := nm_s hf
  rw [e6] at h
  refine g_iconst C (gdec kX3_copyFrom 36 rfl) ?_
  refine g_istore_n C [(2, vI 0), (0, .ref (eA E 3 o)), (1, .ref (eA E 3 p1))] hl rfl (by decide) rfl (gdec kX3_copyFrom 37 rfl) (fun ls hl => ?_)
  refine L74 gFuel _ _ _ (fun G15 y2_14 hf H locs h ls hl => ?_) H locs h ls (lv_sub hl [1, 2, 0] rfl) hf
  refine g_iconst C (gdec kX3_copyFrom 52 rfl) ?_
  refine g_istore_n C [(2, vI 0), (0, .ref (eA E 3 o)), (1, .ref (eA E 3 p1))] hl rfl (by decide) rfl (gdec kX3_copyFrom 53 rfl) (fun ls hl => ?_)
  refine L103 gFuel _ _ _ (fun G24 y2_23 hf H locs h ls hl => ?_) H locs h ls (lv_sub hl [1, 2, 0] rfl) hf
  refine g_iconst C (gdec kX3_copyFrom_1 8 rfl) ?_
  refine g_istore_n C [(2, vI 0), (0, .ref (eA E 3 o)), (1, .ref (eA E 3 p1))] hl rfl (by decide) rfl (gdec kX3_copyFrom_1 9 rfl) (fun ls hl => ?_)
  refine L132 gFuel _ _ _ (fun G34 y2_33 hf H locs h ls hl => ?_) H locs h ls (lv_sub hl [1, 2, 0] rfl) hf
  refine g_iconst C (gdec kX3_copyFrom_1 23 rfl) ?_
  refine g_istore_n C [(2, vI 0), (0, .ref (eA E 3 o)), (1, .ref (eA E 3 p1))] hl rfl (by decide) rfl (gdec kX3_copyFrom_1 24 rfl) (fun ls hl => ?_)
  refine L161 gFuel _ _ _ (fun G44 y2_43 hf H locs h ls hl => ?_) H locs h ls (lv_sub hl [1, 2, 0] rfl) hf
  exact g_vret C h hf (gdec kX3_copyFrom_1 38 rfl)
def f_X0_save (G : GS) (p1 : Int) : Option (GS) :=
  gd (G 0 0 1) (if (G 0 0 1) = 4 then bn1 (f_X0_dropOldest G) (fun G3 => ga (G3 0 0 1) 4 (ga (G3 12 0 (G3 0 0 1)) 6 (bn1 (f_X3_copyFrom G3 (G3 12 0 (G3 0 0 1)) p1) (fun G8 => some (gup G8 0 0 1 ((G8 0 0 1) + 1)))))) else ga (G 0 0 1) 4 (ga (G 12 0 (G 0 0 1)) 6 (bn1 (f_X3_copyFrom G (G 12 0 (G 0 0 1)) p1) (fun G13 => some (gup G13 0 0 1 ((G13 0 0 1) + 1))))))
set_option maxHeartbeats 4000000 in
set_option maxRecDepth 100000 in
theorem c_X0_save (l : Launch) (E : gEnv) (G : GS) (p1 : Int) (ho : gOk E 0 0) (hp1 : gOk E 3 p1) (Gz : GS) (hf : f_X0_save G p1 = some Gz) : gMet l yX0_save cX0_save 2 none 3 66 0 0 [.ref (eA E 0 0), .ref (eA E 3 p1)] E G (gQv E Gz) := by
  refine g_met (by decide +kernel) (Nat.le_of_ble_eq_true rfl) ?_
  intro p e s m below meth c C H locs h ls hl
  have C : gC p s m _ meth c RX0 cX0_save 2 none E := C
  have hl : lv_has ls 2 [(0, .ref (eA E 0 0)), (1, .ref (eA E 3 p1))] := hl
  unfold f_X0_save at hf
  refine g_aload_n C hl 0 rfl rfl (gdec kX0_save 0 rfl) ?_
  refine gf_X0_18 C h ho (gdec kX0_save 1 rfl) ?_
  refine g_iconst C (gdec kX0_save 2 rfl) ?_
  obtain ⟨h1, hf⟩ := gd_s hf
  refine g_icmp_ne C (tgt := 12) h1 (by decide) (by decide) (gdec kX0_save 3 rfl) (fun c2 => ?_) (fun c2 => ?_)
  · replace hf := ifp c2 hf
    refine g_aload_n C hl 0 rfl rfl (gdec kX0_save 4 rfl) ?_
    obtain ⟨G3, q4, hf⟩ := bn1_s hf
    refine g_cv h (g_runV C h ho (by decide) rfl (c_X0_dropOldest l E _ ho _ q4) wM_X0_22 wI_X0_dropOldest wS_X0_dropOldest wN_X0 wC_X0_dropOldest rfl ny_X0_dropOldest rfl ⟨Nat.le_of_ble_eq_true rfl, Nat.le_of_ble_eq_true rfl⟩ hl.1 rfl (Nat.le_of_ble_eq_true rfl) (gdec kX0_save 5 rfl) ⟨Nat.zero_le _, Nat.zero_le _⟩) (fun H locs h => ?_)
    refine g_aload_n C hl 0 rfl rfl (gdec kX0_save 6 rfl) ?_
    refine g_aload_n C hl 0 rfl rfl (gdec kX0_save 7 rfl) ?_
    refine gf_X0_18 C h ho (gdec kX0_save 8 rfl) ?_
    obtain ⟨h5, hf⟩ := ga_s hf
    obtain ⟨h6, hf⟩ := ga_s hf
    refine g_cr h (g_runV C h ho (by decide) rfl (c_X0_state l E _ _ ho _ (e_X0_state _ _ h5 h6)) wM_X0_25 wI_X0_state wS_X0_state wN_X0 wC_X0_state rfl ny_X0_state rfl ⟨Nat.le_of_ble_eq_true rfl, Nat.le_of_ble_eq_true rfl⟩ hl.1 rfl (Nat.le_of_ble_eq_true rfl) (gdec kX0_save 9 rfl) ⟨Nat.zero_le _, Nat.zero_le _⟩) (fun H locs h => ?_)
    have k7 : gOk E 3 (G3 12 0 (G3 0 0 1)) := gok3 C (gcl_0_0 C ho) h6
    refine g_aload_n C hl 1 rfl rfl (gdec kX0_save 10 rfl) ?_
    obtain ⟨G8, q9, hf⟩ := bn1_s hf
    refine g_cv h (g_runV C h k7 (by decide) rfl (c_X3_copyFrom l E _ _ _ k7 hp1 _ q9) wM_X0_29 wI_X3_copyFrom wS_X3_copyFrom wN_X3 wC_X3_copyFrom rfl ny_X3_copyFrom rfl ⟨Nat.le_of_ble_eq_true rfl, Nat.le_of_ble_eq_true rfl⟩ hl.1 rfl (Nat.le_of_ble_eq_true rfl) (gdec kX0_save 11 rfl) ⟨Nat.zero_le _, Nat.zero_le _⟩) (fun H locs h => ?_)
    refine g_aload_n C hl 0 rfl rfl (gdec kX0_save 12 rfl) ?_
    refine g_dup C rfl (gdec kX0_save 13 rfl) ?_
    refine gf_X0_18 C h ho (gdec kX0_save 14 rfl) ?_
    refine g_iconst C (gdec kX0_save 15 rfl) ?_
    refine g_iadd C (gdec kX0_save 16 rfl) ?_
    refine gp_X0_18 C h ho (gdec kX0_save 17 rfl) (fun H locs h => ?_)
    exact g_vret C h hf (gdec kX0_save 18 rfl)
  · replace hf := ifn c2 hf
    refine g_aload_n C hl 0 rfl rfl (gdec kX0_save 6 rfl) ?_
    refine g_aload_n C hl 0 rfl rfl (gdec kX0_save 7 rfl) ?_
    refine gf_X0_18 C h ho (gdec kX0_save 8 rfl) ?_
    obtain ⟨h10, hf⟩ := ga_s hf
    obtain ⟨h11, hf⟩ := ga_s hf
    refine g_cr h (g_runV C h ho (by decide) rfl (c_X0_state l E _ _ ho _ (e_X0_state _ _ h10 h11)) wM_X0_25 wI_X0_state wS_X0_state wN_X0 wC_X0_state rfl ny_X0_state rfl ⟨Nat.le_of_ble_eq_true rfl, Nat.le_of_ble_eq_true rfl⟩ hl.1 rfl (Nat.le_of_ble_eq_true rfl) (gdec kX0_save 9 rfl) ⟨Nat.zero_le _, Nat.zero_le _⟩) (fun H locs h => ?_)
    have k12 : gOk E 3 (G 12 0 (G 0 0 1)) := gok3 C (gcl_0_0 C ho) h11
    refine g_aload_n C hl 1 rfl rfl (gdec kX0_save 10 rfl) ?_
    obtain ⟨G13, q14, hf⟩ := bn1_s hf
    refine g_cv h (g_runV C h k12 (by decide) rfl (c_X3_copyFrom l E _ _ _ k12 hp1 _ q14) wM_X0_29 wI_X3_copyFrom wS_X3_copyFrom wN_X3 wC_X3_copyFrom rfl ny_X3_copyFrom rfl ⟨Nat.le_of_ble_eq_true rfl, Nat.le_of_ble_eq_true rfl⟩ hl.1 rfl (Nat.le_of_ble_eq_true rfl) (gdec kX0_save 11 rfl) ⟨Nat.zero_le _, Nat.zero_le _⟩) (fun H locs h => ?_)
    refine g_aload_n C hl 0 rfl rfl (gdec kX0_save 12 rfl) ?_
    refine g_dup C rfl (gdec kX0_save 13 rfl) ?_
    refine gf_X0_18 C h ho (gdec kX0_save 14 rfl) ?_
    refine g_iconst C (gdec kX0_save 15 rfl) ?_
    refine g_iadd C (gdec kX0_save 16 rfl) ?_
    refine gp_X0_18 C h ho (gdec kX0_save 17 rfl) (fun H locs h => ?_)
    exact g_vret C h hf (gdec kX0_save 18 rfl)
def f_X6_stands (G : GS) (o : Int) : Option (Int) :=
  gd (G 6 o 3) (if (G 6 o 3) = (-1) then some 1 else some 0)
set_option maxHeartbeats 4000000 in
set_option maxRecDepth 100000 in
theorem c_X6_stands (l : Launch) (E : gEnv) (G : GS) (o : Int) (ho : gOk E 6 o) (rz : Int) (hf : f_X6_stands G o = some rz) : gMet l yX6_stands cX6_stands 1 (some .boolean) 0 0 0 0 [.ref (eA E 6 o)] E G (gQi E G rz) := by
  refine g_met (by decide +kernel) (Nat.le_of_ble_eq_true rfl) ?_
  intro p e s m below meth c C H locs h ls hl
  have C : gC p s m _ meth c RX6 cX6_stands 1 (some .boolean) E := C
  have hl : lv_has ls 1 [(0, .ref (eA E 6 o))] := hl
  unfold f_X6_stands at hf
  refine g_aload_n C hl 0 rfl rfl (gdec kX6_stands 0 rfl) ?_
  refine gf_X6_41 C h ho (gdec kX6_stands 1 rfl) ?_
  refine g_iconst C (gdec kX6_stands 2 rfl) ?_
  obtain ⟨h1, hf⟩ := gd_s hf
  refine g_icmp_ne C (tgt := 12) h1 (by decide) (by decide) (gdec kX6_stands 3 rfl) (fun c2 => ?_) (fun c2 => ?_)
  · replace hf := ifp c2 hf
    refine g_iconst C (gdec kX6_stands 4 rfl) ?_
    refine g_goto C (tgt := 13) (by decide) (gdec kX6_stands 5 rfl) ?_
    exact g_zret C h (Or.inr rfl) (congrArg (Option.map (Prod.mk _)) hf) (gdec kX6_stands 7 rfl)
  · replace hf := ifn c2 hf
    refine g_iconst C (gdec kX6_stands 6 rfl) ?_
    exact g_zret C h (Or.inl rfl) (congrArg (Option.map (Prod.mk _)) hf) (gdec kX6_stands 7 rfl)
def f_X3_innRow (G : GS) (o : Int) (p1 : Int) : Option (Int) :=
  gd p1 (if p1 < 0 then some (8 * o + 0) else if p1 < 8 then ga p1 8 (some (8 * o + p1)) else some (8 * o + 0))
set_option maxHeartbeats 4000000 in
set_option maxRecDepth 100000 in
theorem c_X3_innRow (l : Launch) (E : gEnv) (G : GS) (o : Int) (p1 : Int) (ho : gOk E 3 o) (rz : Int) (hf : f_X3_innRow G o p1 = some rz) : gMet l yX3_innRow cX3_innRow 2 (some (.object RX1)) 0 0 0 0 [.ref (eA E 3 o), vI p1] E G (gQr E G 1 rz) := by
  refine g_met (by decide +kernel) (Nat.le_of_ble_eq_true rfl) ?_
  intro p e s m below meth c C H locs h ls hl
  have C : gC p s m _ meth c RX3 cX3_innRow 2 (some (.object RX1)) E := C
  have hl : lv_has ls 2 [(0, .ref (eA E 3 o)), (1, vI p1)] := hl
  unfold f_X3_innRow at hf
  refine g_aload_n C hl 0 rfl rfl (gdec kX3_innRow 0 rfl) ?_
  refine gf_X3_19 C h ho (gdec kX3_innRow 1 rfl) ?_
  refine g_iload_n C hl 1 rfl rfl (gdec kX3_innRow 2 rfl) ?_
  obtain ⟨h1, hf⟩ := gd_s hf
  refine g_if_lt C (tgt := 18) h1 (by decide) (gdec kX3_innRow 3 rfl) (fun c2 => ?_) (fun c2 => ?_)
  · replace hf := ifp c2 hf
    refine g_iconst C (gdec kX3_innRow 9 rfl) ?_
    refine g_ald15 C h (gcl_3_1 C ho) (⟨by decide, by decide⟩ : (0 : Int) ≤ 0 ∧ (0 : Int) < 8) (gdec kX3_innRow 10 rfl) ?_
    have k3 : gOk E 1 (8 * o + 0) := gok1 C (gcl_3_1 C ho) (⟨by decide, by decide⟩ : (0 : Int) ≤ 0 ∧ (0 : Int) < 8)
    exact g_aret C h (congrArg (Option.map (Prod.mk _)) hf) (gdec kX3_innRow 11 rfl)
  · replace hf := ifn c2 hf
    refine g_iload_n C hl 1 rfl rfl (gdec kX3_innRow 4 rfl) ?_
    refine g_bipush C (gdec kX3_innRow 5 rfl) rfl ?_
    refine g_icmp_ge C (tgt := 18) h1 (by decide) (by decide) (gdec kX3_innRow 6 rfl) (fun c4 => ?_) (fun c4 => ?_)
    · replace hf := ifp c4 hf
      refine g_iload_n C hl 1 rfl rfl (gdec kX3_innRow 7 rfl) ?_
      refine g_goto C (tgt := 19) (by decide) (gdec kX3_innRow 8 rfl) ?_
      obtain ⟨h5, hf⟩ := ga_s hf
      refine g_ald15 C h (gcl_3_1 C ho) h5 (gdec kX3_innRow 10 rfl) ?_
      have k6 : gOk E 1 (8 * o + p1) := gok1 C (gcl_3_1 C ho) h5
      exact g_aret C h (congrArg (Option.map (Prod.mk _)) hf) (gdec kX3_innRow 11 rfl)
    · replace hf := ifn c4 hf
      refine g_iconst C (gdec kX3_innRow 9 rfl) ?_
      refine g_ald15 C h (gcl_3_1 C ho) (⟨by decide, by decide⟩ : (0 : Int) ≤ 0 ∧ (0 : Int) < 8) (gdec kX3_innRow 10 rfl) ?_
      have k7 : gOk E 1 (8 * o + 0) := gok1 C (gcl_3_1 C ho) (⟨by decide, by decide⟩ : (0 : Int) ≤ 0 ∧ (0 : Int) < 8)
      exact g_aret C h (congrArg (Option.map (Prod.mk _)) hf) (gdec kX3_innRow 11 rfl)
theorem e_X3_innRow (G : GS) (o p1 : Int) (h : 0 ≤ p1 ∧ p1 < 8) : f_X3_innRow G o p1 = some (8 * o + p1) := by
  unfold f_X3_innRow gd ga
  rw [if_pos (show inR p1 by unfold inR; omega), if_neg (by omega), if_pos h.2, if_pos h]
def f_X6_rest (G : GS) (o : Int) (p1 : Int) : Option (GS) :=
  gd ((G 6 o 1) - p1) (some (gup G 6 o 1 (if 0 < (G 6 o 1) - p1 then (G 6 o 1) - p1 else 0)))
set_option maxHeartbeats 4000000 in
set_option maxRecDepth 100000 in
theorem c_X6_rest (l : Launch) (E : gEnv) (G : GS) (o : Int) (p1 : Int) (ho : gOk E 6 o) (Gz : GS) (hf : f_X6_rest G o p1 = some Gz) : gMet l yX6_rest cX6_rest 2 none 1 21 0 0 [.ref (eA E 6 o), vI p1] E G (gQv E Gz) := by
  refine g_met (by decide +kernel) (Nat.le_of_ble_eq_true rfl) ?_
  intro p e s m below meth c C H locs h ls hl
  have C : gC p s m _ meth c RX6 cX6_rest 2 none E := C
  have hl : lv_has ls 2 [(0, .ref (eA E 6 o)), (1, vI p1)] := hl
  unfold f_X6_rest at hf
  refine g_aload_n C hl 0 rfl rfl (gdec kX6_rest 0 rfl) ?_
  refine g_iconst C (gdec kX6_rest 1 rfl) ?_
  refine g_aload_n C hl 0 rfl rfl (gdec kX6_rest 2 rfl) ?_
  refine gf_X6_15 C h ho (gdec kX6_rest 3 rfl) ?_
  refine g_iload_n C hl 1 rfl rfl (gdec kX6_rest 4 rfl) ?_
  refine g_isub C (gdec kX6_rest 5 rfl) ?_
  obtain ⟨h1, hf⟩ := gd_s hf
  refine g_max C (by decide) h1 wM_X6_57 wT_Math_max wN_java_lang_Math wC_Math_max hl.1 (by decide) (Nat.le_of_ble_eq_true rfl) (Nat.le_of_ble_eq_true rfl) (Nat.le_of_ble_eq_true rfl) (gdec kX6_rest 6 rfl) ?_
  refine gp_X6_15 C h ho (gdec kX6_rest 7 rfl) (fun H locs h => ?_)
  exact g_vret C h hf (gdec kX6_rest 8 rfl)
def f_X3_restTeam (G : GS) (o : Int) (p1 : Int) : Option (GS) :=
  ga (G 6 p1 2) 8 (gd (G 6 p1 1) (if 0 < (G 6 p1 1) then gd (G 1 (8 * o + (G 6 p1 2)) 1) (if 0 < (G 1 (8 * o + (G 6 p1 2)) 1) then nm (gup (gup G 1 (8 * o + (G 6 p1 2)) 1 ((G 1 (8 * o + (G 6 p1 2)) 1) - 1)) 6 p1 11 (((gup G 1 (8 * o + (G 6 p1 2)) 1 ((G 1 (8 * o + (G 6 p1 2)) 1) - 1)) 6 p1 11) + 1)) (fun G7 => bn1 (f_X6_rest (gup G7 3 o 12 ((G7 3 o 12) + 1)) p1 6) (fun G9 => some G9)) else bn1 (f_X6_rest G p1 1) (fun G11 => some G11)) else bn1 (f_X6_rest G p1 1) (fun G13 => some G13)))
set_option maxHeartbeats 4000000 in
set_option maxRecDepth 100000 in
theorem c_X3_restTeam (l : Launch) (E : gEnv) (G : GS) (o : Int) (p1 : Int) (ho : gOk E 3 o) (hp1 : gOk E 6 p1) (Gz : GS) (hf : f_X3_restTeam G o p1 = some Gz) : gMet l yX3_restTeam cX3_restTeam 3 none 2 42 0 0 [.ref (eA E 3 o), .ref (eA E 6 p1)] E G (gQv E Gz) := by
  refine g_met (by decide +kernel) (Nat.le_of_ble_eq_true rfl) ?_
  intro p e s m below meth c C H locs h ls hl
  have C : gC p s m _ meth c RX3 cX3_restTeam 3 none E := C
  have hl : lv_has ls 3 [(0, .ref (eA E 3 o)), (1, .ref (eA E 6 p1))] := hl
  unfold f_X3_restTeam at hf
  refine g_aload_n C hl 0 rfl rfl (gdec kX3_restTeam 0 rfl) ?_
  refine g_aload_n C hl 1 rfl rfl (gdec kX3_restTeam 1 rfl) ?_
  refine gf_X3_135 C h hp1 (gdec kX3_restTeam 2 rfl) ?_
  obtain ⟨h1, hf⟩ := ga_s hf
  refine g_cr h (g_runV C h ho (by decide) rfl (c_X3_innRow l E _ _ _ ho _ (e_X3_innRow _ _ _ h1)) wM_X3_138 wI_X3_innRow wS_X3_innRow wN_X3 wC_X3_innRow rfl ny_X3_innRow rfl ⟨Nat.le_of_ble_eq_true rfl, Nat.le_of_ble_eq_true rfl⟩ hl.1 rfl (Nat.le_of_ble_eq_true rfl) (gdec kX3_restTeam 3 rfl) ⟨Nat.zero_le _, Nat.zero_le _⟩) (fun H locs h => ?_)
  have k2 : gOk E 1 (8 * o + (G 6 p1 2)) := gok1 C (gcl_3_1 C ho) h1
  refine g_astore_n C [(2, .ref (eA E 1 (8 * o + (G 6 p1 2)))), (0, .ref (eA E 3 o)), (1, .ref (eA E 6 p1))] hl rfl (by decide) rfl (gdec kX3_restTeam 4 rfl) (fun ls hl => ?_)
  refine g_aload_n C hl 2 rfl rfl (gdec kX3_restTeam 5 rfl) ?_
  refine gf_X3_142 C h hp1 (gdec kX3_restTeam 6 rfl) ?_
  obtain ⟨h3, hf⟩ := gd_s hf
  refine g_if_le C (tgt := 62) h3 (by decide) (gdec kX3_restTeam 7 rfl) (fun c4 => ?_) (fun c4 => ?_)
  · replace hf := ifp c4 hf
    refine g_aload_n C hl 0 rfl rfl (gdec kX3_restTeam 8 rfl) ?_
    refine gf_X3_145 C h k2 (gdec kX3_restTeam 9 rfl) ?_
    obtain ⟨h5, hf⟩ := gd_s hf
    refine g_if_le C (tgt := 62) h5 (by decide) (gdec kX3_restTeam 10 rfl) (fun c6 => ?_) (fun c6 => ?_)
    · replace hf := ifp c6 hf
      refine g_aload_n C hl 0 rfl rfl (gdec kX3_restTeam 11 rfl) ?_
      refine g_dup C rfl (gdec kX3_restTeam 12 rfl) ?_
      refine gf_X3_145 C h k2 (gdec kX3_restTeam 13 rfl) ?_
      refine g_iconst C (gdec kX3_restTeam 14 rfl) ?_
      refine g_isub C (gdec kX3_restTeam 15 rfl) ?_
      refine gp_X3_145 C h k2 (gdec kX3_restTeam 16 rfl) (fun H locs h => ?_)
      refine g_aload_n C hl 2 rfl rfl (gdec kX3_restTeam 17 rfl) ?_
      refine g_dup C rfl (gdec kX3_restTeam 18 rfl) ?_
      refine gf_X3_148 C h hp1 (gdec kX3_restTeam 19 rfl) ?_
      refine g_iconst C (gdec kX3_restTeam 20 rfl) ?_
      refine g_iadd C (gdec kX3_restTeam 21 rfl) ?_
      refine gp_X3_148 C h hp1 (gdec kX3_restTeam 22 rfl) (fun H locs h => ?_)
      obtain ⟨G7, e8, hf⟩ := nm_s hf
      rw [e8] at h
      refine g_aload_n C hl 1 rfl rfl (gdec kX3_restTeam 23 rfl) ?_
      refine g_dup C rfl (gdec kX3_restTeam 24 rfl) ?_
      refine gf_X3_72 C h ho (gdec kX3_restTeam 25 rfl) ?_
      refine g_iconst C (gdec kX3_restTeam 26 rfl) ?_
      refine g_iadd C (gdec kX3_restTeam 27 rfl) ?_
      refine gp_X3_72 C h ho (gdec kX3_restTeam 28 rfl) (fun H locs h => ?_)
      refine g_aload_n C hl 2 rfl rfl (gdec kX3_restTeam 29 rfl) ?_
      refine g_bipush C (gdec kX3_restTeam 30 rfl) rfl ?_
      obtain ⟨G9, q10, hf⟩ := bn1_s hf
      refine g_cv h (g_runV C h hp1 (by decide) rfl (c_X6_rest l E _ _ _ hp1 _ q10) wM_X3_149 wI_X6_rest wS_X6_rest wN_X6 wC_X6_rest rfl ny_X6_rest rfl ⟨Nat.le_of_ble_eq_true rfl, Nat.le_of_ble_eq_true rfl⟩ hl.1 rfl (Nat.le_of_ble_eq_true rfl) (gdec kX3_restTeam 31 rfl) ⟨Nat.zero_le _, Nat.zero_le _⟩) (fun H locs h => ?_)
      refine g_goto C (tgt := 67) (by decide) (gdec kX3_restTeam 32 rfl) ?_
      exact g_vret C h hf (gdec kX3_restTeam 36 rfl)
    · replace hf := ifn c6 hf
      refine g_aload_n C hl 2 rfl rfl (gdec kX3_restTeam 33 rfl) ?_
      refine g_iconst C (gdec kX3_restTeam 34 rfl) ?_
      obtain ⟨G11, q12, hf⟩ := bn1_s hf
      refine g_cv h (g_runV C h hp1 (by decide) rfl (c_X6_rest l E _ _ _ hp1 _ q12) wM_X3_149 wI_X6_rest wS_X6_rest wN_X6 wC_X6_rest rfl ny_X6_rest rfl ⟨Nat.le_of_ble_eq_true rfl, Nat.le_of_ble_eq_true rfl⟩ hl.1 rfl (Nat.le_of_ble_eq_true rfl) (gdec kX3_restTeam 35 rfl) ⟨Nat.zero_le _, Nat.zero_le _⟩) (fun H locs h => ?_)
      exact g_vret C h hf (gdec kX3_restTeam 36 rfl)
  · replace hf := ifn c4 hf
    refine g_aload_n C hl 2 rfl rfl (gdec kX3_restTeam 33 rfl) ?_
    refine g_iconst C (gdec kX3_restTeam 34 rfl) ?_
    obtain ⟨G13, q14, hf⟩ := bn1_s hf
    refine g_cv h (g_runV C h hp1 (by decide) rfl (c_X6_rest l E _ _ _ hp1 _ q14) wM_X3_149 wI_X6_rest wS_X6_rest wN_X6 wC_X6_rest rfl ny_X6_rest rfl ⟨Nat.le_of_ble_eq_true rfl, Nat.le_of_ble_eq_true rfl⟩ hl.1 rfl (Nat.le_of_ble_eq_true rfl) (gdec kX3_restTeam 35 rfl) ⟨Nat.zero_le _, Nat.zero_le _⟩) (fun H locs h => ?_)
    exact g_vret C h hf (gdec kX3_restTeam 36 rfl)
def f_X3_restTeams_L2 (o : Int) : Nat → GS → Int → (GS → Int → Option (GS)) → Option (GS)
  | 0, _, _, _ => none
  | n + 1, G, x1, k => gd x1 (gd (G 3 o 5) (if x1 < (G 3 o 5) then ga x1 10 (bn1 (f_X6_stands G (10 * o + x1)) (fun r6 => gd r6 (if r6 = 0 then f_X3_restTeams_L2 o n G (x1 + 1) k else bn1 (f_X3_restTeam G o (10 * o + x1)) (fun G11 => f_X3_restTeams_L2 o n G11 (x1 + 1) k)))) else k G x1))
def f_X3_restTeams (G : GS) (o : Int) : Option (GS) :=
  f_X3_restTeams_L2 o gFuel G 0 (fun G14 y1_13 => some G14)
set_option maxHeartbeats 4000000 in
set_option maxRecDepth 100000 in
theorem c_X3_restTeams (l : Launch) (E : gEnv) (G : GS) (o : Int) (ho : gOk E 3 o) (Gz : GS) (hf : f_X3_restTeams G o = some Gz) : gMet l yX3_restTeams cX3_restTeams 2 none 3 64 0 0 [.ref (eA E 3 o)] E G (gQv E Gz) := by
  refine g_met (by decide +kernel) (Nat.le_of_ble_eq_true rfl) ?_
  intro p e s m below meth c C H locs h ls hl
  have C : gC p s m _ meth c RX3 cX3_restTeams 2 none E := C
  have hl : lv_has ls 2 [(0, .ref (eA E 3 o))] := hl
  have L2 : ∀ (n : Nat) (G : GS) (x1 : Int) (k : (GS → Int → Option (GS))) (hK : ∀ (G : GS) (x1 : Int), k G x1 = some Gz → ∀ (H : Heap) (locs : List Loc), gH E s G H locs → ∀ ls, lv_has ls 2 [(0, .ref (eA E 3 o)), (1, vI x1)] → W p l e (gRm 3 64 0 0) s m ([.ref (eA E 3 o)] : List Value).toArray below meth c H locs 0 0 (MQ below (gQv E Gz) ([.ref (eA E 3 o)] : List Value).toArray s 0 0 (eF E)) (F0 m 36 ls [])), ∀ (H : Heap) (locs : List Loc), gH E s G H locs → ∀ ls, lv_has ls 2 [(0, .ref (eA E 3 o)), (1, vI x1)] → f_X3_restTeams_L2 o n G x1 k = some Gz → W p l e (gRm 3 64 0 0) s m ([.ref (eA E 3 o)] : List Value).toArray below meth c H locs 0 0 (MQ below (gQv E Gz) ([.ref (eA E 3 o)] : List Value).toArray s 0 0 (eF E)) (F0 m 2 ls []) := by
    intro n
    induction n with
    | zero =>
      intro G x1 k hK H locs h ls hl hf
      exact absurd hf (by simp [f_X3_restTeams_L2])
    | succ n ih =>
      intro G x1 k hK H locs h ls hl hf
      unfold f_X3_restTeams_L2 at hf
      refine g_iload_n C hl 1 rfl rfl (gdec kX3_restTeams 2 rfl) ?_
      refine g_aload_n C hl 0 rfl rfl (gdec kX3_restTeams 3 rfl) ?_
      refine gf_X3_51 C h ho (gdec kX3_restTeams 4 rfl) ?_
      obtain ⟨h1, hf⟩ := gd_s hf
      obtain ⟨h2, hf⟩ := gd_s hf
      refine g_icmp_ge C (tgt := 36) h1 h2 (by decide) (gdec kX3_restTeams 5 rfl) (fun c3 => ?_) (fun c3 => ?_)
      · replace hf := ifp c3 hf
        refine g_aload_n C hl 0 rfl rfl (gdec kX3_restTeams 6 rfl) ?_
        refine g_iload_n C hl 1 rfl rfl (gdec kX3_restTeams 7 rfl) ?_
        obtain ⟨h4, hf⟩ := ga_s hf
        refine g_cr h (g_runV C h ho (by decide) rfl (c_X3_teamRow l E _ _ _ ho _ (e_X3_teamRow _ _ _ h4)) wM_X3_82 wI_X3_teamRow wS_X3_teamRow wN_X3 wC_X3_teamRow rfl ny_X3_teamRow rfl ⟨Nat.le_of_ble_eq_true rfl, Nat.le_of_ble_eq_true rfl⟩ hl.1 rfl (Nat.le_of_ble_eq_true rfl) (gdec kX3_restTeams 8 rfl) ⟨Nat.zero_le _, Nat.zero_le _⟩) (fun H locs h => ?_)
        have k5 : gOk E 6 (10 * o + x1) := gok6 C (gcl_3_2 C ho) h4
        obtain ⟨r6, q7, hf⟩ := bn1_s hf
        refine g_ci h (g_runV C h k5 (by decide) rfl (c_X6_stands l E _ _ k5 _ q7) wM_X3_129 wI_X6_stands wS_X6_stands wN_X6 wC_X6_stands rfl ny_X6_stands rfl ⟨Nat.le_of_ble_eq_true rfl, Nat.le_of_ble_eq_true rfl⟩ hl.1 rfl (Nat.le_of_ble_eq_true rfl) (gdec kX3_restTeams 9 rfl) ⟨Nat.zero_le _, Nat.zero_le _⟩) (fun H locs h => ?_)
        obtain ⟨h8, hf⟩ := gd_s hf
        refine g_if_eq C (tgt := 30) h8 (by decide) (gdec kX3_restTeams 10 rfl) (fun c9 => ?_) (fun c9 => ?_)
        · replace hf := ifp c9 hf
          refine g_iinc C (k := 1) [(1, vI (x1 + 1)), (0, .ref (eA E 3 o))] hl rfl (by decide) rfl (gdec kX3_restTeams 16 rfl) (fun ls hl => ?_)
          refine g_goto C (tgt := 2) (by decide) (gdec kX3_restTeams 17 rfl) ?_
          exact ih _ _ k hK H locs h ls (lv_sub hl [1, 0] rfl) hf
        · replace hf := ifn c9 hf
          refine g_aload_n C hl 0 rfl rfl (gdec kX3_restTeams 11 rfl) ?_
          refine g_aload_n C hl 0 rfl rfl (gdec kX3_restTeams 12 rfl) ?_
          refine g_iload_n C hl 1 rfl rfl (gdec kX3_restTeams 13 rfl) ?_
          refine g_cr h (g_runV C h ho (by decide) rfl (c_X3_teamRow l E _ _ _ ho _ (e_X3_teamRow _ _ _ h4)) wM_X3_82 wI_X3_teamRow wS_X3_teamRow wN_X3 wC_X3_teamRow rfl ny_X3_teamRow rfl ⟨Nat.le_of_ble_eq_true rfl, Nat.le_of_ble_eq_true rfl⟩ hl.1 rfl (Nat.le_of_ble_eq_true rfl) (gdec kX3_restTeams 14 rfl) ⟨Nat.zero_le _, Nat.zero_le _⟩) (fun H locs h => ?_)
          have k10 : gOk E 6 (10 * o + x1) := gok6 C (gcl_3_2 C ho) h4
          obtain ⟨G11, q12, hf⟩ := bn1_s hf
          refine g_cv h (g_runV C h ho (by decide) rfl (c_X3_restTeam l E _ _ _ ho k10 _ q12) wM_X3_132 wI_X3_restTeam wS_X3_restTeam wN_X3 wC_X3_restTeam rfl ny_X3_restTeam rfl ⟨Nat.le_of_ble_eq_true rfl, Nat.le_of_ble_eq_true rfl⟩ hl.1 rfl (Nat.le_of_ble_eq_true rfl) (gdec kX3_restTeams 15 rfl) ⟨Nat.zero_le _, Nat.zero_le _⟩) (fun H locs h => ?_)
          refine g_iinc C (k := 1) [(1, vI (x1 + 1)), (0, .ref (eA E 3 o))] hl rfl (by decide) rfl (gdec kX3_restTeams 16 rfl) (fun ls hl => ?_)
          refine g_goto C (tgt := 2) (by decide) (gdec kX3_restTeams 17 rfl) ?_
          exact ih _ _ k hK H locs h ls (lv_sub hl [1, 0] rfl) hf
      · replace hf := ifn c3 hf
        exact hK _ _ hf H locs h ls (lv_sub hl [0, 1] rfl)
  unfold f_X3_restTeams at hf
  refine g_iconst C (gdec kX3_restTeams 0 rfl) ?_
  refine g_istore_n C [(1, vI 0), (0, .ref (eA E 3 o))] hl rfl (by decide) rfl (gdec kX3_restTeams 1 rfl) (fun ls hl => ?_)
  refine L2 gFuel _ _ _ (fun G14 y1_13 hf H locs h ls hl => ?_) H locs h ls (lv_sub hl [1, 0] rfl) hf
  exact g_vret C h hf (gdec kX3_restTeams 18 rfl)
def f_X3_stageRow (G : GS) (o : Int) (p1 : Int) : Option (Int) :=
  gd p1 (if p1 < 0 then some (7 * o + 0) else if p1 < 7 then ga p1 7 (some (7 * o + p1)) else some (7 * o + 0))
set_option maxHeartbeats 4000000 in
set_option maxRecDepth 100000 in
theorem c_X3_stageRow (l : Launch) (E : gEnv) (G : GS) (o : Int) (p1 : Int) (ho : gOk E 3 o) (rz : Int) (hf : f_X3_stageRow G o p1 = some rz) : gMet l yX3_stageRow cX3_stageRow 2 (some (.object RX5)) 0 0 0 0 [.ref (eA E 3 o), vI p1] E G (gQr E G 5 rz) := by
  refine g_met (by decide +kernel) (Nat.le_of_ble_eq_true rfl) ?_
  intro p e s m below meth c C H locs h ls hl
  have C : gC p s m _ meth c RX3 cX3_stageRow 2 (some (.object RX5)) E := C
  have hl : lv_has ls 2 [(0, .ref (eA E 3 o)), (1, vI p1)] := hl
  unfold f_X3_stageRow at hf
  refine g_aload_n C hl 0 rfl rfl (gdec kX3_stageRow 0 rfl) ?_
  refine gf_X3_11 C h ho (gdec kX3_stageRow 1 rfl) ?_
  refine g_iload_n C hl 1 rfl rfl (gdec kX3_stageRow 2 rfl) ?_
  obtain ⟨h1, hf⟩ := gd_s hf
  refine g_if_lt C (tgt := 18) h1 (by decide) (gdec kX3_stageRow 3 rfl) (fun c2 => ?_) (fun c2 => ?_)
  · replace hf := ifp c2 hf
    refine g_iconst C (gdec kX3_stageRow 9 rfl) ?_
    refine g_ald14 C h (gcl_3_0 C ho) (⟨by decide, by decide⟩ : (0 : Int) ≤ 0 ∧ (0 : Int) < 7) (gdec kX3_stageRow 10 rfl) ?_
    have k3 : gOk E 5 (7 * o + 0) := gok5 C (gcl_3_0 C ho) (⟨by decide, by decide⟩ : (0 : Int) ≤ 0 ∧ (0 : Int) < 7)
    exact g_aret C h (congrArg (Option.map (Prod.mk _)) hf) (gdec kX3_stageRow 11 rfl)
  · replace hf := ifn c2 hf
    refine g_iload_n C hl 1 rfl rfl (gdec kX3_stageRow 4 rfl) ?_
    refine g_bipush C (gdec kX3_stageRow 5 rfl) rfl ?_
    refine g_icmp_ge C (tgt := 18) h1 (by decide) (by decide) (gdec kX3_stageRow 6 rfl) (fun c4 => ?_) (fun c4 => ?_)
    · replace hf := ifp c4 hf
      refine g_iload_n C hl 1 rfl rfl (gdec kX3_stageRow 7 rfl) ?_
      refine g_goto C (tgt := 19) (by decide) (gdec kX3_stageRow 8 rfl) ?_
      obtain ⟨h5, hf⟩ := ga_s hf
      refine g_ald14 C h (gcl_3_0 C ho) h5 (gdec kX3_stageRow 10 rfl) ?_
      have k6 : gOk E 5 (7 * o + p1) := gok5 C (gcl_3_0 C ho) h5
      exact g_aret C h (congrArg (Option.map (Prod.mk _)) hf) (gdec kX3_stageRow 11 rfl)
    · replace hf := ifn c4 hf
      refine g_iconst C (gdec kX3_stageRow 9 rfl) ?_
      refine g_ald14 C h (gcl_3_0 C ho) (⟨by decide, by decide⟩ : (0 : Int) ≤ 0 ∧ (0 : Int) < 7) (gdec kX3_stageRow 10 rfl) ?_
      have k7 : gOk E 5 (7 * o + 0) := gok5 C (gcl_3_0 C ho) (⟨by decide, by decide⟩ : (0 : Int) ≤ 0 ∧ (0 : Int) < 7)
      exact g_aret C h (congrArg (Option.map (Prod.mk _)) hf) (gdec kX3_stageRow 11 rfl)
theorem e_X3_stageRow (G : GS) (o p1 : Int) (h : 0 ≤ p1 ∧ p1 < 7) : f_X3_stageRow G o p1 = some (7 * o + p1) := by
  unfold f_X3_stageRow gd ga
  rw [if_pos (show inR p1 by unfold inR; omega), if_neg (by omega), if_pos h.2, if_pos h]
def f_X5_effort (G : GS) (o : Int) (p1 : Int) : Option (Int) :=
  gd p1 (if p1 = 0 then gd ((5 * (G 5 o 0)) + ((-4) * (G 5 o 1))) (some (if 5 < (5 * (G 5 o 0)) + ((-4) * (G 5 o 1)) then (5 * (G 5 o 0)) + ((-4) * (G 5 o 1)) else 5)) else gd ((5 * (G 5 o 0)) + (4 * (G 5 o 1))) (some (if 5 < (5 * (G 5 o 0)) + (4 * (G 5 o 1)) then (5 * (G 5 o 0)) + (4 * (G 5 o 1)) else 5)))
set_option maxHeartbeats 4000000 in
set_option maxRecDepth 100000 in
theorem c_X5_effort (l : Launch) (E : gEnv) (G : GS) (o : Int) (p1 : Int) (ho : gOk E 5 o) (rz : Int) (hf : f_X5_effort G o p1 = some rz) : gMet l yX5_effort cX5_effort 3 (some .int) 1 21 0 0 [.ref (eA E 5 o), vI p1] E G (gQi E G rz) := by
  refine g_met (by decide +kernel) (Nat.le_of_ble_eq_true rfl) ?_
  intro p e s m below meth c C H locs h ls hl
  have C : gC p s m _ meth c RX5 cX5_effort 3 (some .int) E := C
  have hl : lv_has ls 3 [(0, .ref (eA E 5 o)), (1, vI p1)] := hl
  unfold f_X5_effort at hf
  refine g_iload_n C hl 1 rfl rfl (gdec kX5_effort 0 rfl) ?_
  obtain ⟨h1, hf⟩ := gd_s hf
  refine g_if_eq C (tgt := 13) h1 (by decide) (gdec kX5_effort 1 rfl) (fun c2 => ?_) (fun c2 => ?_)
  · replace hf := ifp c2 hf
    refine g_bipush C (gdec kX5_effort 7 rfl) rfl ?_
    refine g_aload_n C hl 0 rfl rfl (gdec kX5_effort 8 rfl) ?_
    refine gf_X5_13 C h ho (gdec kX5_effort 9 rfl) ?_
    refine g_imul C (gdec kX5_effort 10 rfl) ?_
    refine g_istore_n C [(2, vI ((-4) * (G 5 o 1))), (0, .ref (eA E 5 o)), (1, vI p1)] hl rfl (by decide) rfl (gdec kX5_effort 11 rfl) (fun ls hl => ?_)
    refine g_iconst C (gdec kX5_effort 12 rfl) ?_
    refine g_iconst C (gdec kX5_effort 13 rfl) ?_
    refine g_aload_n C hl 1 rfl rfl (gdec kX5_effort 14 rfl) ?_
    refine gf_X5_7 C h ho (gdec kX5_effort 15 rfl) ?_
    refine g_imul C (gdec kX5_effort 16 rfl) ?_
    refine g_iload_n C hl 0 rfl rfl (gdec kX5_effort 17 rfl) ?_
    refine g_iadd C (gdec kX5_effort 18 rfl) ?_
    obtain ⟨h3, hf⟩ := gd_s hf
    refine g_max C (by decide) h3 wM_X5_24 wT_Math_max wN_java_lang_Math wC_Math_max hl.1 (by decide) (Nat.le_of_ble_eq_true rfl) (Nat.le_of_ble_eq_true rfl) (Nat.le_of_ble_eq_true rfl) (gdec kX5_effort 19 rfl) ?_
    exact g_iret C h (congrArg (Option.map (Prod.mk _)) hf) (gdec kX5_effort 20 rfl)
  · replace hf := ifn c2 hf
    refine g_iconst C (gdec kX5_effort 2 rfl) ?_
    refine g_aload_n C hl 0 rfl rfl (gdec kX5_effort 3 rfl) ?_
    refine gf_X5_13 C h ho (gdec kX5_effort 4 rfl) ?_
    refine g_imul C (gdec kX5_effort 5 rfl) ?_
    refine g_goto C (tgt := 20) (by decide) (gdec kX5_effort 6 rfl) ?_
    refine g_istore_n C [(2, vI (4 * (G 5 o 1))), (0, .ref (eA E 5 o)), (1, vI p1)] hl rfl (by decide) rfl (gdec kX5_effort 11 rfl) (fun ls hl => ?_)
    refine g_iconst C (gdec kX5_effort 12 rfl) ?_
    refine g_iconst C (gdec kX5_effort 13 rfl) ?_
    refine g_aload_n C hl 1 rfl rfl (gdec kX5_effort 14 rfl) ?_
    refine gf_X5_7 C h ho (gdec kX5_effort 15 rfl) ?_
    refine g_imul C (gdec kX5_effort 16 rfl) ?_
    refine g_iload_n C hl 0 rfl rfl (gdec kX5_effort 17 rfl) ?_
    refine g_iadd C (gdec kX5_effort 18 rfl) ?_
    obtain ⟨h4, hf⟩ := gd_s hf
    refine g_max C (by decide) h4 wM_X5_24 wT_Math_max wN_java_lang_Math wC_Math_max hl.1 (by decide) (Nat.le_of_ble_eq_true rfl) (Nat.le_of_ble_eq_true rfl) (Nat.le_of_ble_eq_true rfl) (gdec kX5_effort 19 rfl) ?_
    exact g_iret C h (congrArg (Option.map (Prod.mk _)) hf) (gdec kX5_effort 20 rfl)
def f_X6_tire (G : GS) (o : Int) (p1 : Int) : Option (GS) :=
  gd ((G 6 o 1) + p1) (nm (gup (gup G 6 o 1 (if (G 6 o 1) + p1 < 100 then (G 6 o 1) + p1 else 100)) 6 o 8 (((gup G 6 o 1 (if (G 6 o 1) + p1 < 100 then (G 6 o 1) + p1 else 100)) 6 o 8) + 1)) (fun G2 => some (gup G2 6 o 9 ((G2 6 o 9) + p1))))
set_option maxHeartbeats 4000000 in
set_option maxRecDepth 100000 in
theorem c_X6_tire (l : Launch) (E : gEnv) (G : GS) (o : Int) (p1 : Int) (ho : gOk E 6 o) (Gz : GS) (hf : f_X6_tire G o p1 = some Gz) : gMet l yX6_tire cX6_tire 2 none 1 21 0 0 [.ref (eA E 6 o), vI p1] E G (gQv E Gz) := by
  refine g_met (by decide +kernel) (Nat.le_of_ble_eq_true rfl) ?_
  intro p e s m below meth c C H locs h ls hl
  have C : gC p s m _ meth c RX6 cX6_tire 2 none E := C
  have hl : lv_has ls 2 [(0, .ref (eA E 6 o)), (1, vI p1)] := hl
  unfold f_X6_tire at hf
  refine g_aload_n C hl 0 rfl rfl (gdec kX6_tire 0 rfl) ?_
  refine g_bipush C (gdec kX6_tire 1 rfl) rfl ?_
  refine g_aload_n C hl 0 rfl rfl (gdec kX6_tire 2 rfl) ?_
  refine gf_X6_15 C h ho (gdec kX6_tire 3 rfl) ?_
  refine g_iload_n C hl 1 rfl rfl (gdec kX6_tire 4 rfl) ?_
  refine g_iadd C (gdec kX6_tire 5 rfl) ?_
  obtain ⟨h1, hf⟩ := gd_s hf
  refine g_min C (by decide) h1 wM_X6_62 wT_Math_min wN_java_lang_Math wC_Math_min hl.1 (by decide) (Nat.le_of_ble_eq_true rfl) (Nat.le_of_ble_eq_true rfl) (Nat.le_of_ble_eq_true rfl) (gdec kX6_tire 6 rfl) ?_
  refine gp_X6_15 C h ho (gdec kX6_tire 7 rfl) (fun H locs h => ?_)
  refine g_aload_n C hl 0 rfl rfl (gdec kX6_tire 8 rfl) ?_
  refine g_dup C rfl (gdec kX6_tire 9 rfl) ?_
  refine gf_X6_26 C h ho (gdec kX6_tire 10 rfl) ?_
  refine g_iconst C (gdec kX6_tire 11 rfl) ?_
  refine g_iadd C (gdec kX6_tire 12 rfl) ?_
  refine gp_X6_26 C h ho (gdec kX6_tire 13 rfl) (fun H locs h => ?_)
  obtain ⟨G2, e3, hf⟩ := nm_s hf
  rw [e3] at h
  refine g_aload_n C hl 0 rfl rfl (gdec kX6_tire 14 rfl) ?_
  refine g_dup C rfl (gdec kX6_tire 15 rfl) ?_
  refine gf_X6_29 C h ho (gdec kX6_tire 16 rfl) ?_
  refine g_iload_n C hl 1 rfl rfl (gdec kX6_tire 17 rfl) ?_
  refine g_iadd C (gdec kX6_tire 18 rfl) ?_
  refine gp_X6_29 C h ho (gdec kX6_tire 19 rfl) (fun H locs h => ?_)
  exact g_vret C h hf (gdec kX6_tire 20 rfl)
def f_X3_deliver (G : GS) (o : Int) (p1 : Int) : Option (GS) :=
  nm (gup (gup (gup G 2 p1 6 ((G 3 o 7) + 1)) 3 o 8 (((gup G 2 p1 6 ((G 3 o 7) + 1)) 3 o 8) + 1)) 3 o 9 (((gup (gup G 2 p1 6 ((G 3 o 7) + 1)) 3 o 8 (((gup G 2 p1 6 ((G 3 o 7) + 1)) 3 o 8) + 1)) 3 o 9) + (((gup G 2 p1 6 ((G 3 o 7) + 1)) 2 p1 6) - ((gup G 2 p1 6 ((G 3 o 7) + 1)) 2 p1 3)))) (fun G1 => gd (G1 2 p1 2) (if (G1 2 p1 2) = 0 then some G1 else nm (gup (gup G1 3 o 10 ((G1 3 o 10) + 1)) 3 o 11 (((gup G1 3 o 10 ((G1 3 o 10) + 1)) 3 o 11) + (((gup G 2 p1 6 ((G 3 o 7) + 1)) 2 p1 6) - ((gup G 2 p1 6 ((G 3 o 7) + 1)) 2 p1 3)))) (fun G5 => some G5)))
set_option maxHeartbeats 4000000 in
set_option maxRecDepth 100000 in
theorem c_X3_deliver (l : Launch) (E : gEnv) (G : GS) (o : Int) (p1 : Int) (ho : gOk E 3 o) (hp1 : gOk E 2 p1) (Gz : GS) (hf : f_X3_deliver G o p1 = some Gz) : gMet l yX3_deliver cX3_deliver 3 none 0 0 0 0 [.ref (eA E 3 o), .ref (eA E 2 p1)] E G (gQv E Gz) := by
  refine g_met (by decide +kernel) (Nat.le_of_ble_eq_true rfl) ?_
  intro p e s m below meth c C H locs h ls hl
  have C : gC p s m _ meth c RX3 cX3_deliver 3 none E := C
  have hl : lv_has ls 3 [(0, .ref (eA E 3 o)), (1, .ref (eA E 2 p1))] := hl
  unfold f_X3_deliver at hf
  refine g_aload_n C hl 1 rfl rfl (gdec kX3_deliver 0 rfl) ?_
  refine g_aload_n C hl 0 rfl rfl (gdec kX3_deliver 1 rfl) ?_
  refine gf_X3_57 C h ho (gdec kX3_deliver 2 rfl) ?_
  refine g_iconst C (gdec kX3_deliver 3 rfl) ?_
  refine g_iadd C (gdec kX3_deliver 4 rfl) ?_
  refine gp_X3_196 C h hp1 (gdec kX3_deliver 5 rfl) (fun H locs h => ?_)
  refine g_aload_n C hl 1 rfl rfl (gdec kX3_deliver 6 rfl) ?_
  refine gf_X3_196 C h hp1 (gdec kX3_deliver 7 rfl) ?_
  refine g_aload_n C hl 1 rfl rfl (gdec kX3_deliver 8 rfl) ?_
  refine gf_X3_199 C h hp1 (gdec kX3_deliver 9 rfl) ?_
  refine g_isub C (gdec kX3_deliver 10 rfl) ?_
  refine g_istore_n C [(2, vI (((gup G 2 p1 6 ((G 3 o 7) + 1)) 2 p1 6) - ((gup G 2 p1 6 ((G 3 o 7) + 1)) 2 p1 3))), (0, .ref (eA E 3 o)), (1, .ref (eA E 2 p1))] hl rfl (by decide) rfl (gdec kX3_deliver 11 rfl) (fun ls hl => ?_)
  refine g_aload_n C hl 1 rfl rfl (gdec kX3_deliver 12 rfl) ?_
  refine g_dup C rfl (gdec kX3_deliver 13 rfl) ?_
  refine gf_X3_60 C h ho (gdec kX3_deliver 14 rfl) ?_
  refine g_iconst C (gdec kX3_deliver 15 rfl) ?_
  refine g_iadd C (gdec kX3_deliver 16 rfl) ?_
  refine gp_X3_60 C h ho (gdec kX3_deliver 17 rfl) (fun H locs h => ?_)
  refine g_aload_n C hl 1 rfl rfl (gdec kX3_deliver 18 rfl) ?_
  refine g_dup C rfl (gdec kX3_deliver 19 rfl) ?_
  refine gf_X3_63 C h ho (gdec kX3_deliver 20 rfl) ?_
  refine g_iload_n C hl 0 rfl rfl (gdec kX3_deliver 21 rfl) ?_
  refine g_iadd C (gdec kX3_deliver 22 rfl) ?_
  refine gp_X3_63 C h ho (gdec kX3_deliver 23 rfl) (fun H locs h => ?_)
  obtain ⟨G1, e2, hf⟩ := nm_s hf
  rw [e2] at h
  refine g_aload_n C hl 2 rfl rfl (gdec kX3_deliver 24 rfl) ?_
  refine gf_X3_202 C h hp1 (gdec kX3_deliver 25 rfl) ?_
  obtain ⟨h3, hf⟩ := gd_s hf
  refine g_if_eq C (tgt := 67) h3 (by decide) (gdec kX3_deliver 26 rfl) (fun c4 => ?_) (fun c4 => ?_)
  · replace hf := ifp c4 hf
    exact g_vret C h hf (gdec kX3_deliver 39 rfl)
  · replace hf := ifn c4 hf
    refine g_aload_n C hl 1 rfl rfl (gdec kX3_deliver 27 rfl) ?_
    refine g_dup C rfl (gdec kX3_deliver 28 rfl) ?_
    refine gf_X3_66 C h ho (gdec kX3_deliver 29 rfl) ?_
    refine g_iconst C (gdec kX3_deliver 30 rfl) ?_
    refine g_iadd C (gdec kX3_deliver 31 rfl) ?_
    refine gp_X3_66 C h ho (gdec kX3_deliver 32 rfl) (fun H locs h => ?_)
    refine g_aload_n C hl 1 rfl rfl (gdec kX3_deliver 33 rfl) ?_
    refine g_dup C rfl (gdec kX3_deliver 34 rfl) ?_
    refine gf_X3_69 C h ho (gdec kX3_deliver 35 rfl) ?_
    refine g_iload_n C hl 0 rfl rfl (gdec kX3_deliver 36 rfl) ?_
    refine g_iadd C (gdec kX3_deliver 37 rfl) ?_
    refine gp_X3_69 C h ho (gdec kX3_deliver 38 rfl) (fun H locs h => ?_)
    obtain ⟨G5, e6, hf⟩ := nm_s hf
    rw [e6] at h
    exact g_vret C h hf (gdec kX3_deliver 39 rfl)
def f_X3_putDown (G : GS) (o : Int) (p1 : Int) : Option (GS) :=
  gd ((gup G 2 p1 5 (-1)) 2 p1 4) (gd ((gup G 2 p1 5 (-1)) 2 p1 1) (if ((gup G 2 p1 5 (-1)) 2 p1 4) = ((gup G 2 p1 5 (-1)) 2 p1 1) then bn1 (f_X3_deliver (gup G 2 p1 5 (-1)) o p1) (fun G4 => some G4) else some (gup G 2 p1 5 (-1))))
set_option maxHeartbeats 4000000 in
set_option maxRecDepth 100000 in
theorem c_X3_putDown (l : Launch) (E : gEnv) (G : GS) (o : Int) (p1 : Int) (ho : gOk E 3 o) (hp1 : gOk E 2 p1) (Gz : GS) (hf : f_X3_putDown G o p1 = some Gz) : gMet l yX3_putDown cX3_putDown 2 none 1 22 0 0 [.ref (eA E 3 o), .ref (eA E 2 p1)] E G (gQv E Gz) := by
  refine g_met (by decide +kernel) (Nat.le_of_ble_eq_true rfl) ?_
  intro p e s m below meth c C H locs h ls hl
  have C : gC p s m _ meth c RX3 cX3_putDown 2 none E := C
  have hl : lv_has ls 2 [(0, .ref (eA E 3 o)), (1, .ref (eA E 2 p1))] := hl
  unfold f_X3_putDown at hf
  refine g_aload_n C hl 1 rfl rfl (gdec kX3_putDown 0 rfl) ?_
  refine g_iconst C (gdec kX3_putDown 1 rfl) ?_
  refine gp_X3_110 C h hp1 (gdec kX3_putDown 2 rfl) (fun H locs h => ?_)
  refine g_aload_n C hl 1 rfl rfl (gdec kX3_putDown 3 rfl) ?_
  refine gf_X3_189 C h hp1 (gdec kX3_putDown 4 rfl) ?_
  refine g_aload_n C hl 1 rfl rfl (gdec kX3_putDown 5 rfl) ?_
  refine gf_X3_190 C h hp1 (gdec kX3_putDown 6 rfl) ?_
  obtain ⟨h1, hf⟩ := gd_s hf
  obtain ⟨h2, hf⟩ := gd_s hf
  refine g_icmp_ne C (tgt := 21) h1 h2 (by decide) (gdec kX3_putDown 7 rfl) (fun c3 => ?_) (fun c3 => ?_)
  · replace hf := ifp c3 hf
    refine g_aload_n C hl 0 rfl rfl (gdec kX3_putDown 8 rfl) ?_
    refine g_aload_n C hl 1 rfl rfl (gdec kX3_putDown 9 rfl) ?_
    obtain ⟨G4, q5, hf⟩ := bn1_s hf
    refine g_cv h (g_runV C h ho (by decide) rfl (c_X3_deliver l E _ _ _ ho hp1 _ q5) wM_X3_193 wI_X3_deliver wS_X3_deliver wN_X3 wC_X3_deliver rfl ny_X3_deliver rfl ⟨Nat.le_of_ble_eq_true rfl, Nat.le_of_ble_eq_true rfl⟩ hl.1 rfl (Nat.le_of_ble_eq_true rfl) (gdec kX3_putDown 10 rfl) ⟨Nat.zero_le _, Nat.zero_le _⟩) (fun H locs h => ?_)
    exact g_vret C h hf (gdec kX3_putDown 11 rfl)
  · replace hf := ifn c3 hf
    exact g_vret C h hf (gdec kX3_putDown 11 rfl)
def f_X6_stand (G : GS) (o : Int) (p1 : Int) : Option (GS) :=
  some (gup (gup (gup (gup (gup G 6 o 2 p1) 6 o 3 (-1)) 6 o 5 0) 6 o 6 (-1)) 6 o 7 0)
set_option maxHeartbeats 4000000 in
set_option maxRecDepth 100000 in
theorem c_X6_stand (l : Launch) (E : gEnv) (G : GS) (o : Int) (p1 : Int) (ho : gOk E 6 o) (Gz : GS) (hf : f_X6_stand G o p1 = some Gz) : gMet l yX6_stand cX6_stand 2 none 0 0 0 0 [.ref (eA E 6 o), vI p1] E G (gQv E Gz) := by
  refine g_met (by decide +kernel) (Nat.le_of_ble_eq_true rfl) ?_
  intro p e s m below meth c C H locs h ls hl
  have C : gC p s m _ meth c RX6 cX6_stand 2 none E := C
  have hl : lv_has ls 2 [(0, .ref (eA E 6 o)), (1, vI p1)] := hl
  unfold f_X6_stand at hf
  refine g_aload_n C hl 0 rfl rfl (gdec kX6_stand 0 rfl) ?_
  refine g_iload_n C hl 1 rfl rfl (gdec kX6_stand 1 rfl) ?_
  refine gp_X6_38 C h ho (gdec kX6_stand 2 rfl) (fun H locs h => ?_)
  refine g_aload_n C hl 0 rfl rfl (gdec kX6_stand 3 rfl) ?_
  refine g_iconst C (gdec kX6_stand 4 rfl) ?_
  refine gp_X6_41 C h ho (gdec kX6_stand 5 rfl) (fun H locs h => ?_)
  refine g_aload_n C hl 0 rfl rfl (gdec kX6_stand 6 rfl) ?_
  refine g_iconst C (gdec kX6_stand 7 rfl) ?_
  refine gp_X6_44 C h ho (gdec kX6_stand 8 rfl) (fun H locs h => ?_)
  refine g_aload_n C hl 0 rfl rfl (gdec kX6_stand 9 rfl) ?_
  refine g_iconst C (gdec kX6_stand 10 rfl) ?_
  refine gp_X6_47 C h ho (gdec kX6_stand 11 rfl) (fun H locs h => ?_)
  refine g_aload_n C hl 0 rfl rfl (gdec kX6_stand 12 rfl) ?_
  refine g_iconst C (gdec kX6_stand 13 rfl) ?_
  refine gp_X6_50 C h ho (Or.inl rfl) (gdec kX6_stand 14 rfl) (fun H locs h => ?_)
  exact g_vret C h hf (gdec kX6_stand 15 rfl)
def f_X3_arrive (G : GS) (o : Int) (p1 : Int) : Option (GS) :=
  gd (G 6 p1 7) (if (G 6 p1 7) = 0 then ga (G 6 p1 3) 7 (bn1 (f_X5_effort G (7 * o + (G 6 p1 3)) (G 6 p1 4)) (fun r5 => bn1 (f_X6_tire G p1 r5) (fun G7 => gd (G7 6 p1 6) (if (G7 6 p1 6) = (-1) then bn1 (f_X6_stand G7 p1 (G7 6 p1 2)) (fun G11 => some G11) else ga (G7 6 p1 6) 12 (bn1 (f_X3_putDown G7 o (12 * o + (G7 6 p1 6))) (fun G15 => bn1 (f_X6_stand G15 p1 (G15 6 p1 2)) (fun G17 => some G17))))))) else gd ((gup G 6 p1 10 ((G 6 p1 10) + 1)) 6 p1 6) (if ((gup G 6 p1 10 ((G 6 p1 10) + 1)) 6 p1 6) = (-1) then bn1 (f_X6_stand (gup G 6 p1 10 ((G 6 p1 10) + 1)) p1 ((gup G 6 p1 10 ((G 6 p1 10) + 1)) 6 p1 2)) (fun G21 => some G21) else ga ((gup G 6 p1 10 ((G 6 p1 10) + 1)) 6 p1 6) 12 (bn1 (f_X3_putDown (gup G 6 p1 10 ((G 6 p1 10) + 1)) o (12 * o + ((gup G 6 p1 10 ((G 6 p1 10) + 1)) 6 p1 6))) (fun G25 => bn1 (f_X6_stand G25 p1 (G25 6 p1 2)) (fun G27 => some G27)))))
set_option maxHeartbeats 4000000 in
set_option maxRecDepth 100000 in
theorem c_X3_arrive (l : Launch) (E : gEnv) (G : GS) (o : Int) (p1 : Int) (ho : gOk E 3 o) (hp1 : gOk E 6 p1) (Gz : GS) (hf : f_X3_arrive G o p1 = some Gz) : gMet l yX3_arrive cX3_arrive 2 none 2 43 0 0 [.ref (eA E 3 o), .ref (eA E 6 p1)] E G (gQv E Gz) := by
  refine g_met (by decide +kernel) (Nat.le_of_ble_eq_true rfl) ?_
  intro p e s m below meth c C H locs h ls hl
  have C : gC p s m _ meth c RX3 cX3_arrive 2 none E := C
  have hl : lv_has ls 2 [(0, .ref (eA E 3 o)), (1, .ref (eA E 6 p1))] := hl
  unfold f_X3_arrive at hf
  refine g_aload_n C hl 1 rfl rfl (gdec kX3_arrive 0 rfl) ?_
  refine gf_X3_159 C h hp1 (gdec kX3_arrive 1 rfl) ?_
  obtain ⟨h1, hf⟩ := gd_s hf
  refine g_if_eq C (tgt := 20) h1 (by decide) (gdec kX3_arrive 2 rfl) (fun c2 => ?_) (fun c2 => ?_)
  · replace hf := ifp c2 hf
    refine g_aload_n C hl 1 rfl rfl (gdec kX3_arrive 10 rfl) ?_
    refine g_aload_n C hl 0 rfl rfl (gdec kX3_arrive 11 rfl) ?_
    refine g_aload_n C hl 1 rfl rfl (gdec kX3_arrive 12 rfl) ?_
    refine gf_X3_166 C h hp1 (gdec kX3_arrive 13 rfl) ?_
    obtain ⟨h3, hf⟩ := ga_s hf
    refine g_cr h (g_runV C h ho (by decide) rfl (c_X3_stageRow l E _ _ _ ho _ (e_X3_stageRow _ _ _ h3)) wM_X3_169 wI_X3_stageRow wS_X3_stageRow wN_X3 wC_X3_stageRow rfl ny_X3_stageRow rfl ⟨Nat.le_of_ble_eq_true rfl, Nat.le_of_ble_eq_true rfl⟩ hl.1 rfl (Nat.le_of_ble_eq_true rfl) (gdec kX3_arrive 14 rfl) ⟨Nat.zero_le _, Nat.zero_le _⟩) (fun H locs h => ?_)
    have k4 : gOk E 5 (7 * o + (G 6 p1 3)) := gok5 C (gcl_3_0 C ho) h3
    refine g_aload_n C hl 1 rfl rfl (gdec kX3_arrive 15 rfl) ?_
    refine gf_X3_173 C h hp1 (gdec kX3_arrive 16 rfl) ?_
    obtain ⟨r5, q6, hf⟩ := bn1_s hf
    refine g_ci h (g_runV C h k4 (by decide) rfl (c_X5_effort l E _ _ _ k4 _ q6) wM_X3_176 wI_X5_effort wS_X5_effort wN_X5 wC_X5_effort rfl ny_X5_effort rfl ⟨Nat.le_of_ble_eq_true rfl, Nat.le_of_ble_eq_true rfl⟩ hl.1 rfl (Nat.le_of_ble_eq_true rfl) (gdec kX3_arrive 17 rfl) ⟨Nat.zero_le _, Nat.zero_le _⟩) (fun H locs h => ?_)
    obtain ⟨G7, q8, hf⟩ := bn1_s hf
    refine g_cv h (g_runV C h hp1 (by decide) rfl (c_X6_tire l E _ _ _ hp1 _ q8) wM_X3_180 wI_X6_tire wS_X6_tire wN_X6 wC_X6_tire rfl ny_X6_tire rfl ⟨Nat.le_of_ble_eq_true rfl, Nat.le_of_ble_eq_true rfl⟩ hl.1 rfl (Nat.le_of_ble_eq_true rfl) (gdec kX3_arrive 18 rfl) ⟨Nat.zero_le _, Nat.zero_le _⟩) (fun H locs h => ?_)
    refine g_aload_n C hl 1 rfl rfl (gdec kX3_arrive 19 rfl) ?_
    refine gf_X3_113 C h hp1 (gdec kX3_arrive 20 rfl) ?_
    refine g_iconst C (gdec kX3_arrive 21 rfl) ?_
    obtain ⟨h9, hf⟩ := gd_s hf
    refine g_icmp_eq C (tgt := 59) h9 (by decide) (by decide) (gdec kX3_arrive 22 rfl) (fun c10 => ?_) (fun c10 => ?_)
    · replace hf := ifp c10 hf
      refine g_aload_n C hl 1 rfl rfl (gdec kX3_arrive 29 rfl) ?_
      refine g_aload_n C hl 1 rfl rfl (gdec kX3_arrive 30 rfl) ?_
      refine gf_X3_135 C h hp1 (gdec kX3_arrive 31 rfl) ?_
      obtain ⟨G11, q12, hf⟩ := bn1_s hf
      refine g_cv h (g_runV C h hp1 (by decide) rfl (c_X6_stand l E _ _ _ hp1 _ q12) wM_X3_186 wI_X6_stand wS_X6_stand wN_X6 wC_X6_stand rfl ny_X6_stand rfl ⟨Nat.le_of_ble_eq_true rfl, Nat.le_of_ble_eq_true rfl⟩ hl.1 rfl (Nat.le_of_ble_eq_true rfl) (gdec kX3_arrive 32 rfl) ⟨Nat.zero_le _, Nat.zero_le _⟩) (fun H locs h => ?_)
      exact g_vret C h hf (gdec kX3_arrive 33 rfl)
    · replace hf := ifn c10 hf
      refine g_aload_n C hl 0 rfl rfl (gdec kX3_arrive 23 rfl) ?_
      refine g_aload_n C hl 0 rfl rfl (gdec kX3_arrive 24 rfl) ?_
      refine g_aload_n C hl 1 rfl rfl (gdec kX3_arrive 25 rfl) ?_
      refine gf_X3_113 C h hp1 (gdec kX3_arrive 26 rfl) ?_
      obtain ⟨h13, hf⟩ := ga_s hf
      refine g_cr h (g_runV C h ho (by decide) rfl (c_X3_letterRow l E _ _ _ ho _ (e_X3_letterRow _ _ _ h13)) wM_X3_89 wI_X3_letterRow wS_X3_letterRow wN_X3 wC_X3_letterRow rfl ny_X3_letterRow rfl ⟨Nat.le_of_ble_eq_true rfl, Nat.le_of_ble_eq_true rfl⟩ hl.1 rfl (Nat.le_of_ble_eq_true rfl) (gdec kX3_arrive 27 rfl) ⟨Nat.zero_le _, Nat.zero_le _⟩) (fun H locs h => ?_)
      have k14 : gOk E 2 (12 * o + (G7 6 p1 6)) := gok2 C (gcl_3_3 C ho) h13
      obtain ⟨G15, q16, hf⟩ := bn1_s hf
      refine g_cv h (g_runV C h ho (by decide) rfl (c_X3_putDown l E _ _ _ ho k14 _ q16) wM_X3_183 wI_X3_putDown wS_X3_putDown wN_X3 wC_X3_putDown rfl ny_X3_putDown rfl ⟨Nat.le_of_ble_eq_true rfl, Nat.le_of_ble_eq_true rfl⟩ hl.1 rfl (Nat.le_of_ble_eq_true rfl) (gdec kX3_arrive 28 rfl) ⟨Nat.zero_le _, Nat.zero_le _⟩) (fun H locs h => ?_)
      refine g_aload_n C hl 1 rfl rfl (gdec kX3_arrive 29 rfl) ?_
      refine g_aload_n C hl 1 rfl rfl (gdec kX3_arrive 30 rfl) ?_
      refine gf_X3_135 C h hp1 (gdec kX3_arrive 31 rfl) ?_
      obtain ⟨G17, q18, hf⟩ := bn1_s hf
      refine g_cv h (g_runV C h hp1 (by decide) rfl (c_X6_stand l E _ _ _ hp1 _ q18) wM_X3_186 wI_X6_stand wS_X6_stand wN_X6 wC_X6_stand rfl ny_X6_stand rfl ⟨Nat.le_of_ble_eq_true rfl, Nat.le_of_ble_eq_true rfl⟩ hl.1 rfl (Nat.le_of_ble_eq_true rfl) (gdec kX3_arrive 32 rfl) ⟨Nat.zero_le _, Nat.zero_le _⟩) (fun H locs h => ?_)
      exact g_vret C h hf (gdec kX3_arrive 33 rfl)
  · replace hf := ifn c2 hf
    refine g_aload_n C hl 1 rfl rfl (gdec kX3_arrive 3 rfl) ?_
    refine g_dup C rfl (gdec kX3_arrive 4 rfl) ?_
    refine gf_X3_163 C h hp1 (gdec kX3_arrive 5 rfl) ?_
    refine g_iconst C (gdec kX3_arrive 6 rfl) ?_
    refine g_iadd C (gdec kX3_arrive 7 rfl) ?_
    refine gp_X3_163 C h hp1 (gdec kX3_arrive 8 rfl) (fun H locs h => ?_)
    refine g_goto C (tgt := 39) (by decide) (gdec kX3_arrive 9 rfl) ?_
    refine g_aload_n C hl 1 rfl rfl (gdec kX3_arrive 19 rfl) ?_
    refine gf_X3_113 C h hp1 (gdec kX3_arrive 20 rfl) ?_
    refine g_iconst C (gdec kX3_arrive 21 rfl) ?_
    obtain ⟨h19, hf⟩ := gd_s hf
    refine g_icmp_eq C (tgt := 59) h19 (by decide) (by decide) (gdec kX3_arrive 22 rfl) (fun c20 => ?_) (fun c20 => ?_)
    · replace hf := ifp c20 hf
      refine g_aload_n C hl 1 rfl rfl (gdec kX3_arrive 29 rfl) ?_
      refine g_aload_n C hl 1 rfl rfl (gdec kX3_arrive 30 rfl) ?_
      refine gf_X3_135 C h hp1 (gdec kX3_arrive 31 rfl) ?_
      obtain ⟨G21, q22, hf⟩ := bn1_s hf
      refine g_cv h (g_runV C h hp1 (by decide) rfl (c_X6_stand l E _ _ _ hp1 _ q22) wM_X3_186 wI_X6_stand wS_X6_stand wN_X6 wC_X6_stand rfl ny_X6_stand rfl ⟨Nat.le_of_ble_eq_true rfl, Nat.le_of_ble_eq_true rfl⟩ hl.1 rfl (Nat.le_of_ble_eq_true rfl) (gdec kX3_arrive 32 rfl) ⟨Nat.zero_le _, Nat.zero_le _⟩) (fun H locs h => ?_)
      exact g_vret C h hf (gdec kX3_arrive 33 rfl)
    · replace hf := ifn c20 hf
      refine g_aload_n C hl 0 rfl rfl (gdec kX3_arrive 23 rfl) ?_
      refine g_aload_n C hl 0 rfl rfl (gdec kX3_arrive 24 rfl) ?_
      refine g_aload_n C hl 1 rfl rfl (gdec kX3_arrive 25 rfl) ?_
      refine gf_X3_113 C h hp1 (gdec kX3_arrive 26 rfl) ?_
      obtain ⟨h23, hf⟩ := ga_s hf
      refine g_cr h (g_runV C h ho (by decide) rfl (c_X3_letterRow l E _ _ _ ho _ (e_X3_letterRow _ _ _ h23)) wM_X3_89 wI_X3_letterRow wS_X3_letterRow wN_X3 wC_X3_letterRow rfl ny_X3_letterRow rfl ⟨Nat.le_of_ble_eq_true rfl, Nat.le_of_ble_eq_true rfl⟩ hl.1 rfl (Nat.le_of_ble_eq_true rfl) (gdec kX3_arrive 27 rfl) ⟨Nat.zero_le _, Nat.zero_le _⟩) (fun H locs h => ?_)
      have k24 : gOk E 2 (12 * o + ((gup G 6 p1 10 ((G 6 p1 10) + 1)) 6 p1 6)) := gok2 C (gcl_3_3 C ho) h23
      obtain ⟨G25, q26, hf⟩ := bn1_s hf
      refine g_cv h (g_runV C h ho (by decide) rfl (c_X3_putDown l E _ _ _ ho k24 _ q26) wM_X3_183 wI_X3_putDown wS_X3_putDown wN_X3 wC_X3_putDown rfl ny_X3_putDown rfl ⟨Nat.le_of_ble_eq_true rfl, Nat.le_of_ble_eq_true rfl⟩ hl.1 rfl (Nat.le_of_ble_eq_true rfl) (gdec kX3_arrive 28 rfl) ⟨Nat.zero_le _, Nat.zero_le _⟩) (fun H locs h => ?_)
      refine g_aload_n C hl 1 rfl rfl (gdec kX3_arrive 29 rfl) ?_
      refine g_aload_n C hl 1 rfl rfl (gdec kX3_arrive 30 rfl) ?_
      refine gf_X3_135 C h hp1 (gdec kX3_arrive 31 rfl) ?_
      obtain ⟨G27, q28, hf⟩ := bn1_s hf
      refine g_cv h (g_runV C h hp1 (by decide) rfl (c_X6_stand l E _ _ _ hp1 _ q28) wM_X3_186 wI_X6_stand wS_X6_stand wN_X6 wC_X6_stand rfl ny_X6_stand rfl ⟨Nat.le_of_ble_eq_true rfl, Nat.le_of_ble_eq_true rfl⟩ hl.1 rfl (Nat.le_of_ble_eq_true rfl) (gdec kX3_arrive 32 rfl) ⟨Nat.zero_le _, Nat.zero_le _⟩) (fun H locs h => ?_)
      exact g_vret C h hf (gdec kX3_arrive 33 rfl)
def f_X3_moveTeams_L2 (o : Int) : Nat → GS → Int → (GS → Int → Option (GS)) → Option (GS)
  | 0, _, _, _ => none
  | n + 1, G, x1, k => gd x1 (gd (G 3 o 5) (if x1 < (G 3 o 5) then ga x1 10 (bn1 (f_X6_stands G (10 * o + x1)) (fun r6 => gd r6 (if r6 = 0 then gd ((gup G 6 (10 * o + x1) 5 ((G 6 (10 * o + x1) 5) - 1)) 6 (10 * o + x1) 5) (if ((gup G 6 (10 * o + x1) 5 ((G 6 (10 * o + x1) 5) - 1)) 6 (10 * o + x1) 5) = 0 then bn1 (f_X3_arrive (gup G 6 (10 * o + x1) 5 ((G 6 (10 * o + x1) 5) - 1)) o (10 * o + x1)) (fun G12 => f_X3_moveTeams_L2 o n G12 (x1 + 1) k) else f_X3_moveTeams_L2 o n (gup G 6 (10 * o + x1) 5 ((G 6 (10 * o + x1) 5) - 1)) (x1 + 1) k) else f_X3_moveTeams_L2 o n G (x1 + 1) k))) else k G x1))
def f_X3_moveTeams (G : GS) (o : Int) : Option (GS) :=
  f_X3_moveTeams_L2 o gFuel G 0 (fun G15 y1_14 => some G15)
set_option maxHeartbeats 4000000 in
set_option maxRecDepth 100000 in
theorem c_X3_moveTeams (l : Launch) (E : gEnv) (G : GS) (o : Int) (ho : gOk E 3 o) (Gz : GS) (hf : f_X3_moveTeams G o = some Gz) : gMet l yX3_moveTeams cX3_moveTeams 3 none 3 64 0 0 [.ref (eA E 3 o)] E G (gQv E Gz) := by
  refine g_met (by decide +kernel) (Nat.le_of_ble_eq_true rfl) ?_
  intro p e s m below meth c C H locs h ls hl
  have C : gC p s m _ meth c RX3 cX3_moveTeams 3 none E := C
  have hl : lv_has ls 3 [(0, .ref (eA E 3 o))] := hl
  have L2 : ∀ (n : Nat) (G : GS) (x1 : Int) (k : (GS → Int → Option (GS))) (hK : ∀ (G : GS) (x1 : Int), k G x1 = some Gz → ∀ (H : Heap) (locs : List Loc), gH E s G H locs → ∀ ls, lv_has ls 3 [(0, .ref (eA E 3 o)), (1, vI x1)] → W p l e (gRm 3 64 0 0) s m ([.ref (eA E 3 o)] : List Value).toArray below meth c H locs 0 0 (MQ below (gQv E Gz) ([.ref (eA E 3 o)] : List Value).toArray s 0 0 (eF E)) (F0 m 51 ls [])), ∀ (H : Heap) (locs : List Loc), gH E s G H locs → ∀ ls, lv_has ls 3 [(0, .ref (eA E 3 o)), (1, vI x1)] → f_X3_moveTeams_L2 o n G x1 k = some Gz → W p l e (gRm 3 64 0 0) s m ([.ref (eA E 3 o)] : List Value).toArray below meth c H locs 0 0 (MQ below (gQv E Gz) ([.ref (eA E 3 o)] : List Value).toArray s 0 0 (eF E)) (F0 m 2 ls []) := by
    intro n
    induction n with
    | zero =>
      intro G x1 k hK H locs h ls hl hf
      exact absurd hf (by simp [f_X3_moveTeams_L2])
    | succ n ih =>
      intro G x1 k hK H locs h ls hl hf
      unfold f_X3_moveTeams_L2 at hf
      refine g_iload_n C hl 1 rfl rfl (gdec kX3_moveTeams 2 rfl) ?_
      refine g_aload_n C hl 0 rfl rfl (gdec kX3_moveTeams 3 rfl) ?_
      refine gf_X3_51 C h ho (gdec kX3_moveTeams 4 rfl) ?_
      obtain ⟨h1, hf⟩ := gd_s hf
      obtain ⟨h2, hf⟩ := gd_s hf
      refine g_icmp_ge C (tgt := 51) h1 h2 (by decide) (gdec kX3_moveTeams 5 rfl) (fun c3 => ?_) (fun c3 => ?_)
      · replace hf := ifp c3 hf
        refine g_aload_n C hl 0 rfl rfl (gdec kX3_moveTeams 6 rfl) ?_
        refine g_iload_n C hl 1 rfl rfl (gdec kX3_moveTeams 7 rfl) ?_
        obtain ⟨h4, hf⟩ := ga_s hf
        refine g_cr h (g_runV C h ho (by decide) rfl (c_X3_teamRow l E _ _ _ ho _ (e_X3_teamRow _ _ _ h4)) wM_X3_82 wI_X3_teamRow wS_X3_teamRow wN_X3 wC_X3_teamRow rfl ny_X3_teamRow rfl ⟨Nat.le_of_ble_eq_true rfl, Nat.le_of_ble_eq_true rfl⟩ hl.1 rfl (Nat.le_of_ble_eq_true rfl) (gdec kX3_moveTeams 8 rfl) ⟨Nat.zero_le _, Nat.zero_le _⟩) (fun H locs h => ?_)
        have k5 : gOk E 6 (10 * o + x1) := gok6 C (gcl_3_2 C ho) h4
        refine g_astore_n C [(2, .ref (eA E 6 (10 * o + x1))), (0, .ref (eA E 3 o)), (1, vI x1)] hl rfl (by decide) rfl (gdec kX3_moveTeams 9 rfl) (fun ls hl => ?_)
        refine g_aload_n C hl 0 rfl rfl (gdec kX3_moveTeams 10 rfl) ?_
        obtain ⟨r6, q7, hf⟩ := bn1_s hf
        refine g_ci h (g_runV C h k5 (by decide) rfl (c_X6_stands l E _ _ k5 _ q7) wM_X3_129 wI_X6_stands wS_X6_stands wN_X6 wC_X6_stands rfl ny_X6_stands rfl ⟨Nat.le_of_ble_eq_true rfl, Nat.le_of_ble_eq_true rfl⟩ hl.1 rfl (Nat.le_of_ble_eq_true rfl) (gdec kX3_moveTeams 11 rfl) ⟨Nat.zero_le _, Nat.zero_le _⟩) (fun H locs h => ?_)
        obtain ⟨h8, hf⟩ := gd_s hf
        refine g_if_ne C (tgt := 45) h8 (by decide) (gdec kX3_moveTeams 12 rfl) (fun c9 => ?_) (fun c9 => ?_)
        · replace hf := ifp c9 hf
          refine g_aload_n C hl 0 rfl rfl (gdec kX3_moveTeams 13 rfl) ?_
          refine g_dup C rfl (gdec kX3_moveTeams 14 rfl) ?_
          refine gf_X3_153 C h k5 (gdec kX3_moveTeams 15 rfl) ?_
          refine g_iconst C (gdec kX3_moveTeams 16 rfl) ?_
          refine g_isub C (gdec kX3_moveTeams 17 rfl) ?_
          refine gp_X3_153 C h k5 (gdec kX3_moveTeams 18 rfl) (fun H locs h => ?_)
          refine g_aload_n C hl 0 rfl rfl (gdec kX3_moveTeams 19 rfl) ?_
          refine gf_X3_153 C h k5 (gdec kX3_moveTeams 20 rfl) ?_
          obtain ⟨h10, hf⟩ := gd_s hf
          refine g_if_ne C (tgt := 45) h10 (by decide) (gdec kX3_moveTeams 21 rfl) (fun c11 => ?_) (fun c11 => ?_)
          · replace hf := ifp c11 hf
            refine g_aload_n C hl 1 rfl rfl (gdec kX3_moveTeams 22 rfl) ?_
            refine g_aload_n C hl 0 rfl rfl (gdec kX3_moveTeams 23 rfl) ?_
            obtain ⟨G12, q13, hf⟩ := bn1_s hf
            refine g_cv h (g_runV C h ho (by decide) rfl (c_X3_arrive l E _ _ _ ho k5 _ q13) wM_X3_156 wI_X3_arrive wS_X3_arrive wN_X3 wC_X3_arrive rfl ny_X3_arrive rfl ⟨Nat.le_of_ble_eq_true rfl, Nat.le_of_ble_eq_true rfl⟩ hl.1 rfl (Nat.le_of_ble_eq_true rfl) (gdec kX3_moveTeams 24 rfl) ⟨Nat.zero_le _, Nat.zero_le _⟩) (fun H locs h => ?_)
            refine g_iinc C (k := 2) [(1, vI (x1 + 1)), (2, .ref (eA E 6 (10 * o + x1))), (0, .ref (eA E 3 o))] hl rfl (by decide) rfl (gdec kX3_moveTeams 25 rfl) (fun ls hl => ?_)
            refine g_goto C (tgt := 2) (by decide) (gdec kX3_moveTeams 26 rfl) ?_
            exact ih _ _ k hK H locs h ls (lv_sub hl [2, 0] rfl) hf
          · replace hf := ifn c11 hf
            refine g_iinc C (k := 2) [(1, vI (x1 + 1)), (2, .ref (eA E 6 (10 * o + x1))), (0, .ref (eA E 3 o))] hl rfl (by decide) rfl (gdec kX3_moveTeams 25 rfl) (fun ls hl => ?_)
            refine g_goto C (tgt := 2) (by decide) (gdec kX3_moveTeams 26 rfl) ?_
            exact ih _ _ k hK H locs h ls (lv_sub hl [2, 0] rfl) hf
        · replace hf := ifn c9 hf
          refine g_iinc C (k := 2) [(1, vI (x1 + 1)), (2, .ref (eA E 6 (10 * o + x1))), (0, .ref (eA E 3 o))] hl rfl (by decide) rfl (gdec kX3_moveTeams 25 rfl) (fun ls hl => ?_)
          refine g_goto C (tgt := 2) (by decide) (gdec kX3_moveTeams 26 rfl) ?_
          exact ih _ _ k hK H locs h ls (lv_sub hl [2, 0] rfl) hf
      · replace hf := ifn c3 hf
        exact hK _ _ hf H locs h ls (lv_sub hl [0, 1] rfl)
  unfold f_X3_moveTeams at hf
  refine g_iconst C (gdec kX3_moveTeams 0 rfl) ?_
  refine g_istore_n C [(1, vI 0), (0, .ref (eA E 3 o))] hl rfl (by decide) rfl (gdec kX3_moveTeams 1 rfl) (fun ls hl => ?_)
  refine L2 gFuel _ _ _ (fun G15 y1_14 hf H locs h ls hl => ?_) H locs h ls (lv_sub hl [1, 0] rfl) hf
  exact g_vret C h hf (gdec kX3_moveTeams 27 rfl)
def f_X2_isDelivered (G : GS) (o : Int) : Option (Int) :=
  gd (G 2 o 6) (if (G 2 o 6) = (-1) then some 0 else some 1)
set_option maxHeartbeats 4000000 in
set_option maxRecDepth 100000 in
theorem c_X2_isDelivered (l : Launch) (E : gEnv) (G : GS) (o : Int) (ho : gOk E 2 o) (rz : Int) (hf : f_X2_isDelivered G o = some rz) : gMet l yX2_isDelivered cX2_isDelivered 1 (some .boolean) 0 0 0 0 [.ref (eA E 2 o)] E G (gQi E G rz) := by
  refine g_met (by decide +kernel) (Nat.le_of_ble_eq_true rfl) ?_
  intro p e s m below meth c C H locs h ls hl
  have C : gC p s m _ meth c RX2 cX2_isDelivered 1 (some .boolean) E := C
  have hl : lv_has ls 1 [(0, .ref (eA E 2 o))] := hl
  unfold f_X2_isDelivered at hf
  refine g_aload_n C hl 0 rfl rfl (gdec kX2_isDelivered 0 rfl) ?_
  refine gf_X2_31 C h ho (gdec kX2_isDelivered 1 rfl) ?_
  refine g_iconst C (gdec kX2_isDelivered 2 rfl) ?_
  obtain ⟨h1, hf⟩ := gd_s hf
  refine g_icmp_eq C (tgt := 12) h1 (by decide) (by decide) (gdec kX2_isDelivered 3 rfl) (fun c2 => ?_) (fun c2 => ?_)
  · replace hf := ifp c2 hf
    refine g_iconst C (gdec kX2_isDelivered 6 rfl) ?_
    exact g_zret C h (Or.inl rfl) (congrArg (Option.map (Prod.mk _)) hf) (gdec kX2_isDelivered 7 rfl)
  · replace hf := ifn c2 hf
    refine g_iconst C (gdec kX2_isDelivered 4 rfl) ?_
    refine g_goto C (tgt := 13) (by decide) (gdec kX2_isDelivered 5 rfl) ?_
    exact g_zret C h (Or.inr rfl) (congrArg (Option.map (Prod.mk _)) hf) (gdec kX2_isDelivered 7 rfl)
def f_X2_isOnStage (G : GS) (o : Int) : Option (Int) :=
  gd (G 2 o 5) (if (G 2 o 5) = (-1) then some 0 else some 1)
set_option maxHeartbeats 4000000 in
set_option maxRecDepth 100000 in
theorem c_X2_isOnStage (l : Launch) (E : gEnv) (G : GS) (o : Int) (ho : gOk E 2 o) (rz : Int) (hf : f_X2_isOnStage G o = some rz) : gMet l yX2_isOnStage cX2_isOnStage 1 (some .boolean) 0 0 0 0 [.ref (eA E 2 o)] E G (gQi E G rz) := by
  refine g_met (by decide +kernel) (Nat.le_of_ble_eq_true rfl) ?_
  intro p e s m below meth c C H locs h ls hl
  have C : gC p s m _ meth c RX2 cX2_isOnStage 1 (some .boolean) E := C
  have hl : lv_has ls 1 [(0, .ref (eA E 2 o))] := hl
  unfold f_X2_isOnStage at hf
  refine g_aload_n C hl 0 rfl rfl (gdec kX2_isOnStage 0 rfl) ?_
  refine gf_X2_28 C h ho (gdec kX2_isOnStage 1 rfl) ?_
  refine g_iconst C (gdec kX2_isOnStage 2 rfl) ?_
  obtain ⟨h1, hf⟩ := gd_s hf
  refine g_icmp_eq C (tgt := 12) h1 (by decide) (by decide) (gdec kX2_isOnStage 3 rfl) (fun c2 => ?_) (fun c2 => ?_)
  · replace hf := ifp c2 hf
    refine g_iconst C (gdec kX2_isOnStage 6 rfl) ?_
    exact g_zret C h (Or.inl rfl) (congrArg (Option.map (Prod.mk _)) hf) (gdec kX2_isOnStage 7 rfl)
  · replace hf := ifn c2 hf
    refine g_iconst C (gdec kX2_isOnStage 4 rfl) ?_
    refine g_goto C (tgt := 13) (by decide) (gdec kX2_isOnStage 5 rfl) ?_
    exact g_zret C h (Or.inr rfl) (congrArg (Option.map (Prod.mk _)) hf) (gdec kX2_isOnStage 7 rfl)
def f_X7_nextInn (G : GS) (p1 : Int) (p2 : Int) : Option (Int) :=
  gd p2 (gd p1 (if p1 < p2 then some (p1 + 1) else some (p1 - 1)))
set_option maxHeartbeats 4000000 in
set_option maxRecDepth 100000 in
theorem c_X7_nextInn (l : Launch) (E : gEnv) (G : GS) (p1 : Int) (p2 : Int) (rz : Int) (hf : f_X7_nextInn G p1 p2 = some rz) : gMet l yX7_nextInn cX7_nextInn 2 (some .int) 0 0 0 0 [vI p1, vI p2] E G (gQi E G rz) := by
  refine g_met (by decide +kernel) (Nat.le_of_ble_eq_true rfl) ?_
  intro p e s m below meth c C H locs h ls hl
  have C : gC p s m _ meth c RX7 cX7_nextInn 2 (some .int) E := C
  have hl : lv_has ls 2 [(0, vI p1), (1, vI p2)] := hl
  unfold f_X7_nextInn at hf
  refine g_iload_n C hl 1 rfl rfl (gdec kX7_nextInn 0 rfl) ?_
  refine g_iload_n C hl 0 rfl rfl (gdec kX7_nextInn 1 rfl) ?_
  obtain ⟨h1, hf⟩ := gd_s hf
  obtain ⟨h2, hf⟩ := gd_s hf
  refine g_icmp_le C (tgt := 11) h1 h2 (by decide) (gdec kX7_nextInn 2 rfl) (fun c3 => ?_) (fun c3 => ?_)
  · replace hf := ifp c3 hf
    refine g_iload_n C hl 0 rfl rfl (gdec kX7_nextInn 3 rfl) ?_
    refine g_iconst C (gdec kX7_nextInn 4 rfl) ?_
    refine g_iadd C (gdec kX7_nextInn 5 rfl) ?_
    refine g_goto C (tgt := 14) (by decide) (gdec kX7_nextInn 6 rfl) ?_
    exact g_iret C h (congrArg (Option.map (Prod.mk _)) hf) (gdec kX7_nextInn 10 rfl)
  · replace hf := ifn c3 hf
    refine g_iload_n C hl 0 rfl rfl (gdec kX7_nextInn 7 rfl) ?_
    refine g_iconst C (gdec kX7_nextInn 8 rfl) ?_
    refine g_isub C (gdec kX7_nextInn 9 rfl) ?_
    exact g_iret C h (congrArg (Option.map (Prod.mk _)) hf) (gdec kX7_nextInn 10 rfl)
def f_X7_stageBetween (G : GS) (p1 : Int) (p2 : Int) : Option (Int) :=
  gd p1 (gd p2 (if p1 < p2 then some p1 else some p2))
set_option maxHeartbeats 4000000 in
set_option maxRecDepth 100000 in
theorem c_X7_stageBetween (l : Launch) (E : gEnv) (G : GS) (p1 : Int) (p2 : Int) (rz : Int) (hf : f_X7_stageBetween G p1 p2 = some rz) : gMet l yX7_stageBetween cX7_stageBetween 2 (some .int) 0 0 0 0 [vI p1, vI p2] E G (gQi E G rz) := by
  refine g_met (by decide +kernel) (Nat.le_of_ble_eq_true rfl) ?_
  intro p e s m below meth c C H locs h ls hl
  have C : gC p s m _ meth c RX7 cX7_stageBetween 2 (some .int) E := C
  have hl : lv_has ls 2 [(0, vI p1), (1, vI p2)] := hl
  unfold f_X7_stageBetween at hf
  refine g_iload_n C hl 0 rfl rfl (gdec kX7_stageBetween 0 rfl) ?_
  refine g_iload_n C hl 1 rfl rfl (gdec kX7_stageBetween 1 rfl) ?_
  obtain ⟨h1, hf⟩ := gd_s hf
  obtain ⟨h2, hf⟩ := gd_s hf
  refine g_icmp_ge C (tgt := 9) h1 h2 (by decide) (gdec kX7_stageBetween 2 rfl) (fun c3 => ?_) (fun c3 => ?_)
  · replace hf := ifp c3 hf
    refine g_iload_n C hl 0 rfl rfl (gdec kX7_stageBetween 3 rfl) ?_
    refine g_goto C (tgt := 10) (by decide) (gdec kX7_stageBetween 4 rfl) ?_
    exact g_iret C h (congrArg (Option.map (Prod.mk _)) hf) (gdec kX7_stageBetween 6 rfl)
  · replace hf := ifn c3 hf
    refine g_iload_n C hl 1 rfl rfl (gdec kX7_stageBetween 5 rfl) ?_
    exact g_iret C h (congrArg (Option.map (Prod.mk _)) hf) (gdec kX7_stageBetween 6 rfl)
def f_X3_bedsTaken_L4 (G : GS) (o : Int) (p1 : Int) : Nat → Int → Int → (Int → Int → Option (Int)) → Option (Int)
  | 0, _, _, _ => none
  | n + 1, x2, x3, k => gd x3 (gd (G 3 o 5) (if x3 < (G 3 o 5) then ga x3 10 (gd (G 6 (10 * o + x3) 2) (gd p1 (if (G 6 (10 * o + x3) 2) = p1 then f_X3_bedsTaken_L4 G o p1 n (x2 + 1) (x3 + 1) k else f_X3_bedsTaken_L4 G o p1 n x2 (x3 + 1) k))) else k x2 x3))
def f_X3_bedsTaken (G : GS) (o : Int) (p1 : Int) : Option (Int) :=
  f_X3_bedsTaken_L4 G o p1 gFuel 0 0 (fun y2_9 y3_9 => some y2_9)
set_option maxHeartbeats 4000000 in
set_option maxRecDepth 100000 in
theorem c_X3_bedsTaken (l : Launch) (E : gEnv) (G : GS) (o : Int) (p1 : Int) (ho : gOk E 3 o) (rz : Int) (hf : f_X3_bedsTaken G o p1 = some rz) : gMet l yX3_bedsTaken cX3_bedsTaken 4 (some .int) 1 21 0 0 [.ref (eA E 3 o), vI p1] E G (gQi E G rz) := by
  refine g_met (by decide +kernel) (Nat.le_of_ble_eq_true rfl) ?_
  intro p e s m below meth c C H locs h ls hl
  have C : gC p s m _ meth c RX3 cX3_bedsTaken 4 (some .int) E := C
  have hl : lv_has ls 4 [(0, .ref (eA E 3 o)), (1, vI p1)] := hl
  have L4 : ∀ (n : Nat) (x2 : Int) (x3 : Int) (k : (Int → Int → Option (Int))) (hK : ∀ (x2 : Int) (x3 : Int), k x2 x3 = some rz → ∀ (H : Heap) (locs : List Loc), gH E s G H locs → ∀ ls, lv_has ls 4 [(0, .ref (eA E 3 o)), (1, vI p1), (2, vI x2), (3, vI x3)] → W p l e (gRm 1 21 0 0) s m ([.ref (eA E 3 o), vI p1] : List Value).toArray below meth c H locs 0 0 (MQ below (gQi E G rz) ([.ref (eA E 3 o), vI p1] : List Value).toArray s 0 0 (eF E)) (F0 m 33 ls [])), ∀ (H : Heap) (locs : List Loc), gH E s G H locs → ∀ ls, lv_has ls 4 [(0, .ref (eA E 3 o)), (1, vI p1), (2, vI x2), (3, vI x3)] → f_X3_bedsTaken_L4 G o p1 n x2 x3 k = some rz → W p l e (gRm 1 21 0 0) s m ([.ref (eA E 3 o), vI p1] : List Value).toArray below meth c H locs 0 0 (MQ below (gQi E G rz) ([.ref (eA E 3 o), vI p1] : List Value).toArray s 0 0 (eF E)) (F0 m 4 ls []) := by
    intro n
    induction n with
    | zero =>
      intro x2 x3 k hK H locs h ls hl hf
      exact absurd hf (by simp [f_X3_bedsTaken_L4])
    | succ n ih =>
      intro x2 x3 k hK H locs h ls hl hf
      unfold f_X3_bedsTaken_L4 at hf
      refine g_iload_n C hl 3 rfl rfl (gdec kX3_bedsTaken 4 rfl) ?_
      refine g_aload_n C hl 0 rfl rfl (gdec kX3_bedsTaken 5 rfl) ?_
      refine gf_X3_51 C h ho (gdec kX3_bedsTaken 6 rfl) ?_
      obtain ⟨h1, hf⟩ := gd_s hf
      obtain ⟨h2, hf⟩ := gd_s hf
      refine g_icmp_ge C (tgt := 33) h1 h2 (by decide) (gdec kX3_bedsTaken 7 rfl) (fun c3 => ?_) (fun c3 => ?_)
      · replace hf := ifp c3 hf
        refine g_aload_n C hl 0 rfl rfl (gdec kX3_bedsTaken 8 rfl) ?_
        refine g_iload_n C hl 3 rfl rfl (gdec kX3_bedsTaken 9 rfl) ?_
        obtain ⟨h4, hf⟩ := ga_s hf
        refine g_cr h (g_runV C h ho (by decide) rfl (c_X3_teamRow l E _ _ _ ho _ (e_X3_teamRow _ _ _ h4)) wM_X3_82 wI_X3_teamRow wS_X3_teamRow wN_X3 wC_X3_teamRow rfl ny_X3_teamRow rfl ⟨Nat.le_of_ble_eq_true rfl, Nat.le_of_ble_eq_true rfl⟩ hl.1 rfl (Nat.le_of_ble_eq_true rfl) (gdec kX3_bedsTaken 10 rfl) ⟨Nat.zero_le _, Nat.zero_le _⟩) (fun H locs h => ?_)
        have k5 : gOk E 6 (10 * o + x3) := gok6 C (gcl_3_2 C ho) h4
        refine gf_X3_135 C h k5 (gdec kX3_bedsTaken 11 rfl) ?_
        refine g_iload_n C hl 1 rfl rfl (gdec kX3_bedsTaken 12 rfl) ?_
        obtain ⟨h6, hf⟩ := gd_s hf
        obtain ⟨h7, hf⟩ := gd_s hf
        refine g_icmp_ne C (tgt := 27) h6 h7 (by decide) (gdec kX3_bedsTaken 13 rfl) (fun c8 => ?_) (fun c8 => ?_)
        · replace hf := ifp c8 hf
          refine g_iinc C (k := 2) [(2, vI (x2 + 1)), (0, .ref (eA E 3 o)), (1, vI p1), (3, vI x3)] hl rfl (by decide) rfl (gdec kX3_bedsTaken 14 rfl) (fun ls hl => ?_)
          refine g_iinc C (k := 3) [(3, vI (x3 + 1)), (2, vI (x2 + 1)), (0, .ref (eA E 3 o)), (1, vI p1)] hl rfl (by decide) rfl (gdec kX3_bedsTaken 15 rfl) (fun ls hl => ?_)
          refine g_goto C (tgt := 4) (by decide) (gdec kX3_bedsTaken 16 rfl) ?_
          exact ih _ _ k hK H locs h ls (lv_sub hl [2, 3, 1, 0] rfl) hf
        · replace hf := ifn c8 hf
          refine g_iinc C (k := 3) [(3, vI (x3 + 1)), (0, .ref (eA E 3 o)), (1, vI p1), (2, vI x2)] hl rfl (by decide) rfl (gdec kX3_bedsTaken 15 rfl) (fun ls hl => ?_)
          refine g_goto C (tgt := 4) (by decide) (gdec kX3_bedsTaken 16 rfl) ?_
          exact ih _ _ k hK H locs h ls (lv_sub hl [1, 2, 3, 0] rfl) hf
      · replace hf := ifn c3 hf
        exact hK _ _ hf H locs h ls (lv_sub hl [0, 1, 2, 3] rfl)
  unfold f_X3_bedsTaken at hf
  refine g_iconst C (gdec kX3_bedsTaken 0 rfl) ?_
  refine g_istore_n C [(2, vI 0), (0, .ref (eA E 3 o)), (1, vI p1)] hl rfl (by decide) rfl (gdec kX3_bedsTaken 1 rfl) (fun ls hl => ?_)
  refine g_iconst C (gdec kX3_bedsTaken 2 rfl) ?_
  refine g_istore_n C [(3, vI 0), (2, vI 0), (0, .ref (eA E 3 o)), (1, vI p1)] hl rfl (by decide) rfl (gdec kX3_bedsTaken 3 rfl) (fun ls hl => ?_)
  refine L4 gFuel _ _ _ (fun y2_9 y3_9 hf H locs h ls hl => ?_) H locs h ls (lv_sub hl [2, 3, 1, 0] rfl) hf
  refine g_iload_n C hl 2 rfl rfl (gdec kX3_bedsTaken 17 rfl) ?_
  exact g_iret C h (congrArg (Option.map (Prod.mk _)) hf) (gdec kX3_bedsTaken 18 rfl)
def f_X6_standsAt (G : GS) (o : Int) (p1 : Int) : Option (Int) :=
  gd (G 6 o 3) (if (G 6 o 3) = (-1) then gd (G 6 o 2) (gd p1 (if (G 6 o 2) = p1 then some 1 else some 0)) else some 0)
set_option maxHeartbeats 4000000 in
set_option maxRecDepth 100000 in
theorem c_X6_standsAt (l : Launch) (E : gEnv) (G : GS) (o : Int) (p1 : Int) (ho : gOk E 6 o) (rz : Int) (hf : f_X6_standsAt G o p1 = some rz) : gMet l yX6_standsAt cX6_standsAt 2 (some .boolean) 0 0 0 0 [.ref (eA E 6 o), vI p1] E G (gQi E G rz) := by
  refine g_met (by decide +kernel) (Nat.le_of_ble_eq_true rfl) ?_
  intro p e s m below meth c C H locs h ls hl
  have C : gC p s m _ meth c RX6 cX6_standsAt 2 (some .boolean) E := C
  have hl : lv_has ls 2 [(0, .ref (eA E 6 o)), (1, vI p1)] := hl
  unfold f_X6_standsAt at hf
  refine g_aload_n C hl 0 rfl rfl (gdec kX6_standsAt 0 rfl) ?_
  refine gf_X6_41 C h ho (gdec kX6_standsAt 1 rfl) ?_
  refine g_iconst C (gdec kX6_standsAt 2 rfl) ?_
  obtain ⟨h1, hf⟩ := gd_s hf
  refine g_icmp_ne C (tgt := 20) h1 (by decide) (by decide) (gdec kX6_standsAt 3 rfl) (fun c2 => ?_) (fun c2 => ?_)
  · replace hf := ifp c2 hf
    refine g_aload_n C hl 0 rfl rfl (gdec kX6_standsAt 4 rfl) ?_
    refine gf_X6_38 C h ho (gdec kX6_standsAt 5 rfl) ?_
    refine g_iload_n C hl 1 rfl rfl (gdec kX6_standsAt 6 rfl) ?_
    obtain ⟨h3, hf⟩ := gd_s hf
    obtain ⟨h4, hf⟩ := gd_s hf
    refine g_icmp_ne C (tgt := 20) h3 h4 (by decide) (gdec kX6_standsAt 7 rfl) (fun c5 => ?_) (fun c5 => ?_)
    · replace hf := ifp c5 hf
      refine g_iconst C (gdec kX6_standsAt 8 rfl) ?_
      refine g_goto C (tgt := 21) (by decide) (gdec kX6_standsAt 9 rfl) ?_
      exact g_zret C h (Or.inr rfl) (congrArg (Option.map (Prod.mk _)) hf) (gdec kX6_standsAt 11 rfl)
    · replace hf := ifn c5 hf
      refine g_iconst C (gdec kX6_standsAt 10 rfl) ?_
      exact g_zret C h (Or.inl rfl) (congrArg (Option.map (Prod.mk _)) hf) (gdec kX6_standsAt 11 rfl)
  · replace hf := ifn c2 hf
    refine g_iconst C (gdec kX6_standsAt 10 rfl) ?_
    exact g_zret C h (Or.inl rfl) (congrArg (Option.map (Prod.mk _)) hf) (gdec kX6_standsAt 11 rfl)
def f_X3_fittestTeamAt_L8 (G : GS) (o : Int) (p1 : Int) : Nat → Int → Int → Int → (Int → Int → Int → Option (Int)) → Option (Int)
  | 0, _, _, _, _ => none
  | n + 1, x2, x3, x4, k => gd x4 (gd (G 3 o 5) (if x4 < (G 3 o 5) then ga x4 10 (bn1 (f_X6_standsAt G (10 * o + x4) p1) (fun r6 => gd r6 (if r6 = 0 then f_X3_fittestTeamAt_L8 G o p1 n x2 x3 (x4 + 1) k else gd (G 6 (10 * o + x4) 1) (gd x3 (if (G 6 (10 * o + x4) 1) < x3 then f_X3_fittestTeamAt_L8 G o p1 n x4 (G 6 (10 * o + x4) 1) (x4 + 1) k else f_X3_fittestTeamAt_L8 G o p1 n x2 x3 (x4 + 1) k))))) else k x2 x3 x4))
def f_X3_fittestTeamAt (G : GS) (o : Int) (p1 : Int) : Option (Int) :=
  f_X3_fittestTeamAt_L8 G o p1 gFuel (-1) 101 0 (fun y2_15 y3_15 y4_15 => some y2_15)
set_option maxHeartbeats 4000000 in
set_option maxRecDepth 100000 in
theorem c_X3_fittestTeamAt (l : Launch) (E : gEnv) (G : GS) (o : Int) (p1 : Int) (ho : gOk E 3 o) (rz : Int) (hf : f_X3_fittestTeamAt G o p1 = some rz) : gMet l yX3_fittestTeamAt cX3_fittestTeamAt 5 (some .int) 1 21 0 0 [.ref (eA E 3 o), vI p1] E G (gQi E G rz) := by
  refine g_met (by decide +kernel) (Nat.le_of_ble_eq_true rfl) ?_
  intro p e s m below meth c C H locs h ls hl
  have C : gC p s m _ meth c RX3 cX3_fittestTeamAt 5 (some .int) E := C
  have hl : lv_has ls 5 [(0, .ref (eA E 3 o)), (1, vI p1)] := hl
  have L8 : ∀ (n : Nat) (x2 : Int) (x3 : Int) (x4 : Int) (k : (Int → Int → Int → Option (Int))) (hK : ∀ (x2 : Int) (x3 : Int) (x4 : Int), k x2 x3 x4 = some rz → ∀ (H : Heap) (locs : List Loc), gH E s G H locs → ∀ ls, lv_has ls 5 [(0, .ref (eA E 3 o)), (1, vI p1), (2, vI x2), (3, vI x3), (4, vI x4)] → W p l e (gRm 1 21 0 0) s m ([.ref (eA E 3 o), vI p1] : List Value).toArray below meth c H locs 0 0 (MQ below (gQi E G rz) ([.ref (eA E 3 o), vI p1] : List Value).toArray s 0 0 (eF E)) (F0 m 62 ls [])), ∀ (H : Heap) (locs : List Loc), gH E s G H locs → ∀ ls, lv_has ls 5 [(0, .ref (eA E 3 o)), (1, vI p1), (2, vI x2), (3, vI x3), (4, vI x4)] → f_X3_fittestTeamAt_L8 G o p1 n x2 x3 x4 k = some rz → W p l e (gRm 1 21 0 0) s m ([.ref (eA E 3 o), vI p1] : List Value).toArray below meth c H locs 0 0 (MQ below (gQi E G rz) ([.ref (eA E 3 o), vI p1] : List Value).toArray s 0 0 (eF E)) (F0 m 8 ls []) := by
    intro n
    induction n with
    | zero =>
      intro x2 x3 x4 k hK H locs h ls hl hf
      exact absurd hf (by simp [f_X3_fittestTeamAt_L8])
    | succ n ih =>
      intro x2 x3 x4 k hK H locs h ls hl hf
      unfold f_X3_fittestTeamAt_L8 at hf
      refine g_iload C hl 4 rfl (gdec kX3_fittestTeamAt 6 rfl) ?_
      refine g_aload_n C hl 0 rfl rfl (gdec kX3_fittestTeamAt 7 rfl) ?_
      refine gf_X3_51 C h ho (gdec kX3_fittestTeamAt 8 rfl) ?_
      obtain ⟨h1, hf⟩ := gd_s hf
      obtain ⟨h2, hf⟩ := gd_s hf
      refine g_icmp_ge C (tgt := 62) h1 h2 (by decide) (gdec kX3_fittestTeamAt 9 rfl) (fun c3 => ?_) (fun c3 => ?_)
      · replace hf := ifp c3 hf
        refine g_aload_n C hl 0 rfl rfl (gdec kX3_fittestTeamAt 10 rfl) ?_
        refine g_iload C hl 4 rfl (gdec kX3_fittestTeamAt 11 rfl) ?_
        obtain ⟨h4, hf⟩ := ga_s hf
        refine g_cr h (g_runV C h ho (by decide) rfl (c_X3_teamRow l E _ _ _ ho _ (e_X3_teamRow _ _ _ h4)) wM_X3_82 wI_X3_teamRow wS_X3_teamRow wN_X3 wC_X3_teamRow rfl ny_X3_teamRow rfl ⟨Nat.le_of_ble_eq_true rfl, Nat.le_of_ble_eq_true rfl⟩ hl.1 rfl (Nat.le_of_ble_eq_true rfl) (gdec kX3_fittestTeamAt 12 rfl) ⟨Nat.zero_le _, Nat.zero_le _⟩) (fun H locs h => ?_)
        have k5 : gOk E 6 (10 * o + x4) := gok6 C (gcl_3_2 C ho) h4
        refine g_iload_n C hl 1 rfl rfl (gdec kX3_fittestTeamAt 13 rfl) ?_
        obtain ⟨r6, q7, hf⟩ := bn1_s hf
        refine g_ci h (g_runV C h k5 (by decide) rfl (c_X6_standsAt l E _ _ _ k5 _ q7) wM_X3_243 wI_X6_standsAt wS_X6_standsAt wN_X6 wC_X6_standsAt rfl ny_X6_standsAt rfl ⟨Nat.le_of_ble_eq_true rfl, Nat.le_of_ble_eq_true rfl⟩ hl.1 rfl (Nat.le_of_ble_eq_true rfl) (gdec kX3_fittestTeamAt 14 rfl) ⟨Nat.zero_le _, Nat.zero_le _⟩) (fun H locs h => ?_)
        obtain ⟨h8, hf⟩ := gd_s hf
        refine g_if_eq C (tgt := 56) h8 (by decide) (gdec kX3_fittestTeamAt 15 rfl) (fun c9 => ?_) (fun c9 => ?_)
        · replace hf := ifp c9 hf
          refine g_iinc C (k := 4) [(4, vI (x4 + 1)), (0, .ref (eA E 3 o)), (1, vI p1), (2, vI x2), (3, vI x3)] hl rfl (by decide) rfl (gdec kX3_fittestTeamAt 29 rfl) (fun ls hl => ?_)
          refine g_goto C (tgt := 8) (by decide) (gdec kX3_fittestTeamAt 30 rfl) ?_
          exact ih _ _ _ k hK H locs h ls (lv_sub hl [1, 2, 3, 4, 0] rfl) hf
        · replace hf := ifn c9 hf
          refine g_aload_n C hl 0 rfl rfl (gdec kX3_fittestTeamAt 16 rfl) ?_
          refine g_iload C hl 4 rfl (gdec kX3_fittestTeamAt 17 rfl) ?_
          refine g_cr h (g_runV C h ho (by decide) rfl (c_X3_teamRow l E _ _ _ ho _ (e_X3_teamRow _ _ _ h4)) wM_X3_82 wI_X3_teamRow wS_X3_teamRow wN_X3 wC_X3_teamRow rfl ny_X3_teamRow rfl ⟨Nat.le_of_ble_eq_true rfl, Nat.le_of_ble_eq_true rfl⟩ hl.1 rfl (Nat.le_of_ble_eq_true rfl) (gdec kX3_fittestTeamAt 18 rfl) ⟨Nat.zero_le _, Nat.zero_le _⟩) (fun H locs h => ?_)
          have k10 : gOk E 6 (10 * o + x4) := gok6 C (gcl_3_2 C ho) h4
          refine gf_X3_142 C h k10 (gdec kX3_fittestTeamAt 19 rfl) ?_
          refine g_iload_n C hl 3 rfl rfl (gdec kX3_fittestTeamAt 20 rfl) ?_
          obtain ⟨h11, hf⟩ := gd_s hf
          obtain ⟨h12, hf⟩ := gd_s hf
          refine g_icmp_ge C (tgt := 56) h11 h12 (by decide) (gdec kX3_fittestTeamAt 21 rfl) (fun c13 => ?_) (fun c13 => ?_)
          · replace hf := ifp c13 hf
            refine g_iload C hl 4 rfl (gdec kX3_fittestTeamAt 22 rfl) ?_
            refine g_istore_n C [(2, vI x4), (0, .ref (eA E 3 o)), (1, vI p1), (3, vI x3), (4, vI x4)] hl rfl (by decide) rfl (gdec kX3_fittestTeamAt 23 rfl) (fun ls hl => ?_)
            refine g_aload_n C hl 1 rfl rfl (gdec kX3_fittestTeamAt 24 rfl) ?_
            refine g_iload C hl 4 rfl (gdec kX3_fittestTeamAt 25 rfl) ?_
            refine g_cr h (g_runV C h ho (by decide) rfl (c_X3_teamRow l E _ _ _ ho _ (e_X3_teamRow _ _ _ h4)) wM_X3_82 wI_X3_teamRow wS_X3_teamRow wN_X3 wC_X3_teamRow rfl ny_X3_teamRow rfl ⟨Nat.le_of_ble_eq_true rfl, Nat.le_of_ble_eq_true rfl⟩ hl.1 rfl (Nat.le_of_ble_eq_true rfl) (gdec kX3_fittestTeamAt 26 rfl) ⟨Nat.zero_le _, Nat.zero_le _⟩) (fun H locs h => ?_)
            have k14 : gOk E 6 (10 * o + x4) := gok6 C (gcl_3_2 C ho) h4
            refine gf_X3_142 C h k14 (gdec kX3_fittestTeamAt 27 rfl) ?_
            refine g_istore_n C [(3, vI (G 6 (10 * o + x4) 1)), (2, vI x4), (0, .ref (eA E 3 o)), (1, vI p1), (4, vI x4)] hl rfl (by decide) rfl (gdec kX3_fittestTeamAt 28 rfl) (fun ls hl => ?_)
            refine g_iinc C (k := 4) [(4, vI (x4 + 1)), (3, vI (G 6 (10 * o + x4) 1)), (2, vI x4), (0, .ref (eA E 3 o)), (1, vI p1)] hl rfl (by decide) rfl (gdec kX3_fittestTeamAt 29 rfl) (fun ls hl => ?_)
            refine g_goto C (tgt := 8) (by decide) (gdec kX3_fittestTeamAt 30 rfl) ?_
            exact ih _ _ _ k hK H locs h ls (lv_sub hl [3, 4, 2, 1, 0] rfl) hf
          · replace hf := ifn c13 hf
            refine g_iinc C (k := 4) [(4, vI (x4 + 1)), (0, .ref (eA E 3 o)), (1, vI p1), (2, vI x2), (3, vI x3)] hl rfl (by decide) rfl (gdec kX3_fittestTeamAt 29 rfl) (fun ls hl => ?_)
            refine g_goto C (tgt := 8) (by decide) (gdec kX3_fittestTeamAt 30 rfl) ?_
            exact ih _ _ _ k hK H locs h ls (lv_sub hl [1, 2, 3, 4, 0] rfl) hf
      · replace hf := ifn c3 hf
        exact hK _ _ _ hf H locs h ls (lv_sub hl [0, 1, 2, 3, 4] rfl)
  unfold f_X3_fittestTeamAt at hf
  refine g_iconst C (gdec kX3_fittestTeamAt 0 rfl) ?_
  refine g_istore_n C [(2, vI (-1)), (0, .ref (eA E 3 o)), (1, vI p1)] hl rfl (by decide) rfl (gdec kX3_fittestTeamAt 1 rfl) (fun ls hl => ?_)
  refine g_bipush C (gdec kX3_fittestTeamAt 2 rfl) rfl ?_
  refine g_istore_n C [(3, vI 101), (2, vI (-1)), (0, .ref (eA E 3 o)), (1, vI p1)] hl rfl (by decide) rfl (gdec kX3_fittestTeamAt 3 rfl) (fun ls hl => ?_)
  refine g_iconst C (gdec kX3_fittestTeamAt 4 rfl) ?_
  refine g_istore C [(4, vI 0), (3, vI 101), (2, vI (-1)), (0, .ref (eA E 3 o)), (1, vI p1)] hl (by decide) rfl (gdec kX3_fittestTeamAt 5 rfl) (fun ls hl => ?_)
  refine L8 gFuel _ _ _ _ (fun y2_15 y3_15 y4_15 hf H locs h ls hl => ?_) H locs h ls (lv_sub hl [3, 4, 2, 1, 0] rfl) hf
  refine g_iload_n C hl 2 rfl rfl (gdec kX3_fittestTeamAt 31 rfl) ?_
  exact g_iret C h (congrArg (Option.map (Prod.mk _)) hf) (gdec kX3_fittestTeamAt 32 rfl)

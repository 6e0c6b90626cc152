theorem va_at_arr {D : va_G} {q n : Nat} {cA : ClassId} {f g : Nat → Option Nat} {H : Heap} (h : ∀ x, x < n → f x = g x) : va_at D vwCl (q, .inl (cA, n, gRs f)) H → va_at D vwCl (q, .inl (cA, n, gRs g)) H := by
  intro h1
  have e : vp_cell cA (n, gRs f) = vp_cell cA (n, gRs g) := by
    rw [vp_cell_q, vp_cell_q]
    unfold arrV
    congr 1
    refine Array.ext (by simp) fun i h1 h2 => ?_
    simp only [Array.getElem_ofFn]
    rw [h i (by simpa using h1)]
  exact h1.trans (congrArg some e)
set_option maxHeartbeats 8000000 in
set_option maxRecDepth 100000 in
theorem c_X3_init (l : Launch) (E0 : gEnv) (r : Int) (B : Nat) (G1 : GS) (hf : f_X3_restart gZ r = some G1) : Met l yX3_init (.code yX3_init cX3_init 2 none :: gWords) (gRm 4 300 41 298) (va_Pc [.ref B] (fun U => gK (eR E0 r B) U ∧ cP (eR E0 r B) B 1 (fun _ => .inr (3, gD3)) U.heap)) (va_Qv (fun _ : Unit => True) (fun _ t => gP (eR E0 r B) G1 t.heap ∧ t.heap.size = B + 42) (fun q => B ≤ q)) 41 298 (fun q => B ≤ q) := by
  refine n_met (E := eR E0 r B) (by decide +kernel) (Nat.le_of_ble_eq_true rfl) rfl (fun s h => h.1) ?_
  intro p e s m below meth c C hin hp ls hl
  have h := hp.2
  obtain ⟨E, hE⟩ : ∃ E, E = eR E0 r B := ⟨_, rfl⟩
  rw [← hE] at C h ⊢
  have hC : eC E = eC E0 := by rw [hE]; rfl
  have hEf : eF E = fun q => B ≤ q := by rw [hE]; rfl
  have hA : ∀ q, B ≤ q → eF E q := fun q z => by rw [hEf]; exact z
  have hS : va_S (eF E) s.heap s.heap [] := va_S.rf
  have C : gC p s m _ meth c RX3 cX3_init 2 none E := C
  have hl : lv_has ls 2 [(0, .ref B)] := hl
  obtain ⟨Qr, hQr⟩ : ∃ Q, Q = va_Qv (fun _ : Unit => True) (fun _ t => gP E G1 t.heap ∧ t.heap.size = B + 42) (fun q => B ≤ q) := ⟨_, rfl⟩
  rw [← hQr]
  have L42 : ∀ (d i : Nat), i + d = 7 → (∀ (H : Heap) (locs : List Loc), cP E B 12 (Wr E B 7 0 0 0) H → va_S (eF E) s.heap H locs → ∀ ls, lv_has ls 2 [(0, .ref B)] → W p l e (gRm 4 300 41 298) s m ([.ref B] : List Value).toArray below meth c H locs 11 58 (MQ below Qr ([.ref B] : List Value).toArray s 41 298 (fun q => B ≤ q)) (F0 m 67 ls [])) → ∀ (H : Heap) (locs : List Loc), cP E B (5 + i) (Wr E B i 0 0 0) H → va_S (eF E) s.heap H locs → ∀ ls, lv_has ls 2 [(1, vI i), (0, .ref B)] → W p l e (gRm 4 300 41 298) s m ([.ref B] : List Value).toArray below meth c H locs (4 + i) (37 + 3 * i) (MQ below Qr ([.ref B] : List Value).toArray s 41 298 (fun q => B ≤ q)) (F0 m 42 ls []) := by
    intro d
    induction d with
    | zero =>
      intro i hi hK H locs h hS ls hl
      have hi7 : i = 7 := by omega
      subst hi7
      refine g_iload_n C hl 0 rfl rfl (gdec kX3_init 20 rfl) ?_
      refine g_bipush C (gdec kX3_init 21 rfl) rfl ?_
      refine g_icmp_ge C (tgt := 67) (by decide) (by decide) (by decide) (gdec kX3_init 22 rfl) (fun c1 => absurd c1 (by decide)) (fun c1 => ?_)
      exact hK H locs h hS ls (lv_sub hl [1] rfl)
    | succ d ih =>
      intro i hi hK H locs h hS ls hl
      refine g_iload_n C hl 0 rfl rfl (gdec kX3_init 20 rfl) ?_
      refine g_bipush C (gdec kX3_init 21 rfl) rfl ?_
      refine g_icmp_ge C (tgt := 67) ⟨by omega, by omega⟩ (by decide) (by decide) (gdec kX3_init 22 rfl) (fun c1 => ?_) (fun c1 => absurd (by omega) c1)
      refine g_aload_n C hl 1 rfl rfl (gdec kX3_init 23 rfl) ?_
      refine n_get C h hS (j := 0) (by omega) (k := 3) rfl (T := TX3) rfl 0 (by decide) wF_X3_11 (v := .ref (B + 1)) rfl (gdec kX3_init 24 rfl) ?_
      refine g_iload_n C hl 0 rfl rfl (gdec kX3_init 25 rfl) ?_
      refine n_new C h hS (k := 5) (T := TX5) (ty := tyX5) rfl tyX5_ok (fs := [.int 0, .int 0, .int 0]) (by decide +kernel) wK_X3_9 wB_X5 wN_X5 ⟨by show 4 + i + 1 ≤ 41; omega, by show 37 + 3 * i + 3 ≤ 298; omega⟩ (gdec kX3_init 26 rfl) (fun H1 h1 hS1 => ?_)
      refine g_dup C rfl (gdec kX3_init 27 rfl) ?_
      refine n_initN C hS1 (c_X5_init l E _ _) wNest_X3_35 wI_X5_init wN_X5 wC_X5_init rfl ny_X5_init (by decide) hl.1 (Nat.le_of_ble_eq_true rfl) (gdec kX3_init 28 rfl) ⟨by show 4 + i + 1 ≤ 41; omega, by show 37 + 3 * i + 3 ≤ 298; omega⟩ (fun locs2 hS2 => ?_)
      refine n_aast C h1 hS2 hA (k := 14) (j := 1) (i2 := 5 + i) (ci := 5) (r := (RX5, TX5, 3)) (n := 7) (f := fun x => if x < i then some (B + (5 + x)) else none) (by omega) (by omega) (by unfold wU; rw [if_neg (by omega)]; rfl) 2 rfl (by unfold wU; rw [if_pos rfl]) rfl ⟨by omega, by omega⟩ (by decide) (gdec kX3_init 29 rfl) (fun H3 locs3 h3 hS3 => ?_)
      have h4 : cP E B (5 + (i + 1)) (Wr E B (i + 1) 0 0 0) H3 := cP_eq h3 (fun j hj => by
        by_cases e1 : j = 1
        · subst e1
          refine congrArg (fun g => (.inl (eC E 14, 7, gRs g) : va_E)) (funext fun x => ?_)
          by_cases e2 : x = i
          · subst e2
            simp
          · have e3 : ¬ x = (i : Int).toNat := by omega
            have e4 : (x < i + 1) = (x < i) := propext (by omega)
            simp only [if_neg e3, e4]
        · by_cases e2 : j = 5 + i
          · subst e2
            unfold wU Wr
            simp only [if_neg e1, if_true]
            repeat' split
            all_goals first | rfl | omega
          · unfold wU
            rw [if_neg e1, if_neg e2]
            unfold Wr
            simp only [if_neg e1])
      refine g_iinc C (k := 0) [(1, vI ((i : Int) + 1)), (0, .ref B)] hl rfl (by decide) rfl (gdec kX3_init 30 rfl) (fun ls hl => ?_)
      refine g_goto C (tgt := 42) (by decide) (gdec kX3_init 31 rfl) ?_
      refine W.widen (k := 4 + (i + 1)) (n := 37 + 3 * (i + 1)) (by omega) (by omega) ?_
      exact ih (i + 1) (by omega) hK H3 locs3 h4 hS3 ls hl
  have L69 : ∀ (d i : Nat), i + d = 8 → (∀ (H : Heap) (locs : List Loc), cP E B 20 (Wr E B 7 8 0 0) H → va_S (eF E) s.heap H locs → ∀ ls, lv_has ls 2 [(0, .ref B)] → W p l e (gRm 4 300 41 298) s m ([.ref B] : List Value).toArray below meth c H locs 19 82 (MQ below Qr ([.ref B] : List Value).toArray s 41 298 (fun q => B ≤ q)) (F0 m 94 ls [])) → ∀ (H : Heap) (locs : List Loc), cP E B (12 + i) (Wr E B 7 i 0 0) H → va_S (eF E) s.heap H locs → ∀ ls, lv_has ls 2 [(1, vI i), (0, .ref B)] → W p l e (gRm 4 300 41 298) s m ([.ref B] : List Value).toArray below meth c H locs (11 + i) (58 + 3 * i) (MQ below Qr ([.ref B] : List Value).toArray s 41 298 (fun q => B ≤ q)) (F0 m 69 ls []) := by
    intro d
    induction d with
    | zero =>
      intro i hi hK H locs h hS ls hl
      have hi7 : i = 8 := by omega
      subst hi7
      refine g_iload_n C hl 0 rfl rfl (gdec kX3_init 34 rfl) ?_
      refine g_bipush C (gdec kX3_init 35 rfl) rfl ?_
      refine g_icmp_ge C (tgt := 94) (by decide) (by decide) (by decide) (gdec kX3_init 36 rfl) (fun c1 => absurd c1 (by decide)) (fun c1 => ?_)
      exact hK H locs h hS ls (lv_sub hl [1] rfl)
    | succ d ih =>
      intro i hi hK H locs h hS ls hl
      refine g_iload_n C hl 0 rfl rfl (gdec kX3_init 34 rfl) ?_
      refine g_bipush C (gdec kX3_init 35 rfl) rfl ?_
      refine g_icmp_ge C (tgt := 94) ⟨by omega, by omega⟩ (by decide) (by decide) (gdec kX3_init 36 rfl) (fun c1 => ?_) (fun c1 => absurd (by omega) c1)
      refine g_aload_n C hl 1 rfl rfl (gdec kX3_init 37 rfl) ?_
      refine n_get C h hS (j := 0) (by omega) (k := 3) rfl (T := TX3) rfl 1 (by decide) wF_X3_19 (v := .ref (B + 2)) rfl (gdec kX3_init 38 rfl) ?_
      refine g_iload_n C hl 0 rfl rfl (gdec kX3_init 39 rfl) ?_
      refine n_new C h hS (k := 1) (T := TX1) (ty := tyX1) rfl tyX1_ok (fs := [.int 0, .int 0, .int 0]) (by decide +kernel) wK_X3_17 wB_X1 wN_X1 ⟨by show 11 + i + 1 ≤ 41; omega, by show 58 + 3 * i + 3 ≤ 298; omega⟩ (gdec kX3_init 40 rfl) (fun H1 h1 hS1 => ?_)
      refine g_dup C rfl (gdec kX3_init 41 rfl) ?_
      refine n_initN C hS1 (c_X1_init l E _ _) wNest_X3_36 wI_X1_init wN_X1 wC_X1_init rfl ny_X1_init (by decide) hl.1 (Nat.le_of_ble_eq_true rfl) (gdec kX3_init 42 rfl) ⟨by show 11 + i + 1 ≤ 41; omega, by show 58 + 3 * i + 3 ≤ 298; omega⟩ (fun locs2 hS2 => ?_)
      refine n_aast C h1 hS2 hA (k := 15) (j := 2) (i2 := 12 + i) (ci := 1) (r := (RX1, TX1, 3)) (n := 8) (f := fun x => if x < i then some (B + (12 + x)) else none) (by omega) (by omega) (by unfold wU; rw [if_neg (by omega)]; rfl) 3 rfl (by unfold wU; rw [if_pos rfl]) rfl ⟨by omega, by omega⟩ (by decide) (gdec kX3_init 43 rfl) (fun H3 locs3 h3 hS3 => ?_)
      have h4 : cP E B (12 + (i + 1)) (Wr E B 7 (i + 1) 0 0) H3 := cP_eq h3 (fun j hj => by
        by_cases e1 : j = 2
        · subst e1
          refine congrArg (fun g => (.inl (eC E 15, 8, gRs g) : va_E)) (funext fun x => ?_)
          by_cases e2 : x = i
          · subst e2
            simp
          · have e3 : ¬ x = (i : Int).toNat := by omega
            have e4 : (x < i + 1) = (x < i) := propext (by omega)
            simp only [if_neg e3, e4]
        · by_cases e2 : j = 12 + i
          · subst e2
            unfold wU Wr
            simp only [if_neg e1, if_true]
            repeat' split
            all_goals first | rfl | omega
          · unfold wU
            rw [if_neg e1, if_neg e2]
            unfold Wr
            simp only [if_neg e1])
      refine g_iinc C (k := 0) [(1, vI ((i : Int) + 1)), (0, .ref B)] hl rfl (by decide) rfl (gdec kX3_init 44 rfl) (fun ls hl => ?_)
      refine g_goto C (tgt := 69) (by decide) (gdec kX3_init 45 rfl) ?_
      refine W.widen (k := 11 + (i + 1)) (n := 58 + 3 * (i + 1)) (by omega) (by omega) ?_
      exact ih (i + 1) (by omega) hK H3 locs3 h4 hS3 ls hl
  have L96 : ∀ (d i : Nat), i + d = 10 → (∀ (H : Heap) (locs : List Loc), cP E B 30 (Wr E B 7 8 10 0) H → va_S (eF E) s.heap H locs → ∀ ls, lv_has ls 2 [(0, .ref B)] → W p l e (gRm 4 300 41 298) s m ([.ref B] : List Value).toArray below meth c H locs 29 202 (MQ below Qr ([.ref B] : List Value).toArray s 41 298 (fun q => B ≤ q)) (F0 m 121 ls [])) → ∀ (H : Heap) (locs : List Loc), cP E B (20 + i) (Wr E B 7 8 i 0) H → va_S (eF E) s.heap H locs → ∀ ls, lv_has ls 2 [(1, vI i), (0, .ref B)] → W p l e (gRm 4 300 41 298) s m ([.ref B] : List Value).toArray below meth c H locs (19 + i) (82 + 12 * i) (MQ below Qr ([.ref B] : List Value).toArray s 41 298 (fun q => B ≤ q)) (F0 m 96 ls []) := by
    intro d
    induction d with
    | zero =>
      intro i hi hK H locs h hS ls hl
      have hi7 : i = 10 := by omega
      subst hi7
      refine g_iload_n C hl 0 rfl rfl (gdec kX3_init 48 rfl) ?_
      refine g_bipush C (gdec kX3_init 49 rfl) rfl ?_
      refine g_icmp_ge C (tgt := 121) (by decide) (by decide) (by decide) (gdec kX3_init 50 rfl) (fun c1 => absurd c1 (by decide)) (fun c1 => ?_)
      exact hK H locs h hS ls (lv_sub hl [1] rfl)
    | succ d ih =>
      intro i hi hK H locs h hS ls hl
      refine g_iload_n C hl 0 rfl rfl (gdec kX3_init 48 rfl) ?_
      refine g_bipush C (gdec kX3_init 49 rfl) rfl ?_
      refine g_icmp_ge C (tgt := 121) ⟨by omega, by omega⟩ (by decide) (by decide) (gdec kX3_init 50 rfl) (fun c1 => ?_) (fun c1 => absurd (by omega) c1)
      refine g_aload_n C hl 1 rfl rfl (gdec kX3_init 51 rfl) ?_
      refine n_get C h hS (j := 0) (by omega) (k := 3) rfl (T := TX3) rfl 2 (by decide) wF_X3_25 (v := .ref (B + 3)) rfl (gdec kX3_init 52 rfl) ?_
      refine g_iload_n C hl 0 rfl rfl (gdec kX3_init 53 rfl) ?_
      refine n_new C h hS (k := 6) (T := TX6) (ty := tyX6) rfl tyX6_ok (fs := [.int 0, .int 0, .int 0, .int 0, .int 0, .int 0, .int 0, .int 0, .int 0, .int 0, .int 0, .int 0]) (by decide +kernel) wK_X3_23 wB_X6 wN_X6 ⟨by show 19 + i + 1 ≤ 41; omega, by show 82 + 12 * i + 12 ≤ 298; omega⟩ (gdec kX3_init 54 rfl) (fun H1 h1 hS1 => ?_)
      refine g_dup C rfl (gdec kX3_init 55 rfl) ?_
      refine n_initN C hS1 (c_X6_init l E _ _) wNest_X3_37 wI_X6_init wN_X6 wC_X6_init rfl ny_X6_init (by decide) hl.1 (Nat.le_of_ble_eq_true rfl) (gdec kX3_init 56 rfl) ⟨by show 19 + i + 1 ≤ 41; omega, by show 82 + 12 * i + 12 ≤ 298; omega⟩ (fun locs2 hS2 => ?_)
      refine n_aast C h1 hS2 hA (k := 16) (j := 3) (i2 := 20 + i) (ci := 6) (r := (RX6, TX6, 12)) (n := 10) (f := fun x => if x < i then some (B + (20 + x)) else none) (by omega) (by omega) (by unfold wU; rw [if_neg (by omega)]; rfl) 4 rfl (by unfold wU; rw [if_pos rfl]) rfl ⟨by omega, by omega⟩ (by decide) (gdec kX3_init 57 rfl) (fun H3 locs3 h3 hS3 => ?_)
      have h4 : cP E B (20 + (i + 1)) (Wr E B 7 8 (i + 1) 0) H3 := cP_eq h3 (fun j hj => by
        by_cases e1 : j = 3
        · subst e1
          refine congrArg (fun g => (.inl (eC E 16, 10, gRs g) : va_E)) (funext fun x => ?_)
          by_cases e2 : x = i
          · subst e2
            simp
          · have e3 : ¬ x = (i : Int).toNat := by omega
            have e4 : (x < i + 1) = (x < i) := propext (by omega)
            simp only [if_neg e3, e4]
        · by_cases e2 : j = 20 + i
          · subst e2
            unfold wU Wr
            simp only [if_neg e1, if_true]
            repeat' split
            all_goals first | rfl | omega
          · unfold wU
            rw [if_neg e1, if_neg e2]
            unfold Wr
            simp only [if_neg e1])
      refine g_iinc C (k := 0) [(1, vI ((i : Int) + 1)), (0, .ref B)] hl rfl (by decide) rfl (gdec kX3_init 58 rfl) (fun ls hl => ?_)
      refine g_goto C (tgt := 96) (by decide) (gdec kX3_init 59 rfl) ?_
      refine W.widen (k := 19 + (i + 1)) (n := 82 + 12 * (i + 1)) (by omega) (by omega) ?_
      exact ih (i + 1) (by omega) hK H3 locs3 h4 hS3 ls hl
  have L123 : ∀ (d i : Nat), i + d = 12 → (∀ (H : Heap) (locs : List Loc), cP E B 42 (Wr E B 7 8 10 12) H → va_S (eF E) s.heap H locs → ∀ ls, lv_has ls 2 [(0, .ref B)] → W p l e (gRm 4 300 41 298) s m ([.ref B] : List Value).toArray below meth c H locs 41 298 (MQ below Qr ([.ref B] : List Value).toArray s 41 298 (fun q => B ≤ q)) (F0 m 148 ls [])) → ∀ (H : Heap) (locs : List Loc), cP E B (30 + i) (Wr E B 7 8 10 i) H → va_S (eF E) s.heap H locs → ∀ ls, lv_has ls 2 [(1, vI i), (0, .ref B)] → W p l e (gRm 4 300 41 298) s m ([.ref B] : List Value).toArray below meth c H locs (29 + i) (202 + 8 * i) (MQ below Qr ([.ref B] : List Value).toArray s 41 298 (fun q => B ≤ q)) (F0 m 123 ls []) := by
    intro d
    induction d with
    | zero =>
      intro i hi hK H locs h hS ls hl
      have hi7 : i = 12 := by omega
      subst hi7
      refine g_iload_n C hl 0 rfl rfl (gdec kX3_init_1 2 rfl) ?_
      refine g_bipush C (gdec kX3_init_1 3 rfl) rfl ?_
      refine g_icmp_ge C (tgt := 148) (by decide) (by decide) (by decide) (gdec kX3_init_1 4 rfl) (fun c1 => absurd c1 (by decide)) (fun c1 => ?_)
      exact hK H locs h hS ls (lv_sub hl [1] rfl)
    | succ d ih =>
      intro i hi hK H locs h hS ls hl
      refine g_iload_n C hl 0 rfl rfl (gdec kX3_init_1 2 rfl) ?_
      refine g_bipush C (gdec kX3_init_1 3 rfl) rfl ?_
      refine g_icmp_ge C (tgt := 148) ⟨by omega, by omega⟩ (by decide) (by decide) (gdec kX3_init_1 4 rfl) (fun c1 => ?_) (fun c1 => absurd (by omega) c1)
      refine g_aload_n C hl 1 rfl rfl (gdec kX3_init_1 5 rfl) ?_
      refine n_get C h hS (j := 0) (by omega) (k := 3) rfl (T := TX3) rfl 3 (by decide) wF_X3_31 (v := .ref (B + 4)) rfl (gdec kX3_init_1 6 rfl) ?_
      refine g_iload_n C hl 0 rfl rfl (gdec kX3_init_1 7 rfl) ?_
      refine n_new C h hS (k := 2) (T := TX2) (ty := tyX2) rfl tyX2_ok (fs := [.int 0, .int 0, .int 0, .int 0, .int 0, .int 0, .int 0, .int 0]) (by decide +kernel) wK_X3_29 wB_X2 wN_X2 ⟨by show 29 + i + 1 ≤ 41; omega, by show 202 + 8 * i + 8 ≤ 298; omega⟩ (gdec kX3_init_1 8 rfl) (fun H1 h1 hS1 => ?_)
      refine g_dup C rfl (gdec kX3_init_1 9 rfl) ?_
      refine n_initN C hS1 (c_X2_init l E _ _) wNest_X3_38 wI_X2_init wN_X2 wC_X2_init rfl ny_X2_init (by decide) hl.1 (Nat.le_of_ble_eq_true rfl) (gdec kX3_init_1 10 rfl) ⟨by show 29 + i + 1 ≤ 41; omega, by show 202 + 8 * i + 8 ≤ 298; omega⟩ (fun locs2 hS2 => ?_)
      refine n_aast C h1 hS2 hA (k := 17) (j := 4) (i2 := 30 + i) (ci := 2) (r := (RX2, TX2, 8)) (n := 12) (f := fun x => if x < i then some (B + (30 + x)) else none) (by omega) (by omega) (by unfold wU; rw [if_neg (by omega)]; rfl) 5 rfl (by unfold wU; rw [if_pos rfl]) rfl ⟨by omega, by omega⟩ (by decide) (gdec kX3_init_1 11 rfl) (fun H3 locs3 h3 hS3 => ?_)
      have h4 : cP E B (30 + (i + 1)) (Wr E B 7 8 10 (i + 1)) H3 := cP_eq h3 (fun j hj => by
        by_cases e1 : j = 4
        · subst e1
          refine congrArg (fun g => (.inl (eC E 17, 12, gRs g) : va_E)) (funext fun x => ?_)
          by_cases e2 : x = i
          · subst e2
            simp
          · have e3 : ¬ x = (i : Int).toNat := by omega
            have e4 : (x < i + 1) = (x < i) := propext (by omega)
            simp only [if_neg e3, e4]
        · by_cases e2 : j = 30 + i
          · subst e2
            unfold wU Wr
            simp only [if_neg e1, if_true]
            repeat' split
            all_goals first | rfl | omega
          · unfold wU
            rw [if_neg e1, if_neg e2]
            unfold Wr
            simp only [if_neg e1])
      refine g_iinc C (k := 0) [(1, vI ((i : Int) + 1)), (0, .ref B)] hl rfl (by decide) rfl (gdec kX3_init_1 12 rfl) (fun ls hl => ?_)
      refine g_goto C (tgt := 123) (by decide) (gdec kX3_init_1 13 rfl) ?_
      refine W.widen (k := 29 + (i + 1)) (n := 202 + 8 * (i + 1)) (by omega) (by omega) ?_
      exact ih (i + 1) (by omega) hK H3 locs3 h4 hS3 ls hl
  refine g_aload_n C hl 0 rfl rfl (gdec kX3_init 0 rfl) ?_
  refine n_super C wM_X3_3 hl.1 (by decide) (gdec kX3_init 1 rfl) ?_
  refine g_aload_n C hl 0 rfl rfl (gdec kX3_init 2 rfl) ?_
  refine g_bipush C (gdec kX3_init 3 rfl) rfl ?_
  refine n_anew C h hS wK_X3_9 (by decide +kernel) 2 14 rfl (n1 := 7) rfl (by decide) (by decide) (gdec kX3_init 4 rfl) (fun H h hS => ?_)
  refine n_putF C h hS hA (k := 3) (j := 0) (by decide) rfl (T := TX3) rfl 0 (by decide) wF_X3_11 rfl hin rfl (ty := tyX3 0) (by decide +kernel) rfl rfl (by simp) (gdec kX3_init 5 rfl) (fun H locs h hS => ?_)
  refine g_aload_n C hl 0 rfl rfl (gdec kX3_init 6 rfl) ?_
  refine g_bipush C (gdec kX3_init 7 rfl) rfl ?_
  refine n_anew C h hS wK_X3_17 (by decide +kernel) 3 15 rfl (n1 := 8) rfl (by decide) (by decide) (gdec kX3_init 8 rfl) (fun H h hS => ?_)
  refine n_putF C h hS hA (k := 3) (j := 0) (by decide) rfl (T := TX3) rfl 1 (by decide) wF_X3_19 rfl hin rfl (ty := tyX3 1) (by decide +kernel) rfl rfl (by simp) (gdec kX3_init 9 rfl) (fun H locs h hS => ?_)
  refine g_aload_n C hl 0 rfl rfl (gdec kX3_init 10 rfl) ?_
  refine g_bipush C (gdec kX3_init 11 rfl) rfl ?_
  refine n_anew C h hS wK_X3_23 (by decide +kernel) 4 16 rfl (n1 := 10) rfl (by decide) (by decide) (gdec kX3_init 12 rfl) (fun H h hS => ?_)
  refine n_putF C h hS hA (k := 3) (j := 0) (by decide) rfl (T := TX3) rfl 2 (by decide) wF_X3_25 rfl hin rfl (ty := tyX3 2) (by decide +kernel) rfl rfl (by simp) (gdec kX3_init 13 rfl) (fun H locs h hS => ?_)
  refine g_aload_n C hl 0 rfl rfl (gdec kX3_init 14 rfl) ?_
  refine g_bipush C (gdec kX3_init 15 rfl) rfl ?_
  refine n_anew C h hS wK_X3_29 (by decide +kernel) 5 17 rfl (n1 := 12) rfl (by decide) (by decide) (gdec kX3_init 16 rfl) (fun H h hS => ?_)
  refine n_putF C h hS hA (k := 3) (j := 0) (by decide) rfl (T := TX3) rfl 3 (by decide) wF_X3_31 rfl hin rfl (ty := tyX3 3) (by decide +kernel) rfl rfl (by simp) (gdec kX3_init 17 rfl) (fun H locs h hS => ?_)
  have h : cP E B 5 (Wr E B 0 0 0 0) H := cP_eq h (fun j hj => by
    match j, hj with
    | 0, _ => rfl
    | 1, _ => rfl
    | 2, _ => rfl
    | 3, _ => rfl
    | 4, _ => rfl)
  refine g_iconst C (gdec kX3_init 18 rfl) ?_
  refine g_istore_n C [(1, vI 0), (0, .ref B)] hl rfl (by decide) rfl (gdec kX3_init 19 rfl) (fun ls hl => ?_)
  refine L42 7 0 rfl (fun H locs h hS ls hl => ?_) H locs h hS ls hl
  refine g_iconst C (gdec kX3_init 32 rfl) ?_
  refine g_istore_n C [(1, vI 0), (0, .ref B)] hl rfl (by decide) rfl (gdec kX3_init 33 rfl) (fun ls hl => ?_)
  refine L69 8 0 rfl (fun H locs h hS ls hl => ?_) H locs h hS ls hl
  refine g_iconst C (gdec kX3_init 46 rfl) ?_
  refine g_istore_n C [(1, vI 0), (0, .ref B)] hl rfl (by decide) rfl (gdec kX3_init 47 rfl) (fun ls hl => ?_)
  refine L96 10 0 rfl (fun H locs h hS ls hl => ?_) H locs h hS ls hl
  refine g_iconst C (gdec kX3_init_1 0 rfl) ?_
  refine g_istore_n C [(1, vI 0), (0, .ref B)] hl rfl (by decide) rfl (gdec kX3_init_1 1 rfl) (fun ls hl => ?_)
  refine L123 12 0 rfl (fun H locs h hS ls hl => ?_) H locs h hS ls hl
  have hP : gP E gZ H := by
    intro k q hk
    have e9 : wl E gZ = (List.range 42).map (fun j => (B + j, gCell E gZ (rid r j).1 (rid r j).2)) := by
      subst hE
      rw [wl_nil rfl]
      show ((List.range 42).map (rid r)).map _ = _
      rw [List.map_map]
      refine List.map_congr_left fun j hj => ?_
      show (B + roff r (rid r j).1 (rid r j).2, _) = _
      rw [roff_rid r (List.mem_range.mp hj)]
    rw [e9] at hk
    obtain ⟨hl9, rfl⟩ := range_at hk
    have h9 := h.2 k _ (cL_at hl9)
    have hc9 : va_at (eD E) vwCl (B + k, Wr E B 7 8 10 12 k) H → va_at (eD E) vwCl (B + k, gCell E gZ (rid r k).1 (rid r k).2) H := by
      clear L42 L69 L96 L123 h9
      subst hE
      unfold Wr rid
      by_cases k0 : k = 0
      · subst k0; exact id
      by_cases k1 : k = 1
      · subst k1; exact va_at_arr fun x hx => by simp [eA, eR, roff, hx]; omega
      by_cases k2 : k = 2
      · subst k2; exact va_at_arr fun x hx => by simp [eA, eR, roff, hx]; omega
      by_cases k3 : k = 3
      · subst k3; exact va_at_arr fun x hx => by simp [eA, eR, roff, hx]; omega
      by_cases k4 : k = 4
      · subst k4; exact va_at_arr fun x hx => by simp [eA, eR, roff, hx]; omega
      simp only [if_neg k0, if_neg k1, if_neg k2, if_neg k3, if_neg k4]
      by_cases k5 : k < 12
      · simp only [if_pos k5]; exact id
      by_cases k6 : k < 20
      · simp only [if_neg k5, if_pos k6]; exact id
      by_cases k7 : k < 30
      · simp only [if_neg k5, if_neg k6, if_pos k7]; exact id
      · simp only [if_neg k5, if_neg k6, if_neg k7]; exact id
    exact hc9 h9
  have ho : gOk E 3 r := by rw [hE]; exact rid_mem.mpr (Or.inl ⟨Or.inl rfl, rfl⟩)
  have hsz := h.1
  refine g_aload_n C hl 0 rfl rfl (gdec kX3_init_1 14 rfl) ?_
  have ea : eA E 3 r = B := by rw [hE]; rfl
  refine W.eq (g2 := F0 m 149 ls [.ref (eA E 3 r)]) (by rw [ea]) ?_
  refine g_cvz hS (fun _ z => z) (g_runV C ⟨hP, hS⟩ ho (by decide) rfl (c_X3_restart l E _ _ ho _ hf) wM_X3_39 wI_X3_restart wS_X3_restart wN_X3 wC_X3_restart rfl ny_X3_restart rfl (by decide) hl.1 rfl (Nat.le_of_ble_eq_true rfl) (gdec kX3_init_1 15 rfl) ⟨by decide, by decide⟩) (fun H locs hz9 hk9 hPx hSx => ?_)
  have h : gH E s G1 H locs := ⟨hPx, hSx⟩
  refine W_size fun hz => ?_
  subst hQr
  exact W.vret C.1 C.2.1 C.2.2.1 (fun t ht hW => ⟨⟨(), rfl, trivial, by rw [ht]; exact h.1, by
    rw [ht]
    have h1 : s.heap.size = B + 1 := hp.2.1
    omega⟩, by have := h.2.F ht; rw [hEf] at this; exact this⟩) (by have := h.2.2.2; rw [hEf] at this; exact this) (gdec kX3_init_1 16 rfl) C.2.2.2.2.2.2.1

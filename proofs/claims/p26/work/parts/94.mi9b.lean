/-! THE LAW'S LOOK AT BOTH ROADS -/
theorem al32 {n : Int} {G F : GS} {A B : Int → Int} (hG : St G A) (hF : St F B) (h : Lk n A B) (k : GS → GS → Int → Int → Option (GS × (GS × Int))) : f_L_areAlike_L32 n gFuel G F 1 0 k = k G F 1 11 :=
  lp (fun q i k => f_L_areAlike_L32 n q G F 1 i k) 11 (fun k => k G F 1 11) (fun q i k i0 i1 => by
    have e := mi_va h (w := i) ⟨i0, by omega⟩
    show f_L_areAlike_L32 n (q + 1) G F 1 i k = _
    rw [f_L_areAlike_L32, gd_t ⟨by omega, by omega⟩, if_pos (show i < 11 by omega), gd_t (by decide), if_neg (by decide), v_value hG ⟨i0, by omega⟩, bxr_some, v_value hF ⟨i0, by omega⟩, bxr_some, e.1, gd_t e.2, gd_t e.2, if_pos rfl]) (fun q k => by
    show f_L_areAlike_L32 n (q + 1) G F 1 11 k = _
    rw [f_L_areAlike_L32, gd_t (by decide), if_neg (by decide)]) gFuel k (by decide)
theorem al90 {n t : Int} {G F : GS} {A B : Int → Int} (hG : St G A) (hF : St F B) (h : Lk n A B) (t0 : 0 ≤ t) (t1 : t < A 7) (k : GS → GS → Int → Int → Int → Option (GS × (GS × Int))) : f_L_areAlike_L90 n gFuel G F 1 t 0 k = k G F 1 t 10 := by
  have hn := h.1
  have e7 : B 7 = A 7 := h.2.1.1.2.2.2.2.2.2.2.2.1
  refine lp (fun q i k => f_L_areAlike_L90 n q G F 1 t i k) 10 (fun k => k G F 1 t 10) (fun q i k i0 i1 => ?_) (fun q k => ?_) gFuel k (by decide)
  · have e := mi_te h t0 t1 (w := i) ⟨i0, by omega⟩
    have vG := v_team hG t0 t1 (w := i) ⟨i0, by omega⟩
    have vF := v_team hF (s := t) t0 (by omega) (w := i) ⟨i0, by omega⟩
    show f_L_areAlike_L90 n (q + 1) G F 1 t i k = _
    rw [f_L_areAlike_L90, gd_t ⟨by omega, by omega⟩, if_pos (show i < 10 by omega), gd_t (by decide), if_neg (by decide)]
    by_cases c0 : i = 0
    · rw [if_pos c0, vG, bxr_some, vF, bxr_some, e.1 (Or.inl c0), gd_t ⟨by omega, by omega⟩, gd_t ⟨by omega, by omega⟩, if_pos rfl]
    rw [if_neg c0]
    by_cases c2 : i = 2
    · rw [if_pos c2, vG, bxr_some, vF, bxr_some, e.1 (Or.inr c2), gd_t ⟨by omega, by omega⟩, gd_t ⟨by omega, by omega⟩, if_pos rfl]
    have e2 := e.2 c0 c2
    rw [if_neg c2, vG, bxr_some, vF, bxr_some, e2.1, gd_t e2.2, gd_t e2.2, if_pos rfl]
  · show f_L_areAlike_L90 n (q + 1) G F 1 t 10 k = _
    rw [f_L_areAlike_L90, gd_t (by decide), if_neg (by decide)]
theorem al73 {n : Int} {G F : GS} {A B : Int → Int} (hG : St G A) (hF : St F B) (h : Lk n A B) (k : GS → GS → Int → Int → Option (GS × (GS × Int))) : f_L_areAlike_L73 n gFuel G F 1 0 k = k G F 1 (A 7) := by
  have hWh := h.2.2.1.1
  unfold WfH at hWh
  have hg : gFuel = 3000 := rfl
  have e7 : B 7 = A 7 := h.2.1.1.2.2.2.2.2.2.2.2.1
  obtain ⟨N, hN⟩ : ∃ N : Nat, (N : Int) = A 7 := ⟨(A 7).toNat, by omega⟩
  have v1 := v_value hG (w := 1) (by decide)
  rw [va_1] at v1
  refine lp (fun q i k => f_L_areAlike_L73 n q G F 1 i k) N (fun k => k G F 1 (A 7)) (fun q i k i0 i1 => ?_) (fun q k => ?_) gFuel k (by omega)
  · have e := mi_efH h i0 (t := i) (by omega)
    show f_L_areAlike_L73 n (q + 1) G F 1 i k = _
    rw [f_L_areAlike_L73, v1, bxr_some, gd_t ⟨by omega, by omega⟩, gd_t ⟨by omega, by omega⟩, if_pos (by omega), gd_t (by decide), if_neg (by decide), al90 hG hF h i0 (by omega), gd_t (by decide), if_neg (by decide), v_effortHome hG i0 (by omega), bxr_some, v_effortHome hF i0 (by omega), bxr_some, e.1, gd_t e.2, gd_t e.2, if_pos rfl]
  · show f_L_areAlike_L73 n (q + 1) G F 1 N k = _
    rw [hN, f_L_areAlike_L73, v1, bxr_some, gd_t ⟨by omega, by omega⟩, gd_t ⟨by omega, by omega⟩, if_neg (by omega)]
theorem al220 {n t : Int} {G F : GS} {A B : Int → Int} (hG : St G A) (hF : St F B) (h : Lk n A B) (t0 : 0 ≤ t) (t1 : t < A 8) (k : GS → GS → Int → Int → Int → Option (GS × (GS × Int))) : f_L_areAlike_L220 n gFuel G F 1 t 0 k = k G F 1 t 8 := by
  have hn := h.1
  have e8 : B 8 = A 8 := h.2.1.1.2.2.2.2.2.2.2.2.2
  refine lp (fun q i k => f_L_areAlike_L220 n q G F 1 t i k) 8 (fun k => k G F 1 t 8) (fun q i k i0 i1 => ?_) (fun q k => ?_) gFuel k (by decide)
  · have e := mi_le h t0 t1 (w := i) ⟨i0, by omega⟩
    have vG := v_letter hG t0 t1 (w := i) ⟨i0, by omega⟩
    have vF := v_letter hF (s := t) t0 (by omega) (w := i) ⟨i0, by omega⟩
    show f_L_areAlike_L220 n (q + 1) G F 1 t i k = _
    rw [f_L_areAlike_L220, gd_t ⟨by omega, by omega⟩, if_pos (show i < 8 by omega), gd_t (by decide), if_neg (by decide)]
    by_cases c0 : i < 2
    · rw [if_pos c0, vG, bxr_some, vF, bxr_some, e.1 (Or.inl c0), gd_t ⟨by omega, by omega⟩, gd_t ⟨by omega, by omega⟩, if_pos rfl]
    rw [if_neg c0]
    by_cases c2 : i = 4
    · rw [if_pos c2, vG, bxr_some, vF, bxr_some, e.1 (Or.inr c2), gd_t ⟨by omega, by omega⟩, gd_t ⟨by omega, by omega⟩, if_pos rfl]
    have e2 := e.2 c0 c2
    rw [if_neg c2, vG, bxr_some, vF, bxr_some, e2.1, gd_t e2.2, gd_t e2.2, if_pos rfl]
  · show f_L_areAlike_L220 n (q + 1) G F 1 t 8 k = _
    rw [f_L_areAlike_L220, gd_t (by decide), if_neg (by decide)]
theorem al203 {n : Int} {G F : GS} {A B : Int → Int} (hG : St G A) (hF : St F B) (h : Lk n A B) (k : GS → GS → Int → Int → Option (GS × (GS × Int))) : f_L_areAlike_L203 n gFuel G F 1 0 k = k G F 1 (A 8) := by
  have hWh := h.2.2.1.1
  unfold WfH at hWh
  have hg : gFuel = 3000 := rfl
  have e8 : B 8 = A 8 := h.2.1.1.2.2.2.2.2.2.2.2.2
  obtain ⟨N, hN⟩ : ∃ N : Nat, (N : Int) = A 8 := ⟨(A 8).toNat, by omega⟩
  have v1 := v_value hG (w := 2) (by decide)
  rw [va_2] at v1
  refine lp (fun q i k => f_L_areAlike_L203 n q G F 1 i k) N (fun k => k G F 1 (A 8)) (fun q i k i0 i1 => ?_) (fun q k => ?_) gFuel k (by omega)
  · have e := mi_wn h.2.1 h.2.2.1 i0 (l := i) (by omega)
    have er := wn_r A i
    show f_L_areAlike_L203 n (q + 1) G F 1 i k = _
    rw [f_L_areAlike_L203, v1, bxr_some, gd_t ⟨by omega, by omega⟩, gd_t ⟨by omega, by omega⟩, if_pos (by omega), gd_t (by decide), if_neg (by decide), al220 hG hF h i0 (by omega), gd_t (by decide), if_neg (by decide), v_why hG i0 (by omega), bxr_some, v_why hF i0 (by omega), bxr_some, e, gd_t ⟨by omega, by omega⟩, gd_t ⟨by omega, by omega⟩, if_pos rfl]
  · show f_L_areAlike_L203 n (q + 1) G F 1 N k = _
    rw [hN, f_L_areAlike_L203, v1, bxr_some, gd_t ⟨by omega, by omega⟩, gd_t ⟨by omega, by omega⟩, if_neg (by omega)]
theorem al347 {n t : Int} {G F : GS} {A B : Int → Int} (hG : St G A) (hF : St F B) (h : Lk n A B) (t0 : 0 ≤ t) (t1 : t < n) (k : GS → GS → Int → Int → Int → Option (GS × (GS × Int))) : f_L_areAlike_L347 n gFuel G F 1 t 0 k = k G F 1 t 7 := by
  have hn := h.1
  have e0 : A 0 = n := h.2.1.1.1
  have e1 : B 0 = n := h.2.1.1.2.1
  refine lp (fun q i k => f_L_areAlike_L347 n q G F 1 t i k) 7 (fun k => k G F 1 t 7) (fun q i k i0 i1 => ?_) (fun q k => ?_) gFuel k (by decide)
  · have e := mi_in h t0 t1 (w := i) ⟨i0, by omega⟩
    have vG := v_inn hG (s := t) t0 (by omega) (w := i) ⟨i0, by omega⟩
    have vF := v_inn hF (s := n - 1 - t) (by omega) (by omega) (w := i) ⟨i0, by omega⟩
    show f_L_areAlike_L347 n (q + 1) G F 1 t i k = _
    rw [f_L_areAlike_L347, gd_t ⟨by omega, by omega⟩, if_pos (show i < 7 by omega), gd_t (by decide), if_neg (by decide), vG, bxr_some, vF, bxr_some, e.1, gd_t e.2, gd_t e.2, if_pos rfl]
  · show f_L_areAlike_L347 n (q + 1) G F 1 t 7 k = _
    rw [f_L_areAlike_L347, gd_t (by decide), if_neg (by decide)]
theorem al334 {n : Int} {G F : GS} {A B : Int → Int} (hG : St G A) (hF : St F B) (h : Lk n A B) (k : GS → GS → Int → Int → Option (GS × (GS × Int))) : f_L_areAlike_L334 n gFuel G F 1 0 k = k G F 1 n := by
  have hn := h.1
  have hg : gFuel = 3000 := rfl
  obtain ⟨N, hN⟩ : ∃ N : Nat, (N : Int) = n := ⟨n.toNat, by omega⟩
  refine lp (fun q i k => f_L_areAlike_L334 n q G F 1 i k) N (fun k => k G F 1 n) (fun q i k i0 i1 => ?_) (fun q k => ?_) gFuel k (by omega)
  · show f_L_areAlike_L334 n (q + 1) G F 1 i k = _
    rw [f_L_areAlike_L334, gd_t ⟨by omega, by omega⟩, gd_t ⟨by omega, by omega⟩, if_pos (by omega), gd_t (by decide), if_neg (by decide), al347 hG hF h i0 (by omega)]
  · show f_L_areAlike_L334 n (q + 1) G F 1 N k = _
    rw [hN, f_L_areAlike_L334, gd_t ⟨by omega, by omega⟩, gd_t ⟨by omega, by omega⟩, if_neg (by omega)]
theorem al402 {n : Int} {G F : GS} {A B : Int → Int} (hG : St G A) (hF : St F B) (h : Lk n A B) (k : GS → GS → Int → Int → Option (GS × (GS × Int))) : f_L_areAlike_L402 n gFuel G F 1 0 k = k G F 1 (n - 1) := by
  have hn := h.1
  have hg : gFuel = 3000 := rfl
  have e0 : A 0 = n := h.2.1.1.1
  have e1 : B 0 = n := h.2.1.1.2.1
  obtain ⟨N, hN⟩ : ∃ N : Nat, (N : Int) = n - 1 := ⟨(n - 1).toNat, by omega⟩
  refine lp (fun q i k => f_L_areAlike_L402 n q G F 1 i k) N (fun k => k G F 1 (n - 1)) (fun q i k i0 i1 => ?_) (fun q k => ?_) gFuel k (by omega)
  · have hM := h.2.1
    have hS := hM.2.1 i i0 (by omega)
    have wS := h.2.2.1.2.1 i i0 (by omega)
    obtain ⟨a0, a1, a3, a4, a5⟩ := st_w A i
    obtain ⟨b0, b1, b3, b4, b5⟩ := st_w B (n - 2 - i)
    have f1 := mi_ef hS (u := 1) (Or.inr rfl)
    have f0 := mi_ef hS (u := 0) (Or.inl rfl)
    have g1 := ef_le (u := 1) wS
    have g0 := ef_le (u := 0) wS
    have sg := mi_sg (s := i) hM h.2.2.1
    have sc := cnt_le (pSg A i) (A 7).toNat
    have hWh := h.2.2.1.1
    unfold WfH at hWh
    unfold WfS at wS
    have vG : ∀ w, 0 ≤ w ∧ w ≤ 5 → f_X7_stage G i w = some (0, stV A i w) := fun w hw => v_stage hG i0 (by omega) hw
    have vF : ∀ w, 0 ≤ w ∧ w ≤ 5 → f_X7_stage F (n - 2 - i) w = some (0, stV B (n - 2 - i) w) := fun w hw => v_stage hF (by omega) (by omega) hw
    have h1 : A (9 + 3 * i + 1) = - B (9 + 3 * (n - 2 - i) + 1) := by rw [hS.2.1]; omega
    have r1 : inR (-B (9 + 3 * (n - 2 - i) + 1)) := by rw [← h1]; omega
    have f1' : ef B (n - 2 - i) 0 = ef A i 1 := f1
    have f0' : ef B (n - 2 - i) 1 = ef A i 0 := f0
    show f_L_areAlike_L402 n (q + 1) G F 1 i k = _
    rw [f_L_areAlike_L402, gd_t ⟨by omega, by omega⟩, gd_t ⟨by omega, by omega⟩, if_pos (by omega), gd_t (by decide), if_neg (by decide), vG 0 (by decide), bxr_some, vF 0 (by decide), bxr_some, a0, b0, hS.1, gd_t ⟨by omega, by omega⟩, gd_t ⟨by omega, by omega⟩, if_pos rfl, vG 1 (by decide), bxr_some, vF 1 (by decide), bxr_some, a1, b1, gd_t ⟨by omega, by omega⟩, gd_t r1, if_pos h1, vG 3 (by decide), bxr_some, vF 4 (by decide), bxr_some, a3, b4, f1', gd_t ⟨by omega, by omega⟩, gd_t ⟨by omega, by omega⟩, if_pos rfl, vG 4 (by decide), bxr_some, vF 3 (by decide), bxr_some, a4, b3, f0', gd_t ⟨by omega, by omega⟩, gd_t ⟨by omega, by omega⟩, if_pos rfl, vG 5 (by decide), bxr_some, vF 5 (by decide), bxr_some, a5, b5, sg, gd_t ⟨by omega, by omega⟩, gd_t ⟨by omega, by omega⟩, if_pos rfl]
  · show f_L_areAlike_L402 n (q + 1) G F 1 N k = _
    rw [hN, f_L_areAlike_L402, gd_t ⟨by omega, by omega⟩, gd_t ⟨by omega, by omega⟩, if_neg (by omega)]
theorem gde_t {α : Type} {a b : UInt64} {k : Option α} (h : FP.dcmp a b = some .eq) : gde a b k = k := if_pos h
theorem is_alike {n : Int} {G F : GS} {A B : Int → Int} (hG : St G A) (hF : St F B) (h : Lk n A B) : ∃ G' F', f_L_areAlike G F n = some (G', (F', 1)) ∧ St G' A ∧ St F' B := by
  obtain ⟨d, m1, m2, m3⟩ := v_mean hG
  have e7 : B 7 = A 7 := h.2.1.1.2.2.2.2.2.2.2.2.1
  have m4 := m3 hF e7 (fun t z0 z1 => (h.2.1.2.2.2.1 t z0 z1).2.1)
  obtain ⟨G', r, x1, x2, x3, H', x4⟩ := v_hoursToAll hG
  obtain ⟨F', r', y1, y2, y3, K', y4⟩ := v_hoursToAll hF
  have er := (mi_toAll (St_F hG) (St_F hF) h.2.1 x4 y4).1
  refine ⟨G', F', ?_, x2, y2⟩
  unfold f_L_areAlike
  rw [m1, bn1_some, m4, bn1_some, gde_t m2, x1, bnd_some, y1, bnd_some, er, gd_t ⟨by omega, by omega⟩, gd_t ⟨by omega, by omega⟩, if_pos rfl, al32 x2 y2 h, al73 x2 y2 h, al203 x2 y2 h, al334 x2 y2 h, al402 x2 y2 h, gb_t (Or.inr rfl)]

/-! WHAT DOES NOT DEPEND ON THE HOUR -/
theorem ft_c {A A' : Int → Int} (h : ∀ f, f ≠ 1 → A' f = A f) (n : Int) (k : Nat) : ft A' n k = ft A n k := by
  induction k with
  | zero => rfl
  | succ k ih =>
    have hr := ft_r A n k
    rw [ft, ft, ih, h (54 + 11 * (k : Int) + 2) (by omega), h (54 + 11 * (k : Int) + 3) (by omega), h (54 + 11 * (k : Int) + 1) (by omega), h (54 + 11 * ft A n k + 1) (by omega)]
theorem fb_c {A A' : Int → Int} (h : ∀ f, f ≠ 1 → A' f = A f) {n : Int} (hn : 0 ≤ n) : fb A' n = fb A n := by
  unfold fb
  rw [h (30 + 3 * n) (by omega), h 7 (by omega), cnt_congr (p := pAt A' n) (q := pAt A n) (fun i z1 z2 => by unfold pAt; rw [h _ (by omega)])]
theorem ef_c {A A' : Int → Int} (h : ∀ f, f ≠ 1 → A' f = A f) {s u : Int} (hn : 0 ≤ s) : ef A' s u = ef A s u := by
  unfold ef efX
  rw [h (9 + 3 * s) (by omega), h (9 + 3 * s + 1) (by omega)]
theorem wn_c {m l : Int} {A A' : Int → Int} (h : ∀ f, f ≠ 1 → A' f = A f) (hW : Wf m A) (h0 : 0 ≤ l) (h1 : l < A 8) : wn A' l = wn A l := by
  have hw := hW.2.2.2.2.1 l h0 h1
  unfold WfL at hw
  have hWh := hW.1
  unfold WfH at hWh
  unfold wn
  rw [h (164 + 8 * l + 6) (by omega), h (164 + 8 * l + 5) (by omega), h (164 + 8 * l + 4) (by omega), h (164 + 8 * l + 1) (by omega), h 7 (by omega)]
  by_cases c6 : A (164 + 8 * l + 6) = -1
  · by_cases c5 : A (164 + 8 * l + 5) = -1
    · have wy := way_r (A := A) (a := A (164 + 8 * l + 4)) (b := A (164 + 8 * l + 1)) ⟨by omega, by omega⟩ ⟨by omega, by omega⟩ (hw.2.2.2.2.2.2.2 c6 c5)
      have rt := ft_r A (A (164 + 8 * l + 4)) (A 7).toNat
      rw [fb_c h wy.1.1, ft_c h, ef_c h wy.2.1.1, h (9 + 3 * sg (A (164 + 8 * l + 4)) (nx (A (164 + 8 * l + 4)) (A (164 + 8 * l + 1))) + 2) (by omega), h (30 + 3 * A (164 + 8 * l + 4) + 2) (by omega), h (30 + 3 * nx (A (164 + 8 * l + 4)) (A (164 + 8 * l + 1)) + 2) (by omega), h (54 + 11 * ft A (A (164 + 8 * l + 4)) (A 7).toNat + 1) (by omega)]
    · rw [if_neg (fun z => z c6), if_pos c5, if_neg (fun z => z c6), if_pos c5]
  · rw [if_pos c6, if_pos c6]
theorem wk_c {m t : Int} {A A' : Int → Int} (h : ∀ f, f ≠ 1 → A' f = A f) (hW : Wf m A) (h0 : 0 ≤ t) (h1 : t < A 7) (hk : wk A' t) : wk A t := by
  have hw := hW.2.2.2.1 t h0 h1
  unfold WfT at hw
  unfold wk at hk ⊢
  rw [h (54 + 11 * t + 3) (by omega), h (54 + 11 * t + 2) (by omega), h (54 + 11 * t + 0) (by omega), h (54 + 11 * t + 1) (by omega), h 8 (by omega), cnt_congr (p := pLa A' (A (54 + 11 * t + 2))) (q := pLa A (A (54 + 11 * t + 2))) (fun i z1 z2 => by unfold pLa; rw [h _ (by omega), h _ (by omega), h _ (by omega)])] at hk
  have wy := way_r (A := A) (a := A (54 + 11 * t + 2)) (b := A (54 + 11 * t + 0)) ⟨by omega, by omega⟩ ⟨by omega, by omega⟩ hk.2.1
  rw [fb_c h wy.1.1, h (9 + 3 * sg (A (54 + 11 * t + 2)) (nx (A (54 + 11 * t + 2)) (A (54 + 11 * t + 0))) + 2) (by omega)] at hk
  exact hk
def quiet (A : Int → Int) : Prop := idle A ∧ (∀ l, 0 ≤ l → l < A 8 → wn A l ≠ 0) ∧ ∀ t, 0 ≤ t → t < A 7 → ¬ wk A t
theorem quiet_c {m : Int} {A A' : Int → Int} (h : ∀ f, f ≠ 1 → A' f = A f) (hW : Wf m A) (hQ : quiet A) : quiet A' := by
  have e7 : A' 7 = A 7 := h 7 (by omega)
  have e8 : A' 8 = A 8 := h 8 (by omega)
  refine ⟨fun t z1 z2 => ?_, fun l z1 z2 => ?_, fun t z1 z2 z3 => hQ.2.2 t z1 (by omega) (wk_c h hW z1 (by omega) z3)⟩
  · rw [h _ (by omega), h _ (by omega)]
    exact hQ.1 t z1 (by omega)
  · rw [wn_c h hW z1 (by omega)]
    exact hQ.2.1 l z1 (by omega)
theorem h_still {o m : Int} (hm : m ≤ 20000) {G H : GS} (hR : Rd G o (H 10 0)) (hW : Wf m (H 10 0)) (hI : idle (H 10 0)) : ∃ G' H', f_X3_passHour G o = some G' ∧ f_X8_hour H = some H' ∧ Rd G' o (H' 10 0) ∧ Wf (m + 1) (H' 10 0) ∧ frC o G G' ∧ frM H H' ∧ H' 10 0 8 = H 10 0 8 ∧ ((quiet (H 10 0) ∧ ∀ f, f ≠ 1 → H' 10 0 f = H 10 0 f) ∨ (¬ quiet (H 10 0) ∧ ∃ t, 0 ≤ t ∧ t < H' 10 0 7 ∧ 0 < H' 10 0 (54 + 11 * t + 3))) := by
  obtain ⟨G', H', H1, H3, a1, a2, a3, a4, a5, a6, a10, a7, a8, a9⟩ := h_hour hm hR hW
  obtain ⟨Hx, b1, b2⟩ := m_rests_idle hW hI
  have e1 : H1 = Hx := Option.some.inj (a7.symm.trans b1)
  subst e1
  have b3 := m_roads_idle (m := m) (H := H1) (by rw [b2]; exact hW) (by rw [b2]; exact fun t z1 z2 => (hI t z1 z2).1)
  have e3 : H3 = H1 := Option.some.inj (a8.symm.trans b3)
  subst e3
  rw [b2] at a9
  refine ⟨G', H', a1, a2, a3, a4, a5, a6, a10, ?_⟩
  rcases a9 with ⟨c1, c2, c3⟩ | ⟨c1, c2⟩
  · exact Or.inl ⟨⟨hI, c2, c3⟩, c1⟩
  · refine Or.inr ⟨fun q => ?_, c2⟩
    rcases c1 with ⟨l, l1, l2, l3⟩ | ⟨t, t1, t2, t3⟩
    · exact q.2.1 l l1 l2 l3
    · exact q.2.2 t t1 t2 t3

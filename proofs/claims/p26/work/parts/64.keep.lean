/-! TEAMS ON THE ROAD -/
theorem keep_dec {o m t : Int} {G G' H H' : GS} (hR : Rd G o (H 10 0)) (hW : Wf m (H 10 0)) (h0 : 0 ≤ t) (h1 : t < H 10 0 7) (hL : 1 < H 10 0 (54 + 11 * t + 3))
    (hG : ∀ k x f, ¬ (k = 6 ∧ x = 10 * o + t ∧ f = 5) → G' k x f = G k x f) (g5 : G' 6 (10 * o + t) 5 = G 6 (10 * o + t) 5 - 1)
    (hA : ∀ f, f ≠ 54 + 11 * t + 3 → H' 10 0 f = H 10 0 f) (a3 : H' 10 0 (54 + 11 * t + 3) = H 10 0 (54 + 11 * t + 3) - 1) : Rd G' o (H' 10 0) ∧ Wf m (H' 10 0) := by
  have hWh := hW.1
  unfold WfH at hWh
  have e0 : H' 10 0 0 = H 10 0 0 := hA 0 (by omega)
  have e1 : H' 10 0 1 = H 10 0 1 := hA 1 (by omega)
  have e7 : H' 10 0 7 = H 10 0 7 := hA 7 (by omega)
  have e8 : H' 10 0 8 = H 10 0 8 := hA 8 (by omega)
  have a5 : ∀ j, j < 54 → H' 10 0 j = H 10 0 j := fun j h3 => hA j (by omega)
  have aL : ∀ l f, 0 ≤ l → 0 ≤ f → H' 10 0 (164 + 8 * l + f) = H 10 0 (164 + 8 * l + f) := fun l f h2 h3 => hA _ (by omega)
  have aT : ∀ u f, 0 ≤ u → 0 ≤ f → f < 11 → (u = t → f ≠ 3) → H' 10 0 (54 + 11 * u + f) = H 10 0 (54 + 11 * u + f) := fun u f h2 h3 h4 h5 => hA _ (by omega)
  constructor
  · refine Rd_hour hR e0 e7 e8 (fun x f => hG _ _ _ (by omega)) (fun j h2 h3 => a5 j (by omega)) (fun x => hG _ _ _ (by omega)) ?_ (fun n h2 h3 => ?_) (fun u h2 h3 => ?_) (fun l h2 h3 => ?_) hWh.2.1
    · have r := hR.1
      unfold RdH at r ⊢
      have hg3 : ∀ f, G' 3 o f = G 3 o f := fun f => hG 3 o f (by omega)
      simp only [hg3, a5 0 (by omega), a5 1 (by omega), a5 2 (by omega), a5 3 (by omega), a5 4 (by omega), a5 5 (by omega), a5 6 (by omega), a5 7 (by omega), a5 8 (by omega)]
      exact r
    · exact RdN_c (hR.2.2.1 n h2 h3) (fun f => hG _ _ _ (by omega)) ⟨a5 _ (by omega), a5 _ (by omega), a5 _ (by omega)⟩
    · have r := hR.2.2.2.1 u h2 h3
      by_cases ht : u = t
      · subst ht
        unfold RdT at r ⊢
        simp only [g5, a3, hG 6 (10 * o + u) 0 (by omega), hG 6 (10 * o + u) 1 (by omega), hG 6 (10 * o + u) 2 (by omega), hG 6 (10 * o + u) 3 (by omega), hG 6 (10 * o + u) 4 (by omega), hG 6 (10 * o + u) 6 (by omega), hG 6 (10 * o + u) 7 (by omega), hG 6 (10 * o + u) 8 (by omega), hG 6 (10 * o + u) 9 (by omega), hG 6 (10 * o + u) 10 (by omega), hG 6 (10 * o + u) 11 (by omega), aT u 0 h2 (by omega) (by omega) (by omega), aT u 1 h2 (by omega) (by omega) (by omega), aT u 2 h2 (by omega) (by omega) (by omega), aT u 4 h2 (by omega) (by omega) (by omega), aT u 5 h2 (by omega) (by omega) (by omega), aT u 6 h2 (by omega) (by omega) (by omega), aT u 7 h2 (by omega) (by omega) (by omega), aT u 8 h2 (by omega) (by omega) (by omega), aT u 9 h2 (by omega) (by omega) (by omega), aT u 10 h2 (by omega) (by omega) (by omega)]
        refine ⟨r.1, r.2.1, r.2.2.1, by rw [r.2.2.2.1], r.2.2.2.2.1, r.2.2.2.2.2.1, r.2.2.2.2.2.2.1, r.2.2.2.2.2.2.2.1, r.2.2.2.2.2.2.2.2.1, r.2.2.2.2.2.2.2.2.2.1, r.2.2.2.2.2.2.2.2.2.2.1, fun z => by omega, fun _ => r.2.2.2.2.2.2.2.2.2.2.2.2 (by omega)⟩
      · exact RdT_c r (fun f => hG _ _ _ (by omega)) (fun f h4 h5 => aT u f h2 h4 h5 (by omega))
    · exact RdL_c (hR.2.2.2.2.1 l h2 h3) (fun f => hG _ _ _ (by omega)) (fun f h4 h5 => aL l f h2 h4)
  · refine Wf_hour hW e0 e7 e8 e1 (fun j h2 h3 => a5 j (by omega)) (fun n h2 h3 => ?_) (fun u h2 h3 => ?_) (fun l h2 h3 => ?_) (fun l h2 h3 => ?_) (fun u h2 h3 => ?_) (fun l h2 h3 => aL l 3 h2 (by omega))
    · have r := hW.2.2.1 n h2 h3
      unfold WfN at r ⊢
      rw [a5 _ (by omega), a5 _ (by omega), a5 _ (by omega)]
      exact r
    · have r := hW.2.2.2.1 u h2 h3
      by_cases ht : u = t
      · subst ht
        unfold WfT at r ⊢
        simp only [a3, e0, e8, aT u 0 h2 (by omega) (by omega) (by omega), aT u 1 h2 (by omega) (by omega) (by omega), aT u 2 h2 (by omega) (by omega) (by omega), aT u 4 h2 (by omega) (by omega) (by omega), aT u 5 h2 (by omega) (by omega) (by omega), aT u 10 h2 (by omega) (by omega) (by omega)]
        refine ⟨r.1, r.2.1, r.2.2.1, ⟨by omega, by omega⟩, fun z => by omega, fun _ => r.2.2.2.2.2 (by omega)⟩
      · exact WfT_c r e0 e8 (fun f h4 h5 => aT u f h2 h4 h5 (by omega))
    · exact WfL_c (hW.2.2.2.2.1 l h2 h3) e0 e7 e1 (fun f h4 h5 => aL l f h2 h4)
    · have r := hW.2.2.2.2.2.1 l h2 h3
      have w := hW.2.2.2.2.1 l h2 h3
      unfold WfL at w
      unfold WfX at r ⊢
      rw [aL l 5 h2 (by omega)]
      intro hx
      have r := r hx
      rw [aT _ 4 (by omega) (by omega) (by omega) (by omega), aT _ 5 (by omega) (by omega) (by omega) (by omega)]
      refine ⟨?_, r.2⟩
      by_cases hz : H 10 0 (164 + 8 * l + 5) = t
      · rw [hz, a3]; omega
      · rw [aT _ 3 (by omega) (by omega) (by omega) (by omega)]
        exact r.1
    · have r := hW.2.2.2.2.2.2.1 u h2 h3
      have w := hW.2.2.2.1 u h2 h3
      unfold WfT at w
      unfold WfY at r ⊢
      rw [aT u 5 h2 (by omega) (by omega) (by omega), aT u 4 h2 (by omega) (by omega) (by omega), aT u 2 h2 (by omega) (by omega) (by omega)]
      intro hx hy
      have hx2 : 0 < H 10 0 (54 + 11 * u + 3) := by
        by_cases hz : u = t
        · rw [hz]; omega
        · rw [aT u 3 h2 (by omega) (by omega) (by omega)] at hx; exact hx
      rw [aL _ 5 (by omega) (by omega), aL _ 4 (by omega) (by omega), aL _ 6 (by omega) (by omega)]
      exact r hx2 hy
theorem keep_run {o m t l v1 v6 r k8 k9 k10 k11 : Int} {G G' H H' : GS} (hR : Rd G o (H 10 0)) (hW : Wf m (H 10 0)) (h0 : 0 ≤ t) (h1 : t < H 10 0 7) (hL : 0 < H 10 0 (54 + 11 * t + 3)) (hwk : H 10 0 (54 + 11 * t + 5) = 0) (hl : H 10 0 (54 + 11 * t + 4) = l)
    (hG : ∀ k x f, ¬ (k = 6 ∧ x = 10 * o + t ∧ (f = 1 ∨ f = 2 ∨ f = 3 ∨ f = 5 ∨ f = 6 ∨ f = 7 ∨ f = 8 ∨ f = 9)) → ¬ (k = 2 ∧ x = 12 * o + l ∧ (f = 5 ∨ f = 6)) → ¬ (k = 3 ∧ x = o ∧ 8 ≤ f ∧ f ≤ 11) → G' k x f = G k x f)
    (g1 : G' 6 (10 * o + t) 1 = v1) (g2 : G' 6 (10 * o + t) 2 = G 6 (10 * o + t) 2) (g3 : G' 6 (10 * o + t) 3 = -1) (g5 : G' 6 (10 * o + t) 5 = 0) (g6 : G' 6 (10 * o + t) 6 = -1) (g7 : G' 6 (10 * o + t) 7 = 0) (g8 : G' 6 (10 * o + t) 8 = G 6 (10 * o + t) 8 + 1) (g9 : G' 6 (10 * o + t) 9 = G 6 (10 * o + t) 9 + r) (l5 : G' 2 (12 * o + l) 5 = -1) (l6 : G' 2 (12 * o + l) 6 = v6) (n8 : G' 3 o 8 = G 3 o 8 + k8) (n9 : G' 3 o 9 = G 3 o 9 + k9) (n10 : G' 3 o 10 = G 3 o 10 + k10) (n11 : G' 3 o 11 = G 3 o 11 + k11)
    (hA : ∀ f, f ≠ 54 + 11 * t + 1 → f ≠ 54 + 11 * t + 3 → f ≠ 54 + 11 * t + 4 → f ≠ 54 + 11 * t + 6 → f ≠ 54 + 11 * t + 7 → f ≠ 164 + 8 * l + 5 → f ≠ 164 + 8 * l + 6 → ¬ (2 ≤ f ∧ f ≤ 5) → H' 10 0 f = H 10 0 f)
    (b1 : H' 10 0 (54 + 11 * t + 1) = v1) (b3 : H' 10 0 (54 + 11 * t + 3) = 0) (b4 : H' 10 0 (54 + 11 * t + 4) = -1) (b6 : H' 10 0 (54 + 11 * t + 6) = H 10 0 (54 + 11 * t + 6) + 1) (b7 : H' 10 0 (54 + 11 * t + 7) = H 10 0 (54 + 11 * t + 7) + r) (m5 : H' 10 0 (164 + 8 * l + 5) = -1) (m6 : H' 10 0 (164 + 8 * l + 6) = v6) (q2 : H' 10 0 2 = H 10 0 2 + k8) (q3 : H' 10 0 3 = H 10 0 3 + k9) (q4 : H' 10 0 4 = H 10 0 4 + k10) (q5 : H' 10 0 5 = H 10 0 5 + k11)
    (hv1 : 0 ≤ v1 ∧ v1 ≤ 100) (hv6 : (v6 = -1 ∧ H 10 0 (164 + 8 * l + 4) ≠ H 10 0 (164 + 8 * l + 1)) ∨ (0 ≤ v6 ∧ v6 ≤ 100000)) : Rd G' o (H' 10 0) ∧ Wf m (H' 10 0) := by
  have hWh := hW.1
  unfold WfH at hWh
  have wT := hW.2.2.2.1 t h0 h1
  unfold WfT at wT
  have wl : 0 ≤ l ∧ l < H 10 0 8 := by have := wT.2.2.2.2.2 hL; omega
  have wY := hW.2.2.2.2.2.2.1 t h0 h1
  unfold WfY at wY
  have wY := wY hL hwk
  rw [hl] at wY
  have hA' : ∀ f, f < 2 ∨ (6 ≤ f ∧ f < 54) → H' 10 0 f = H 10 0 f := fun f h => hA f (by omega) (by omega) (by omega) (by omega) (by omega) (by omega) (by omega) (by omega)
  have e0 : H' 10 0 0 = H 10 0 0 := hA' 0 (by omega)
  have e1 : H' 10 0 1 = H 10 0 1 := hA' 1 (by omega)
  have e7 : H' 10 0 7 = H 10 0 7 := hA' 7 (by omega)
  have e8 : H' 10 0 8 = H 10 0 8 := hA' 8 (by omega)
  have aL : ∀ x f, 0 ≤ x → x < 12 → 0 ≤ f → f < 8 → (x = l → f ≠ 5 ∧ f ≠ 6) → H' 10 0 (164 + 8 * x + f) = H 10 0 (164 + 8 * x + f) := fun x f h2 h3 h4 h5 h6 => hA _ (by omega) (by omega) (by omega) (by omega) (by omega) (by omega) (by omega) (by omega)
  have aT : ∀ u f, 0 ≤ u → u < 10 → 0 ≤ f → f < 11 → (u = t → f ≠ 1 ∧ f ≠ 3 ∧ f ≠ 4 ∧ f ≠ 6 ∧ f ≠ 7) → H' 10 0 (54 + 11 * u + f) = H 10 0 (54 + 11 * u + f) := fun u f h2 h3 h4 h5 h6 => hA _ (by omega) (by omega) (by omega) (by omega) (by omega) (by omega) (by omega) (by omega)
  constructor
  · refine Rd_hour hR e0 e7 e8 (fun x f => hG _ _ _ (by omega) (by omega) (by omega)) (fun j h2 h3 => hA' j (by omega)) (fun x => hG _ _ _ (by omega) (by omega) (by omega)) ?_ (fun n h2 h3 => ?_) (fun u h2 h3 => ?_) (fun x h2 h3 => ?_) hWh.2.1
    · have r := hR.1
      unfold RdH at r ⊢
      rw [n8, n9, n10, n11, hG 3 o 4 (by omega) (by omega) (by omega), hG 3 o 5 (by omega) (by omega) (by omega), hG 3 o 6 (by omega) (by omega) (by omega), hG 3 o 7 (by omega) (by omega) (by omega), hG 3 o 12 (by omega) (by omega) (by omega), e0, e7, e8, e1, q2, q3, q4, q5, hA' 6 (by omega)]
      omega
    · exact RdN_c (hR.2.2.1 n h2 h3) (fun f => hG _ _ _ (by omega) (by omega) (by omega)) ⟨hA' _ (by omega), hA' _ (by omega), hA' _ (by omega)⟩
    · have r := hR.2.2.2.1 u h2 h3
      by_cases ht : u = t
      · subst ht
        unfold RdT at r ⊢
        simp only [g1, g2, g3, g5, g6, g7, g8, g9, b1, b3, b4, b6, b7, hG 6 (10 * o + u) 0 (by omega) (by omega) (by omega), hG 6 (10 * o + u) 4 (by omega) (by omega) (by omega), hG 6 (10 * o + u) 10 (by omega) (by omega) (by omega), hG 6 (10 * o + u) 11 (by omega) (by omega) (by omega), aT u 0 h2 (by omega) (by omega) (by omega) (by omega), aT u 2 h2 (by omega) (by omega) (by omega) (by omega), aT u 5 h2 (by omega) (by omega) (by omega) (by omega), aT u 8 h2 (by omega) (by omega) (by omega) (by omega), aT u 9 h2 (by omega) (by omega) (by omega) (by omega), aT u 10 h2 (by omega) (by omega) (by omega) (by omega)]
        refine ⟨r.1, trivial, r.2.2.1, trivial, trivial, hwk.symm, by rw [r.2.2.2.2.2.2.1], by rw [r.2.2.2.2.2.2.2.1], r.2.2.2.2.2.2.2.2.1, r.2.2.2.2.2.2.2.2.2.1, r.2.2.2.2.2.2.2.2.2.2.1, fun _ => trivial, fun z => absurd z (by decide)⟩
      · exact RdT_c r (fun f => hG _ _ _ (by omega) (by omega) (by omega)) (fun f h4 h5 => aT u f h2 (by omega) h4 h5 (by omega))
    · have r := hR.2.2.2.2.1 x h2 h3
      by_cases hx : x = l
      · subst hx
        unfold RdL at r ⊢
        simp only [l5, l6, m5, m6, hG 2 (12 * o + x) 0 (by omega) (by omega) (by omega), hG 2 (12 * o + x) 1 (by omega) (by omega) (by omega), hG 2 (12 * o + x) 2 (by omega) (by omega) (by omega), hG 2 (12 * o + x) 3 (by omega) (by omega) (by omega), hG 2 (12 * o + x) 4 (by omega) (by omega) (by omega), hG 2 (12 * o + x) 7 (by omega) (by omega) (by omega), aL x 0 h2 (by omega) (by omega) (by omega) (by omega), aL x 1 h2 (by omega) (by omega) (by omega) (by omega), aL x 2 h2 (by omega) (by omega) (by omega) (by omega), aL x 3 h2 (by omega) (by omega) (by omega) (by omega), aL x 4 h2 (by omega) (by omega) (by omega) (by omega), aL x 7 h2 (by omega) (by omega) (by omega) (by omega)]
        exact ⟨r.1, r.2.1, r.2.2.1, r.2.2.2.1, r.2.2.2.2.1, trivial, trivial, r.2.2.2.2.2.2.2⟩
      · exact RdL_c r (fun f => hG _ _ _ (by omega) (by omega) (by omega)) (fun f h4 h5 => aL x f h2 (by omega) h4 h5 (by omega))
  · refine Wf_hour hW e0 e7 e8 e1 (fun j h2 h3 => hA' j (by omega)) (fun n h2 h3 => ?_) (fun u h2 h3 => ?_) (fun x h2 h3 => ?_) (fun x h2 h3 => ?_) (fun u h2 h3 => ?_) (fun x h2 h3 => aL x 3 h2 (by omega) (by omega) (by omega) (by omega))
    · have r := hW.2.2.1 n h2 h3
      unfold WfN at r ⊢
      rw [hA' _ (by omega), hA' _ (by omega), hA' _ (by omega)]
      exact r
    · have r := hW.2.2.2.1 u h2 h3
      by_cases ht : u = t
      · subst ht
        unfold WfT at r ⊢
        simp only [b1, b3, b4, e0, e8, aT u 0 h2 (by omega) (by omega) (by omega) (by omega), aT u 2 h2 (by omega) (by omega) (by omega) (by omega), aT u 5 h2 (by omega) (by omega) (by omega) (by omega), aT u 10 h2 (by omega) (by omega) (by omega) (by omega)]
        exact ⟨r.1, hv1, r.2.2.1, by decide, fun _ => ⟨trivial, hwk⟩, fun z => absurd z (by decide)⟩
      · exact WfT_c r e0 e8 (fun f h4 h5 => aT u f h2 (by omega) h4 h5 (by omega))
    · have r := hW.2.2.2.2.1 x h2 h3
      by_cases hx : x = l
      · subst hx
        unfold WfL at r ⊢
        simp only [m5, m6, e0, e7, e1, aL x 1 h2 (by omega) (by omega) (by omega) (by omega), aL x 2 h2 (by omega) (by omega) (by omega) (by omega), aL x 3 h2 (by omega) (by omega) (by omega) (by omega), aL x 4 h2 (by omega) (by omega) (by omega) (by omega)]
        refine ⟨r.1, r.2.1, r.2.2.1, r.2.2.2.1, Or.inl trivial, by omega, fun _ => trivial, fun z _ => by omega⟩
      · exact WfL_c r e0 e7 e1 (fun f h4 h5 => aL x f h2 (by omega) h4 h5 (by omega))
    · have r := hW.2.2.2.2.2.1 x h2 h3
      have w := hW.2.2.2.2.1 x h2 h3
      unfold WfL at w
      unfold WfX at r ⊢
      by_cases hx : x = l
      · rw [hx, m5]
        exact fun z => absurd rfl z
      · rw [aL x 5 h2 (by omega) (by omega) (by omega) (by omega)]
        intro hz
        have r := r hz
        have hne : H 10 0 (164 + 8 * x + 5) ≠ t := fun z => by rw [z] at r; omega
        rw [aT _ 3 (by omega) (by omega) (by omega) (by omega) (by omega), aT _ 4 (by omega) (by omega) (by omega) (by omega) (by omega), aT _ 5 (by omega) (by omega) (by omega) (by omega) (by omega)]
        exact r
    · have r := hW.2.2.2.2.2.2.1 u h2 h3
      have w := hW.2.2.2.1 u h2 h3
      unfold WfT at w
      unfold WfY at r ⊢
      by_cases ht : u = t
      · rw [ht, b3]
        exact fun z => absurd z (by decide)
      · rw [aT u 3 h2 (by omega) (by omega) (by omega) (by omega), aT u 5 h2 (by omega) (by omega) (by omega) (by omega), aT u 4 h2 (by omega) (by omega) (by omega) (by omega), aT u 2 h2 (by omega) (by omega) (by omega) (by omega)]
        intro hx hy
        have r := r hx hy
        have hne : H 10 0 (54 + 11 * u + 4) ≠ l := fun z => by rw [z] at r; omega
        rw [aL _ 5 (by omega) (by omega) (by omega) (by omega) (by omega), aL _ 4 (by omega) (by omega) (by omega) (by omega) (by omega), aL _ 6 (by omega) (by omega) (by omega) (by omega) (by omega)]
        exact r
theorem keep_walk {o m t : Int} {G G' H H' : GS} (hR : Rd G o (H 10 0)) (hW : Wf m (H 10 0)) (h0 : 0 ≤ t) (h1 : t < H 10 0 7) (hL : 0 < H 10 0 (54 + 11 * t + 3)) (hwk : H 10 0 (54 + 11 * t + 5) = 1)
    (hG : ∀ k x f, ¬ (k = 6 ∧ x = 10 * o + t ∧ (f = 2 ∨ f = 3 ∨ f = 5 ∨ f = 6 ∨ f = 7 ∨ f = 10)) → G' k x f = G k x f)
    (g2 : G' 6 (10 * o + t) 2 = G 6 (10 * o + t) 2) (g3 : G' 6 (10 * o + t) 3 = -1) (g5 : G' 6 (10 * o + t) 5 = 0) (g6 : G' 6 (10 * o + t) 6 = -1) (g7 : G' 6 (10 * o + t) 7 = 0) (g10 : G' 6 (10 * o + t) 10 = G 6 (10 * o + t) 10 + 1)
    (hA : ∀ f, f ≠ 54 + 11 * t + 3 → f ≠ 54 + 11 * t + 5 → f ≠ 54 + 11 * t + 8 → H' 10 0 f = H 10 0 f)
    (b3 : H' 10 0 (54 + 11 * t + 3) = 0) (b5 : H' 10 0 (54 + 11 * t + 5) = 0) (b8 : H' 10 0 (54 + 11 * t + 8) = H 10 0 (54 + 11 * t + 8) + 1) : Rd G' o (H' 10 0) ∧ Wf m (H' 10 0) := by
  have hWh := hW.1
  unfold WfH at hWh
  have wT := hW.2.2.2.1 t h0 h1
  unfold WfT at wT
  have w4 : H 10 0 (54 + 11 * t + 4) = -1 := by have := wT.2.2.2.2.2 hL; omega
  have hA' : ∀ f, f < 54 → H' 10 0 f = H 10 0 f := fun f h => hA f (by omega) (by omega) (by omega)
  have e0 : H' 10 0 0 = H 10 0 0 := hA' 0 (by omega)
  have e1 : H' 10 0 1 = H 10 0 1 := hA' 1 (by omega)
  have e7 : H' 10 0 7 = H 10 0 7 := hA' 7 (by omega)
  have e8 : H' 10 0 8 = H 10 0 8 := hA' 8 (by omega)
  have aL : ∀ x f, 0 ≤ x → 0 ≤ f → f < 8 → H' 10 0 (164 + 8 * x + f) = H 10 0 (164 + 8 * x + f) := fun x f h2 h4 h5 => hA _ (by omega) (by omega) (by omega)
  have aT : ∀ u f, 0 ≤ u → u < 10 → 0 ≤ f → f < 11 → (u = t → f ≠ 3 ∧ f ≠ 5 ∧ f ≠ 8) → H' 10 0 (54 + 11 * u + f) = H 10 0 (54 + 11 * u + f) := fun u f h2 h3 h4 h5 h6 => hA _ (by omega) (by omega) (by omega)
  constructor
  · refine Rd_hour hR e0 e7 e8 (fun x f => hG _ _ _ (by omega)) (fun j h2 h3 => hA' j (by omega)) (fun x => hG _ _ _ (by omega)) ?_ (fun n h2 h3 => ?_) (fun u h2 h3 => ?_) (fun x h2 h3 => ?_) hWh.2.1
    · have r := hR.1
      unfold RdH at r ⊢
      have hg3 : ∀ f, G' 3 o f = G 3 o f := fun f => hG 3 o f (by omega)
      simp only [hg3, hA' 0 (by omega), hA' 1 (by omega), hA' 2 (by omega), hA' 3 (by omega), hA' 4 (by omega), hA' 5 (by omega), hA' 6 (by omega), hA' 7 (by omega), hA' 8 (by omega)]
      exact r
    · exact RdN_c (hR.2.2.1 n h2 h3) (fun f => hG _ _ _ (by omega)) ⟨hA' _ (by omega), hA' _ (by omega), hA' _ (by omega)⟩
    · have r := hR.2.2.2.1 u h2 h3
      by_cases ht : u = t
      · subst ht
        unfold RdT at r ⊢
        simp only [g2, g3, g5, g6, g7, g10, b3, b5, b8, w4, hG 6 (10 * o + u) 0 (by omega), hG 6 (10 * o + u) 1 (by omega), hG 6 (10 * o + u) 4 (by omega), hG 6 (10 * o + u) 8 (by omega), hG 6 (10 * o + u) 9 (by omega), hG 6 (10 * o + u) 11 (by omega), aT u 0 h2 (by omega) (by omega) (by omega) (by omega), aT u 1 h2 (by omega) (by omega) (by omega) (by omega), aT u 2 h2 (by omega) (by omega) (by omega) (by omega), aT u 4 h2 (by omega) (by omega) (by omega) (by omega), aT u 6 h2 (by omega) (by omega) (by omega) (by omega), aT u 7 h2 (by omega) (by omega) (by omega) (by omega), aT u 9 h2 (by omega) (by omega) (by omega) (by omega), aT u 10 h2 (by omega) (by omega) (by omega) (by omega)]
        refine ⟨r.1, r.2.1, r.2.2.1, trivial, trivial, trivial, r.2.2.2.2.2.2.1, r.2.2.2.2.2.2.2.1, by rw [r.2.2.2.2.2.2.2.2.1], r.2.2.2.2.2.2.2.2.2.1, r.2.2.2.2.2.2.2.2.2.2.1, fun _ => trivial, fun z => absurd z (by decide)⟩
      · exact RdT_c r (fun f => hG _ _ _ (by omega)) (fun f h4 h5 => aT u f h2 (by omega) h4 h5 (by omega))
    · exact RdL_c (hR.2.2.2.2.1 x h2 h3) (fun f => hG _ _ _ (by omega)) (fun f h4 h5 => aL x f h2 h4 h5)
  · refine Wf_hour hW e0 e7 e8 e1 (fun j h2 h3 => hA' j (by omega)) (fun n h2 h3 => ?_) (fun u h2 h3 => ?_) (fun x h2 h3 => ?_) (fun x h2 h3 => ?_) (fun u h2 h3 => ?_) (fun x h2 h3 => aL x 3 h2 (by omega) (by omega))
    · have r := hW.2.2.1 n h2 h3
      unfold WfN at r ⊢
      rw [hA' _ (by omega), hA' _ (by omega), hA' _ (by omega)]
      exact r
    · have r := hW.2.2.2.1 u h2 h3
      by_cases ht : u = t
      · subst ht
        unfold WfT at r ⊢
        simp only [b3, b5, e0, e8, aT u 0 h2 (by omega) (by omega) (by omega) (by omega), aT u 1 h2 (by omega) (by omega) (by omega) (by omega), aT u 2 h2 (by omega) (by omega) (by omega) (by omega), aT u 4 h2 (by omega) (by omega) (by omega) (by omega), aT u 10 h2 (by omega) (by omega) (by omega) (by omega)]
        exact ⟨r.1, r.2.1, r.2.2.1, by decide, fun _ => ⟨w4, trivial⟩, fun z => absurd z (by decide)⟩
      · exact WfT_c r e0 e8 (fun f h4 h5 => aT u f h2 (by omega) h4 h5 (by omega))
    · exact WfL_c (hW.2.2.2.2.1 x h2 h3) e0 e7 e1 (fun f h4 h5 => aL x f h2 h4 h5)
    · have r := hW.2.2.2.2.2.1 x h2 h3
      have w := hW.2.2.2.2.1 x h2 h3
      unfold WfL at w
      unfold WfX at r ⊢
      rw [aL x 5 h2 (by omega) (by omega)]
      intro hz
      have r := r hz
      have hne : H 10 0 (164 + 8 * x + 5) ≠ t := fun z => by rw [z] at r; omega
      rw [aT _ 3 (by omega) (by omega) (by omega) (by omega) (by omega), aT _ 4 (by omega) (by omega) (by omega) (by omega) (by omega), aT _ 5 (by omega) (by omega) (by omega) (by omega) (by omega)]
      exact r
    · have r := hW.2.2.2.2.2.2.1 u h2 h3
      have w := hW.2.2.2.1 u h2 h3
      unfold WfT at w
      unfold WfY at r ⊢
      by_cases ht : u = t
      · rw [ht, b3]
        exact fun z => absurd z (by decide)
      · rw [aT u 3 h2 (by omega) (by omega) (by omega) (by omega), aT u 5 h2 (by omega) (by omega) (by omega) (by omega), aT u 4 h2 (by omega) (by omega) (by omega) (by omega), aT u 2 h2 (by omega) (by omega) (by omega) (by omega)]
        intro hx hy
        rw [aL _ 5 (by omega) (by omega) (by omega), aL _ 4 (by omega) (by omega) (by omega), aL _ 6 (by omega) (by omega) (by omega)]
        exact r hx hy

/-! SETTING OUT KEEPS WHAT TIES THEM -/
theorem keep_send {o m l t a b s h : Int} {G G' H H' : GS} (hR : Rd G o (H 10 0)) (hW : Wf m (H 10 0)) (h0 : 0 ≤ t) (h1 : t < H 10 0 7) (l0 : 0 ≤ l) (l1 : l < H 10 0 8) (ht2 : H 10 0 (54 + 11 * t + 2) = a) (ht3 : H 10 0 (54 + 11 * t + 3) = 0) (hl5 : H 10 0 (164 + 8 * l + 5) = -1) (hl6 : H 10 0 (164 + 8 * l + 6) = -1) (hb : 0 ≤ b ∧ b < H 10 0 0) (hab : (b = a + 1 ∧ s = a) ∨ (b = a - 1 ∧ s = b)) (hh : 1 ≤ h ∧ h ≤ 9)
    (hG : ∀ k x f, ¬ (k = 6 ∧ x = 10 * o + t ∧ (f = 2 ∨ f = 3 ∨ f = 4 ∨ f = 5 ∨ f = 6)) → ¬ (k = 2 ∧ x = 12 * o + l ∧ (f = 4 ∨ f = 5 ∨ f = 7)) → G' k x f = G k x f)
    (g2 : G' 6 (10 * o + t) 2 = b) (g3 : G' 6 (10 * o + t) 3 = s) (g4 : G' 6 (10 * o + t) 4 = up a b) (g5 : G' 6 (10 * o + t) 5 = h) (g6 : G' 6 (10 * o + t) 6 = l) (k4 : G' 2 (12 * o + l) 4 = b) (k5 : G' 2 (12 * o + l) 5 = t) (k7 : G' 2 (12 * o + l) 7 = G 2 (12 * o + l) 7 + 1)
    (hA : ∀ f, f ≠ 54 + 11 * t + 2 → f ≠ 54 + 11 * t + 3 → f ≠ 54 + 11 * t + 4 → f ≠ 54 + 11 * t + 10 → f ≠ 164 + 8 * l + 4 → f ≠ 164 + 8 * l + 5 → f ≠ 164 + 8 * l + 7 → H' 10 0 f = H 10 0 f)
    (b2 : H' 10 0 (54 + 11 * t + 2) = b) (b3 : H' 10 0 (54 + 11 * t + 3) = h) (b4 : H' 10 0 (54 + 11 * t + 4) = l) (b10 : H' 10 0 (54 + 11 * t + 10) = a) (m4 : H' 10 0 (164 + 8 * l + 4) = b) (m5 : H' 10 0 (164 + 8 * l + 5) = t) (m7 : H' 10 0 (164 + 8 * l + 7) = H 10 0 (164 + 8 * l + 7) + 1) : Rd G' o (H' 10 0) ∧ Wf m (H' 10 0) := by
  have hWh := hW.1
  unfold WfH at hWh
  have wT := hW.2.2.2.1 t h0 h1
  unfold WfT at wT
  have w5 : H 10 0 (54 + 11 * t + 5) = 0 := (wT.2.2.2.2.1 ht3).2
  have hA' : ∀ f, f < 54 → H' 10 0 f = H 10 0 f := fun f h => hA f (by omega) (by omega) (by omega) (by omega) (by omega) (by omega) (by omega)
  have e0 : H' 10 0 0 = H 10 0 0 := hA' 0 (by omega)
  have e1 : H' 10 0 1 = H 10 0 1 := hA' 1 (by omega)
  have e7 : H' 10 0 7 = H 10 0 7 := hA' 7 (by omega)
  have e8 : H' 10 0 8 = H 10 0 8 := hA' 8 (by omega)
  have hu : up a b = 1 ∧ b = a + 1 ∨ up a b = 0 ∧ b = a - 1 := by
    unfold up
    split <;> omega
  have aL : ∀ x f, 0 ≤ x → x < 12 → 0 ≤ f → f < 8 → (x = l → f ≠ 4 ∧ f ≠ 5 ∧ f ≠ 7) → H' 10 0 (164 + 8 * x + f) = H 10 0 (164 + 8 * x + f) := fun x f h2 h3 h4 h5 h6 => hA _ (by omega) (by omega) (by omega) (by omega) (by omega) (by omega) (by omega)
  have aT : ∀ u f, 0 ≤ u → u < 10 → 0 ≤ f → f < 11 → (u = t → f ≠ 2 ∧ f ≠ 3 ∧ f ≠ 4 ∧ f ≠ 10) → H' 10 0 (54 + 11 * u + f) = H 10 0 (54 + 11 * u + f) := fun u f h2 h3 h4 h5 h6 => hA _ (by omega) (by omega) (by omega) (by omega) (by omega) (by omega) (by omega)
  constructor
  · refine Rd_hour hR e0 e7 e8 (fun x f => hG _ _ _ (by omega) (by omega)) (fun j h2 h3 => hA' j (by omega)) (fun x => hG _ _ _ (by omega) (by omega)) ?_ (fun n h2 h3 => ?_) (fun u h2 h3 => ?_) (fun x h2 h3 => ?_) hWh.2.1
    · have r := hR.1
      have hg3 : ∀ f, G' 3 o f = G 3 o f := fun f => hG 3 o f (by omega) (by omega)
      unfold RdH at r ⊢
      simp only [hg3, hA' 0 (by omega), hA' 1 (by omega), hA' 2 (by omega), hA' 3 (by omega), hA' 4 (by omega), hA' 5 (by omega), hA' 6 (by omega), hA' 7 (by omega), hA' 8 (by omega)]
      exact r
    · exact RdN_c (hR.2.2.1 n h2 h3) (fun f => hG _ _ _ (by omega) (by omega)) ⟨hA' _ (by omega), hA' _ (by omega), hA' _ (by omega)⟩
    · have r := hR.2.2.2.1 u h2 h3
      by_cases ht : u = t
      · subst ht
        unfold RdT at r ⊢
        simp only [g2, g3, g4, g5, g6, b2, b3, b4, b10, hG 6 (10 * o + u) 0 (by omega) (by omega), hG 6 (10 * o + u) 1 (by omega) (by omega), hG 6 (10 * o + u) 7 (by omega) (by omega), hG 6 (10 * o + u) 8 (by omega) (by omega), hG 6 (10 * o + u) 9 (by omega) (by omega), hG 6 (10 * o + u) 10 (by omega) (by omega), hG 6 (10 * o + u) 11 (by omega) (by omega), aT u 0 h2 (by omega) (by omega) (by omega) (by omega), aT u 1 h2 (by omega) (by omega) (by omega) (by omega), aT u 5 h2 (by omega) (by omega) (by omega) (by omega), aT u 6 h2 (by omega) (by omega) (by omega) (by omega), aT u 7 h2 (by omega) (by omega) (by omega) (by omega), aT u 8 h2 (by omega) (by omega) (by omega) (by omega), aT u 9 h2 (by omega) (by omega) (by omega) (by omega)]
        refine ⟨r.1, r.2.1, trivial, trivial, trivial, r.2.2.2.2.2.1, r.2.2.2.2.2.2.1, r.2.2.2.2.2.2.2.1, r.2.2.2.2.2.2.2.2.1, r.2.2.2.2.2.2.2.2.2.1, by omega, fun z => by omega, fun _ => ⟨fun z => by omega, fun z => by omega⟩⟩
      · exact RdT_c r (fun f => hG _ _ _ (by omega) (by omega)) (fun f h4 h5 => aT u f h2 (by omega) h4 h5 (by omega))
    · have r := hR.2.2.2.2.1 x h2 h3
      by_cases hx : x = l
      · subst hx
        unfold RdL at r ⊢
        simp only [k4, k5, k7, m4, m5, m7, hG 2 (12 * o + x) 0 (by omega) (by omega), hG 2 (12 * o + x) 1 (by omega) (by omega), hG 2 (12 * o + x) 2 (by omega) (by omega), hG 2 (12 * o + x) 3 (by omega) (by omega), hG 2 (12 * o + x) 6 (by omega) (by omega), aL x 0 h2 (by omega) (by omega) (by omega) (by omega), aL x 1 h2 (by omega) (by omega) (by omega) (by omega), aL x 2 h2 (by omega) (by omega) (by omega) (by omega), aL x 3 h2 (by omega) (by omega) (by omega) (by omega), aL x 6 h2 (by omega) (by omega) (by omega) (by omega)]
        exact ⟨r.1, r.2.1, r.2.2.1, r.2.2.2.1, trivial, trivial, r.2.2.2.2.2.2.1, by rw [r.2.2.2.2.2.2.2]⟩
      · exact RdL_c r (fun f => hG _ _ _ (by omega) (by omega)) (fun f h4 h5 => aL x f h2 (by omega) h4 h5 (by omega))
  · refine Wf_hour hW e0 e7 e8 e1 (fun j h2 h3 => hA' j (by omega)) (fun n h2 h3 => ?_) (fun u h2 h3 => ?_) (fun x h2 h3 => ?_) (fun x h2 h3 => ?_) (fun u h2 h3 => ?_) (fun x h2 h3 => aL x 3 h2 (by omega) (by omega) (by omega) (by omega))
    · have r := hW.2.2.1 n h2 h3
      unfold WfN at r ⊢
      rw [hA' _ (by omega), hA' _ (by omega), hA' _ (by omega)]
      exact r
    · have r := hW.2.2.2.1 u h2 h3
      by_cases ht : u = t
      · subst ht
        unfold WfT at r ⊢
        simp only [b2, b3, b4, b10, e0, e8, aT u 0 h2 (by omega) (by omega) (by omega) (by omega), aT u 1 h2 (by omega) (by omega) (by omega) (by omega), aT u 5 h2 (by omega) (by omega) (by omega) (by omega)]
        exact ⟨r.1, r.2.1, hb, by omega, fun z => by omega, fun _ => ⟨by omega, by omega, Or.inl ⟨w5, l0, l1⟩⟩⟩
      · exact WfT_c r e0 e8 (fun f h4 h5 => aT u f h2 (by omega) h4 h5 (by omega))
    · have r := hW.2.2.2.2.1 x h2 h3
      by_cases hx : x = l
      · subst hx
        unfold WfL at r ⊢
        simp only [m4, m5, e0, e7, e1, aL x 1 h2 (by omega) (by omega) (by omega) (by omega), aL x 2 h2 (by omega) (by omega) (by omega) (by omega), aL x 3 h2 (by omega) (by omega) (by omega) (by omega), aL x 6 h2 (by omega) (by omega) (by omega) (by omega)]
        exact ⟨r.1, r.2.1, r.2.2.1, hb, Or.inr ⟨h0, h1⟩, r.2.2.2.2.2.1, fun z => absurd hl6 z, fun _ z => by omega⟩
      · exact WfL_c r e0 e7 e1 (fun f h4 h5 => aL x f h2 (by omega) h4 h5 (by omega))
    · have r := hW.2.2.2.2.2.1 x h2 h3
      have w := hW.2.2.2.2.1 x h2 h3
      unfold WfL at w
      unfold WfX at r ⊢
      by_cases hx : x = l
      · rw [hx, m5, b3, b4, aT t 5 h0 (by omega) (by omega) (by omega) (by omega)]
        exact fun _ => ⟨by omega, w5, rfl⟩
      · rw [aL x 5 h2 (by omega) (by omega) (by omega) (by omega)]
        intro hz
        have r := r hz
        have hne : H 10 0 (164 + 8 * x + 5) ≠ t := fun z => by rw [z] at r; omega
        rw [aT _ 3 (by omega) (by omega) (by omega) (by omega) (by omega), aT _ 4 (by omega) (by omega) (by omega) (by omega) (by omega), aT _ 5 (by omega) (by omega) (by omega) (by omega) (by omega)]
        exact r
    · have r := hW.2.2.2.2.2.2.1 u h2 h3
      have w := hW.2.2.2.1 u h2 h3
      unfold WfT at w
      unfold WfY at r ⊢
      by_cases ht : u = t
      · rw [ht, b3, b4, b2, m5, m4, aL l 6 l0 (by omega) (by omega) (by omega) (by omega)]
        exact fun _ _ => ⟨rfl, rfl, hl6⟩
      · rw [aT u 3 h2 (by omega) (by omega) (by omega) (by omega), aT u 5 h2 (by omega) (by omega) (by omega) (by omega), aT u 4 h2 (by omega) (by omega) (by omega) (by omega), aT u 2 h2 (by omega) (by omega) (by omega) (by omega)]
        intro hx hy
        have r := r hx hy
        have hne : H 10 0 (54 + 11 * u + 4) ≠ l := fun z => by rw [z] at r; omega
        rw [aL _ 5 (by omega) (by omega) (by omega) (by omega) (by omega), aL _ 4 (by omega) (by omega) (by omega) (by omega) (by omega), aL _ 6 (by omega) (by omega) (by omega) (by omega) (by omega)]
        exact r
theorem keep_back {o m t a b s h : Int} {G G' H H' : GS} (hR : Rd G o (H 10 0)) (hW : Wf m (H 10 0)) (h0 : 0 ≤ t) (h1 : t < H 10 0 7) (ht2 : H 10 0 (54 + 11 * t + 2) = a) (ht3 : H 10 0 (54 + 11 * t + 3) = 0) (hb : 0 ≤ b ∧ b < H 10 0 0) (hab : (b = a + 1 ∧ s = a) ∨ (b = a - 1 ∧ s = b)) (hh : 1 ≤ h ∧ h ≤ 18)
    (hG : ∀ k x f, ¬ (k = 6 ∧ x = 10 * o + t ∧ (f = 2 ∨ f = 3 ∨ f = 4 ∨ f = 5 ∨ f = 7)) → G' k x f = G k x f)
    (g2 : G' 6 (10 * o + t) 2 = b) (g3 : G' 6 (10 * o + t) 3 = s) (g4 : G' 6 (10 * o + t) 4 = up a b) (g5 : G' 6 (10 * o + t) 5 = h) (g7 : G' 6 (10 * o + t) 7 = 1)
    (hA : ∀ f, f ≠ 54 + 11 * t + 2 → f ≠ 54 + 11 * t + 3 → f ≠ 54 + 11 * t + 5 → f ≠ 54 + 11 * t + 10 → H' 10 0 f = H 10 0 f)
    (b2 : H' 10 0 (54 + 11 * t + 2) = b) (b3 : H' 10 0 (54 + 11 * t + 3) = h) (b5 : H' 10 0 (54 + 11 * t + 5) = 1) (b10 : H' 10 0 (54 + 11 * t + 10) = a) : Rd G' o (H' 10 0) ∧ Wf m (H' 10 0) := by
  have hWh := hW.1
  unfold WfH at hWh
  have wT := hW.2.2.2.1 t h0 h1
  unfold WfT at wT
  have w4 : H 10 0 (54 + 11 * t + 4) = -1 := (wT.2.2.2.2.1 ht3).1
  have hA' : ∀ f, f < 54 → H' 10 0 f = H 10 0 f := fun f h => hA f (by omega) (by omega) (by omega) (by omega)
  have e0 : H' 10 0 0 = H 10 0 0 := hA' 0 (by omega)
  have e1 : H' 10 0 1 = H 10 0 1 := hA' 1 (by omega)
  have e7 : H' 10 0 7 = H 10 0 7 := hA' 7 (by omega)
  have e8 : H' 10 0 8 = H 10 0 8 := hA' 8 (by omega)
  have hu : up a b = 1 ∧ b = a + 1 ∨ up a b = 0 ∧ b = a - 1 := by
    unfold up
    split <;> omega
  have aL : ∀ x f, 0 ≤ x → 0 ≤ f → H' 10 0 (164 + 8 * x + f) = H 10 0 (164 + 8 * x + f) := fun x f h2 h4 => hA _ (by omega) (by omega) (by omega) (by omega)
  have aT : ∀ u f, 0 ≤ u → u < 10 → 0 ≤ f → f < 11 → (u = t → f ≠ 2 ∧ f ≠ 3 ∧ f ≠ 5 ∧ f ≠ 10) → H' 10 0 (54 + 11 * u + f) = H 10 0 (54 + 11 * u + f) := fun u f h2 h3 h4 h5 h6 => hA _ (by omega) (by omega) (by omega) (by omega)
  constructor
  · refine Rd_hour hR e0 e7 e8 (fun x f => hG _ _ _ (by omega)) (fun j h2 h3 => hA' j (by omega)) (fun x => hG _ _ _ (by omega)) ?_ (fun n h2 h3 => ?_) (fun u h2 h3 => ?_) (fun x h2 h3 => ?_) hWh.2.1
    · have r := hR.1
      have hg3 : ∀ f, G' 3 o f = G 3 o f := fun f => hG 3 o f (by omega)
      unfold RdH at r ⊢
      simp only [hg3, hA' 0 (by omega), hA' 1 (by omega), hA' 2 (by omega), hA' 3 (by omega), hA' 4 (by omega), hA' 5 (by omega), hA' 6 (by omega), hA' 7 (by omega), hA' 8 (by omega)]
      exact r
    · exact RdN_c (hR.2.2.1 n h2 h3) (fun f => hG _ _ _ (by omega)) ⟨hA' _ (by omega), hA' _ (by omega), hA' _ (by omega)⟩
    · have r := hR.2.2.2.1 u h2 h3
      by_cases ht : u = t
      · subst ht
        unfold RdT at r ⊢
        simp only [g2, g3, g4, g5, g7, b2, b3, b5, b10, hG 6 (10 * o + u) 0 (by omega), hG 6 (10 * o + u) 1 (by omega), hG 6 (10 * o + u) 6 (by omega), hG 6 (10 * o + u) 8 (by omega), hG 6 (10 * o + u) 9 (by omega), hG 6 (10 * o + u) 10 (by omega), hG 6 (10 * o + u) 11 (by omega), aT u 0 h2 (by omega) (by omega) (by omega) (by omega), aT u 1 h2 (by omega) (by omega) (by omega) (by omega), aT u 4 h2 (by omega) (by omega) (by omega) (by omega), aT u 6 h2 (by omega) (by omega) (by omega) (by omega), aT u 7 h2 (by omega) (by omega) (by omega) (by omega), aT u 8 h2 (by omega) (by omega) (by omega) (by omega), aT u 9 h2 (by omega) (by omega) (by omega) (by omega)]
        refine ⟨r.1, r.2.1, trivial, trivial, r.2.2.2.2.1, trivial, r.2.2.2.2.2.2.1, r.2.2.2.2.2.2.2.1, r.2.2.2.2.2.2.2.2.1, r.2.2.2.2.2.2.2.2.2.1, by omega, fun z => by omega, fun _ => ⟨fun z => by omega, fun z => by omega⟩⟩
      · exact RdT_c r (fun f => hG _ _ _ (by omega)) (fun f h4 h5 => aT u f h2 (by omega) h4 h5 (by omega))
    · exact RdL_c (hR.2.2.2.2.1 x h2 h3) (fun f => hG _ _ _ (by omega)) (fun f h4 h5 => aL x f h2 h4)
  · refine Wf_hour hW e0 e7 e8 e1 (fun j h2 h3 => hA' j (by omega)) (fun n h2 h3 => ?_) (fun u h2 h3 => ?_) (fun x h2 h3 => ?_) (fun x h2 h3 => ?_) (fun u h2 h3 => ?_) (fun x h2 h3 => aL x 3 h2 (by omega))
    · have r := hW.2.2.1 n h2 h3
      unfold WfN at r ⊢
      rw [hA' _ (by omega), hA' _ (by omega), hA' _ (by omega)]
      exact r
    · have r := hW.2.2.2.1 u h2 h3
      by_cases ht : u = t
      · subst ht
        unfold WfT at r ⊢
        simp only [b2, b3, b5, b10, e0, e8, aT u 0 h2 (by omega) (by omega) (by omega) (by omega), aT u 1 h2 (by omega) (by omega) (by omega) (by omega), aT u 4 h2 (by omega) (by omega) (by omega) (by omega)]
        exact ⟨r.1, r.2.1, hb, by omega, fun z => by omega, fun _ => ⟨by omega, by omega, Or.inr ⟨trivial, w4⟩⟩⟩
      · exact WfT_c r e0 e8 (fun f h4 h5 => aT u f h2 (by omega) h4 h5 (by omega))
    · exact WfL_c (hW.2.2.2.2.1 x h2 h3) e0 e7 e1 (fun f h4 h5 => aL x f h2 h4)
    · have r := hW.2.2.2.2.2.1 x h2 h3
      have w := hW.2.2.2.2.1 x h2 h3
      unfold WfL at w
      unfold WfX at r ⊢
      rw [aL x 5 h2 (by omega)]
      intro hz
      have r := r hz
      have hne : H 10 0 (164 + 8 * x + 5) ≠ t := fun z => by rw [z] at r; omega
      rw [aT _ 3 (by omega) (by omega) (by omega) (by omega) (by omega), aT _ 4 (by omega) (by omega) (by omega) (by omega) (by omega), aT _ 5 (by omega) (by omega) (by omega) (by omega) (by omega)]
      exact r
    · have r := hW.2.2.2.2.2.2.1 u h2 h3
      have w := hW.2.2.2.1 u h2 h3
      unfold WfT at w
      unfold WfY at r ⊢
      by_cases ht : u = t
      · rw [ht, b5]
        exact fun _ z => absurd z (by decide)
      · rw [aT u 3 h2 (by omega) (by omega) (by omega) (by omega), aT u 5 h2 (by omega) (by omega) (by omega) (by omega), aT u 4 h2 (by omega) (by omega) (by omega) (by omega), aT u 2 h2 (by omega) (by omega) (by omega) (by omega)]
        intro hx hy
        rw [aL _ 5 (by omega) (by omega), aL _ 4 (by omega) (by omega), aL _ 6 (by omega) (by omega)]
        exact r hx hy

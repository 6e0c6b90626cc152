/-! THE SAME CALL ON BOTH ROADS -/
theorem mi_putN {n i x1 x2 x3 : Int} {A B : Int → Int} (hM : Mi n A B) (hA : A 7 ≤ 10) (hn : n ≤ 8) (i0 : 0 ≤ i) (i1 : i < n) : Mi n (put3 A (30 + 3 * i) x1 x2 x3) (put3 B (30 + 3 * (n - 1 - i)) x1 x2 x3) := by
  have aF : ∀ f, ¬ (30 + 3 * i ≤ f ∧ f ≤ 30 + 3 * i + 2) → put3 A (30 + 3 * i) x1 x2 x3 f = A f := fun f z => put3_n z
  have bF : ∀ f, ¬ (30 + 3 * (n - 1 - i) ≤ f ∧ f ≤ 30 + 3 * (n - 1 - i) + 2) → put3 B (30 + 3 * (n - 1 - i)) x1 x2 x3 f = B f := fun f z => put3_n z
  have z7 := aF 7 (by omega)
  have z8 := aF 8 (by omega)
  refine Mi_fr hM hn (MiH_fr hM.1 (fun f y0 y1 => aF f (by omega)) (fun f y0 y1 => bF f (by omega))) (fun f y0 y1 => aF f (by omega)) (fun f y0 y1 => bF f (by omega)) (fun j h0 h1 => ?_) (fun u h0 h1 => MiT_fr (hM.2.2.2.1 u h0 (by omega)) (fun f y0 y1 => aF f (by omega)) (fun f y0 y1 => bF f (by omega))) (fun q h0 h1 => MiL_fr (hM.2.2.2.2 q h0 (by omega)) (fun f y0 y1 => aF f (by omega)) (fun f y0 y1 => bF f (by omega)))
  by_cases cj : j = i
  · subst cj
    exact ⟨by rw [put3_0, put3_0], by rw [put3_1, put3_1], by rw [put3_2, put3_2]⟩
  · exact MiN_fr (hM.2.2.1 j h0 h1) (fun f y0 y1 => aF f (by omega)) (fun f y0 y1 => bF f (by omega))
theorem mi_putS {n s x1 x2 x3 : Int} {A B : Int → Int} (hM : Mi n A B) (hA : A 7 ≤ 10) (hn : n ≤ 8) (s0 : 0 ≤ s) (s1 : s < n - 1) : Mi n (put3 A (9 + 3 * s) x1 x2 x3) (put3 B (9 + 3 * (n - 2 - s)) x1 (-x2) x3) := by
  have aF : ∀ f, ¬ (9 + 3 * s ≤ f ∧ f ≤ 9 + 3 * s + 2) → put3 A (9 + 3 * s) x1 x2 x3 f = A f := fun f z => put3_n z
  have bF : ∀ f, ¬ (9 + 3 * (n - 2 - s) ≤ f ∧ f ≤ 9 + 3 * (n - 2 - s) + 2) → put3 B (9 + 3 * (n - 2 - s)) x1 (-x2) x3 f = B f := fun f z => put3_n z
  have z7 := aF 7 (by omega)
  have z8 := aF 8 (by omega)
  refine ⟨MiH_fr hM.1 (fun f y0 y1 => aF f (by omega)) (fun f y0 y1 => bF f (by omega)), fun j h0 h1 => ?_, fun j h0 h1 => MiN_fr (hM.2.2.1 j h0 h1) (fun f y0 y1 => aF f (by omega)) (fun f y0 y1 => bF f (by omega)), fun u h0 h1 => MiT_fr (hM.2.2.2.1 u h0 (by omega)) (fun f y0 y1 => aF f (by omega)) (fun f y0 y1 => bF f (by omega)), fun q h0 h1 => MiL_fr (hM.2.2.2.2 q h0 (by omega)) (fun f y0 y1 => aF f (by omega)) (fun f y0 y1 => bF f (by omega))⟩
  by_cases cj : j = s
  · subst cj
    exact ⟨by rw [put3_0, put3_0], by rw [put3_1, put3_1], by rw [put3_2, put3_2]⟩
  · obtain ⟨q0, q1, q2⟩ := hM.2.1 j h0 h1
    exact ⟨by rw [bF _ (by omega), aF _ (by omega)]; exact q0, by rw [bF _ (by omega), aF _ (by omega)]; exact q1, by rw [bF _ (by omega), aF _ (by omega)]; exact q2⟩
theorem mi_ad {n t p1 p2 : Int} {A B : Int → Int} (hM : Mi n A B) (hn : n ≤ 8) (ht : A 7 = t) (t0 : 0 ≤ t) (t1 : t < 10) (hA8 : A 8 ≤ 12) : Mi n (adA A t p1 p2) (adA B t (n - 1 - p1) p2) := by
  obtain ⟨a7, ⟨a0, a1, a2, a3, a4, a5, a6, b7, a8, a9⟩, a10⟩ := adA_r (A := A) (t := t) (p1 := p1) (p2 := p2) t0
  obtain ⟨c7, ⟨c0, c1, c2, c3, c4, c5, c6, d7, c8, c9⟩, c10⟩ := adA_r (A := B) (t := t) (p1 := n - 1 - p1) (p2 := p2) t0
  have aF : ∀ f, f ≠ 7 → ¬ (54 + 11 * t ≤ f ∧ f < 54 + 11 * t + 11) → adA A t p1 p2 f = A f := fun f z z2 => adA_n z z2
  have bF : ∀ f, f ≠ 7 → ¬ (54 + 11 * t ≤ f ∧ f < 54 + 11 * t + 11) → adA B t (n - 1 - p1) p2 f = B f := fun f z z2 => adA_n z z2
  have z8 := aF 8 (by omega) (by omega)
  obtain ⟨e0, e1, f1, f2, f3, f4, f5, f6, f7, f8⟩ := hM.1
  refine Mi_fr hM hn ⟨by rw [aF 0 (by decide) (by omega)]; exact e0, by rw [bF 0 (by decide) (by omega)]; exact e1, by rw [aF 1 (by decide) (by omega), bF 1 (by decide) (by omega)]; exact f1, by rw [aF 2 (by decide) (by omega), bF 2 (by decide) (by omega)]; exact f2, by rw [aF 3 (by decide) (by omega), bF 3 (by decide) (by omega)]; exact f3, by rw [aF 4 (by decide) (by omega), bF 4 (by decide) (by omega)]; exact f4, by rw [aF 5 (by decide) (by omega), bF 5 (by decide) (by omega)]; exact f5, by rw [aF 6 (by decide) (by omega), bF 6 (by decide) (by omega)]; exact f6, by rw [a7, c7], by rw [aF 8 (by decide) (by omega), bF 8 (by decide) (by omega)]; exact f8⟩ (fun f y0 y1 => aF f (by omega) (by omega)) (fun f y0 y1 => bF f (by omega) (by omega)) (fun i h0 h1 => MiN_fr (hM.2.2.1 i h0 h1) (fun f y0 y1 => aF f (by omega) (by omega)) (fun f y0 y1 => bF f (by omega) (by omega))) (fun u h0 h1 => ?_) (fun q h0 h1 => MiL_fr (hM.2.2.2.2 q h0 (by omega)) (fun f y0 y1 => aF f (by omega) (by omega)) (fun f y0 y1 => bF f (by omega) (by omega)))
  rw [a7] at h1
  by_cases cu : u = t
  · subst cu
    unfold MiT
    rw [a0, a1, a2, a3, a4, a5, a6, b7, a8, a9, c0, c1, c2, c3, c4, c5, c6, d7, c8, c9]
    exact ⟨rfl, rfl, rfl, rfl, rfl, rfl, rfl, rfl, rfl, rfl, fun z => absurd z (by decide)⟩
  · exact MiT_fr (hM.2.2.2.1 u h0 (by omega)) (fun f y0 y1 => aF f (by omega) (by omega)) (fun f y0 y1 => bF f (by omega) (by omega))
theorem mi_gi {n l p1 p2 p3 : Int} {A B : Int → Int} (hM : Mi n A B) (hn : n ≤ 8) (hl : A 8 = l) (l0 : 0 ≤ l) (l1 : l < 12) (hA7 : A 7 ≤ 10) : Mi n (giA A l p1 p2 p3) (giA B l (n - 1 - p1) (n - 1 - p2) p3) := by
  obtain ⟨a8, a0, a1, a2, a3, a4, a5, a6, a7⟩ := giA_r (A := A) (l := l) (p1 := p1) (p2 := p2) (p3 := p3) l0
  obtain ⟨c8, c0, c1, c2, c3, c4, c5, c6, c7⟩ := giA_r (A := B) (l := l) (p1 := n - 1 - p1) (p2 := n - 1 - p2) (p3 := p3) l0
  have aF : ∀ f, f ≠ 8 → ¬ (164 + 8 * l ≤ f ∧ f < 164 + 8 * l + 8) → giA A l p1 p2 p3 f = A f := fun f z z2 => giA_n z z2
  have bF : ∀ f, f ≠ 8 → ¬ (164 + 8 * l ≤ f ∧ f < 164 + 8 * l + 8) → giA B l (n - 1 - p1) (n - 1 - p2) p3 f = B f := fun f z z2 => giA_n z z2
  have z7 := aF 7 (by omega) (by omega)
  obtain ⟨e0, e1, f1, f2, f3, f4, f5, f6, f7, f8⟩ := hM.1
  refine Mi_fr hM hn ⟨by rw [aF 0 (by decide) (by omega)]; exact e0, by rw [bF 0 (by decide) (by omega)]; exact e1, by rw [aF 1 (by decide) (by omega), bF 1 (by decide) (by omega)]; exact f1, by rw [aF 2 (by decide) (by omega), bF 2 (by decide) (by omega)]; exact f2, by rw [aF 3 (by decide) (by omega), bF 3 (by decide) (by omega)]; exact f3, by rw [aF 4 (by decide) (by omega), bF 4 (by decide) (by omega)]; exact f4, by rw [aF 5 (by decide) (by omega), bF 5 (by decide) (by omega)]; exact f5, by rw [aF 6 (by decide) (by omega), bF 6 (by decide) (by omega)]; exact f6, by rw [aF 7 (by decide) (by omega), bF 7 (by decide) (by omega)]; exact f7, by rw [a8, c8]⟩ (fun f y0 y1 => aF f (by omega) (by omega)) (fun f y0 y1 => bF f (by omega) (by omega)) (fun i h0 h1 => MiN_fr (hM.2.2.1 i h0 h1) (fun f y0 y1 => aF f (by omega) (by omega)) (fun f y0 y1 => bF f (by omega) (by omega))) (fun u h0 h1 => MiT_fr (hM.2.2.2.1 u h0 (by omega)) (fun f y0 y1 => aF f (by omega) (by omega)) (fun f y0 y1 => bF f (by omega) (by omega))) (fun q h0 h1 => ?_)
  rw [a8] at h1
  by_cases cq : q = l
  · subst cq
    unfold MiL
    rw [a0, a1, a2, a3, a4, a5, a6, a7, c0, c1, c2, c3, c4, c5, c6, c7]
    exact ⟨rfl, rfl, rfl, f1, rfl, rfl, rfl, rfl⟩
  · exact MiL_fr (hM.2.2.2.2 q h0 (by omega)) (fun f y0 y1 => aF f (by omega) (by omega)) (fun f y0 y1 => bF f (by omega) (by omega))
/-- the two roads, behind so many steps -/
def Pr (n k : Int) (G F : GS) : Prop := ∃ A B, St G A ∧ St F B ∧ Mi n A B ∧ Jv A ∧ A 1 ≤ 12 * k ∧ Bnd (372000 * k) A
theorem Pr_up {n k k' : Int} {G F : GS} (h : Pr n k G F) (hk : k ≤ k') : Pr n k' G F := by
  obtain ⟨A, B, h1, h2, h3, h4, h5, h6⟩ := h
  exact ⟨A, B, h1, h2, h3, h4, by omega, Bnd_up h6 (by omega)⟩
theorem Jv_low {A A' : Int → Int} (h : Jv A) (h0 : ∀ f, 2 ≤ f → f ≤ 7 → A' f = A f) (hT : ∀ t, 0 ≤ t → t < A 7 → A' (54 + 11 * t + 9) = A (54 + 11 * t + 9)) : Jv A' := by
  unfold Jv at h ⊢
  rw [h0 2 (by decide) (by decide), h0 3 (by decide) (by decide), h0 4 (by decide) (by decide), h0 5 (by decide) (by decide), h0 6 (by decide) (by decide), h0 7 (by decide) (by decide), tot_congr (f := ate A') (g := ate A) (fun t z0 z1 => hT t z0 (by omega))]
  exact h
theorem Bnd_low {c : Int} {A A' : Int → Int} (h : Bnd c A) (h0 : ∀ f, 2 ≤ f → f ≤ 8 → A' f = A f) (hT : ∀ t f, 0 ≤ t → t < A 7 → 6 ≤ f → f ≤ 9 → A' (54 + 11 * t + f) = A (54 + 11 * t + f)) (hL : ∀ l, 0 ≤ l → l < A 8 → A' (164 + 8 * l + 7) = A (164 + 8 * l + 7)) : Bnd c A' := by
  obtain ⟨b2, b3, b4, b5, b6, bT, bL⟩ := h
  have e7 := h0 7 (by decide) (by decide)
  have e8 := h0 8 (by decide) (by decide)
  refine ⟨by rw [h0 2 (by decide) (by decide)]; exact b2, by rw [h0 3 (by decide) (by decide)]; exact b3, by rw [h0 4 (by decide) (by decide)]; exact b4, by rw [h0 5 (by decide) (by decide)]; exact b5, by rw [h0 6 (by decide) (by decide)]; exact b6, fun t z0 z1 => ?_, fun l z0 z1 => ?_⟩
  · rw [hT t 6 z0 (by omega) (by decide) (by decide), hT t 7 z0 (by omega) (by decide) (by decide), hT t 8 z0 (by omega) (by decide) (by decide), hT t 9 z0 (by omega) (by decide) (by decide)]
    exact bT t z0 (by omega)
  · rw [hL l z0 (by omega)]
    exact bL l z0 (by omega)
theorem pr_setInn {n k : Int} {G F : GS} (h : Pr n k G F) {i b f z : Int} (i0 : 0 ≤ i) (i1 : i < n) (hb : 0 ≤ b ∧ b ≤ 6) (hf : 0 ≤ f ∧ f ≤ 999) (hz : z = 0 ∨ z = 1) : ∃ G' F' r, f_X7_setInn G i b f z = some (G', (0, r)) ∧ f_X7_setInn F (n - 1 - i) b f z = some (F', (0, r)) ∧ Pr n k G' F' ∧ inR r := by
  obtain ⟨A, B, hG, hF, hM, hJ, h1, hB⟩ := h
  have hWh := (St_R hG).2.1
  have wN := (St_R hG).2.2.2.1 i i0 (by have := hM.1.1; omega)
  unfold WfH at hWh
  unfold WfN at wN
  have e0 : A 0 = n := hM.1.1
  have e1 : B 0 = n := hM.1.2.1
  have hN := hM.2.2.1 i i0 i1
  unfold MiN at hN
  obtain ⟨G', x1, x2⟩ := v_setInn hG (p1 := i) (p2 := b) (p3 := f) (p4 := z) ⟨i0, by omega⟩ hb hf hz
  obtain ⟨F', y1, y2⟩ := v_setInn hF (p1 := n - 1 - i) (p2 := b) (p3 := f) (p4 := z) ⟨by omega, by omega⟩ hb hf hz
  rw [hN.2.1] at y1
  have lo : ∀ f', f' < 30 → put3 A (30 + 3 * i) b f z f' = A f' := fun f' q => put3_n (by omega)
  have hi : ∀ f', 54 ≤ f' → put3 A (30 + 3 * i) b f z f' = A f' := fun f' q => put3_n (by omega)
  exact ⟨G', F', _, x1, y1, ⟨_, _, x2, y2, mi_putN hM (by omega) (by omega) i0 i1, Jv_low hJ (fun f' q1 q2 => lo f' (by omega)) (fun t q1 q2 => hi _ (by omega)), by rw [lo 1 (by decide)]; exact h1, Bnd_low hB (fun f' q1 q2 => lo f' (by omega)) (fun t f' q1 q2 q3 q4 => hi _ (by omega)) (fun l q1 q2 => hi _ (by omega))⟩, ⟨by omega, by omega⟩⟩
theorem pr_setStage {n k : Int} {G F : GS} (h : Pr n k G F) {s b f z : Int} (s0 : 0 ≤ s) (s1 : s < n - 1) (hb : 1 ≤ b ∧ b ≤ 9) (hf : -5 ≤ f ∧ f ≤ 5) (hz : z = 0 ∨ z = 1) : ∃ G' F' r, f_X7_setStage G s b f z = some (G', (0, r)) ∧ f_X7_setStage F (n - 2 - s) b (-f) z = some (F', (0, r)) ∧ Pr n k G' F' ∧ inR r := by
  obtain ⟨A, B, hG, hF, hM, hJ, h1, hB⟩ := h
  have hWh := (St_R hG).2.1
  have e0 : A 0 = n := hM.1.1
  have e1 : B 0 = n := hM.1.2.1
  have wS := (St_R hG).2.2.1 s s0 (by omega)
  unfold WfH at hWh
  unfold WfS at wS
  have hS := hM.2.1 s s0 s1
  unfold MiS at hS
  obtain ⟨G', x1, x2⟩ := v_setStage hG (p1 := s) (p2 := b) (p3 := f) (p4 := z) ⟨s0, by omega⟩ hb hf hz
  obtain ⟨F', y1, y2⟩ := v_setStage hF (p1 := n - 2 - s) (p2 := b) (p3 := -f) (p4 := z) ⟨by omega, by omega⟩ hb (by omega) hz
  rw [hS.1] at y1
  have lo : ∀ f', f' < 9 → put3 A (9 + 3 * s) b f z f' = A f' := fun f' q => put3_n (by omega)
  have hi : ∀ f', 30 ≤ f' → put3 A (9 + 3 * s) b f z f' = A f' := fun f' q => put3_n (by omega)
  exact ⟨G', F', _, x1, y1, ⟨_, _, x2, y2, mi_putS hM (by omega) (by omega) s0 s1, Jv_low hJ (fun f' q1 q2 => lo f' (by omega)) (fun t q1 q2 => hi _ (by omega)), by rw [lo 1 (by decide)]; exact h1, Bnd_low hB (fun f' q1 q2 => lo f' (by omega)) (fun t f' q1 q2 q3 q4 => hi _ (by omega)) (fun l q1 q2 => hi _ (by omega))⟩, ⟨by omega, by omega⟩⟩
theorem pr_teams {n k : Int} {G F : GS} (h : Pr n k G F) : ∃ T, f_X7_value G 1 = some (0, T) ∧ (0 ≤ T ∧ T ≤ 10) ∧ (T ≠ 10 → ∀ {i b : Int}, 0 ≤ i → i < n → 0 ≤ b ∧ b ≤ 100 → ∃ G' F' r, f_X7_addTeam G i b = some (G', (0, r)) ∧ f_X7_addTeam F (n - 1 - i) b = some (F', (0, r)) ∧ Pr n k G' F' ∧ inR r) := by
  obtain ⟨A, B, hG, hF, hM, hJ, h1, hB⟩ := h
  have hWh := (St_R hG).2.1
  unfold WfH at hWh
  have e0 : A 0 = n := hM.1.1
  have e1 : B 0 = n := hM.1.2.1
  have e7 : B 7 = A 7 := hM.1.2.2.2.2.2.2.2.2.1
  refine ⟨A 7, v_value hG (by decide), ⟨by omega, by omega⟩, fun c i b i0 i1 hb => ?_⟩
  obtain ⟨G', x1, x2⟩ := v_addTeam hG (p1 := i) (p2 := b) ⟨i0, by omega⟩ hb (by omega)
  obtain ⟨F', y1, y2⟩ := v_addTeam hF (p1 := n - 1 - i) (p2 := b) ⟨by omega, by omega⟩ hb (by omega)
  rw [e7] at y1 y2
  obtain ⟨t, ht⟩ : ∃ t, A 7 = t := ⟨_, rfl⟩
  rw [ht] at x1 x2 y1 y2 c hWh
  obtain ⟨a7, ⟨a0, a1, a2, a3, a4, a5, a6, b7, a8, a9⟩, a10⟩ := adA_r (A := A) (t := t) (p1 := i) (p2 := b) (by omega)
  have lo : ∀ f', f' < 54 → f' ≠ 7 → adA A t i b f' = A f' := fun f' q q2 => adA_n q2 (by omega)
  have inT : ∀ u f', u < t → f' ≤ 10 → 0 ≤ u → 0 ≤ f' → adA A t i b (54 + 11 * u + f') = A (54 + 11 * u + f') := fun u f' q1 q2 q3 q4 => adA_n (by omega) (by omega)
  refine ⟨G', F', t, x1, y1, ⟨_, _, x2, y2, mi_ad hM (by omega) ht (by omega) (by omega) (by omega), ?_, by rw [lo 1 (by decide) (by decide)]; exact h1, ?_⟩, ⟨by omega, by omega⟩⟩
  · unfold Jv at hJ ⊢
    have et : (t + 1).toNat = t.toNat + 1 := by omega
    have et2 : ((t.toNat : Nat) : Int) = t := by omega
    rw [a7, et, tot, lo 6 (by decide) (by decide), lo 4 (by decide) (by decide), lo 2 (by decide) (by decide), lo 5 (by decide) (by decide), lo 3 (by decide) (by decide), tot_congr (f := ate (adA A t i b)) (g := ate A) (fun u z0 z1 => inT u 9 (by omega) (by decide) z0 (by decide)), et2]
    rw [ht] at hJ
    refine ⟨?_, hJ.2⟩
    have e9 : ate (adA A t i b) t = 0 := a9
    rw [e9, hJ.1]
    omega
  · obtain ⟨b2, b3, b4, b5, b6, bT, bL⟩ := hB
    refine ⟨by rw [lo 2 (by decide) (by decide)]; exact b2, by rw [lo 3 (by decide) (by decide)]; exact b3, by rw [lo 4 (by decide) (by decide)]; exact b4, by rw [lo 5 (by decide) (by decide)]; exact b5, by rw [lo 6 (by decide) (by decide)]; exact b6, fun u z0 z1 => ?_, fun l z0 z1 => ?_⟩
    · rw [a7] at z1
      by_cases cu : u = t
      · rw [cu, a6, b7, a8, a9]
        omega
      · rw [inT u 6 (by omega) (by decide) z0 (by decide), inT u 7 (by omega) (by decide) z0 (by decide), inT u 8 (by omega) (by decide) z0 (by decide), inT u 9 (by omega) (by decide) z0 (by decide)]
        exact bT u z0 (by omega)
    · rw [lo 8 (by decide) (by decide)] at z1
      rw [adA_n (by omega) (by omega)]
      exact bL l z0 z1
theorem pr_letters {n k : Int} {G F : GS} (h : Pr n k G F) : ∃ L, f_X7_value G 2 = some (0, L) ∧ (0 ≤ L ∧ L ≤ 12) ∧ (L ≠ 12 → ∀ {i j b : Int}, 0 ≤ i → i < n → 0 ≤ j → j < n → i ≠ j → (b = 0 ∨ b = 1) → ∃ G' F' r, f_X7_give G i j b = some (G', (0, r)) ∧ f_X7_give F (n - 1 - i) (n - 1 - j) b = some (F', (0, r)) ∧ Pr n k G' F' ∧ inR r) := by
  obtain ⟨A, B, hG, hF, hM, hJ, h1, hB⟩ := h
  have hWh := (St_R hG).2.1
  unfold WfH at hWh
  have e0 : A 0 = n := hM.1.1
  have e1 : B 0 = n := hM.1.2.1
  have e8 : B 8 = A 8 := hM.1.2.2.2.2.2.2.2.2.2
  refine ⟨A 8, v_value hG (by decide), ⟨by omega, by omega⟩, fun c i j b i0 i1 j0 j1 hij hb => ?_⟩
  obtain ⟨G', x1, x2⟩ := v_give hG (p1 := i) (p2 := j) (p3 := b) ⟨i0, by omega⟩ ⟨j0, by omega⟩ hij (by omega) hb
  obtain ⟨F', y1, y2⟩ := v_give hF (p1 := n - 1 - i) (p2 := n - 1 - j) (p3 := b) ⟨by omega, by omega⟩ ⟨by omega, by omega⟩ (by omega) (by omega) hb
  rw [e8] at y1 y2
  obtain ⟨l, hl⟩ : ∃ l, A 8 = l := ⟨_, rfl⟩
  rw [hl] at x1 x2 y1 y2 c hWh
  obtain ⟨a8, a0, a1, a2, a3, a4, a5, a6, a7⟩ := giA_r (A := A) (l := l) (p1 := i) (p2 := j) (p3 := b) (by omega)
  have lo : ∀ f', f' < 164 → f' ≠ 8 → giA A l i j b f' = A f' := fun f' q q2 => giA_n q2 (by omega)
  refine ⟨G', F', l, x1, y1, ⟨_, _, x2, y2, mi_gi hM (by omega) hl (by omega) (by omega) (by omega), Jv_low hJ (fun f' q1 q2 => lo f' (by omega) (by omega)) (fun t q1 q2 => lo _ (by omega) (by omega)), by rw [lo 1 (by decide) (by decide)]; exact h1, ?_⟩, ⟨by omega, by omega⟩⟩
  obtain ⟨b2, b3, b4, b5, b6, bT, bL⟩ := hB
  refine ⟨by rw [lo 2 (by decide) (by decide)]; exact b2, by rw [lo 3 (by decide) (by decide)]; exact b3, by rw [lo 4 (by decide) (by decide)]; exact b4, by rw [lo 5 (by decide) (by decide)]; exact b5, by rw [lo 6 (by decide) (by decide)]; exact b6, fun u z0 z1 => ?_, fun q z0 z1 => ?_⟩
  · rw [lo 7 (by decide) (by decide)] at z1
    rw [lo _ (by omega) (by omega), lo _ (by omega) (by omega), lo _ (by omega) (by omega), lo _ (by omega) (by omega)]
    exact bT u z0 z1
  · rw [a8] at z1
    by_cases cq : q = l
    · rw [cq, a7]
      omega
    · rw [giA_n (by omega) (by omega)]
      exact bL q z0 (by omega)
theorem pr_collect {n k : Int} {G F : GS} (h : Pr n k G F) : ∃ G' F' r, f_X7_collect G = some (G', r) ∧ f_X7_collect F = some (F', r) ∧ Pr n k G' F' ∧ inR r := by
  obtain ⟨A, B, hG, hF, hM, hJ, h1, hB⟩ := h
  obtain ⟨G', H', r, x1, x2, x3, x4⟩ := v_collect hG
  obtain ⟨F', K', r', y1, y2, y3, -⟩ := v_collect hF
  obtain ⟨z1, z2, z3, z4, -, z6⟩ := mi_collect (St_R hG).2 (St_R hF).2 hM x2 y2
  rw [z1] at y1
  exact ⟨G', F', r, x1, y1, ⟨_, _, x3, y3, z2, z3 hJ, by rw [z4]; exact h1, z6 _ hB⟩, ⟨by omega, by omega⟩⟩
theorem pr_pass {n k : Int} {G F : GS} (h : Pr n k G F) (hk : k ≤ 48) {p1 : Int} (hp : 1 ≤ p1 ∧ p1 ≤ 12) : ∃ G' F' r, f_X7_pass G p1 = some (G', (0, r)) ∧ f_X7_pass F p1 = some (F', (0, r)) ∧ Pr n (k + 1) G' F' ∧ inR r := by
  obtain ⟨A, B, hG, hF, hM, hJ, h1, hB⟩ := h
  have fG := St_F hG
  have fF := St_F hF
  have e1 : B 1 = A 1 := hM.1.2.2.1
  have e2 : B 2 = A 2 := hM.1.2.2.2.1
  obtain ⟨S, c, len, T, i1, i3⟩ := hG
  obtain ⟨S2, c2, len2, T2, j1, j3⟩ := hF
  obtain ⟨G', H', x1, x2, x3, x4⟩ := v_pass i1 i3 (p1 := p1) ⟨hp.1, by omega⟩ (by omega)
  obtain ⟨F', K', y1, y2, y3, y4⟩ := v_pass j1 j3 (p1 := p1) ⟨hp.1, by omega⟩ (by omega)
  obtain ⟨z1, z2, z3, z4, z5⟩ := mi_pass fG fF hM ⟨hp.1, by omega⟩ x2 y2
  have hb := z5 (by omega) _ hB
  have k2 : K' 10 0 2 = H' 10 0 2 := z1.1.2.2.2.1
  rw [k2, e2] at y1
  have h2 := hB.1
  have h2' := hb.1
  exact ⟨G', F', _, x1, y1, ⟨_, _, ⟨_, _, _, _, x3, x4⟩, ⟨_, _, _, _, y3, y4⟩, z1, z2.1 hJ, by rw [z3]; omega, Bnd_up hb (by omega)⟩, ⟨by omega, by omega⟩⟩
/-! THE LAW'S STEP -/
theorem bxw_some {β : Type} {g : GS} {r : Int} {k : GS → Int → Option β} : bxw (some (g, ((0 : Int), r))) k = k g r := by
  show (if (0 : Int) = 0 then k g r else none) = k g r
  exact if_pos rfl
theorem bxr_some {β : Type} {r : Int} {k : Int → Option β} : bxr (some ((0 : Int), r)) k = k r := by
  show (if (0 : Int) = 0 then k r else none) = k r
  exact if_pos rfl
theorem gq_t {α : Type} {z : Int} {k : Option α} (h : 0 < z ∧ z ≤ 2147483647) : gq z k = k := if_pos h
theorem u_up (v : Int) {n : Int} (h : 0 < n ∧ n ≤ 2147483647) : ∃ r, f_L_up v n = some r ∧ 0 ≤ r ∧ r < n := by
  refine ⟨v % 2147483648 % n, gq_t h, Int.emod_nonneg _ (by omega), Int.emod_lt_of_pos _ h.1⟩
theorem is_step {n k : Int} {G F : GS} (h : Pr n k G F) (hn : 2 ≤ n ∧ n ≤ 8) (hk : k ≤ 48) {x : Int} (hx : inR x) : ∃ G' F', f_L_isStep G F n x = some (G', (F', 1)) ∧ Pr n (k + 1) G' F' := by
  have up1 : ∀ {G' F' : GS}, Pr n k G' F' → Pr n (k + 1) G' F' := fun q => Pr_up q (by omega)
  unfold f_L_isStep
  rw [gd_t hx]
  obtain ⟨r2, e2, a2, b2⟩ := u_up x (n := 12) (by decide)
  obtain ⟨ri, ei, ai, bi⟩ := u_up (x / 16) (n := n) (by omega)
  have hy : inR (x / 16) := by omega
  rw [e2, bn1_some, gd_t ⟨by omega, by omega⟩]
  by_cases c0 : r2 = 0
  · rw [if_pos c0]
    obtain ⟨r9, e9, a9, b9⟩ := u_up (x / 16 / 8) (n := 4) (by decide)
    obtain ⟨r11, e11, a11, b11⟩ := u_up (x / 16 / 32) (n := 40) (by decide)
    obtain ⟨r13, e13, a13, b13⟩ := u_up (x / 16 / 2048) (n := 5) (by decide)
    rw [ei, bn1_some, gd_t hy, e9, bn1_some, e11, bn1_some, e13, bn1_some, gd_t ⟨by omega, by omega⟩]
    by_cases cz : r13 = 0
    · obtain ⟨G', F', r, x1, x2, x3, x4⟩ := pr_setInn h ai bi (b := r9) (f := r11) (z := 1) (by omega) (by omega) (Or.inr rfl)
      rw [if_pos cz, x1, bxw_some, bn1_some, bn1_some, bn1_some, gd_t ⟨by omega, by omega⟩, if_pos cz, x2, bxw_some, gd_t x4, gd_t x4, if_pos rfl]
      exact ⟨G', F', rfl, up1 x3⟩
    · obtain ⟨G', F', r, x1, x2, x3, x4⟩ := pr_setInn h ai bi (b := r9) (f := r11) (z := 0) (by omega) (by omega) (Or.inl rfl)
      rw [if_neg cz, x1, bxw_some, bn1_some, bn1_some, bn1_some, gd_t ⟨by omega, by omega⟩, if_neg cz, x2, bxw_some, gd_t x4, gd_t x4, if_pos rfl]
      exact ⟨G', F', rfl, up1 x3⟩
  · rw [if_neg c0]
    have stage : ∃ G' F', bn1 (f_L_up (x / 16) (n - 1)) (fun r64 => gd (x / 16) (bn1 (f_L_up (x / 16 / 64) 11) (fun r67 => bn1 (f_L_up (x / 16 / 1024) 5) (fun r69 => gd r69 (if r69 = 0 then bn1 (f_L_up (x / 16 / 8) 6) (fun r73 => bxw (f_X7_setStage G r64 (1 + r73) (r67 - 5) 1) (fun G77 r75 => bn1 (f_L_up (x / 16 / 8) 6) (fun r78 => bxw (f_X7_setStage F (n - 2 - r64) (1 + r78) (-(r67 - 5)) 1) (fun F82 r80 => gd r75 (gd r80 (if r75 = r80 then some (G77, (F82, (1 : Int))) else some (G77, (F82, 0)))))))) else bn1 (f_L_up (x / 16 / 8) 6) (fun r86 => bxw (f_X7_setStage G r64 (1 + r86) (r67 - 5) 0) (fun G90 r88 => bn1 (f_L_up (x / 16 / 8) 6) (fun r91 => bxw (f_X7_setStage F (n - 2 - r64) (1 + r91) (-(r67 - 5)) 0) (fun F95 r93 => gd r88 (gd r93 (if r88 = r93 then some (G90, (F95, 1)) else some (G90, (F95, 0)))))))))))) ) = some (G', (F', 1)) ∧ Pr n (k + 1) G' F' := by
      obtain ⟨rs, es, as, bs⟩ := u_up (x / 16) (n := n - 1) (by omega)
      obtain ⟨r67, e67, a67, b67⟩ := u_up (x / 16 / 64) (n := 11) (by decide)
      obtain ⟨r69, e69, a69, b69⟩ := u_up (x / 16 / 1024) (n := 5) (by decide)
      obtain ⟨r73, e73, a73, b73⟩ := u_up (x / 16 / 8) (n := 6) (by decide)
      rw [es, bn1_some, gd_t hy, e67, bn1_some, e69, bn1_some, gd_t ⟨by omega, by omega⟩, e73]
      by_cases cz : r69 = 0
      · obtain ⟨G', F', r, x1, x2, x3, x4⟩ := pr_setStage h as bs (b := 1 + r73) (f := r67 - 5) (z := 1) (by omega) (by omega) (Or.inr rfl)
        rw [if_pos cz, bn1_some, x1, bxw_some, bn1_some, x2, bxw_some, gd_t x4, gd_t x4, if_pos rfl]
        exact ⟨G', F', rfl, up1 x3⟩
      · obtain ⟨G', F', r, x1, x2, x3, x4⟩ := pr_setStage h as bs (b := 1 + r73) (f := r67 - 5) (z := 0) (by omega) (by omega) (Or.inl rfl)
        rw [if_neg cz, bn1_some, x1, bxw_some, bn1_some, x2, bxw_some, gd_t x4, gd_t x4, if_pos rfl]
        exact ⟨G', F', rfl, up1 x3⟩
    have team : ∃ G' F', bxr (f_X7_value G 1) (fun r136 => gd r136 (if r136 = 10 then some (G, (F, (1 : Int))) else bn1 (f_L_up (x / 16) n) (fun r140 => gd (x / 16) (bn1 (f_L_up (x / 16 / 8) 101) (fun r143 => bxw (f_X7_addTeam G r140 r143) (fun G147 r145 => bn1 (f_L_up (x / 16) n) (fun r148 => bn1 (f_L_up (x / 16 / 8) 101) (fun r150 => bxw (f_X7_addTeam F (n - 1 - r148) r150) (fun F154 r152 => gd r145 (gd r152 (if r145 = r152 then some (G147, (F154, 1)) else some (G147, (F154, 0)))))))))))) ) = some (G', (F', 1)) ∧ Pr n (k + 1) G' F' := by
      obtain ⟨T, t1, t2, t3⟩ := pr_teams h
      rw [t1, bxr_some, gd_t ⟨by omega, by omega⟩]
      by_cases cT : T = 10
      · rw [if_pos cT]
        exact ⟨G, F, rfl, up1 h⟩
      · obtain ⟨r143, e143, a143, b143⟩ := u_up (x / 16 / 8) (n := 101) (by decide)
        obtain ⟨G', F', r, x1, x2, x3, x4⟩ := t3 cT ai bi (b := r143) (by omega)
        rw [if_neg cT, ei, bn1_some, gd_t hy, e143, bn1_some, x1, bxw_some, bn1_some, bn1_some, x2, bxw_some, gd_t x4, gd_t x4, if_pos rfl]
        exact ⟨G', F', rfl, up1 x3⟩
    have letter : ∃ G' F', bn1 (f_L_up (x / 16) n) (fun r182 => gd (x / 16) (bn1 (f_L_up (x / 16 / 8) (n - 1)) (fun r185 => gq n (ga (r182 + 1 + r185) 2147483648 (bxr (f_X7_value G 2) (fun r189 => gd r189 (if r189 = 12 then some (G, (F, (1 : Int))) else gd (x / 16 / 256 % 2) (if x / 16 / 256 % 2 = 1 then bxw (f_X7_give G r182 ((r182 + 1 + r185) % n) 1) (fun G197 r195 => bxw (f_X7_give F (n - 1 - r182) (n - 1 - (r182 + 1 + r185) % n) 1) (fun F200 r198 => gd r195 (gd r198 (if r195 = r198 then some (G197, (F200, 1)) else some (G197, (F200, 0)))))) else bxw (f_X7_give G r182 ((r182 + 1 + r185) % n) 0) (fun G206 r204 => bxw (f_X7_give F (n - 1 - r182) (n - 1 - (r182 + 1 + r185) % n) 0) (fun F209 r207 => gd r204 (gd r207 (if r204 = r207 then some (G206, (F209, 1)) else some (G206, (F209, 0))))))))))))) ) = some (G', (F', 1)) ∧ Pr n (k + 1) G' F' := by
      obtain ⟨L, t1, t2, t3⟩ := pr_letters h
      obtain ⟨r185, e185, a185, b185⟩ := u_up (x / 16 / 8) (n := n - 1) (by omega)
      rw [ei, bn1_some, gd_t hy, e185, bn1_some, gq_t ⟨by omega, by omega⟩, ga_t ⟨by omega, by omega⟩, t1, bxr_some, gd_t ⟨by omega, by omega⟩]
      by_cases cL : L = 12
      · rw [if_pos cL]
        exact ⟨G, F, rfl, up1 h⟩
      · have hj : 0 ≤ (ri + 1 + r185) % n ∧ (ri + 1 + r185) % n < n ∧ ri ≠ (ri + 1 + r185) % n := by
          refine ⟨Int.emod_nonneg _ (by omega), Int.emod_lt_of_pos _ (by omega), ?_⟩
          by_cases q : ri + 1 + r185 < n
          · rw [Int.emod_eq_of_lt (by omega) q]
            omega
          · have e : ri + 1 + r185 = (ri + 1 + r185 - n) + n := by omega
            rw [e, Int.add_emod_right, Int.emod_eq_of_lt (by omega) (by omega)]
            omega
        rw [if_neg cL, gd_t ⟨by omega, by omega⟩]
        by_cases cz : x / 16 / 256 % 2 = 1
        · obtain ⟨G', F', r, x1, x2, x3, x4⟩ := t3 cL ai bi hj.1 hj.2.1 hj.2.2 (b := 1) (Or.inr rfl)
          rw [if_pos cz, x1, bxw_some, x2, bxw_some, gd_t x4, gd_t x4, if_pos rfl]
          exact ⟨G', F', rfl, up1 x3⟩
        · obtain ⟨G', F', r, x1, x2, x3, x4⟩ := t3 cL ai bi hj.1 hj.2.1 hj.2.2 (b := 0) (Or.inl rfl)
          rw [if_neg cz, x1, bxw_some, x2, bxw_some, gd_t x4, gd_t x4, if_pos rfl]
          exact ⟨G', F', rfl, up1 x3⟩
    by_cases c1 : r2 = 1
    · rw [if_pos c1]
      exact stage
    rw [if_neg c1]
    by_cases c2 : r2 = 2
    · rw [if_pos c2]
      exact stage
    rw [if_neg c2]
    by_cases c3 : r2 = 3
    · rw [if_pos c3]
      exact team
    rw [if_neg c3]
    by_cases c4 : r2 = 4
    · rw [if_pos c4]
      exact team
    rw [if_neg c4]
    by_cases c5 : r2 = 5
    · rw [if_pos c5]
      exact letter
    rw [if_neg c5]
    by_cases c6 : r2 = 6
    · rw [if_pos c6]
      exact letter
    rw [if_neg c6]
    by_cases c7 : r2 = 7
    · rw [if_pos c7]
      exact letter
    rw [if_neg c7]
    by_cases c8 : r2 = 8
    · obtain ⟨G', F', r, x1, x2, x3, x4⟩ := pr_collect h
      rw [if_pos c8, x1, bnd_some, x2, bnd_some, gd_t x4, gd_t x4, if_pos rfl]
      exact ⟨G', F', rfl, up1 x3⟩
    · obtain ⟨r287, e287, a287, b287⟩ := u_up (x / 16) (n := 12) (by decide)
      obtain ⟨G', F', r, x1, x2, x3, x4⟩ := pr_pass h hk (p1 := 1 + r287) (by omega)
      rw [if_neg c8, e287, bn1_some, x1, bxw_some, bn1_some, x2, bxw_some, gd_t x4, gd_t x4, if_pos rfl]
      exact ⟨G', F', rfl, x3⟩

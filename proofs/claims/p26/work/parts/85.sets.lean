/-! CALLS THAT SAVE AND SET -/
theorem IC_A {G G' : GS} {A A' : Int → Int} {S : Int → Int → Int} {c len : Int} {T : Int → Int} (h : IC G A S c len T) (hp : IP A S c len T) (hR : Rd G' 0 A') (hG : ∀ k x f, ¬ ofR 0 k x → k ≠ 8 → k ≠ 10 → k ≠ 11 → k ≠ 13 → G' k x f = G k x f) : IC G' A' S c len T := by
  obtain ⟨h1, h2, h3, h4, h5, h6, h7⟩ := h
  have a12 : ∀ f, G' 12 0 f = G 12 0 f := fun f => hG _ _ _ (by unfold ofR; omega) (by omega) (by omega) (by omega) (by omega)
  refine ⟨hR, ?_, fun i z1 z2 => ?_, fun i j z1 z2 z3 z4 z5 => ?_, fun i z1 z2 => ?_, ?_, fun j z1 z2 => ?_⟩
  · rw [hG _ _ _ (by unfold ofR; omega) (by omega) (by omega) (by omega) (by omega)]
    exact h2
  · rw [a12]; exact h3 i z1 z2
  · rw [a12, a12]; exact h4 i j z1 z2 z3 z4 z5
  · rw [a12]
    have hr := h3 i z1 (by have := hp.2.2.1; omega)
    refine Rd_fr (h5 i z1 z2) (hp.2.1 i z1 z2).1 (fun _ _ _ => rfl) (fun k x f z => ?_)
    unfold ofR at z
    exact hG _ _ _ (by unfold ofR; omega) (by omega) (by omega) (by omega) (by omega)
  · rw [hG _ _ _ (by unfold ofR; omega) (by omega) (by omega) (by omega) (by omega)]; exact h6
  · rw [hG _ _ _ (by unfold ofR; omega) (by omega) (by omega) (by omega) (by omega)]; exact h7 j z1 z2
theorem IM_A {H H' : GS} {A A' : Int → Int} {S : Int → Int → Int} {c len : Int} {T : Int → Int} (h : IM H A S c len T) (hA : ∀ f, 0 ≤ f → f < 260 → H' 10 0 f = A' f) (hG : ∀ k x f, (k = 8 ∧ (f = 3 ∨ f = 7)) ∨ (k = 10 ∧ (x = 1 ∨ x = 3)) → H' k x f = H k x f) : IM H' A' S c len T := by
  obtain ⟨h1, h2, h3, h4, h5⟩ := h
  refine ⟨hA, fun i f z1 z2 z3 z4 => ?_, ?_, ?_, fun j z1 z2 => ?_⟩
  · rw [hG _ _ _ (by omega)]; exact h2 i f z1 z2 z3 z4
  · rw [hG _ _ _ (by omega)]; exact h3
  · rw [hG _ _ _ (by omega)]; exact h4
  · rw [hG _ _ _ (by omega)]; exact h5 j z1 z2
theorem frS_K {G G' : GS} (h : frS G G') {k : Nat} {x f : Int} (hk : k = 8 ∨ k = 10 ∨ k = 11 ∨ k = 13) : G' k x f = G k x f := h k x f (by omega) (by omega) (fun r _ _ => by unfold ofR; omega)
theorem fin_save {G : GS} {o : Option (GS × Int)} {mf : GS → Option (GS × Int)} {r : Int} {A A' : Int → Int} {S : Int → Int → Int} {c len : Int} {T : Int → Int} (h1 : IC G A S c len T) (h2 : IM G A S c len T) (h3 : IP A S c len T) (hW : Wf 10000 A')
    (hC : ∀ G7, f_X0_save G 0 = some G7 → Rd G7 0 A → ∃ G9, o = some (gup G9 13 0 0 (bm r), 0) ∧ Rd G9 0 A' ∧ frC 0 G7 G9)
    (hM : ∀ H H7, f_X8_save H = some H7 → (∀ f, 0 ≤ f → f < 260 → H 10 0 f = A f) → (∀ f, 0 ≤ f → f < 260 → H7 10 0 f = A f) → ∃ H9, mf H = some (gup H9 8 0 4 0, r) ∧ (∀ f, 0 ≤ f → f < 260 → H9 10 0 f = A' f) ∧ (∀ k x f, ¬ (k = 10 ∧ x = 0) → H9 k x f = H7 k x f)) : ∃ G2, lwT o mf = some G2 ∧ Inv G2 := by
  obtain ⟨G7, a1, a2, a3⟩ := c_save h1 h3
  obtain ⟨G9, b1, b2, b3⟩ := hC G7 a1 a2.1
  have hp := IP_save h3
  refine fin_ok (G1 := G9) (A := A) (A' := A') (S := S) (S' := psh A S c) (c := c) (c' := pc c) b1 (IC_A a2 hp b2 (fun k x f z _ _ _ _ => b3 k x f z)) (IM_fr h2 (fun k x f z => ?_)) ⟨hW, hp.2⟩ (fun H hH => ?_)
  · rw [b3 _ _ _ (by unfold ofR; omega), frS_K a3 (by omega)]
  · obtain ⟨H7, d1, d2, d3⟩ := m_save hH h3
    obtain ⟨H9, e1, e2, e3⟩ := hM H H7 d1 hH.1 d2.1
    refine ⟨_, e1, gup_s, IM_A d2 (fun f z1 z2 => by rw [gup_k (by decide)]; exact e2 f z1 z2) (fun k x f z => by rw [gup_n (by omega), e3 _ _ _ (by omega)]), fun k x f z => by rw [gup_n (by omega), e3 _ _ _ (by omega), d3 _ _ _ (by omega) (by omega)]⟩
theorem keep_stage {G G' : GS} {o m s x1 x2 x3 : Int} {A A' : Int → Int} (hR : Rd G o A) (hW : Wf m A) (h0 : 0 ≤ s) (hs : s < A 0 - 1) (y1 : 1 ≤ x1 ∧ x1 ≤ 9) (y2 : -5 ≤ x2 ∧ x2 ≤ 5) (hx : x3 = 0 ∨ x3 = 1)
    (hG : ∀ k x f, ¬ (k = 5 ∧ x = 7 * o + s) → G' k x f = G k x f) (g0 : G' 5 (7 * o + s) 0 = x1) (g1 : G' 5 (7 * o + s) 1 = x2) (g2 : G' 5 (7 * o + s) 2 = x3)
    (hA : ∀ f, ¬ (9 + 3 * s ≤ f ∧ f ≤ 9 + 3 * s + 2) → A' f = A f) (a0 : A' (9 + 3 * s) = x1) (a1 : A' (9 + 3 * s + 1) = x2) (a2 : A' (9 + 3 * s + 2) = x3) : Rd G' o A' ∧ Wf m A' := by
  have hWh := hW.1
  unfold WfH at hWh
  have e0 : A' 0 = A 0 := hA 0 (by omega)
  have e1 : A' 1 = A 1 := hA 1 (by omega)
  have e7 : A' 7 = A 7 := hA 7 (by omega)
  have e8 : A' 8 = A 8 := hA 8 (by omega)
  have aL : ∀ x f, 0 ≤ x → 0 ≤ f → A' (164 + 8 * x + f) = A (164 + 8 * x + f) := fun x f h2 h4 => hA _ (by omega)
  have aT : ∀ u f, 0 ≤ u → 0 ≤ f → A' (54 + 11 * u + f) = A (54 + 11 * u + f) := fun u f h2 h4 => hA _ (by omega)
  constructor
  · obtain ⟨r1, r2, r3, r4, r5, r6, r7⟩ := hR
    refine ⟨?_, fun n h1 h2 => ?_, fun n h1 h2 => ?_, fun u h1 h2 => ?_, fun l h1 h2 => ?_, fun n h1 h2 => ?_, fun n h1 h2 => ?_⟩
    · unfold RdH at r1 ⊢
      rw [e0, e7, e8, e1, hG 3 o 4 (by omega), hG 3 o 5 (by omega), hG 3 o 6 (by omega), hG 3 o 7 (by omega), hG 3 o 8 (by omega), hG 3 o 9 (by omega), hG 3 o 10 (by omega), hG 3 o 11 (by omega), hG 3 o 12 (by omega), hA 2 (by omega), hA 3 (by omega), hA 4 (by omega), hA 5 (by omega), hA 6 (by omega)]
      exact r1
    · by_cases hn : n = s
      · subst hn
        unfold RdS
        rw [g0, g1, g2, a0, a1, a2]
        exact ⟨rfl, rfl, rfl⟩
      · exact RdS_c (r2 n h1 (by omega)) (fun f => hG _ _ _ (by omega)) ⟨hA _ (by omega), hA _ (by omega), hA _ (by omega)⟩
    · exact RdN_c (r3 n h1 (by omega)) (fun f => hG _ _ _ (by omega)) ⟨hA _ (by omega), hA _ (by omega), hA _ (by omega)⟩
    · exact RdT_c (r4 u h1 (by omega)) (fun f => hG _ _ _ (by omega)) (fun f h4 h5 => aT u f h1 h4)
    · exact RdL_c (r5 l h1 (by omega)) (fun f => hG _ _ _ (by omega)) (fun f h4 h5 => aL l f h1 h4)
    · by_cases hn : n = s
      · rw [hn, g2]; exact hx
      · rw [hG _ _ _ (by omega)]; exact r6 n h1 h2
    · rw [hG _ _ _ (by omega)]; exact r7 n h1 h2
  · obtain ⟨w1, w2, w3, w4, w5, w6, w7, w8⟩ := hW
    refine ⟨?_, fun n h1 h2 => ?_, fun n h1 h2 => ?_, fun u h1 h2 => ?_, fun l h1 h2 => ?_, fun l h1 h2 => ?_, fun u h1 h2 => ?_, fun l l' h1 h2 h3 => ?_⟩
    · unfold WfH
      rw [e0, e7, e8, e1]
      omega
    · by_cases hn : n = s
      · subst hn
        unfold WfS
        rw [a0, a1, a2]
        exact ⟨y1, y2, hx⟩
      · have r := w2 n h1 (by omega)
        unfold WfS at r ⊢
        rw [hA _ (by omega), hA _ (by omega), hA _ (by omega)]
        exact r
    · have r := w3 n h1 (by omega)
      unfold WfN at r ⊢
      rw [hA _ (by omega), hA _ (by omega), hA _ (by omega)]
      exact r
    · exact WfT_c (w4 u h1 (by omega)) e0 e8 (fun f h4 h5 => aT u f h1 h4)
    · exact WfL_c (w5 l h1 (by omega)) e0 e7 e1 (fun f h4 h5 => aL l f h1 h4)
    · have r := w6 l h1 (by omega)
      have w := w5 l h1 (by omega)
      unfold WfL at w
      unfold WfX at r ⊢
      rw [aL l 5 h1 (by decide)]
      intro hz
      rw [aT _ 3 (by omega) (by decide), aT _ 4 (by omega) (by decide), aT _ 5 (by omega) (by decide)]
      exact r hz
    · have r := w7 u h1 (by omega)
      have w := w4 u h1 (by omega)
      unfold WfT at w
      unfold WfY at r ⊢
      rw [aT u 3 h1 (by decide), aT u 5 h1 (by decide), aT u 4 h1 (by decide), aT u 2 h1 (by decide)]
      intro hx hy
      rw [aL _ 5 (by omega) (by decide), aL _ 4 (by omega) (by decide), aL _ 6 (by omega) (by decide)]
      exact r hx hy
    · rw [aL l 3 h1 (by decide), aL l' 3 (by omega) (by decide)]
      exact w8 l l' h1 h2 (by omega)
theorem keep_inn {G G' : GS} {o m s x1 x2 x3 : Int} {A A' : Int → Int} (hR : Rd G o A) (hW : Wf m A) (h0 : 0 ≤ s) (hs : s < A 0) (y1 : 0 ≤ x1 ∧ x1 ≤ 6) (y2 : 0 ≤ x2 ∧ x2 ≤ 999) (hx : x3 = 0 ∨ x3 = 1)
    (hG : ∀ k x f, ¬ (k = 1 ∧ x = 8 * o + s) → G' k x f = G k x f) (g0 : G' 1 (8 * o + s) 0 = x1) (g1 : G' 1 (8 * o + s) 1 = x2) (g2 : G' 1 (8 * o + s) 2 = x3)
    (hA : ∀ f, ¬ (30 + 3 * s ≤ f ∧ f ≤ 30 + 3 * s + 2) → A' f = A f) (a0 : A' (30 + 3 * s) = x1) (a1 : A' (30 + 3 * s + 1) = x2) (a2 : A' (30 + 3 * s + 2) = x3) : Rd G' o A' ∧ Wf m A' := by
  have hWh := hW.1
  unfold WfH at hWh
  have e0 : A' 0 = A 0 := hA 0 (by omega)
  have e1 : A' 1 = A 1 := hA 1 (by omega)
  have e7 : A' 7 = A 7 := hA 7 (by omega)
  have e8 : A' 8 = A 8 := hA 8 (by omega)
  have aL : ∀ x f, 0 ≤ x → 0 ≤ f → A' (164 + 8 * x + f) = A (164 + 8 * x + f) := fun x f h2 h4 => hA _ (by omega)
  have aT : ∀ u f, 0 ≤ u → 0 ≤ f → A' (54 + 11 * u + f) = A (54 + 11 * u + f) := fun u f h2 h4 => hA _ (by omega)
  constructor
  · obtain ⟨r1, r2, r3, r4, r5, r6, r7⟩ := hR
    refine ⟨?_, fun n h1 h2 => ?_, fun n h1 h2 => ?_, fun u h1 h2 => ?_, fun l h1 h2 => ?_, fun n h1 h2 => ?_, fun n h1 h2 => ?_⟩
    · unfold RdH at r1 ⊢
      rw [e0, e7, e8, e1, hG 3 o 4 (by omega), hG 3 o 5 (by omega), hG 3 o 6 (by omega), hG 3 o 7 (by omega), hG 3 o 8 (by omega), hG 3 o 9 (by omega), hG 3 o 10 (by omega), hG 3 o 11 (by omega), hG 3 o 12 (by omega), hA 2 (by omega), hA 3 (by omega), hA 4 (by omega), hA 5 (by omega), hA 6 (by omega)]
      exact r1
    · exact RdS_c (r2 n h1 (by omega)) (fun f => hG _ _ _ (by omega)) ⟨hA _ (by omega), hA _ (by omega), hA _ (by omega)⟩
    · by_cases hn : n = s
      · subst hn
        unfold RdN
        rw [g0, g1, g2, a0, a1, a2]
        exact ⟨rfl, rfl, rfl⟩
      · exact RdN_c (r3 n h1 (by omega)) (fun f => hG _ _ _ (by omega)) ⟨hA _ (by omega), hA _ (by omega), hA _ (by omega)⟩
    · exact RdT_c (r4 u h1 (by omega)) (fun f => hG _ _ _ (by omega)) (fun f h4 h5 => aT u f h1 h4)
    · exact RdL_c (r5 l h1 (by omega)) (fun f => hG _ _ _ (by omega)) (fun f h4 h5 => aL l f h1 h4)
    · rw [hG _ _ _ (by omega)]; exact r6 n h1 h2
    · by_cases hn : n = s
      · rw [hn, g2]; exact hx
      · rw [hG _ _ _ (by omega)]; exact r7 n h1 h2
  · obtain ⟨w1, w2, w3, w4, w5, w6, w7, w8⟩ := hW
    refine ⟨?_, fun n h1 h2 => ?_, fun n h1 h2 => ?_, fun u h1 h2 => ?_, fun l h1 h2 => ?_, fun l h1 h2 => ?_, fun u h1 h2 => ?_, fun l l' h1 h2 h3 => ?_⟩
    · unfold WfH
      rw [e0, e7, e8, e1]
      omega
    · have r := w2 n h1 (by omega)
      unfold WfS at r ⊢
      rw [hA _ (by omega), hA _ (by omega), hA _ (by omega)]
      exact r
    · by_cases hn : n = s
      · subst hn
        unfold WfN
        rw [a0, a1, a2]
        exact ⟨y1, y2, hx⟩
      · have r := w3 n h1 (by omega)
        unfold WfN at r ⊢
        rw [hA _ (by omega), hA _ (by omega), hA _ (by omega)]
        exact r
    · exact WfT_c (w4 u h1 (by omega)) e0 e8 (fun f h4 h5 => aT u f h1 h4)
    · exact WfL_c (w5 l h1 (by omega)) e0 e7 e1 (fun f h4 h5 => aL l f h1 h4)
    · have r := w6 l h1 (by omega)
      have w := w5 l h1 (by omega)
      unfold WfL at w
      unfold WfX at r ⊢
      rw [aL l 5 h1 (by decide)]
      intro hz
      rw [aT _ 3 (by omega) (by decide), aT _ 4 (by omega) (by decide), aT _ 5 (by omega) (by decide)]
      exact r hz
    · have r := w7 u h1 (by omega)
      have w := w4 u h1 (by omega)
      unfold WfT at w
      unfold WfY at r ⊢
      rw [aT u 3 h1 (by decide), aT u 5 h1 (by decide), aT u 4 h1 (by decide), aT u 2 h1 (by decide)]
      intro hx hy
      rw [aL _ 5 (by omega) (by decide), aL _ 4 (by omega) (by decide), aL _ 6 (by omega) (by decide)]
      exact r hx hy
    · rw [aL l 3 h1 (by decide), aL l' 3 (by omega) (by decide)]
      exact w8 l l' h1 h2 (by omega)
def put3 (A : Int → Int) (b x1 x2 x3 : Int) : Int → Int := fun f => if f = b then x1 else if f = b + 1 then x2 else if f = b + 2 then x3 else A f
theorem put3_0 {A : Int → Int} {b x1 x2 x3 : Int} : put3 A b x1 x2 x3 b = x1 := if_pos rfl
theorem put3_1 {A : Int → Int} {b x1 x2 x3 : Int} : put3 A b x1 x2 x3 (b + 1) = x2 := by
  unfold put3
  rw [if_neg (by omega), if_pos rfl]
theorem put3_2 {A : Int → Int} {b x1 x2 x3 : Int} : put3 A b x1 x2 x3 (b + 2) = x3 := by
  unfold put3
  rw [if_neg (by omega), if_neg (by omega), if_pos rfl]
theorem put3_n {A : Int → Int} {b x1 x2 x3 f : Int} (h : ¬ (b ≤ f ∧ f ≤ b + 2)) : put3 A b x1 x2 x3 f = A f := by
  unfold put3
  rw [if_neg (by omega), if_neg (by omega), if_neg (by omega)]
theorem put3_g {H : GS} {A : Int → Int} {b x1 x2 x3 f : Int} (h : H 10 0 f = A f) : (gup (gup (gup H 10 0 b x1) 10 0 (b + 1) x2) 10 0 (b + 2) x3) 10 0 f = put3 A b x1 x2 x3 f := by
  unfold put3
  by_cases c2 : f = b + 2
  · rw [c2, gup_s, if_neg (by omega), if_neg (by omega), if_pos rfl]
  · rw [gup_n (by omega)]
    by_cases c1 : f = b + 1
    · rw [c1, gup_s, if_neg (by omega), if_pos rfl]
    · rw [gup_n (by omega)]
      by_cases c0 : f = b
      · rw [c0, gup_s, if_pos rfl]
      · rw [gup_n (by omega), if_neg c0, if_neg c1, if_neg c2, h]
theorem op_setStage {G : GS} {p1 p2 p3 p4 : Int} (hI : Inv G) (h1 : inR p1) (h2 : inR p2) (h3 : inR p3) (h4 : p4 = 0 ∨ p4 = 1) : ∃ G2, lwT (f_L_setStage G p1 p2 p3 p4) (fun G1 => f_X8_setStage G1 p1 p2 p3 p4) = some G2 ∧ Inv G2 := by
  obtain ⟨A, S, c, len, T, i1, i2, i3⟩ := id hI
  have hWh := i3.1.1
  unfold WfH at hWh
  have r4 : G 3 0 4 = A 0 := i1.1.1.1
  have q0 : ∀ H : GS, (∀ f, 0 ≤ f → f < 260 → H 10 0 f = A f) → H 10 0 0 = A 0 := fun H h => h 0 (by decide) (by decide)
  have g0 := q0 G i2.1
  by_cases c1 : 0 ≤ p1 ∧ p1 < A 0 - 1
  · by_cases c2 : 1 ≤ p2 ∧ p2 ≤ 9
    · by_cases c3 : -5 ≤ p3 ∧ p3 ≤ 5
      · obtain ⟨-, hW'⟩ := keep_stage (G' := (gup (gup (gup G 5 (7 * 0 + p1) 0 p2) 5 (7 * 0 + p1) 1 p3) 5 (7 * 0 + p1) 2 p4)) (A' := put3 A (9 + 3 * p1) p2 p3 p4) i1.1 i3.1 c1.1 c1.2 c2 c3 h4 (fun k x f z => by rw [gup_n (by omega), gup_n (by omega), gup_n (by omega)]) (by rw [gup_f (by decide), gup_f (by decide), gup_s]) (by rw [gup_f (by decide), gup_s]) gup_s (fun f z => put3_n z) put3_0 put3_1 put3_2
        refine fin_save (r := A (9 + 3 * p1)) (A' := put3 A (9 + 3 * p1) p2 p3 p4) i1 i2 i3 hW' (fun G7 s1 s2 => ?_) (fun H H7 s1 s2 s3 => ?_)
        · obtain ⟨G9, e9, f9, v0, v1, v2⟩ := c_set5 (G := G7) (o := 7 * 0 + p1) (p1 := p2) (p2 := p3) h4
          have rS := s2.2.1 p1 c1.1 c1.2
          unfold RdS at rS
          refine ⟨G9, ?_, (keep_stage s2 i3.1 c1.1 c1.2 c2 c3 h4 f9 v0 v1 v2 (fun f z => put3_n z) put3_0 put3_1 put3_2).1, fun k x f z => f9 _ _ _ (by unfold ofR at z; omega)⟩
          unfold f_L_setStage f_X7_setStage
          rw [r4, c_num h1 ⟨by omega, by omega⟩, bn1_some, if_pos c1, if_pos rfl, c_rng h2 (by decide) (by decide), bn1_some, if_pos c2, if_pos rfl, c_rng h3 (by decide) (by decide), bn1_some, if_pos c3, if_pos rfl, s1, bn1_some, ga_t ⟨by omega, by omega⟩, e9, bn1_some, lwB_some, if_pos rfl, rS.1]
        · have h0 := q0 H s2
          refine ⟨(gup (gup (gup H7 10 0 (9 + 3 * p1) p2) 10 0 (9 + 3 * p1 + 1) p3) 10 0 (9 + 3 * p1 + 2) p4), ?_, fun f z1 z2 => put3_g (s3 f z1 z2), fun k x f z => by rw [gup_n (by omega), gup_n (by omega), gup_n (by omega)]⟩
          have r := s3 (9 + 3 * p1) (by omega) (by omega)
          unfold f_X8_setStage
          rw [m_isStage h1 (by omega), bn1_some, if_pos (by omega), gd_t (by decide), if_neg (by decide), m_inB h2 (by decide) (by decide), bn1_some, if_pos c2, gd_t (by decide), if_neg (by decide), m_inB h3 (by decide) (by decide), bn1_some, if_pos c3, gd_t (by decide), if_neg (by decide), s1, bn1_some, m_hours ⟨by omega, by omega⟩, bn1_some, ga_t (z := 9 + 3 * p1) ⟨by omega, by omega⟩, ga_t (z := 9 + 3 * p1 + 1) ⟨by omega, by omega⟩, gd_t ⟨by omega, by omega⟩, r]
          rcases h4 with rfl | rfl
          · rw [if_pos rfl, ga_t ⟨by omega, by omega⟩, m_fine]
          · rw [if_neg (by decide), ga_t ⟨by omega, by omega⟩, m_fine]
      · refine fin_throw (k := 2) hI ?_ ?_ (by decide)
        · unfold f_L_setStage f_X7_setStage
          rw [r4, c_num h1 ⟨by omega, by omega⟩, bn1_some, if_pos c1, if_pos rfl, c_rng h2 (by decide) (by decide), bn1_some, if_pos c2, if_pos rfl, c_rng h3 (by decide) (by decide), bn1_some, if_neg c3, if_neg (by decide), lwB_some, if_neg (by decide), if_neg (by decide), if_pos rfl]
        · unfold f_X8_setStage
          rw [m_isStage h1 (by omega), bn1_some, if_pos (by omega), gd_t (by decide), if_neg (by decide), m_inB h2 (by decide) (by decide), bn1_some, if_pos c2, gd_t (by decide), if_neg (by decide), m_inB h3 (by decide) (by decide), bn1_some, if_neg c3, gd_t (by decide), if_pos rfl, m_throw]
    · refine fin_throw (k := 2) hI ?_ ?_ (by decide)
      · unfold f_L_setStage f_X7_setStage
        rw [r4, c_num h1 ⟨by omega, by omega⟩, bn1_some, if_pos c1, if_pos rfl, c_rng h2 (by decide) (by decide), bn1_some, if_neg c2, if_neg (by decide), lwB_some, if_neg (by decide), if_neg (by decide), if_pos rfl]
      · unfold f_X8_setStage
        rw [m_isStage h1 (by omega), bn1_some, if_pos (by omega), gd_t (by decide), if_neg (by decide), m_inB h2 (by decide) (by decide), bn1_some, if_neg c2, gd_t (by decide), if_pos rfl, m_throw]
  · refine fin_throw (k := 1) hI ?_ ?_ (by decide)
    · unfold f_L_setStage f_X7_setStage
      rw [r4, c_num h1 ⟨by omega, by omega⟩, bn1_some, if_neg c1, if_neg (by decide), lwB_some, if_neg (by decide), if_pos rfl]
    · unfold f_X8_setStage
      rw [m_isStage h1 (by omega), bn1_some, if_neg (by omega), gd_t (by decide), if_pos rfl, m_throw]
theorem op_setInn {G : GS} {p1 p2 p3 p4 : Int} (hI : Inv G) (h1 : inR p1) (h2 : inR p2) (h3 : inR p3) (h4 : p4 = 0 ∨ p4 = 1) : ∃ G2, lwT (f_L_setInn G p1 p2 p3 p4) (fun G1 => f_X8_setInn G1 p1 p2 p3 p4) = some G2 ∧ Inv G2 := by
  obtain ⟨A, S, c, len, T, i1, i2, i3⟩ := id hI
  have hWh := i3.1.1
  unfold WfH at hWh
  have r4 : G 3 0 4 = A 0 := i1.1.1.1
  have q0 : ∀ H : GS, (∀ f, 0 ≤ f → f < 260 → H 10 0 f = A f) → H 10 0 0 = A 0 := fun H h => h 0 (by decide) (by decide)
  have g0 := q0 G i2.1
  by_cases c1 : 0 ≤ p1 ∧ p1 < A 0
  · by_cases c2 : 0 ≤ p2 ∧ p2 ≤ 6
    · by_cases c3 : 0 ≤ p3 ∧ p3 ≤ 999
      · obtain ⟨-, hW'⟩ := keep_inn (G' := (gup (gup (gup G 1 (8 * 0 + p1) 0 p2) 1 (8 * 0 + p1) 1 p3) 1 (8 * 0 + p1) 2 p4)) (A' := put3 A (30 + 3 * p1) p2 p3 p4) i1.1 i3.1 c1.1 c1.2 c2 c3 h4 (fun k x f z => by rw [gup_n (by omega), gup_n (by omega), gup_n (by omega)]) (by rw [gup_f (by decide), gup_f (by decide), gup_s]) (by rw [gup_f (by decide), gup_s]) gup_s (fun f z => put3_n z) put3_0 put3_1 put3_2
        refine fin_save (r := A (30 + 3 * p1 + 1)) (A' := put3 A (30 + 3 * p1) p2 p3 p4) i1 i2 i3 hW' (fun G7 s1 s2 => ?_) (fun H H7 s1 s2 s3 => ?_)
        · obtain ⟨G9, e9, f9, v0, v1, v2⟩ := c_set1 (G := G7) (o := 8 * 0 + p1) (p1 := p2) (p2 := p3) h4
          have rS := s2.2.2.1 p1 c1.1 c1.2
          unfold RdN at rS
          refine ⟨G9, ?_, (keep_inn s2 i3.1 c1.1 c1.2 c2 c3 h4 f9 v0 v1 v2 (fun f z => put3_n z) put3_0 put3_1 put3_2).1, fun k x f z => f9 _ _ _ (by unfold ofR at z; omega)⟩
          unfold f_L_setInn f_X7_setInn
          rw [r4, c_num h1 ⟨by omega, by omega⟩, bn1_some, if_pos c1, if_pos rfl, c_rng h2 (by decide) (by decide), bn1_some, if_pos c2, if_pos rfl, c_rng h3 (by decide) (by decide), bn1_some, if_pos c3, if_pos rfl, s1, bn1_some, ga_t ⟨by omega, by omega⟩, e9, bn1_some, lwB_some, if_pos rfl, rS.2.1]
        · have h0 := q0 H s2
          refine ⟨(gup (gup (gup H7 10 0 (30 + 3 * p1) p2) 10 0 (30 + 3 * p1 + 1) p3) 10 0 (30 + 3 * p1 + 2) p4), ?_, fun f z1 z2 => put3_g (s3 f z1 z2), fun k x f z => by rw [gup_n (by omega), gup_n (by omega), gup_n (by omega)]⟩
          have r := s3 (30 + 3 * p1 + 1) (by omega) (by omega)
          unfold f_X8_setInn
          rw [m_isInn h1 (by omega), bn1_some, if_pos (by omega), gd_t (by decide), if_neg (by decide), m_inB h2 (by decide) (by decide), bn1_some, if_pos c2, gd_t (by decide), if_neg (by decide), m_inB h3 (by decide) (by decide), bn1_some, if_pos c3, gd_t (by decide), if_neg (by decide), s1, bn1_some, ga_t (z := 30 + 3 * p1 + 1) ⟨by omega, by omega⟩, ga_t (z := 30 + 3 * p1) ⟨by omega, by omega⟩, gd_t ⟨by omega, by omega⟩, r]
          rcases h4 with rfl | rfl
          · rw [if_pos rfl, ga_t ⟨by omega, by omega⟩, m_fine]
          · rw [if_neg (by decide), ga_t ⟨by omega, by omega⟩, m_fine]
      · refine fin_throw (k := 2) hI ?_ ?_ (by decide)
        · unfold f_L_setInn f_X7_setInn
          rw [r4, c_num h1 ⟨by omega, by omega⟩, bn1_some, if_pos c1, if_pos rfl, c_rng h2 (by decide) (by decide), bn1_some, if_pos c2, if_pos rfl, c_rng h3 (by decide) (by decide), bn1_some, if_neg c3, if_neg (by decide), lwB_some, if_neg (by decide), if_neg (by decide), if_pos rfl]
        · unfold f_X8_setInn
          rw [m_isInn h1 (by omega), bn1_some, if_pos (by omega), gd_t (by decide), if_neg (by decide), m_inB h2 (by decide) (by decide), bn1_some, if_pos c2, gd_t (by decide), if_neg (by decide), m_inB h3 (by decide) (by decide), bn1_some, if_neg c3, gd_t (by decide), if_pos rfl, m_throw]
    · refine fin_throw (k := 2) hI ?_ ?_ (by decide)
      · unfold f_L_setInn f_X7_setInn
        rw [r4, c_num h1 ⟨by omega, by omega⟩, bn1_some, if_pos c1, if_pos rfl, c_rng h2 (by decide) (by decide), bn1_some, if_neg c2, if_neg (by decide), lwB_some, if_neg (by decide), if_neg (by decide), if_pos rfl]
      · unfold f_X8_setInn
        rw [m_isInn h1 (by omega), bn1_some, if_pos (by omega), gd_t (by decide), if_neg (by decide), m_inB h2 (by decide) (by decide), bn1_some, if_neg c2, gd_t (by decide), if_pos rfl, m_throw]
  · refine fin_throw (k := 1) hI ?_ ?_ (by decide)
    · unfold f_L_setInn f_X7_setInn
      rw [r4, c_num h1 ⟨by omega, by omega⟩, bn1_some, if_neg c1, if_neg (by decide), lwB_some, if_neg (by decide), if_pos rfl]
    · unfold f_X8_setInn
      rw [m_isInn h1 (by omega), bn1_some, if_neg (by omega), gd_t (by decide), if_pos rfl, m_throw]

/-! COLLECTED LETTERS, from both ends -/
theorem mi_t4 {n t v : Int} {A B A' B' : Int → Int} (hM : Mi n A B) (hA7 : A 7 ≤ 10) (t0 : 0 ≤ t) (t1 : t < 10) (aF : ∀ f, f ≠ 54 + 11 * t + 4 → A' f = A f) (bF : ∀ f, f ≠ 54 + 11 * t + 4 → B' f = B f) (a4 : A' (54 + 11 * t + 4) = v) (b4 : B' (54 + 11 * t + 4) = v) (hn : n ≤ 8) : Mi n A' B' := by
  have z7 : A' 7 = A 7 := aF 7 (by omega)
  have z8 : A' 8 = A 8 := aF 8 (by omega)
  refine Mi_fr hM hn (MiH_fr hM.1 (fun f y0 y1 => aF f (by omega)) (fun f y0 y1 => bF f (by omega))) (fun f y0 y1 => aF f (by omega)) (fun f y0 y1 => bF f (by omega)) (fun i h0 h1 => MiN_fr (hM.2.2.1 i h0 h1) (fun f y0 y1 => aF f (by omega)) (fun f y0 y1 => bF f (by omega))) (fun u h0 h1 => ?_) (fun q h0 h1 => MiL_fr (hM.2.2.2.2 q h0 (by omega)) (fun f y0 y1 => aF f (by omega)) (fun f y0 y1 => bF f (by omega)))
  have h := hM.2.2.2.1 u h0 (by omega)
  by_cases cu : u = t
  · subst cu
    exact row_t4 h (fun f y0 y1 y2 => aF _ (by omega)) (fun f y0 y1 y2 => bF _ (by omega)) a4 b4
  · exact MiT_fr h (fun f y0 y1 => aF f (by omega)) (fun f y0 y1 => bF f (by omega))
theorem mi_rowc {n a b : Int} {A B A' B' : Int → Int} (hM : Mi n A B) (hA7 : A 7 ≤ 10) (hn : n ≤ 8) (ha : 0 ≤ a ∧ a ≤ b) (hb : b < A 8) (aF : ∀ f, ¬ (164 + 8 * a ≤ f ∧ f < 164 + 8 * a + 8) → A' f = A f) (bF : ∀ f, ¬ (164 + 8 * a ≤ f ∧ f < 164 + 8 * a + 8) → B' f = B f) (aR : ∀ f, 0 ≤ f → f < 8 → A' (164 + 8 * a + f) = A (164 + 8 * b + f)) (bR : ∀ f, 0 ≤ f → f < 8 → B' (164 + 8 * a + f) = B (164 + 8 * b + f)) : Mi n A' B' := by
  have z7 : A' 7 = A 7 := aF 7 (by omega)
  have z8 : A' 8 = A 8 := aF 8 (by omega)
  refine Mi_fr hM hn (MiH_fr hM.1 (fun f y0 y1 => aF f (by omega)) (fun f y0 y1 => bF f (by omega))) (fun f y0 y1 => aF f (by omega)) (fun f y0 y1 => bF f (by omega)) (fun i h0 h1 => MiN_fr (hM.2.2.1 i h0 h1) (fun f y0 y1 => aF f (by omega)) (fun f y0 y1 => bF f (by omega))) (fun u h0 h1 => MiT_fr (hM.2.2.2.1 u h0 (by omega)) (fun f y0 y1 => aF f (by omega)) (fun f y0 y1 => bF f (by omega))) (fun q h0 h1 => ?_)
  by_cases cq : q = a
  · subst cq
    have h := hM.2.2.2.2 b (by omega) hb
    unfold MiL at h ⊢
    rw [aR 0 (by decide) (by decide), aR 1 (by decide) (by decide), aR 2 (by decide) (by decide), aR 3 (by decide) (by decide), aR 4 (by decide) (by decide), aR 5 (by decide) (by decide), aR 6 (by decide) (by decide), aR 7 (by decide) (by decide), bR 0 (by decide) (by decide), bR 1 (by decide) (by decide), bR 2 (by decide) (by decide), bR 3 (by decide) (by decide), bR 4 (by decide) (by decide), bR 5 (by decide) (by decide), bR 6 (by decide) (by decide), bR 7 (by decide) (by decide)]
    exact h
  · exact MiL_fr (hM.2.2.2.2 q h0 (by omega)) (fun f y0 y1 => aF f (by omega)) (fun f y0 y1 => bF f (by omega))
/-- all but letters and the teams' letters stay -/
def rest4 (A A' : Int → Int) : Prop := ∀ f, f < 164 → (∀ t, 0 ≤ t → t < 10 → f ≠ 54 + 11 * t + 4) → A' f = A f
/-- each letter's starts are some letter's -/
def of7 (N : Int) (A A' : Int → Int) : Prop := ∀ q, 0 ≤ q → q < N → ∃ l, 0 ≤ l ∧ l < N ∧ A' (164 + 8 * q + 7) = A (164 + 8 * l + 7)
theorem col_turn {A : Int → Int} (hW : Wf 10000 A) {N i kept : Int} (hN : N = A 8) (i0 : 0 ≤ i) (i1 : i < N) (k0 : 0 ≤ kept) (k1 : kept ≤ i) {H : GS} (hA : ∀ f, 164 + 8 * i ≤ f → H 10 0 f = A f) : (¬ A (164 + 8 * i + 6) = -1 ∧ ∀ q k, f_X8_collect_L16 (q + 1) H kept N i k = f_X8_collect_L16 q H kept N (i + 1) k) ∨ (A (164 + 8 * i + 6) = -1 ∧ ∃ H1 : GS, (∀ f, ¬ (164 + 8 * kept ≤ f ∧ f < 164 + 8 * kept + 8) → H1 10 0 f = H 10 0 f) ∧ (∀ f, 0 ≤ f → f < 8 → H1 10 0 (164 + 8 * kept + f) = H 10 0 (164 + 8 * i + f)) ∧ ((A (164 + 8 * i + 5) = -1 ∧ ∀ q k, f_X8_collect_L16 (q + 1) H kept N i k = f_X8_collect_L16 q H1 (kept + 1) N (i + 1) k) ∨ (¬ A (164 + 8 * i + 5) = -1 ∧ (0 ≤ A (164 + 8 * i + 5) ∧ A (164 + 8 * i + 5) < A 7) ∧ ∃ H2 : GS, (∀ f, f ≠ 54 + 11 * A (164 + 8 * i + 5) + 4 → H2 10 0 f = H1 10 0 f) ∧ H2 10 0 (54 + 11 * A (164 + 8 * i + 5) + 4) = kept ∧ ∀ q k, f_X8_collect_L16 (q + 1) H kept N i k = f_X8_collect_L16 q H2 (kept + 1) N (i + 1) k))) := by
  have hWh := hW.1
  unfold WfH at hWh
  have w := hW.2.2.2.2.1 i i0 (by omega)
  unfold WfL at w
  have d6 := hA (164 + 8 * i + 6) (by omega)
  have d5 := hA (164 + 8 * i + 5) (by omega)
  have eD : f_X8_isDelivered H i = some (if A (164 + 8 * i + 6) = -1 then 0 else 1) := by
    unfold f_X8_isDelivered
    rw [m_ofL ⟨by omega, by omega⟩, bn1_some, d6, gd_t ⟨by omega, by omega⟩]
    split <;> rfl
  have e5 : f_X8_ofLetter H i 5 = some (A (164 + 8 * i + 5)) := by rw [m_ofL ⟨by omega, by omega⟩, d5]
  by_cases c6 : A (164 + 8 * i + 6) = -1
  · refine Or.inr ⟨c6, ?_⟩
    rw [if_pos c6] at eD
    obtain ⟨H1, x1, x2, x3⟩ := m_row (K := H) (a := kept) (b := i) ⟨k0, k1⟩ (by omega)
    refine ⟨H1, fun f z => x2 _ _ _ (by omega), x3, ?_⟩
    by_cases c5 : A (164 + 8 * i + 5) = -1
    · refine Or.inl ⟨c5, fun q k => ?_⟩
      rw [f_X8_collect_L16, gd_t ⟨by omega, by omega⟩, gd_t ⟨by omega, by omega⟩, if_pos i1, eD, bn1_some, gd_t (by decide), if_pos rfl, e5, bn1_some, x1, gd_t ⟨by omega, by omega⟩, if_pos c5]
    · have w5 : 0 ≤ A (164 + 8 * i + 5) ∧ A (164 + 8 * i + 5) < A 7 := by omega
      obtain ⟨H2, y1, y2, y3⟩ := gup_ex H1 10 0 (54 + 11 * A (164 + 8 * i + 5) + 4) kept
      refine Or.inr ⟨c5, w5, H2, fun f z => y2 _ _ _ (by omega), y3, fun q k => ?_⟩
      rw [f_X8_collect_L16, gd_t ⟨by omega, by omega⟩, gd_t ⟨by omega, by omega⟩, if_pos i1, eD, bn1_some, gd_t (by decide), if_pos rfl, e5, bn1_some, x1, gd_t ⟨by omega, by omega⟩, if_neg c5, m_teamAt, bn1_some, ga_t ⟨by omega, by omega⟩, y1]
  · refine Or.inl ⟨c6, fun q k => ?_⟩
    rw [if_neg c6] at eD
    rw [f_X8_collect_L16, gd_t ⟨by omega, by omega⟩, gd_t ⟨by omega, by omega⟩, if_pos i1, eD, bn1_some, gd_t (by decide), if_neg (by decide)]
theorem mi_colL {n N : Int} {A B : Int → Int} (hWA : Wf 10000 A) (hWB : Wf 10000 B) (hM0 : Mi n A B) (hN : N = A 8) : ∀ (d : Nat) (i kept : Int) (H K : GS), i + d = N → 0 ≤ kept → kept ≤ i → Mi n (H 10 0) (K 10 0) → H 10 0 8 = N → H 10 0 7 = A 7 → (∀ f, 164 + 8 * i ≤ f → H 10 0 f = A f) → (∀ f, 164 + 8 * i ≤ f → K 10 0 f = B f) → rest4 A (H 10 0) → of7 N A (H 10 0) → ∃ (H' K' : GS) (kept' : Int), (∀ q k, d < q → f_X8_collect_L16 q H kept N i k = k H' kept' N N) ∧ (∀ q k, d < q → f_X8_collect_L16 q K kept N i k = k K' kept' N N) ∧ (0 ≤ kept' ∧ kept' ≤ N) ∧ Mi n (H' 10 0) (K' 10 0) ∧ H' 10 0 8 = N ∧ rest4 A (H' 10 0) ∧ of7 N A (H' 10 0) := by
  have hWh := hWA.1
  unfold WfH at hWh
  have hn : n ≤ 8 := by have := hM0.1.1; omega
  intro d
  induction d with
  | zero =>
    intro i kept H K h1 k0 k1 hM h8 h7 hA hB hr ho
    have e : i = N := by omega
    subst e
    refine ⟨H, K, kept, fun q k hq => ?_, fun q k hq => ?_, ⟨k0, k1⟩, hM, h8, hr, ho⟩
    · obtain ⟨q, rfl⟩ : ∃ z, q = z + 1 := ⟨q - 1, by omega⟩
      rw [f_X8_collect_L16, gd_t ⟨by omega, by omega⟩, gd_t ⟨by omega, by omega⟩, if_neg (by omega)]
    · obtain ⟨q, rfl⟩ : ∃ z, q = z + 1 := ⟨q - 1, by omega⟩
      rw [f_X8_collect_L16, gd_t ⟨by omega, by omega⟩, gd_t ⟨by omega, by omega⟩, if_neg (by omega)]
  | succ d ih =>
    intro i kept H K h1 k0 k1 hM h8 h7 hA hB hr ho
    have e8 : B 8 = A 8 := hM0.1.2.2.2.2.2.2.2.2.2
    have hL := hM0.2.2.2.2 i (by omega) (by omega)
    unfold MiL at hL
    obtain ⟨p0, p1, p2, p3, p4, p5, p6, p7⟩ := hL
    have go : ∀ (H2 K2 : GS) (kept2 : Int), 0 ≤ kept2 → kept2 ≤ i + 1 → Mi n (H2 10 0) (K2 10 0) → H2 10 0 8 = N → H2 10 0 7 = A 7 → (∀ f, 164 + 8 * (i + 1) ≤ f → H2 10 0 f = A f) → (∀ f, 164 + 8 * (i + 1) ≤ f → K2 10 0 f = B f) → rest4 A (H2 10 0) → of7 N A (H2 10 0) → (∀ q k, f_X8_collect_L16 (q + 1) H kept N i k = f_X8_collect_L16 q H2 kept2 N (i + 1) k) → (∀ q k, f_X8_collect_L16 (q + 1) K kept N i k = f_X8_collect_L16 q K2 kept2 N (i + 1) k) → ∃ (H' K' : GS) (kept' : Int), (∀ q k, d + 1 < q → f_X8_collect_L16 q H kept N i k = k H' kept' N N) ∧ (∀ q k, d + 1 < q → f_X8_collect_L16 q K kept N i k = k K' kept' N N) ∧ (0 ≤ kept' ∧ kept' ≤ N) ∧ Mi n (H' 10 0) (K' 10 0) ∧ H' 10 0 8 = N ∧ rest4 A (H' 10 0) ∧ of7 N A (H' 10 0) := by
      intro H2 K2 kept2 a1 a2 a3 a4 a5 a6 a7 a8 a9 q1 q2
      obtain ⟨H', K', kept', b1, b2, b3⟩ := ih (i + 1) kept2 H2 K2 (by omega) a1 a2 a3 a4 a5 a6 a7 a8 a9
      refine ⟨H', K', kept', fun q k hq => ?_, fun q k hq => ?_, b3⟩
      · obtain ⟨q, rfl⟩ : ∃ z, q = z + 1 := ⟨q - 1, by omega⟩
        rw [q1, b1 q k (by omega)]
      · obtain ⟨q, rfl⟩ : ∃ z, q = z + 1 := ⟨q - 1, by omega⟩
        rw [q2, b2 q k (by omega)]
    have tA := col_turn hWA hN (by omega) (by omega) k0 k1 hA (i := i)
    have tB := col_turn hWB (N := N) (by omega) (by omega) (by omega) k0 k1 hB (i := i)
    rw [p6, p5] at tB
    rcases tA with ⟨c6, q1⟩ | ⟨c6, H1, x1, x2, tA⟩
    · rcases tB with ⟨-, q2⟩ | ⟨d6, -⟩
      · exact go H K kept k0 (by omega) hM h8 h7 (fun f z => hA f (by omega)) (fun f z => hB f (by omega)) hr ho q1 q2
      · exact absurd d6 c6
    · rcases tB with ⟨d6, -⟩ | ⟨-, K1, y1, y2, tB⟩
      · exact absurd c6 d6
      · have hM1 := mi_rowc hM (by omega) hn ⟨k0, k1⟩ (by omega) x1 y1 x2 y2
        have u7 : H1 10 0 7 = A 7 := by rw [x1 7 (by omega)]; exact h7
        have u8 : H1 10 0 8 = N := by rw [x1 8 (by omega)]; exact h8
        have uo : of7 N A (H1 10 0) := fun q z0 z1 => by
          by_cases cq : q = kept
          · rw [cq, x2 7 (by decide) (by decide)]
            exact ho i (by omega) (by omega)
          · rw [x1 _ (by omega)]
            exact ho q z0 z1
        have ur : rest4 A (H1 10 0) := fun f z1 z2 => by rw [x1 f (by omega)]; exact hr f z1 z2
        rcases tA with ⟨c5, q1⟩ | ⟨c5, w5, H2, x3, x4, q1⟩
        · rcases tB with ⟨-, q2⟩ | ⟨d5, -⟩
          · exact go H1 K1 (kept + 1) (by omega) (by omega) hM1 u8 u7 (fun f z => by rw [x1 f (by omega)]; exact hA f (by omega)) (fun f z => by rw [y1 f (by omega)]; exact hB f (by omega)) ur uo q1 q2
          · exact absurd c5 d5
        · rcases tB with ⟨d5, -⟩ | ⟨-, -, K2, y3, y4, q2⟩
          · exact absurd d5 c5
          · exact go H2 K2 (kept + 1) (by omega) (by omega) (mi_t4 hM1 (by omega) w5.1 (by omega) x3 y3 x4 y4 hn) (by rw [x3 8 (by omega)]; exact u8) (by rw [x3 7 (by omega)]; exact u7) (fun f z => by rw [x3 f (by omega), x1 f (by omega)]; exact hA f (by omega)) (fun f z => by rw [y3 f (by omega), y1 f (by omega)]; exact hB f (by omega)) (fun f z1 z2 => by rw [x3 f (z2 _ w5.1 (by omega))]; exact ur f z1 z2) (fun q z0 z1 => by rw [x3 _ (by omega)]; exact uo q z0 z1) q1 q2
def colF (H : GS) : Option (GS × Int) := f_X8_collect_L16 gFuel H 0 (H 10 0 8) 0 (fun G27 y1_26 y2_26 y3_26 => f_X8_collect_L100 gFuel G27 y1_26 y2_26 y1_26 (fun G39 y1_38 y2_38 y3_38 => bnd (f_X8_fine (gup G39 10 0 8 y1_38) (y2_38 - y1_38)) (fun G40 r41 => some (G40, r41))))
theorem mi_collect {n : Int} {A B : Int → Int} (hWA : Wf 10000 A) (hWB : Wf 10000 B) (hM : Mi n A B) {H' K' : GS} {r r' : Int} (eH : colF (mw A) = some (gup H' 8 0 4 0, r)) (eK : colF (mw B) = some (gup K' 8 0 4 0, r')) : r' = r ∧ Mi n (H' 10 0) (K' 10 0) ∧ (Jv A → Jv (H' 10 0)) ∧ H' 10 0 1 = A 1 ∧ H' 10 0 0 = A 0 ∧ ∀ c, Bnd c A → Bnd c (H' 10 0) := by
  have hWh := hWA.1
  unfold WfH at hWh
  have hn : n ≤ 8 := by have := hM.1.1; omega
  have hg : gFuel = 3000 := rfl
  have e8 : B 8 = A 8 := hM.1.2.2.2.2.2.2.2.2.2
  obtain ⟨N, hN⟩ : ∃ N : Nat, (N : Int) = A 8 := ⟨(A 8).toNat, by omega⟩
  obtain ⟨H1, K1, kept, q1, q2, hk, hM1, h8, hr, ho⟩ := mi_colL hWA hWB hM hN N 0 0 (mw A) (mw B) (by omega) (by decide) (by decide) (by rw [mw_A, mw_A]; exact hM) (by rw [mw_A]; omega) (by rw [mw_A]) (fun f _ => by rw [mw_A]) (fun f _ => by rw [mw_A]) (fun f _ _ => by rw [mw_A]) (fun q z0 z1 => ⟨q, z0, z1, by rw [mw_A]⟩)
  obtain ⟨H2, a1, a2⟩ := m_tail hk.1 (show (N : Int) ≤ 12 by omega) (N - kept.toNat) kept H1 (by omega) (Int.le_refl _)
  obtain ⟨K2, b1, b2⟩ := m_tail hk.1 (show (N : Int) ≤ 12 by omega) (N - kept.toNat) kept K1 (by omega) (Int.le_refl _)
  obtain ⟨H3, c1, c2, c3⟩ := gup_ex H2 10 0 8 kept
  obtain ⟨K3, d1, d2, d3⟩ := gup_ex K2 10 0 8 kept
  unfold colF at eH eK
  rw [mw_A, ← hN, q1 gFuel _ (by omega), a1 gFuel _ (by omega), c1, m_fine] at eH
  rw [mw_A, e8, ← hN, q2 gFuel _ (by omega), b1 gFuel _ (by omega), d1, m_fine] at eK
  obtain ⟨y1, y2⟩ := some_pair eH
  obtain ⟨z1, z2⟩ := some_pair eK
  have eH3 : H' 10 0 = H3 10 0 := funext fun f => by
    have := congrFun (congrFun (congrFun y1 10) 0) f
    rw [gup_k (by decide), gup_k (by decide)] at this
    exact this.symm
  have eK3 : K' 10 0 = K3 10 0 := funext fun f => by
    have := congrFun (congrFun (congrFun z1 10) 0) f
    rw [gup_k (by decide), gup_k (by decide)] at this
    exact this.symm
  rw [eH3, eK3]
  have hF : ∀ f, f ≠ 8 → f < 164 + 8 * kept → H3 10 0 f = H1 10 0 f := fun f w1 w2 => by rw [c2 _ _ _ (by omega), a2 _ _ _ (by omega)]
  have kF : ∀ f, f ≠ 8 → f < 164 + 8 * kept → K3 10 0 f = K1 10 0 f := fun f w1 w2 => by rw [d2 _ _ _ (by omega), b2 _ _ _ (by omega)]
  have z7 : H3 10 0 7 = H1 10 0 7 := hF 7 (by decide) (by omega)
  have hr7 : H1 10 0 7 = A 7 := hr 7 (by decide) (fun t _ _ => by omega)
  have low : ∀ f, f < 54 → f ≠ 8 → H3 10 0 f = A f := fun f w1 w2 => by rw [hF f w2 (by omega)]; exact hr f (by omega) (fun t _ _ => by omega)
  refine ⟨by omega, ?_, fun j => ?_, low 1 (by decide) (by decide), low 0 (by decide) (by decide), fun c hB => ?_⟩
  · obtain ⟨e0, e1, f1, f2, f3, f4, f5, f6, f7, f8⟩ := hM1.1
    exact Mi_fr hM1 hn ⟨by rw [hF 0 (by decide) (by omega)]; exact e0, by rw [kF 0 (by decide) (by omega)]; exact e1, by rw [hF 1 (by decide) (by omega), kF 1 (by decide) (by omega)]; exact f1, by rw [hF 2 (by decide) (by omega), kF 2 (by decide) (by omega)]; exact f2, by rw [hF 3 (by decide) (by omega), kF 3 (by decide) (by omega)]; exact f3, by rw [hF 4 (by decide) (by omega), kF 4 (by decide) (by omega)]; exact f4, by rw [hF 5 (by decide) (by omega), kF 5 (by decide) (by omega)]; exact f5, by rw [hF 6 (by decide) (by omega), kF 6 (by decide) (by omega)]; exact f6, by rw [hF 7 (by decide) (by omega), kF 7 (by decide) (by omega)]; exact f7, by rw [c3, d3]⟩ (fun f y0 y1 => hF f (by omega) (by omega)) (fun f y0 y1 => kF f (by omega) (by omega)) (fun i y0 y1 => MiN_fr (hM1.2.2.1 i y0 y1) (fun f y2 y3 => hF f (by omega) (by omega)) (fun f y2 y3 => kF f (by omega) (by omega))) (fun u y0 y1 => MiT_fr (hM1.2.2.2.1 u y0 (by omega)) (fun f y2 y3 => hF f (by omega) (by omega)) (fun f y2 y3 => kF f (by omega) (by omega))) (fun q y0 y1 => MiL_fr (hM1.2.2.2.2 q y0 (by rw [c3] at y1; omega)) (fun f y2 y3 => hF f (by omega) (by rw [c3] at y1; omega)) (fun f y2 y3 => kF f (by omega) (by rw [c3] at y1; omega)))
  · unfold Jv at j ⊢
    rw [low 6 (by decide) (by decide), low 4 (by decide) (by decide), low 2 (by decide) (by decide), low 5 (by decide) (by decide), low 3 (by decide) (by decide), z7, hr7, tot_congr (f := ate (H3 10 0)) (g := ate A) (fun t w0 w1 => by
      unfold ate
      rw [hF _ (by omega) (by omega)]
      exact hr _ (by omega) (fun u _ _ => by omega))]
    exact j
  · obtain ⟨b2, b3, b4, b5, b6, bT, bL⟩ := hB
    refine ⟨by rw [low 2 (by decide) (by decide)]; exact b2, by rw [low 3 (by decide) (by decide)]; exact b3, by rw [low 4 (by decide) (by decide)]; exact b4, by rw [low 5 (by decide) (by decide)]; exact b5, by rw [low 6 (by decide) (by decide)]; exact b6, fun t w0 w1 => ?_, fun l w0 w1 => ?_⟩
    · have g : ∀ f, 6 ≤ f → f ≤ 9 → H3 10 0 (54 + 11 * t + f) = A (54 + 11 * t + f) := fun f v0 v1 => by
        rw [hF _ (by omega) (by omega)]
        exact hr _ (by omega) (fun u _ _ => by omega)
      rw [g 6 (by decide) (by decide), g 7 (by decide) (by decide), g 8 (by decide) (by decide), g 9 (by decide) (by decide)]
      exact bT t w0 (by omega)
    · rw [c3] at w1
      rw [hF _ (by omega) (by omega)]
      obtain ⟨q, v0, v1, v2⟩ := ho l w0 (by omega)
      rw [v2]
      exact bL q v0 (by omega)
theorem v_collect {G : GS} {A : Int → Int} (h : St G A) : ∃ G' H' r, f_X7_collect G = some (G', r) ∧ colF (mw A) = some (gup H' 8 0 4 0, r) ∧ St G' (H' 10 0) ∧ (0 ≤ r ∧ r ≤ 12) := by
  obtain ⟨S, c, len, T, i1, i3⟩ := h
  obtain ⟨G7, a1, a2, a3⟩ := c_save i1 i3
  have hp := IP_save i3
  obtain ⟨G9, H9, r, b1, b2, b3, b4, b5, -, hr⟩ := collect_both (G := G7) (H := mw A) (by rw [mw_A]; exact a2.1) (by rw [mw_A]; exact i3.1)
  refine ⟨G9, H9, r, ?_, b2, ⟨psh A S c, pc c, len, T, IC_A a2 hp b3 (fun k x f z _ _ _ _ => b5 k x f z), ⟨b4, hp.2⟩⟩, hr⟩
  unfold f_X7_collect
  rw [a1, bn1_some, b1, bnd_some]
/-! HOURS TILL ALL IS DELIVERED, from both ends -/
theorem mi_allIn {n : Int} {A B : Int → Int} (hM : Mi n A B) : allIn B = allIn A := by
  unfold allIn
  rw [mi_ly hM, mi_wi hM]
theorem Fine_m {m m' : Int} {A : Int → Int} (h : Fine m A) (hm : m ≤ m') : Fine m' A := ⟨Wf_m h.1 (by have := h.1.1; unfold WfH at this; omega), h.2⟩
/-- so many hours -/
def hrsN : Nat → GS → Option GS
  | 0, H => some H
  | j + 1, H => bn1 (f_X8_hour H) (fun H' => hrsN j H')
theorem mi_toAllL {n : Int} : ∀ (d : Nat) (i m : Int) (H K : GS), i + d = 500 → 0 ≤ i → m + d ≤ 20000 → Fine m (H 10 0) → Fine m (K 10 0) → Mi n (H 10 0) (K 10 0) → ∃ (H' K' : GS) (y : Int) (j : Nat), (∀ q k, d < q → f_X8_toAll_L2 q H i k = k H' y) ∧ (∀ q k, d < q → f_X8_toAll_L2 q K i k = k K' y) ∧ Fine 20000 (H' 10 0) ∧ Fine 20000 (K' 10 0) ∧ Mi n (H' 10 0) (K' 10 0) ∧ y = i + j ∧ hrsN j H = some H' := by
  intro d
  induction d with
  | zero =>
    intro i m H K h1 h0 hm hH hK hM
    refine ⟨H, K, i, 0, fun q k hq => ?_, fun q k hq => ?_, Fine_m hH (by omega), Fine_m hK (by omega), hM, by omega, rfl⟩
    · obtain ⟨q, rfl⟩ : ∃ z, q = z + 1 := ⟨q - 1, by omega⟩
      rw [f_X8_toAll_L2, gd_t ⟨by omega, by omega⟩, if_neg (by omega)]
    · obtain ⟨q, rfl⟩ : ∃ z, q = z + 1 := ⟨q - 1, by omega⟩
      rw [f_X8_toAll_L2, gd_t ⟨by omega, by omega⟩, if_neg (by omega)]
  | succ d ih =>
    intro i m H K h1 h0 hm hH hK hM
    have aH := m_allIn hH.1
    have aK := m_allIn hK.1
    rw [mi_allIn hM] at aK
    by_cases c : allIn (H 10 0) = 0
    · obtain ⟨H1, K1, x1, x2, x3, x4, x5, -⟩ := mi_hour (by omega) hH hK hM
      obtain ⟨H', K', y, j, y1, y2, y3, y4, y5, y6, y7⟩ := ih (i + 1) (m + 1) H1 K1 (by omega) (by omega) (by omega) x3 x4 x5
      refine ⟨H', K', y, j + 1, fun q k hq => ?_, fun q k hq => ?_, y3, y4, y5, by omega, ?_⟩
      · obtain ⟨q, rfl⟩ : ∃ z, q = z + 1 := ⟨q - 1, by omega⟩
        rw [f_X8_toAll_L2, gd_t ⟨by omega, by omega⟩, if_pos (by omega), aH, bn1_some, c, gd_t (by decide), if_pos rfl, x1, bn1_some, y1 q k (by omega)]
      · obtain ⟨q, rfl⟩ : ∃ z, q = z + 1 := ⟨q - 1, by omega⟩
        rw [f_X8_toAll_L2, gd_t ⟨by omega, by omega⟩, if_pos (by omega), aK, bn1_some, c, gd_t (by decide), if_pos rfl, x2, bn1_some, y2 q k (by omega)]
      · rw [hrsN, x1, bn1_some, y7]
    · have ha : allIn (H 10 0) = 1 := by
        unfold allIn at c ⊢
        split
        · rfl
        · rename_i z
          rw [if_neg z] at c
          exact absurd rfl c
      refine ⟨H, K, i, 0, fun q k hq => ?_, fun q k hq => ?_, Fine_m hH (by omega), Fine_m hK (by omega), hM, by omega, rfl⟩
      · obtain ⟨q, rfl⟩ : ∃ z, q = z + 1 := ⟨q - 1, by omega⟩
        rw [f_X8_toAll_L2, gd_t ⟨by omega, by omega⟩, if_pos (by omega), aH, bn1_some, ha, gd_t (by decide), if_neg (by decide)]
      · obtain ⟨q, rfl⟩ : ∃ z, q = z + 1 := ⟨q - 1, by omega⟩
        rw [f_X8_toAll_L2, gd_t ⟨by omega, by omega⟩, if_pos (by omega), aK, bn1_some, ha, gd_t (by decide), if_neg (by decide)]
theorem mi_toAll {n : Int} {A B : Int → Int} (hA : Fine 10000 A) (hB : Fine 10000 B) (hM : Mi n A B) {H' K' : GS} {r r' : Int} (eH : f_X8_toAll (mw A) = some (H', r)) (eK : f_X8_toAll (mw B) = some (K', r')) : r' = r ∧ (0 ≤ r → hrsN r.toNat (mw A) = some H' ∧ allIn (H' 10 0) = 1) := by
  have hg : gFuel = 3000 := rfl
  obtain ⟨H1, K1, y, j, x1, x2, x3, x4, x5, x6, x7⟩ := mi_toAllL (n := n) 500 0 10000 (mw A) (mw B) (by decide) (by decide) (by decide) (by rw [mw_A]; exact hA) (by rw [mw_A]; exact hB) (by rw [mw_A, mw_A]; exact hM)
  have aH := m_allIn x3.1
  have aK := m_allIn x4.1
  rw [mi_allIn x5] at aK
  unfold f_X8_toAll at eH eK
  rw [x1 gFuel _ (by omega), aH, bn1_some] at eH
  rw [x2 gFuel _ (by omega), aK, bn1_some] at eK
  have h01 : allIn (H1 10 0) = 0 ∨ allIn (H1 10 0) = 1 := by
    unfold allIn
    split
    · exact Or.inr rfl
    · exact Or.inl rfl
  rcases h01 with c | c
  · rw [c, gd_t (by decide), if_pos rfl] at eH eK
    obtain ⟨-, e1⟩ := some_pair eH
    obtain ⟨-, e2⟩ := some_pair eK
    exact ⟨by omega, fun z => by omega⟩
  · rw [c, gd_t (by decide), if_neg (by decide)] at eH eK
    obtain ⟨e0, e1⟩ := some_pair eH
    obtain ⟨-, e2⟩ := some_pair eK
    refine ⟨by omega, fun _ => ?_⟩
    have ej : r.toNat = j := by omega
    rw [ej, ← e0]
    exact ⟨x7, c⟩
/-- the hours of pass -/
theorem mi_passL {n p1 : Int} (hp : p1 ≤ 200) : ∀ (d : Nat) (i m : Int) (H K : GS), i + d = p1 → 0 ≤ i → m + d ≤ 20000 → Fine m (H 10 0) → Fine m (K 10 0) → Mi n (H 10 0) (K 10 0) → ∃ H' K' : GS, (∀ q x k, d < q → f_X8_pass_L51 p1 q H x i k = k H' x p1) ∧ (∀ q x k, d < q → f_X8_pass_L51 p1 q K x i k = k K' x p1) ∧ Fine (m + d) (H' 10 0) ∧ Mi n (H' 10 0) (K' 10 0) ∧ JP (H 10 0) (H' 10 0) ∧ H' 10 0 1 = H 10 0 1 + d ∧ hrsN d H = some H' ∧ (H 10 0 1 + d ≤ 600 → ∀ c, Bnd c (H 10 0) → Bnd (c + 31000 * d) (H' 10 0)) := by
  intro d
  induction d with
  | zero =>
    intro i m H K h1 h0 hm hH hK hM
    have e : i = p1 := by omega
    subst e
    refine ⟨H, K, fun q x k hq => ?_, fun q x k hq => ?_, Fine_m hH (by omega), hM, JP_rf, by omega, rfl, fun _ c h => Bnd_up h (by omega)⟩
    · obtain ⟨q, rfl⟩ : ∃ z, q = z + 1 := ⟨q - 1, by omega⟩
      rw [f_X8_pass_L51, gd_t ⟨by omega, by omega⟩, gd_t ⟨by omega, by omega⟩, if_neg (by omega)]
    · obtain ⟨q, rfl⟩ : ∃ z, q = z + 1 := ⟨q - 1, by omega⟩
      rw [f_X8_pass_L51, gd_t ⟨by omega, by omega⟩, gd_t ⟨by omega, by omega⟩, if_neg (by omega)]
  | succ d ih =>
    intro i m H K h1 h0 hm hH hK hM
    obtain ⟨H1, K1, x1, x2, x3, x4, x5, x6, x7, x8, -⟩ := mi_hour (by omega) hH hK hM
    obtain ⟨H', K', y1, y2, y3, y4, y5, y6, y7, y8⟩ := ih (i + 1) (m + 1) H1 K1 (by omega) (by omega) (by omega) x3 x4 x5
    refine ⟨H', K', fun q x k hq => ?_, fun q x k hq => ?_, Fine_m y3 (by omega), y4, JP_tr x6 y5, by rw [y6, x7]; omega, ?_, fun z c h => Bnd_up (y8 (by omega) _ (x8 (by omega) c h)) (by omega)⟩
    · obtain ⟨q, rfl⟩ : ∃ z, q = z + 1 := ⟨q - 1, by omega⟩
      rw [f_X8_pass_L51, gd_t ⟨by omega, by omega⟩, gd_t ⟨by omega, by omega⟩, if_pos (by omega), x1, bn1_some, y1 q x k (by omega)]
    · obtain ⟨q, rfl⟩ : ∃ z, q = z + 1 := ⟨q - 1, by omega⟩
      rw [f_X8_pass_L51, gd_t ⟨by omega, by omega⟩, gd_t ⟨by omega, by omega⟩, if_pos (by omega), x2, bn1_some, y2 q x k (by omega)]
    · rw [hrsN, x1, bn1_some, y7]
theorem mi_pass {n p1 : Int} {A B : Int → Int} (hA : Fine 10000 A) (hB : Fine 10000 B) (hM : Mi n A B) (hp : 1 ≤ p1 ∧ p1 ≤ 200) {H' K' : GS} (eH : ∀ q x k, p1.toNat < q → f_X8_pass_L51 p1 q (mw A) x 0 k = k H' x p1) (eK : ∀ q x k, p1.toNat < q → f_X8_pass_L51 p1 q (mw B) x 0 k = k K' x p1) : Mi n (H' 10 0) (K' 10 0) ∧ JP A (H' 10 0) ∧ H' 10 0 1 = A 1 + p1 ∧ hrsN p1.toNat (mw A) = some H' ∧ (A 1 + p1 ≤ 600 → ∀ c, Bnd c A → Bnd (c + 31000 * p1) (H' 10 0)) := by
  have hg : gFuel = 3000 := rfl
  obtain ⟨H1, K1, x1, x2, x3, x4, x5, x6, x7, x8⟩ := mi_passL (n := n) hp.2 p1.toNat 0 10000 (mw A) (mw B) (by omega) (by decide) (by omega) (by rw [mw_A]; exact hA) (by rw [mw_A]; exact hB) (by rw [mw_A, mw_A]; exact hM)
  have e1 : H' = H1 := by
    have a := eH gFuel 0 (fun G _ _ => some (G, 0)) (by omega)
    have b := x1 gFuel 0 (fun G _ _ => some (G, 0)) (by omega)
    exact (some_pair (a.symm.trans b)).1
  have e2 : K' = K1 := by
    have a := eK gFuel 0 (fun G _ _ => some (G, 0)) (by omega)
    have b := x2 gFuel 0 (fun G _ _ => some (G, 0)) (by omega)
    exact (some_pair (a.symm.trans b)).1
  subst e1 e2
  rw [mw_A] at x5 x6 x8
  exact ⟨x4, x5, by rw [x6]; omega, x7, fun z c h => Bnd_up (x8 (by omega) c h) (by omega)⟩

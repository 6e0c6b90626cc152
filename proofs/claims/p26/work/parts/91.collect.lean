/-! COLLECT -/
theorem gup_id (G : GS) (k : Nat) (o f : Int) : ∃ Ga, gup G k o f (G k o f) = Ga ∧ ∀ k' o' f', Ga k' o' f' = G k' o' f' := ⟨_, rfl, fun k' o' f' => by
  by_cases h : k' = k ∧ o' = o ∧ f' = f
  · obtain ⟨rfl, rfl, rfl⟩ := h
    exact gup_s
  · exact gup_n h⟩
theorem c_copy2s {G : GS} {p : Int} (h2 : G 2 p 2 = 0 ∨ G 2 p 2 = 1) : ∃ G', f_X2_copyFrom G p p = some G' ∧ ∀ k x f, G' k x f = G k x f := by
  obtain ⟨G0, e0, f0⟩ := gup_id G 2 p 0
  obtain ⟨G1, e1, f1⟩ := gup_id G0 2 p 1
  obtain ⟨G2, e2, f2⟩ := gup_id G1 2 p 2
  obtain ⟨G3, e3, f3⟩ := gup_id G2 2 p 3
  obtain ⟨G4, e4, f4⟩ := gup_id G3 2 p 4
  obtain ⟨G5, e5, f5⟩ := gup_id G4 2 p 5
  obtain ⟨G6, e6, f6⟩ := gup_id G5 2 p 6
  obtain ⟨G7, e7, f7⟩ := gup_id G6 2 p 7
  refine ⟨G7, ?_, fun k x f => by rw [f7, f6, f5, f4, f3, f2, f1, f0]⟩
  unfold f_X2_copyFrom
  rw [e0, e1, gb_t (by rw [f1, f0]; exact h2), e2, nm_eq, e3, e4, e5, nm_eq, e6, e7]
theorem c_copy2w {G : GS} {o p : Int} (h2 : G 2 p 2 = 0 ∨ G 2 p 2 = 1) : ∃ G', f_X2_copyFrom G o p = some G' ∧ (∀ k x f, ¬ (k = 2 ∧ x = o) → G' k x f = G k x f) ∧ ∀ f, 0 ≤ f → f < 8 → G' 2 o f = G 2 p f := by
  by_cases c : o = p
  · subst c
    obtain ⟨G', e, f⟩ := c_copy2s h2
    exact ⟨G', e, fun k x y _ => f k x y, fun y _ _ => f _ _ _⟩
  · exact c_copy2 c h2
/-- in the walk over the letters, at the letter i, kept ones before -/
def jC (A : Int → Int) (N kept i : Int) (G0 H0 G H : GS) : Prop := (0 ≤ kept ∧ kept ≤ i ∧ i ≤ N) ∧ (∀ k x f, ¬ (k = 10 ∧ x = 0) → H k x f = H0 k x f) ∧ (∀ k x f, ¬ (k = 6 ∧ 0 ≤ x ∧ x < 10 ∧ f = 6) → ¬ (k = 2 ∧ 0 ≤ x ∧ x < kept) → G k x f = G0 k x f) ∧ (∀ f, ¬ (164 ≤ f ∧ f < 164 + 8 * kept) → (∀ t, 0 ≤ t → t < 10 → f ≠ 54 + 11 * t + 4) → H 10 0 f = A f) ∧ (∀ t, 0 ≤ t → t < A 7 → G 6 (10 * 0 + t) 6 = H 10 0 (54 + 11 * t + 4)) ∧ (∀ j, 0 ≤ j → j < kept → ∃ l, j ≤ l ∧ l < i ∧ A (164 + 8 * l + 6) = -1 ∧ ∀ f, 0 ≤ f → f < 8 → H 10 0 (164 + 8 * j + f) = A (164 + 8 * l + f) ∧ G 2 (12 * 0 + j) f = A (164 + 8 * l + f)) ∧ (∀ j j', 0 ≤ j → j ≤ j' → j' < kept → H 10 0 (164 + 8 * j + 3) ≤ H 10 0 (164 + 8 * j' + 3)) ∧ (∀ j l, 0 ≤ j → j < kept → i ≤ l → l < N → H 10 0 (164 + 8 * j + 3) ≤ A (164 + 8 * l + 3)) ∧ (∀ j, 0 ≤ j → j < kept → H 10 0 (164 + 8 * j + 5) ≠ -1 → H 10 0 (54 + 11 * H 10 0 (164 + 8 * j + 5) + 4) = j) ∧ (∀ t, 0 ≤ t → t < A 7 → 0 < A (54 + 11 * t + 3) → A (54 + 11 * t + 5) = 0 → (i ≤ H 10 0 (54 + 11 * t + 4) ∧ H 10 0 (54 + 11 * t + 4) < N ∧ A (54 + 11 * t + 4) = H 10 0 (54 + 11 * t + 4)) ∨ ((0 ≤ H 10 0 (54 + 11 * t + 4) ∧ H 10 0 (54 + 11 * t + 4) < kept) ∧ H 10 0 (164 + 8 * H 10 0 (54 + 11 * t + 4) + 5) = t ∧ H 10 0 (164 + 8 * H 10 0 (54 + 11 * t + 4) + 4) = A (54 + 11 * t + 2) ∧ H 10 0 (164 + 8 * H 10 0 (54 + 11 * t + 4) + 6) = -1)) ∧ (∀ t, 0 ≤ t → t < A 7 → ¬ (0 < A (54 + 11 * t + 3) ∧ A (54 + 11 * t + 5) = 0) → H 10 0 (54 + 11 * t + 4) = A (54 + 11 * t + 4))
theorem m_row {K : GS} {a b : Int} (ha : 0 ≤ a ∧ a ≤ b) (hb : b < 12) : ∃ K', (∀ (many w : Int) (k : GS → Int → Int → Int → Int → Int → Option (GS × Int)), f_X8_collect_L40 gFuel K a many b w 0 k = k K' a many b w 8) ∧ (∀ k x f, ¬ (k = 10 ∧ x = 0 ∧ 164 + 8 * a ≤ f ∧ f < 164 + 8 * a + 8) → K' k x f = K k x f) ∧ ∀ f, 0 ≤ f → f < 8 → K' 10 0 (164 + 8 * a + f) = K 10 0 (164 + 8 * b + f) := by
  have main : ∀ (many w : Int), ∃ G', (∀ (n : Nat) (k : GS → Int → Int → Int → Int → Int → Option (GS × Int)), 8 < n → f_X8_collect_L40 n K a many b w 0 k = k G' a many b w ((8 : Nat) : Int)) ∧ (∀ k x f, ¬ (k = 10 ∧ x = 0 ∧ 164 + 8 * a ≤ f ∧ f < 164 + 8 * a + ((8 : Nat) : Int)) → G' k x f = K k x f) ∧ ∀ j : Int, 0 ≤ j → j < ((8 : Nat) : Int) → G' 10 0 (164 + 8 * a + j) = K 10 0 (164 + 8 * b + j) := fun many w =>
    arr_loop2 (α := GS × Int) (κ := GS → Int → Int → Int → Int → Int → Option (GS × Int)) (fun k G z => k G a many b w z) (fun n G i k => f_X8_collect_L40 n G a many b w i k) 8 0 (164 + 8 * a) (fun i => K 10 0 (164 + 8 * b + i)) K (fun G i z1 z2 hG n k => by
      rw [f_X8_collect_L40, gd_t ⟨by omega, by omega⟩, if_pos (by omega), m_letterAt, bn1_some, m_ofL ⟨by omega, by omega⟩, bn1_some, ga_t ⟨by omega, by omega⟩, hG 10 0 (164 + 8 * b + i) (by omega)]) (fun G hG n k => by
      rw [f_X8_collect_L40, gd_t (by decide), if_neg (by decide)])
  obtain ⟨K0, q1, q2, q3⟩ := main 0 0
  refine ⟨K0, fun many w k => ?_, q2, q3⟩
  obtain ⟨K1, p1, p2, p3⟩ := main many w
  have e : K1 = K0 := by
    funext k x f
    by_cases c : k = 10 ∧ x = 0 ∧ 164 + 8 * a ≤ f ∧ f < 164 + 8 * a + 8
    · obtain ⟨rfl, rfl, c1, c2⟩ := c
      have r1 := p3 (f - (164 + 8 * a)) (by omega) (by omega)
      have r2 := q3 (f - (164 + 8 * a)) (by omega) (by omega)
      rw [show 164 + 8 * a + (f - (164 + 8 * a)) = f by omega] at r1 r2
      rw [r1, r2]
    · rw [p2 _ _ _ (by omega), q2 _ _ _ (by omega)]
  rw [p1 gFuel k (by decide), e]
  rfl
set_option maxHeartbeats 2000000 in
theorem j_step {A : Int → Int} {N : Int} {G0 H0 : GS} (hA : A = H0 10 0) (hN : N = A 8) (hR : Rd G0 0 A) (hW : Wf 10000 A) : ∀ (d : Nat) (i kept : Int) (G H : GS), i + d = N → jC A N kept i G0 H0 G H → ∃ (G' H' : GS) (kept' : Int), (∀ n k, d < n → f_X3_takeDelivered_L4 0 n G kept i k = k G' kept' N) ∧ (∀ n k, d < n → f_X8_collect_L16 n H kept N i k = k H' kept' N N) ∧ jC A N kept' N G0 H0 G' H' := by
  have hWh := hW.1
  unfold WfH at hWh
  have r6 : G0 3 0 6 = A 8 := hR.1.2.2.1
  intro d
  induction d with
  | zero =>
    intro i kept G H hi hJ
    have e : i = N := by omega
    subst e
    have fG := hJ.2.2.1
    have g6 : G 3 0 6 = A 8 := by rw [fG _ _ _ (by omega) (by omega)]; exact r6
    refine ⟨G, H, kept, fun n k hn => ?_, fun n k hn => ?_, hJ⟩
    · obtain ⟨n, rfl⟩ : ∃ q, n = q + 1 := ⟨n - 1, by omega⟩
      rw [f_X3_takeDelivered_L4, gd_t ⟨by omega, by omega⟩, gd_t ⟨by omega, by omega⟩, if_neg (by omega)]
    · obtain ⟨n, rfl⟩ : ∃ q, n = q + 1 := ⟨n - 1, by omega⟩
      rw [f_X8_collect_L16, gd_t ⟨by omega, by omega⟩, gd_t ⟨by omega, by omega⟩, if_neg (by omega)]
  | succ d ih =>
    intro i kept G H hi hJ
    obtain ⟨jk, fH, fG, jA, jT, jL, jM, jM2, jX, jY, jZ⟩ := hJ
    have g6 : G 3 0 6 = A 8 := by rw [fG _ _ _ (by omega) (by omega)]; exact r6
    have rL := hR.2.2.2.2.1 i (by omega) (by omega)
    have wL := hW.2.2.2.2.1 i (by omega) (by omega)
    have wX := hW.2.2.2.2.2.1 i (by omega) (by omega)
    unfold RdL at rL
    unfold WfL at wL
    unfold WfX at wX
    have gi : ∀ f, 0 ≤ f → f < 8 → G 2 (12 * 0 + i) f = A (164 + 8 * i + f) := fun f z1 z2 => by
      rw [fG _ _ _ (by omega) (by omega)]
      rcases (show f = 0 ∨ f = 1 ∨ f = 2 ∨ f = 3 ∨ f = 4 ∨ f = 5 ∨ f = 6 ∨ f = 7 by omega) with rfl | rfl | rfl | rfl | rfl | rfl | rfl | rfl
      · exact rL.1
      · exact rL.2.1
      · exact rL.2.2.1
      · exact rL.2.2.2.1
      · exact rL.2.2.2.2.1
      · exact rL.2.2.2.2.2.1
      · exact rL.2.2.2.2.2.2.1
      · exact rL.2.2.2.2.2.2.2
    have hi8 : ∀ f, 0 ≤ f → f < 8 → H 10 0 (164 + 8 * i + f) = A (164 + 8 * i + f) := fun f z1 z2 => jA _ (by omega) (fun t z3 z4 => by omega)
    have yy : ∀ t, 0 ≤ t → t < A 7 → 0 < A (54 + 11 * t + 3) → A (54 + 11 * t + 5) = 0 → A (54 + 11 * t + 4) = i → A (164 + 8 * i + 5) = t ∧ A (164 + 8 * i + 4) = A (54 + 11 * t + 2) ∧ A (164 + 8 * i + 6) = -1 := fun t z1 z2 z3 z4 z5 => by
      have := hW.2.2.2.2.2.2.1 t z1 z2
      unfold WfY at this
      rw [← z5]
      exact this z3 z4
    have next : ∀ (kept1 : Int) (G1 H1 : GS), jC A N kept1 (i + 1) G0 H0 G1 H1 → (∀ n k, f_X3_takeDelivered_L4 0 (n + 1) G kept i k = f_X3_takeDelivered_L4 0 n G1 kept1 (i + 1) k) → (∀ n k, f_X8_collect_L16 (n + 1) H kept N i k = f_X8_collect_L16 n H1 kept1 N (i + 1) k) → ∃ (G' H' : GS) (kept' : Int), (∀ n k, d + 1 < n → f_X3_takeDelivered_L4 0 n G kept i k = k G' kept' N) ∧ (∀ n k, d + 1 < n → f_X8_collect_L16 n H kept N i k = k H' kept' N N) ∧ jC A N kept' N G0 H0 G' H' := by
      intro kept1 G1 H1 y1 y2 y3
      obtain ⟨G', H', kept', z1, z2, z3⟩ := ih (i + 1) kept1 G1 H1 (by omega) y1
      refine ⟨G', H', kept', fun n k hn => ?_, fun n k hn => ?_, z3⟩
      · obtain ⟨n, rfl⟩ : ∃ q, n = q + 1 := ⟨n - 1, by omega⟩
        rw [y2, z1 n k (by omega)]
      · obtain ⟨n, rfl⟩ : ∃ q, n = q + 1 := ⟨n - 1, by omega⟩
        rw [y3, z2 n k (by omega)]
    by_cases c6 : A (164 + 8 * i + 6) = -1
    · -- it stays
      obtain ⟨G1, a1, a2, a3⟩ := c_copy2w (G := G) (o := 12 * 0 + kept) (p := 12 * 0 + i) (by rw [gi 2 (by decide) (by decide)]; exact wL.2.1)
      obtain ⟨H1, b1, b2, b3⟩ := m_row (K := H) (a := kept) (b := i) (by omega) (by omega)
      have g1i : ∀ f, 0 ≤ f → f < 8 → G1 2 (12 * 0 + i) f = A (164 + 8 * i + f) := fun f z1 z2 => by
        by_cases c : kept = i
        · have := a3 f z1 z2
          rw [c] at this
          rw [this, gi f z1 z2]
        · rw [a2 _ _ _ (by omega), gi f z1 z2]
      have g1k : ∀ f, 0 ≤ f → f < 8 → G1 2 (12 * 0 + kept) f = A (164 + 8 * i + f) := fun f z1 z2 => by rw [a3 f z1 z2, gi f z1 z2]
      have h1k : ∀ f, 0 ≤ f → f < 8 → H1 10 0 (164 + 8 * kept + f) = A (164 + 8 * i + f) := fun f z1 z2 => by rw [b3 f z1 z2, hi8 f z1 z2]
      have h1j : ∀ j f, 0 ≤ j → j < kept → 0 ≤ f → f < 8 → H1 10 0 (164 + 8 * j + f) = H 10 0 (164 + 8 * j + f) := fun j f z1 z2 z3 z4 => b2 _ _ _ (by omega)
      have h1t : ∀ t f, 0 ≤ t → t < 10 → 0 ≤ f → f < 11 → H1 10 0 (54 + 11 * t + f) = H 10 0 (54 + 11 * t + f) := fun t f z1 z2 z3 z4 => b2 _ _ _ (by omega)
      have cls : ∀ n k, f_X3_takeDelivered_L4 0 (n + 1) G kept i k = (if A (164 + 8 * i + 5) = -1 then f_X3_takeDelivered_L4 0 n G1 (kept + 1) (i + 1) k else ga (A (164 + 8 * i + 5)) 10 (f_X3_takeDelivered_L4 0 n (gup G1 6 (10 * 0 + A (164 + 8 * i + 5)) 6 kept) (kept + 1) (i + 1) k)) := fun n k => by
        rw [f_X3_takeDelivered_L4]
        unfold f_X2_isDelivered f_X2_isOnStage
        rw [gd_t ⟨by omega, by omega⟩, gd_t ⟨by omega, by omega⟩, if_pos (by omega), ga_t ⟨by omega, by omega⟩, gi 6 (by decide) (by decide), gd_t ⟨by omega, by omega⟩, if_pos c6, bn1_some, gd_t (by decide), if_pos rfl, ga_t ⟨by omega, by omega⟩, a1, bn1_some, g1i 5 (by decide) (by decide), gd_t ⟨by omega, by omega⟩]
        by_cases c5 : A (164 + 8 * i + 5) = -1
        · rw [if_pos c5, if_pos c5, bn1_some, gd_t (by decide), if_pos rfl]
        · rw [if_neg c5, if_neg c5, bn1_some, gd_t (by decide), if_neg (by decide)]
      have mod : ∀ n k, f_X8_collect_L16 (n + 1) H kept N i k = (if A (164 + 8 * i + 5) = -1 then f_X8_collect_L16 n H1 (kept + 1) N (i + 1) k else f_X8_collect_L16 n (gup H1 10 0 (54 + 11 * A (164 + 8 * i + 5) + 4) kept) (kept + 1) N (i + 1) k) := fun n k => by
        rw [f_X8_collect_L16]
        unfold f_X8_isDelivered
        rw [gd_t ⟨by omega, by omega⟩, gd_t ⟨by omega, by omega⟩, if_pos (by omega), m_ofL ⟨by omega, by omega⟩, bn1_some, hi8 6 (by decide) (by decide), gd_t ⟨by omega, by omega⟩, if_pos c6, bn1_some, gd_t (by decide), if_pos rfl, m_ofL ⟨by omega, by omega⟩, bn1_some, hi8 5 (by decide) (by decide), b1, gd_t ⟨by omega, by omega⟩]
        by_cases c5 : A (164 + 8 * i + 5) = -1
        · rw [if_pos c5, if_pos c5]
        · rw [if_neg c5, if_neg c5, m_teamAt, bn1_some, ga_t ⟨by omega, by omega⟩]
      by_cases c5 : A (164 + 8 * i + 5) = -1
      · refine next (kept + 1) G1 H1 ⟨by omega, fun k x f z => ?_, fun k x f z1 z2 => ?_, fun f z1 z2 => ?_, fun t z1 z2 => ?_, fun j z1 z2 => ?_, fun j j' z1 z2 z3 => ?_, fun j l z1 z2 z3 z4 => ?_, fun j z1 z2 => ?_, fun t z1 z2 z3 z4 => ?_, fun t z1 z2 z3 => ?_⟩ (fun n k => by rw [cls, if_pos c5]) (fun n k => by rw [mod, if_pos c5])
        · rw [b2 _ _ _ (by omega)]; exact fH k x f z
        · rw [a2 _ _ _ (by omega)]; exact fG k x f z1 (by omega)
        · rw [b2 _ _ _ (by omega)]; exact jA f (by omega) z2
        · rw [a2 _ _ _ (by omega), h1t t 4 z1 (by omega) (by decide) (by decide)]; exact jT t z1 z2
        · by_cases cj : j = kept
          · subst cj
            exact ⟨i, by omega, by omega, c6, fun f y1 y2 => ⟨h1k f y1 y2, g1k f y1 y2⟩⟩
          · obtain ⟨l, y1, y2, y3, y4⟩ := jL j z1 (by omega)
            exact ⟨l, y1, by omega, y3, fun f y5 y6 => ⟨by rw [h1j j f z1 (by omega) y5 y6]; exact (y4 f y5 y6).1, by rw [a2 _ _ _ (by omega)]; exact (y4 f y5 y6).2⟩⟩
        · by_cases cj : j' = kept
          · subst cj
            rw [h1k 3 (by decide) (by decide)]
            by_cases cj2 : j = j'
            · rw [cj2, h1k 3 (by decide) (by decide)]; exact Int.le_refl _
            · rw [h1j j 3 z1 (by omega) (by decide) (by decide)]
              exact jM2 j i z1 (by omega) (by omega) (by omega)
          · rw [h1j j 3 z1 (by omega) (by decide) (by decide), h1j j' 3 (by omega) (by omega) (by decide) (by decide)]
            exact jM j j' z1 z2 (by omega)
        · by_cases cj : j = kept
          · subst cj
            rw [h1k 3 (by decide) (by decide)]
            exact hW.2.2.2.2.2.2.2 i l (by omega) (by omega) (by omega)
          · rw [h1j j 3 z1 (by omega) (by decide) (by decide)]
            exact jM2 j l z1 (by omega) (by omega) z4
        · by_cases cj : j = kept
          · subst cj
            rw [h1k 5 (by decide) (by decide)]
            exact fun z => absurd c5 z
          · rw [h1j j 5 z1 (by omega) (by decide) (by decide)]
            intro z
            obtain ⟨l, y1, y2, y3, y4⟩ := jL j z1 (by omega)
            have w := hW.2.2.2.2.1 l (by omega) (by omega)
            unfold WfL at w
            have y5 := (y4 5 (by decide) (by decide)).1
            rw [h1t _ 4 (by omega) (by omega) (by decide) (by decide)]
            exact jX j z1 (by omega) z
        · rw [h1t t 4 z1 (by omega) (by decide) (by decide)]
          rcases jY t z1 z2 z3 z4 with ⟨y1, y2, y3⟩ | ⟨y1, y2, y3, y4⟩
          · refine Or.inl ⟨?_, y2, y3⟩
            have : H 10 0 (54 + 11 * t + 4) ≠ i := fun q => by have := yy t z1 z2 z3 z4 (by omega); omega
            omega
          · refine Or.inr ⟨by omega, ?_, ?_, ?_⟩
            · rw [h1j _ 5 y1.1 y1.2 (by decide) (by decide)]; exact y2
            · rw [h1j _ 4 y1.1 y1.2 (by decide) (by decide)]; exact y3
            · rw [h1j _ 6 y1.1 y1.2 (by decide) (by decide)]; exact y4
        · rw [h1t t 4 z1 (by omega) (by decide) (by decide)]; exact jZ t z1 z2 z3
      · -- with a team
        obtain ⟨w, hw⟩ : ∃ w, w = A (164 + 8 * i + 5) := ⟨_, rfl⟩
        rw [← hw] at cls mod c5 wX wL
        have wX := wX c5
        have w7 : 0 ≤ w ∧ w < A 7 := by omega
        obtain ⟨G2, e2, f2, v2⟩ := gup_ex G1 6 (10 * 0 + w) 6 kept
        obtain ⟨H2, e3, f3, v3⟩ := gup_ex H1 10 0 (54 + 11 * w + 4) kept
        rw [e2] at cls
        rw [e3] at mod
        have h2k : ∀ f, 0 ≤ f → f < 8 → H2 10 0 (164 + 8 * kept + f) = A (164 + 8 * i + f) := fun f z1 z2 => by rw [f3 _ _ _ (by omega), h1k f z1 z2]
        have h2j : ∀ j f, 0 ≤ j → j < kept → 0 ≤ f → f < 8 → H2 10 0 (164 + 8 * j + f) = H 10 0 (164 + 8 * j + f) := fun j f z1 z2 z3 z4 => by rw [f3 _ _ _ (by omega), h1j j f z1 z2 z3 z4]
        have h2t : ∀ t, 0 ≤ t → t < 10 → t ≠ w → H2 10 0 (54 + 11 * t + 4) = H 10 0 (54 + 11 * t + 4) := fun t z1 z2 z3 => by rw [f3 _ _ _ (by omega), h1t t 4 z1 z2 (by decide) (by decide)]
        refine next (kept + 1) G2 H2 ⟨by omega, fun k x f z => ?_, fun k x f z1 z2 => ?_, fun f z1 z2 => ?_, fun t z1 z2 => ?_, fun j z1 z2 => ?_, fun j j' z1 z2 z3 => ?_, fun j l z1 z2 z3 z4 => ?_, fun j z1 z2 => ?_, fun t z1 z2 z3 z4 => ?_, fun t z1 z2 z3 => ?_⟩ (fun n k => by rw [cls, if_neg c5, ga_t ⟨by omega, by omega⟩]) (fun n k => by rw [mod, if_neg c5])
        · rw [f3 _ _ _ (by omega), b2 _ _ _ (by omega)]; exact fH k x f z
        · rw [f2 _ _ _ (by omega), a2 _ _ _ (by omega)]; exact fG k x f z1 (by omega)
        · have := z2 w (by omega) (by omega)
          rw [f3 _ _ _ (by omega), b2 _ _ _ (by omega)]; exact jA f (by omega) z2
        · by_cases ct : t = w
          · rw [ct, v2, v3]
          · rw [f2 _ _ _ (by omega), a2 _ _ _ (by omega), h2t t z1 (by omega) ct]; exact jT t z1 z2
        · by_cases cj : j = kept
          · subst cj
            exact ⟨i, by omega, by omega, c6, fun f y1 y2 => ⟨h2k f y1 y2, by rw [f2 _ _ _ (by omega)]; exact g1k f y1 y2⟩⟩
          · obtain ⟨l, y1, y2, y3, y4⟩ := jL j z1 (by omega)
            exact ⟨l, y1, by omega, y3, fun f y5 y6 => ⟨by rw [h2j j f z1 (by omega) y5 y6]; exact (y4 f y5 y6).1, by rw [f2 _ _ _ (by omega), a2 _ _ _ (by omega)]; exact (y4 f y5 y6).2⟩⟩
        · by_cases cj : j' = kept
          · subst cj
            rw [h2k 3 (by decide) (by decide)]
            by_cases cj2 : j = j'
            · rw [cj2, h2k 3 (by decide) (by decide)]; exact Int.le_refl _
            · rw [h2j j 3 z1 (by omega) (by decide) (by decide)]
              exact jM2 j i z1 (by omega) (by omega) (by omega)
          · rw [h2j j 3 z1 (by omega) (by decide) (by decide), h2j j' 3 (by omega) (by omega) (by decide) (by decide)]
            exact jM j j' z1 z2 (by omega)
        · by_cases cj : j = kept
          · subst cj
            rw [h2k 3 (by decide) (by decide)]
            exact hW.2.2.2.2.2.2.2 i l (by omega) (by omega) (by omega)
          · rw [h2j j 3 z1 (by omega) (by decide) (by decide)]
            exact jM2 j l z1 (by omega) (by omega) z4
        · by_cases cj : j = kept
          · subst cj
            rw [h2k 5 (by decide) (by decide), ← hw]
            exact fun _ => v3
          · rw [h2j j 5 z1 (by omega) (by decide) (by decide)]
            intro z
            obtain ⟨l, y1, y2, y3, y4⟩ := jL j z1 (by omega)
            have wl := hW.2.2.2.2.1 l (by omega) (by omega)
            have wx := hW.2.2.2.2.2.1 l (by omega) (by omega)
            unfold WfL at wl
            unfold WfX at wx
            have y5 := (y4 5 (by decide) (by decide)).1
            rw [y5] at z
            have wx := wx z
            have ne : H 10 0 (164 + 8 * j + 5) ≠ w := fun q => by
              rw [← y5, q] at wx
              omega
            rw [h2t _ (by omega) (by omega) ne]
            exact jX j z1 (by omega) (by rw [y5]; exact z)
        · by_cases ct : t = w
          · subst ct
            have y := yy t z1 z2 z3 z4 wX.2.2
            rw [v3]
            exact Or.inr ⟨by omega, by rw [h2k 5 (by decide) (by decide)]; exact y.1, by rw [h2k 4 (by decide) (by decide)]; exact y.2.1, by rw [h2k 6 (by decide) (by decide)]; exact y.2.2⟩
          · rw [h2t t z1 (by omega) ct]
            rcases jY t z1 z2 z3 z4 with ⟨y1, y2, y3⟩ | ⟨y1, y2, y3, y4⟩
            · refine Or.inl ⟨?_, y2, y3⟩
              have : H 10 0 (54 + 11 * t + 4) ≠ i := fun q => by have := yy t z1 z2 z3 z4 (by omega); omega
              omega
            · refine Or.inr ⟨by omega, ?_, ?_, ?_⟩
              · rw [h2j _ 5 y1.1 y1.2 (by decide) (by decide)]; exact y2
              · rw [h2j _ 4 y1.1 y1.2 (by decide) (by decide)]; exact y3
              · rw [h2j _ 6 y1.1 y1.2 (by decide) (by decide)]; exact y4
        · have ct : t ≠ w := fun q => z3 (by rw [q]; exact ⟨wX.1, wX.2.1⟩)
          rw [h2t t z1 (by omega) ct]; exact jZ t z1 z2 z3
    · -- it was delivered
      have nx : ∀ t, 0 ≤ t → t < A 7 → 0 < A (54 + 11 * t + 3) → A (54 + 11 * t + 5) = 0 → A (54 + 11 * t + 4) ≠ i := fun t z1 z2 z3 z4 q => c6 (yy t z1 z2 z3 z4 q).2.2
      refine next kept G H ⟨by omega, fH, fG, jA, jT, fun j z1 z2 => ?_, jM, fun j l z1 z2 z3 z4 => jM2 j l z1 z2 (by omega) z4, jX, fun t z1 z2 z3 z4 => ?_, jZ⟩ (fun n k => ?_) (fun n k => ?_)
      · obtain ⟨l, y1, y2, y3, y4⟩ := jL j z1 z2
        exact ⟨l, y1, by omega, y3, y4⟩
      · rcases jY t z1 z2 z3 z4 with ⟨y1, y2, y3⟩ | y
        · have := nx t z1 z2 z3 z4
          exact Or.inl ⟨by omega, y2, y3⟩
        · exact Or.inr y
      · rw [f_X3_takeDelivered_L4]
        unfold f_X2_isDelivered
        rw [gd_t ⟨by omega, by omega⟩, gd_t ⟨by omega, by omega⟩, if_pos (by omega), ga_t ⟨by omega, by omega⟩, gi 6 (by decide) (by decide), gd_t ⟨by omega, by omega⟩, if_neg c6, bn1_some, gd_t (by decide), if_neg (by decide)]
      · rw [f_X8_collect_L16]
        unfold f_X8_isDelivered
        rw [gd_t ⟨by omega, by omega⟩, gd_t ⟨by omega, by omega⟩, if_pos (by omega), m_ofL ⟨by omega, by omega⟩, bn1_some, hi8 6 (by decide) (by decide), gd_t ⟨by omega, by omega⟩, if_neg c6, bn1_some, gd_t (by decide), if_neg (by decide)]
theorem m_tail {N kept : Int} (hk : 0 ≤ kept) (hN : N ≤ 12) : ∀ (d : Nat) (i : Int) (H : GS), i + d = N → kept ≤ i → ∃ H', (∀ n k, d < n → f_X8_collect_L100 n H kept N i k = k H' kept N N) ∧ ∀ k x f, ¬ (k = 10 ∧ x = 0 ∧ 164 + 8 * kept ≤ f) → H' k x f = H k x f := by
  intro d
  induction d with
  | zero =>
    intro i H hi h0
    have e : i = N := by omega
    subst e
    refine ⟨H, fun n k hn => ?_, fun _ _ _ _ => rfl⟩
    obtain ⟨n, rfl⟩ : ∃ q, n = q + 1 := ⟨n - 1, by omega⟩
    rw [f_X8_collect_L100, gd_t ⟨by omega, by omega⟩, gd_t ⟨by omega, by omega⟩, if_neg (by omega)]
  | succ d ih =>
    intro i H hi h0
    obtain ⟨Ha, ea, fa, va⟩ := arr_loop2 (α := GS × Int) (κ := GS → Int → Int → Int → Int → Option (GS × Int)) (fun k G z => k G kept N i z) (fun n G j k => f_X8_collect_L108 n G kept N i j k) 8 0 (164 + 8 * i) (fun _ => 0) H (fun G j z1 z2 hG n k => by
      rw [f_X8_collect_L108, gd_t ⟨by omega, by omega⟩, if_pos (by omega), m_letterAt, bn1_some, ga_t ⟨by omega, by omega⟩]) (fun G hG n k => by
      rw [f_X8_collect_L108, gd_t (by decide), if_neg (by decide)])
    obtain ⟨H', b1, b2⟩ := ih (i + 1) Ha (by omega) (by omega)
    have hg : gFuel = 3000 := rfl
    refine ⟨H', fun n k hn => ?_, fun k x f z => by rw [b2 _ _ _ z, fa _ _ _ (by omega)]⟩
    obtain ⟨n, rfl⟩ : ∃ q, n = q + 1 := ⟨n - 1, by omega⟩
    rw [f_X8_collect_L100, gd_t ⟨by omega, by omega⟩, gd_t ⟨by omega, by omega⟩, if_pos (by omega)]
    refine (ea gFuel _ (by omega)).trans ?_
    exact b1 n k (by omega)
set_option maxHeartbeats 1000000 in
theorem collect_both {G H : GS} (hR : Rd G 0 (H 10 0)) (hW : Wf 10000 (H 10 0)) : ∃ G' H' r, f_X3_takeDelivered G 0 = some (G', r) ∧ f_X8_collect_L16 gFuel H 0 (H 10 0 8) 0 (fun G27 y1_26 y2_26 y3_26 => f_X8_collect_L100 gFuel G27 y1_26 y2_26 y1_26 (fun G39 y1_38 y2_38 y3_38 => bnd (f_X8_fine (gup G39 10 0 8 y1_38) (y2_38 - y1_38)) (fun G40 r41 => some (G40, r41)))) = some (gup H' 8 0 4 0, r) ∧ Rd G' 0 (H' 10 0) ∧ Wf 10000 (H' 10 0) ∧ frC 0 G G' ∧ (∀ k x f, ¬ (k = 10 ∧ x = 0) → H' k x f = H k x f) ∧ (0 ≤ r ∧ r ≤ 12) := by
  obtain ⟨A, hA⟩ : ∃ A, A = H 10 0 := ⟨_, rfl⟩
  rw [← hA] at hR hW
  have hWh := hW.1
  unfold WfH at hWh
  have h8 : H 10 0 8 = A 8 := by rw [hA]
  have J0 : jC A (A 8) 0 0 G H G H := by
    refine ⟨by omega, fun _ _ _ _ => rfl, fun _ _ _ _ _ => rfl, fun f _ _ => by rw [hA], fun t z1 z2 => ?_, fun j z1 z2 => by omega, fun j j' z1 z2 z3 => by omega, fun j l z1 z2 => by omega, fun j z1 z2 => by omega, fun t z1 z2 z3 z4 => Or.inl ?_, fun t z1 z2 z3 => by rw [hA]⟩
    · have r := hR.2.2.2.1 t z1 z2
      unfold RdT at r
      rw [r.2.2.2.2.1, hA]
    · have w := hW.2.2.2.1 t z1 z2
      unfold WfT at w
      rw [← hA]
      omega
  obtain ⟨G1, H1, kept, a1, a2, jk, fH, fG, jA, jT, jL, jM, jM2, jX, jY, jZ⟩ := j_step hA rfl hR hW (A 8).toNat 0 0 G H (by omega) J0
  obtain ⟨H2, b1, b2⟩ := m_tail (N := A 8) (kept := kept) (by omega) (by omega) (A 8 - kept).toNat kept H1 (by omega) (by omega)
  obtain ⟨H3, e3, f3, v3⟩ := gup_ex H2 10 0 8 kept
  obtain ⟨G2, e2, f2, v2⟩ := gup_ex G1 3 0 6 kept
  have g6 : G1 3 0 6 = A 8 := by rw [fG _ _ _ (by omega) (by omega)]; exact hR.1.2.2.1
  have lo : ∀ f, f ≠ 8 → f < 164 + 8 * kept → H3 10 0 f = H1 10 0 f := fun f z1 z2 => by rw [f3 _ _ _ (by omega), b2 _ _ _ (by omega)]
  have sm : ∀ f, f ≠ 8 → f < 54 → H3 10 0 f = A f := fun f z1 z2 => by rw [lo f z1 (by omega)]; exact jA f (by omega) (fun t y1 y2 => by omega)
  have tm : ∀ t f, 0 ≤ t → t < A 7 → 0 ≤ f → f < 11 → f ≠ 4 → H3 10 0 (54 + 11 * t + f) = A (54 + 11 * t + f) := fun t f z1 z2 z3 z4 z5 => by rw [lo _ (by omega) (by omega)]; exact jA _ (by omega) (fun t y1 y2 => by omega)
  have t4 : ∀ t, 0 ≤ t → t < A 7 → H3 10 0 (54 + 11 * t + 4) = H1 10 0 (54 + 11 * t + 4) := fun t z1 z2 => lo _ (by omega) (by omega)
  have lt : ∀ j f, 0 ≤ j → j < kept → 0 ≤ f → f < 8 → H3 10 0 (164 + 8 * j + f) = H1 10 0 (164 + 8 * j + f) := fun j f z1 z2 z3 z4 => lo _ (by omega) (by omega)
  have s0 := sm 0 (by decide) (by decide)
  have s1 := sm 1 (by decide) (by decide)
  have s7 := sm 7 (by decide) (by decide)
  have frG : ∀ k x f, ¬ (k = 6 ∧ 0 ≤ x ∧ x < 10 ∧ f = 6) → ¬ (k = 2 ∧ 0 ≤ x ∧ x < kept) → ¬ (k = 3 ∧ x = 0 ∧ f = 6) → G2 k x f = G k x f := fun k x f z1 z2 z3 => by rw [f2 _ _ _ z3, fG _ _ _ z1 z2]
  have hg : gFuel = 3000 := rfl
  refine ⟨G2, H3, A 8 - kept, ?_, ?_, ⟨?_, fun s z1 z2 => ?_, fun n z1 z2 => ?_, fun t z1 z2 => ?_, fun l z1 z2 => ?_, fun s z1 z2 => ?_, fun n z1 z2 => ?_⟩, ⟨?_, fun s z1 z2 => ?_, fun n z1 z2 => ?_, fun t z1 z2 => ?_, fun l z1 z2 => ?_, fun l z1 z2 => ?_, fun t z1 z2 => ?_, fun l l' z1 z2 z3 => ?_⟩, fun k x f z => ?_, fun k x f z => ?_, by omega⟩
  · unfold f_X3_takeDelivered
    rw [a1 gFuel _ (by omega), e2, g6]
  · rw [h8, a2 gFuel _ (by omega), b1 gFuel _ (by omega), e3, m_fine]
  · have r := hR.1
    unfold RdH at r ⊢
    rw [v2, v3, s0, s1, s7, sm 2 (by decide) (by decide), sm 3 (by decide) (by decide), sm 4 (by decide) (by decide), sm 5 (by decide) (by decide), sm 6 (by decide) (by decide), frG 3 0 4 (by omega) (by omega) (by omega), frG 3 0 5 (by omega) (by omega) (by omega), frG 3 0 7 (by omega) (by omega) (by omega), frG 3 0 8 (by omega) (by omega) (by omega), frG 3 0 9 (by omega) (by omega) (by omega), frG 3 0 10 (by omega) (by omega) (by omega), frG 3 0 11 (by omega) (by omega) (by omega), frG 3 0 12 (by omega) (by omega) (by omega)]
    exact ⟨r.1, r.2.1, rfl, r.2.2.2⟩
  · rw [s0] at z2
    exact RdS_c (hR.2.1 s z1 z2) (fun f => frG _ _ _ (by omega) (by omega) (by omega)) ⟨sm _ (by omega) (by omega), sm _ (by omega) (by omega), sm _ (by omega) (by omega)⟩
  · rw [s0] at z2
    exact RdN_c (hR.2.2.1 n z1 z2) (fun f => frG _ _ _ (by omega) (by omega) (by omega)) ⟨sm _ (by omega) (by omega), sm _ (by omega) (by omega), sm _ (by omega) (by omega)⟩
  · rw [s7] at z2
    have r := hR.2.2.2.1 t z1 z2
    unfold RdT at r ⊢
    have g : ∀ f, f ≠ 6 → G2 6 (10 * 0 + t) f = G 6 (10 * 0 + t) f := fun f y => frG _ _ _ (by omega) (by omega) (by omega)
    rw [g 0 (by decide), g 1 (by decide), g 2 (by decide), g 3 (by decide), g 4 (by decide), g 5 (by decide), g 7 (by decide), g 8 (by decide), g 9 (by decide), g 10 (by decide), g 11 (by decide), tm t 0 z1 z2 (by decide) (by decide) (by decide), tm t 1 z1 z2 (by decide) (by decide) (by decide), tm t 2 z1 z2 (by decide) (by decide) (by decide), tm t 3 z1 z2 (by decide) (by decide) (by decide), tm t 5 z1 z2 (by decide) (by decide) (by decide), tm t 6 z1 z2 (by decide) (by decide) (by decide), tm t 7 z1 z2 (by decide) (by decide) (by decide), tm t 8 z1 z2 (by decide) (by decide) (by decide), tm t 9 z1 z2 (by decide) (by decide) (by decide), tm t 10 z1 z2 (by decide) (by decide) (by decide)]
    exact ⟨r.1, r.2.1, r.2.2.1, r.2.2.2.1, by rw [f2 _ _ _ (by omega), t4 t z1 z2]; exact jT t z1 z2, r.2.2.2.2.2⟩
  · rw [v3] at z2
    obtain ⟨l0, y1, y2, y3, y4⟩ := jL l z1 z2
    have e : ∀ f, 0 ≤ f → f < 8 → G2 2 (12 * 0 + l) f = H3 10 0 (164 + 8 * l + f) := fun f w1 w2 => by
      rw [f2 _ _ _ (by omega), lt l f z1 z2 w1 w2, (y4 f w1 w2).1, (y4 f w1 w2).2]
    exact ⟨e 0 (by decide) (by decide), e 1 (by decide) (by decide), e 2 (by decide) (by decide), e 3 (by decide) (by decide), e 4 (by decide) (by decide), e 5 (by decide) (by decide), e 6 (by decide) (by decide), e 7 (by decide) (by decide)⟩
  · rw [frG _ _ _ (by omega) (by omega) (by omega)]; exact hR.2.2.2.2.2.1 s z1 z2
  · rw [frG _ _ _ (by omega) (by omega) (by omega)]; exact hR.2.2.2.2.2.2 n z1 z2
  · unfold WfH
    rw [v3, s0, s1, s7]
    omega
  · rw [s0] at z2
    have r := hW.2.1 s z1 z2
    unfold WfS at r ⊢
    rw [sm _ (by omega) (by omega), sm _ (by omega) (by omega), sm _ (by omega) (by omega)]
    exact r
  · rw [s0] at z2
    have r := hW.2.2.1 n z1 z2
    unfold WfN at r ⊢
    rw [sm _ (by omega) (by omega), sm _ (by omega) (by omega), sm _ (by omega) (by omega)]
    exact r
  · rw [s7] at z2
    have r := hW.2.2.2.1 t z1 z2
    unfold WfT at r ⊢
    have y := jY t z1 z2
    have zz := jZ t z1 z2
    rw [t4 t z1 z2, v3, s0, tm t 0 z1 z2 (by decide) (by decide) (by decide), tm t 1 z1 z2 (by decide) (by decide) (by decide), tm t 2 z1 z2 (by decide) (by decide) (by decide), tm t 3 z1 z2 (by decide) (by decide) (by decide), tm t 5 z1 z2 (by decide) (by decide) (by decide), tm t 10 z1 z2 (by decide) (by decide) (by decide)]
    obtain ⟨q1, q2, q3, q4, q5, q6⟩ := r
    refine ⟨q1, q2, q3, q4, fun z => ⟨?_, (q5 z).2⟩, fun z => ⟨(q6 z).1, (q6 z).2.1, ?_⟩⟩
    · rw [zz (fun w => by omega)]; exact (q5 z).1
    · rcases (q6 z).2.2 with ⟨u1, u2⟩ | ⟨u1, u2⟩
      · rcases y z u1 with w | w
        · omega
        · exact Or.inl ⟨u1, w.1⟩
      · exact Or.inr ⟨u1, by rw [zz (fun w => by omega)]; exact u2⟩
  · rw [v3] at z2
    obtain ⟨l0, y1, y2, y3, y4⟩ := jL l z1 z2
    have e : ∀ f, 0 ≤ f → f < 8 → H3 10 0 (164 + 8 * l + f) = A (164 + 8 * l0 + f) := fun f w1 w2 => by
      rw [lt l f z1 z2 w1 w2, (y4 f w1 w2).1]
    have r := hW.2.2.2.2.1 l0 (by omega) (by omega)
    unfold WfL at r ⊢
    rw [e 1 (by decide) (by decide), e 2 (by decide) (by decide), e 3 (by decide) (by decide), e 4 (by decide) (by decide), e 5 (by decide) (by decide), e 6 (by decide) (by decide), s0, s1, s7]
    exact r
  · rw [v3] at z2
    obtain ⟨l0, y1, y2, y3, y4⟩ := jL l z1 z2
    have e5 : H1 10 0 (164 + 8 * l + 5) = A (164 + 8 * l0 + 5) := (y4 5 (by decide) (by decide)).1
    have w := hW.2.2.2.2.1 l0 (by omega) (by omega)
    have x := hW.2.2.2.2.2.1 l0 (by omega) (by omega)
    unfold WfL at w
    unfold WfX at x ⊢
    rw [lt l 5 z1 z2 (by decide) (by decide)]
    intro z
    have q := jX l z1 z2 z
    rw [e5] at z q ⊢
    have x := x z
    rw [tm _ 3 (by omega) (by omega) (by decide) (by decide) (by decide), tm _ 5 (by omega) (by omega) (by decide) (by decide) (by decide), t4 _ (by omega) (by omega)]
    exact ⟨x.1, x.2.1, q⟩
  · rw [s7] at z2
    unfold WfY
    rw [tm t 3 z1 z2 (by decide) (by decide) (by decide), tm t 5 z1 z2 (by decide) (by decide) (by decide), tm t 2 z1 z2 (by decide) (by decide) (by decide), t4 t z1 z2]
    intro y1 y2
    rcases jY t z1 z2 y1 y2 with w | ⟨w1, w2, w3, w4⟩
    · omega
    · rw [lt _ 5 w1.1 w1.2 (by decide) (by decide), lt _ 4 w1.1 w1.2 (by decide) (by decide), lt _ 6 w1.1 w1.2 (by decide) (by decide)]
      exact ⟨w2, w3, w4⟩
  · rw [v3] at z3
    rw [lt l 3 z1 (by omega) (by decide) (by decide), lt l' 3 (by omega) z3 (by decide) (by decide)]
    exact jM l l' z1 z2 z3
  · unfold ofR at z
    exact frG _ _ _ (by omega) (by omega) (by omega)
  · rw [f3 _ _ _ (by omega), b2 _ _ _ (by omega), fH _ _ _ z]
theorem op_collect {G : GS} (hI : Inv G) : ∃ G2, lwU (f_X7_collect G) (fun G1 => f_X8_collect G1) = some G2 ∧ Inv G2 := by
  obtain ⟨A, S, c, len, T, i1, i2, i3⟩ := id hI
  obtain ⟨G7, a1, a2, a3⟩ := c_save i1 i3
  have hp := IP_save i3
  obtain ⟨G9, Hx, r, b1, -, -, -, b5, -, hr⟩ := collect_both (G := G7) (H := G) (Rd_fr a2.1 i3.1.1 i2.1 (fun _ _ _ _ => rfl)) (Wf_ext i3.1 i2.1)
  have iM : IM G9 A S c len T := IM_fr i2 (fun k x f z => by rw [b5 _ _ _ (by unfold ofR; omega), frS_K a3 (by omega)])
  obtain ⟨H7, d1, d2, d3⟩ := m_save iM i3
  obtain ⟨G8, H9, r2, e1, e2, e3, e4, -, e6, -⟩ := collect_both (G := G7) (H := H7) (Rd_fr a2.1 i3.1.1 d2.1 (fun _ _ _ _ => rfl)) (Wf_ext i3.1 d2.1)
  obtain ⟨eG, er⟩ := some_pair (e1.symm.trans b1)
  subst eG er
  have ic : IC G8 (H9 10 0) (psh A S c) (pc c) len T := IC_A a2 hp e3 (fun k x f z _ _ _ _ => b5 k x f z)
  refine ⟨gup H9 8 0 4 0, turnU (a := r2) (G1 := G8) ?_ ?_ ⟨by omega, by omega⟩, H9 10 0, psh A S c, pc c, len, T, IC_fr ic ⟨e4, hp.2⟩ (fun k x f z1 z2 z3 z4 z5 z6 => ?_), IM_A d2 (fun f z1 z2 => gup_k (by decide)) (fun k x f z => ?_), ⟨e4, hp.2⟩⟩
  · unfold f_X7_collect
    rw [a1, bn1_some, b1, bnd_some]
  · unfold f_X8_collect
    rw [d1, bn1_some]
    exact e2
  · rw [gup_n (by omega), e6 _ _ _ (by omega), d3 _ _ _ (by omega) (by omega)]
  · rw [gup_n (by omega), e6 _ _ _ (by omega)]

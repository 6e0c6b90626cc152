/-! A TEAM ADDED, A LETTER GIVEN -/
def adA (A : Int → Int) (t p1 p2 : Int) : Int → Int := fun f => if f = 7 then t + 1 else if f = 54 + 11 * t + 0 then p1 else if f = 54 + 11 * t + 1 then p2 else if f = 54 + 11 * t + 2 then p1 else if f = 54 + 11 * t + 4 then -1 else if 54 + 11 * t ≤ f ∧ f < 54 + 11 * t + 11 then 0 else A f
theorem adA_n {A : Int → Int} {t p1 p2 f : Int} (h7 : f ≠ 7) (h : ¬ (54 + 11 * t ≤ f ∧ f < 54 + 11 * t + 11)) : adA A t p1 p2 f = A f := by
  unfold adA
  rw [if_neg (by omega), if_neg (by omega), if_neg (by omega), if_neg (by omega), if_neg (by omega), if_neg (by omega)]
theorem adA_r {A : Int → Int} {t p1 p2 : Int} (h : 0 ≤ t) : adA A t p1 p2 7 = t + 1 ∧ (adA A t p1 p2 (54 + 11 * t + 0) = p1 ∧ adA A t p1 p2 (54 + 11 * t + 1) = p2 ∧ adA A t p1 p2 (54 + 11 * t + 2) = p1 ∧ adA A t p1 p2 (54 + 11 * t + 3) = 0 ∧ adA A t p1 p2 (54 + 11 * t + 4) = -1 ∧ adA A t p1 p2 (54 + 11 * t + 5) = 0 ∧ adA A t p1 p2 (54 + 11 * t + 6) = 0 ∧ adA A t p1 p2 (54 + 11 * t + 7) = 0 ∧ adA A t p1 p2 (54 + 11 * t + 8) = 0 ∧ adA A t p1 p2 (54 + 11 * t + 9) = 0) ∧ adA A t p1 p2 (54 + 11 * t + 10) = 0 := by
  unfold adA
  refine ⟨if_pos rfl, ⟨?_, ?_, ?_, ?_, ?_, ?_, ?_, ?_, ?_, ?_⟩, ?_⟩
  · rw [if_neg (by omega), if_pos rfl]
  · rw [if_neg (by omega), if_neg (by omega), if_pos rfl]
  · rw [if_neg (by omega), if_neg (by omega), if_neg (by omega), if_pos rfl]
  · rw [if_neg (by omega), if_neg (by omega), if_neg (by omega), if_neg (by omega), if_neg (by omega), if_pos (by omega)]
  · rw [if_neg (by omega), if_neg (by omega), if_neg (by omega), if_neg (by omega), if_pos rfl]
  · rw [if_neg (by omega), if_neg (by omega), if_neg (by omega), if_neg (by omega), if_neg (by omega), if_pos (by omega)]
  · rw [if_neg (by omega), if_neg (by omega), if_neg (by omega), if_neg (by omega), if_neg (by omega), if_pos (by omega)]
  · rw [if_neg (by omega), if_neg (by omega), if_neg (by omega), if_neg (by omega), if_neg (by omega), if_pos (by omega)]
  · rw [if_neg (by omega), if_neg (by omega), if_neg (by omega), if_neg (by omega), if_neg (by omega), if_pos (by omega)]
  · rw [if_neg (by omega), if_neg (by omega), if_neg (by omega), if_neg (by omega), if_neg (by omega), if_pos (by omega)]
  · rw [if_neg (by omega), if_neg (by omega), if_neg (by omega), if_neg (by omega), if_neg (by omega), if_pos (by omega)]
theorem op_addTeam {G : GS} {p1 p2 : Int} (hI : Inv G) (h1 : inR p1) (h2 : inR p2) : ∃ G2, lwT (f_L_addTeam G p1 p2) (fun G1 => f_X8_addTeam G1 p1 p2) = some G2 ∧ Inv G2 := by
  obtain ⟨A, S, c, len, T, i1, i2, i3⟩ := id hI
  have hWh := i3.1.1
  unfold WfH at hWh
  have r4 : G 3 0 4 = A 0 := i1.1.1.1
  have r5 : G 3 0 5 = A 7 := i1.1.1.2.1
  have q0 : ∀ H : GS, (∀ f, 0 ≤ f → f < 260 → H 10 0 f = A f) → H 10 0 0 = A 0 ∧ H 10 0 7 = A 7 := fun H h => ⟨h 0 (by decide) (by decide), h 7 (by decide) (by decide)⟩
  have g0 := q0 G i2.1
  by_cases c1 : 0 ≤ p1 ∧ p1 < A 0
  · by_cases c2 : 0 ≤ p2 ∧ p2 ≤ 100
    · by_cases c3 : A 7 < 10
      · obtain ⟨t, ht⟩ : ∃ t, A 7 = t := ⟨_, rfl⟩
        rw [ht] at c3 hWh
        obtain ⟨a7, ar, a10⟩ := adA_r (A := A) (t := t) (p1 := p1) (p2 := p2) (by omega)
        obtain ⟨Gd, ed, fd, d5, dr⟩ := c_place (G := G) (o := 0) (t := t) (p1 := p1) (p2 := p2) (by omega) (by omega)
        obtain ⟨-, hW'⟩ := keep_add i1.1 i3.1 ht c3 c1 c2 fd d5 dr (fun f z1 z2 => adA_n z1 z2) a7 ar
        refine fin_save (r := t) (A' := adA A t p1 p2) i1 i2 i3 hW' (fun G7 s1 s2 => ?_) (fun H H7 s1 s2 s3 => ?_)
        · have r7 : G7 3 0 5 = A 7 := s2.1.2.1
          obtain ⟨G9, e9, f9, d5, dr⟩ := c_place (G := G7) (o := 0) (t := t) (p1 := p1) (p2 := p2) (by omega) (by omega)
          refine ⟨G9, ?_, (keep_add s2 i3.1 ht c3 c1 c2 f9 d5 dr (fun f z1 z2 => adA_n z1 z2) a7 ar).1, fun k x f z => by unfold ofR at z; exact f9 _ _ _ (by omega) (by omega)⟩
          unfold f_L_addTeam f_X7_addTeam
          rw [r4, c_num h1 ⟨by omega, by omega⟩, bn1_some, if_pos c1, if_pos rfl, c_rng h2 (by decide) (by decide), bn1_some, if_pos c2, if_pos rfl, r5, c_room ⟨by omega, by omega⟩ (by decide), bn1_some, if_pos (show A 7 < 10 by omega), if_pos rfl, s1, bn1_some, e9, bnd_some, lwB_some, if_pos rfl]
        · have h0 := q0 H s2
          have h7 := q0 H7 s3
          obtain ⟨H9, e9, f9, a9, b7, b0, b1, b2, b3, b4, b5, b6, b8, b9, b10, b11⟩ := m_adds (H := H7) (t := t) (p1 := p1) (p2 := p2) (by omega) (by omega)
          refine ⟨H9, ?_, fun f z1 z2 => ?_, f9⟩
          · unfold f_X8_addTeam
            rw [m_isInn h1 (by omega), bn1_some, if_pos (by omega), gd_t (by decide), if_neg (by decide), m_inB h2 (by decide) (by decide), bn1_some, if_pos c2, gd_t (by decide), if_neg (by decide), gd_t ⟨by omega, by omega⟩, if_neg (by omega), s1, bn1_some, e9, bn1_some, b7, m_fine]
            exact congrArg (fun z => some (gup H9 8 0 4 0, z)) (by omega)
          · by_cases z7 : f = 7
            · rw [z7, b7, a7]
            · by_cases zr : 54 + 11 * t ≤ f ∧ f < 54 + 11 * t + 11
              · obtain ⟨x0, x1, x2, x3, x4, x5, x6, x7, x8, x9⟩ := ar
                rcases (show f = 54 + 11 * t + 0 ∨ f = 54 + 11 * t + 1 ∨ f = 54 + 11 * t + 2 ∨ f = 54 + 11 * t + 3 ∨ f = 54 + 11 * t + 4 ∨ f = 54 + 11 * t + 5 ∨ f = 54 + 11 * t + 6 ∨ f = 54 + 11 * t + 7 ∨ f = 54 + 11 * t + 8 ∨ f = 54 + 11 * t + 9 ∨ f = 54 + 11 * t + 10 by omega) with rfl | rfl | rfl | rfl | rfl | rfl | rfl | rfl | rfl | rfl | rfl
                · rw [b0, x0]
                · rw [b1, x1]
                · rw [b2, x2]
                · rw [b3, x3]
                · rw [b4, x4]
                · rw [b5, x5]
                · rw [b6, x6]
                · rw [b8, x7]
                · rw [b9, x8]
                · rw [b10, x9]
                · rw [b11, a10]
              · rw [a9 f z7 zr, adA_n z7 zr, s3 f z1 z2]
      · refine fin_throw (k := 3) hI ?_ ?_ (by decide)
        · unfold f_L_addTeam f_X7_addTeam
          rw [r4, c_num h1 ⟨by omega, by omega⟩, bn1_some, if_pos c1, if_pos rfl, c_rng h2 (by decide) (by decide), bn1_some, if_pos c2, if_pos rfl, r5, c_room ⟨by omega, by omega⟩ (by decide), bn1_some, if_neg c3, if_neg (by decide), lwB_some, if_neg (by decide), if_neg (by decide), if_neg (by decide), if_pos rfl]
        · unfold f_X8_addTeam
          rw [m_isInn h1 (by omega), bn1_some, if_pos (by omega), gd_t (by decide), if_neg (by decide), m_inB h2 (by decide) (by decide), bn1_some, if_pos c2, gd_t (by decide), if_neg (by decide), gd_t ⟨by omega, by omega⟩, if_pos (by omega), m_throw]
    · refine fin_throw (k := 2) hI ?_ ?_ (by decide)
      · unfold f_L_addTeam f_X7_addTeam
        rw [r4, c_num h1 ⟨by omega, by omega⟩, bn1_some, if_pos c1, if_pos rfl, c_rng h2 (by decide) (by decide), bn1_some, if_neg c2, if_neg (by decide), lwB_some, if_neg (by decide), if_neg (by decide), if_pos rfl]
      · unfold f_X8_addTeam
        rw [m_isInn h1 (by omega), bn1_some, if_pos (by omega), gd_t (by decide), if_neg (by decide), m_inB h2 (by decide) (by decide), bn1_some, if_neg c2, gd_t (by decide), if_pos rfl, m_throw]
  · refine fin_throw (k := 1) hI ?_ ?_ (by decide)
    · unfold f_L_addTeam f_X7_addTeam
      rw [r4, c_num h1 ⟨by omega, by omega⟩, bn1_some, if_neg c1, if_neg (by decide), lwB_some, if_neg (by decide), if_pos rfl]
    · unfold f_X8_addTeam
      rw [m_isInn h1 (by omega), bn1_some, if_neg (by omega), gd_t (by decide), if_pos rfl, m_throw]
theorem keep_give {G G' : GS} {o m l p1 p2 p3 : Int} {A A' : Int → Int} (hR : Rd G o A) (hW : Wf m A) (hl : A 8 = l) (h8 : l < 12) (y1 : 0 ≤ p1 ∧ p1 < A 0) (y2 : 0 ≤ p2 ∧ p2 < A 0) (y3 : p1 ≠ p2) (y4 : p3 = 0 ∨ p3 = 1)
    (hG : ∀ k x f, ¬ (k = 2 ∧ x = 12 * o + l) → ¬ (k = 3 ∧ x = o ∧ f = 6) → G' k x f = G k x f) (g6 : G' 3 o 6 = l + 1) (g : G' 2 (12 * o + l) 0 = p1 ∧ G' 2 (12 * o + l) 1 = p2 ∧ G' 2 (12 * o + l) 2 = p3 ∧ G' 2 (12 * o + l) 3 = A 1 ∧ G' 2 (12 * o + l) 4 = p1 ∧ G' 2 (12 * o + l) 5 = -1 ∧ G' 2 (12 * o + l) 6 = -1 ∧ G' 2 (12 * o + l) 7 = 0)
    (hA : ∀ f, f ≠ 8 → ¬ (164 + 8 * l ≤ f ∧ f < 164 + 8 * l + 8) → A' f = A f) (a8 : A' 8 = l + 1) (a : A' (164 + 8 * l + 0) = p1 ∧ A' (164 + 8 * l + 1) = p2 ∧ A' (164 + 8 * l + 2) = p3 ∧ A' (164 + 8 * l + 3) = A 1 ∧ A' (164 + 8 * l + 4) = p1 ∧ A' (164 + 8 * l + 5) = -1 ∧ A' (164 + 8 * l + 6) = -1 ∧ A' (164 + 8 * l + 7) = 0) : Rd G' o A' ∧ Wf m A' := by
  have hWh := hW.1
  unfold WfH at hWh
  obtain ⟨g0, g1, g2, g3, g4, g5, g7, g8⟩ := g
  obtain ⟨a0, a1, a2, a3, a4, a5, a6, a7⟩ := a
  have e0 : A' 0 = A 0 := hA 0 (by omega) (by omega)
  have e1 : A' 1 = A 1 := hA 1 (by omega) (by omega)
  have e7 : A' 7 = A 7 := hA 7 (by omega) (by omega)
  have aL : ∀ x f, 0 ≤ x → x ≠ l → 0 ≤ f → f < 8 → A' (164 + 8 * x + f) = A (164 + 8 * x + f) := fun x f h2 h3 h4 h5 => hA _ (by omega) (by omega)
  have aT : ∀ u f, 0 ≤ u → u < 10 → 0 ≤ f → f < 11 → A' (54 + 11 * u + f) = A (54 + 11 * u + f) := fun u f h2 h3 h4 h5 => hA _ (by omega) (by omega)
  constructor
  · obtain ⟨r1, r2, r3, r4, r5, r6, r7⟩ := hR
    refine ⟨?_, fun s h1 h2 => ?_, fun n h1 h2 => ?_, fun u h1 h2 => ?_, fun x h1 h2 => ?_, fun s h1 h2 => ?_, fun n h1 h2 => ?_⟩
    · unfold RdH at r1 ⊢
      rw [g6, a8, e0, e7, e1, hG 3 o 4 (by omega) (by omega), hG 3 o 5 (by omega) (by omega), hG 3 o 7 (by omega) (by omega), hG 3 o 8 (by omega) (by omega), hG 3 o 9 (by omega) (by omega), hG 3 o 10 (by omega) (by omega), hG 3 o 11 (by omega) (by omega), hG 3 o 12 (by omega) (by omega), hA 2 (by omega) (by omega), hA 3 (by omega) (by omega), hA 4 (by omega) (by omega), hA 5 (by omega) (by omega), hA 6 (by omega) (by omega)]
      exact ⟨r1.1, r1.2.1, rfl, r1.2.2.2⟩
    · exact RdS_c (r2 s h1 (by omega)) (fun f => hG _ _ _ (by omega) (by omega)) ⟨hA _ (by omega) (by omega), hA _ (by omega) (by omega), hA _ (by omega) (by omega)⟩
    · exact RdN_c (r3 n h1 (by omega)) (fun f => hG _ _ _ (by omega) (by omega)) ⟨hA _ (by omega) (by omega), hA _ (by omega) (by omega), hA _ (by omega) (by omega)⟩
    · exact RdT_c (r4 u h1 (by omega)) (fun f => hG _ _ _ (by omega) (by omega)) (fun f h4 h5 => aT u f h1 (by omega) h4 h5)
    · by_cases hx : x = l
      · subst hx
        unfold RdL
        rw [g0, g1, g2, g3, g4, g5, g7, g8, a0, a1, a2, a3, a4, a5, a6, a7]
        exact ⟨rfl, rfl, rfl, rfl, rfl, rfl, rfl, rfl⟩
      · exact RdL_c (r5 x h1 (by omega)) (fun f => hG _ _ _ (by omega) (by omega)) (fun f h4 h5 => aL x f h1 hx h4 h5)
    · rw [hG _ _ _ (by omega) (by omega)]; exact r6 s h1 h2
    · rw [hG _ _ _ (by omega) (by omega)]; exact r7 n h1 h2
  · obtain ⟨w1, w2, w3, w4, w5, w6, w7, w8⟩ := hW
    refine ⟨?_, fun s h1 h2 => ?_, fun n h1 h2 => ?_, fun u h1 h2 => ?_, fun x h1 h2 => ?_, fun x h1 h2 => ?_, fun u h1 h2 => ?_, fun x x' h1 h2 h3 => ?_⟩
    · unfold WfH
      rw [e0, a8, e7, e1]
      omega
    · have r := w2 s h1 (by omega)
      unfold WfS at r ⊢
      rw [hA _ (by omega) (by omega), hA _ (by omega) (by omega), hA _ (by omega) (by omega)]
      exact r
    · have r := w3 n h1 (by omega)
      unfold WfN at r ⊢
      rw [hA _ (by omega) (by omega), hA _ (by omega) (by omega), hA _ (by omega) (by omega)]
      exact r
    · have r := w4 u h1 (by omega)
      unfold WfT at r ⊢
      rw [aT u 0 h1 (by omega) (by decide) (by decide), aT u 1 h1 (by omega) (by decide) (by decide), aT u 2 h1 (by omega) (by decide) (by decide), aT u 3 h1 (by omega) (by decide) (by decide), aT u 4 h1 (by omega) (by decide) (by decide), aT u 5 h1 (by omega) (by decide) (by decide), aT u 10 h1 (by omega) (by decide) (by decide), e0, a8]
      refine ⟨r.1, r.2.1, r.2.2.1, r.2.2.2.1, r.2.2.2.2.1, fun z => ?_⟩
      have r := r.2.2.2.2.2 z
      exact ⟨r.1, r.2.1, by omega⟩
    · by_cases hx : x = l
      · subst hx
        unfold WfL
        rw [a1, a2, a3, a4, a5, a6, e0, e1, e7]
        exact ⟨y2, y4, by omega, y1, Or.inl rfl, Or.inl rfl, fun _ => rfl, fun _ _ => y3⟩
      · exact WfL_c (w5 x h1 (by omega)) e0 e7 e1 (fun f h4 h5 => aL x f h1 hx h4 h5)
    · by_cases hx : x = l
      · subst hx
        unfold WfX
        rw [a5]
        exact fun z => absurd rfl z
      · have r := w6 x h1 (by omega)
        have w := w5 x h1 (by omega)
        unfold WfL at w
        unfold WfX at r ⊢
        rw [aL x 5 h1 hx (by decide) (by decide)]
        intro hz
        rw [aT _ 3 (by omega) (by omega) (by decide) (by decide), aT _ 4 (by omega) (by omega) (by decide) (by decide), aT _ 5 (by omega) (by omega) (by decide) (by decide)]
        exact r hz
    · have r := w7 u h1 (by omega)
      have w := w4 u h1 (by omega)
      unfold WfT at w
      unfold WfY at r ⊢
      rw [aT u 3 h1 (by omega) (by decide) (by decide), aT u 5 h1 (by omega) (by decide) (by decide), aT u 4 h1 (by omega) (by decide) (by decide), aT u 2 h1 (by omega) (by decide) (by decide)]
      intro hx hy
      rw [aL _ 5 (by omega) (by omega) (by decide) (by decide), aL _ 4 (by omega) (by omega) (by decide) (by decide), aL _ 6 (by omega) (by omega) (by decide) (by decide)]
      exact r hx hy
    · by_cases hx : x' = l
      · rw [hx, a3]
        by_cases hx2 : x = l
        · rw [hx2, a3]; exact Int.le_refl _
        · have w := w5 x h1 (by omega)
          unfold WfL at w
          rw [aL x 3 h1 hx2 (by decide) (by decide)]
          exact w.2.2.1.2
      · rw [aL x 3 h1 (by omega) (by decide) (by decide), aL x' 3 (by omega) hx (by decide) (by decide)]
        exact w8 x x' h1 h2 (by omega)
theorem c_letter {G : GS} {o l p1 p2 p3 : Int} (hl : G 3 o 6 = l) (h0 : 0 ≤ l ∧ l < 12) (h3 : p3 = 0 ∨ p3 = 1) : ∃ G', f_X3_placeLetter G o p1 p2 p3 = some (G', l) ∧ (∀ k x f, ¬ (k = 2 ∧ x = 12 * o + l) → ¬ (k = 3 ∧ x = o ∧ f = 6) → G' k x f = G k x f) ∧ G' 3 o 6 = l + 1 ∧ (G' 2 (12 * o + l) 0 = p1 ∧ G' 2 (12 * o + l) 1 = p2 ∧ G' 2 (12 * o + l) 2 = p3 ∧ G' 2 (12 * o + l) 3 = G 3 o 7 ∧ G' 2 (12 * o + l) 4 = p1 ∧ G' 2 (12 * o + l) 5 = -1 ∧ G' 2 (12 * o + l) 6 = -1 ∧ G' 2 (12 * o + l) 7 = 0) := by
  obtain ⟨p, hp⟩ : ∃ p, p = 12 * o + l := ⟨_, rfl⟩
  obtain ⟨G0, e0, f0, v0⟩ := gup_ex G 2 p 0 p1
  obtain ⟨G1, e1, f1, v1⟩ := gup_ex G0 2 p 1 p2
  obtain ⟨G2, e2, f2, v2⟩ := gup_ex G1 2 p 2 p3
  obtain ⟨G3, e3, f3, v3⟩ := gup_ex G2 2 p 3 (G 3 o 7)
  obtain ⟨G4, e4, f4, v4⟩ := gup_ex G3 2 p 4 p1
  obtain ⟨G5, e5, f5, v5⟩ := gup_ex G4 2 p 5 (-1)
  obtain ⟨G6, e6, f6, v6⟩ := gup_ex G5 2 p 6 (-1)
  obtain ⟨G7, e7, f7, v7⟩ := gup_ex G6 2 p 7 0
  obtain ⟨G8, e8, f8, v8⟩ := gup_ex G7 3 o 6 (G7 3 o 6 + 1)
  have w6 : G8 3 o 6 = l + 1 := by rw [v8, f7 _ _ _ (by omega), f6 _ _ _ (by omega), f5 _ _ _ (by omega), f4 _ _ _ (by omega), f3 _ _ _ (by omega), f2 _ _ _ (by omega), f1 _ _ _ (by omega), f0 _ _ _ (by omega), hl]
  refine ⟨G8, ?_, fun k x f z1 z2 => ?_, w6, ?_⟩
  · unfold f_X3_placeLetter f_X2_begin
    rw [hl, ga_t h0, ← hp, gb_t h3, e0, e1, e2, e3, e4, e5, e6, e7, bn1_some, e8, w6]
    exact congrArg (fun z => some (G8, z)) (by omega)
  · rw [f8 _ _ _ (by omega), f7 _ _ _ (by omega), f6 _ _ _ (by omega), f5 _ _ _ (by omega), f4 _ _ _ (by omega), f3 _ _ _ (by omega), f2 _ _ _ (by omega), f1 _ _ _ (by omega), f0 _ _ _ (by omega)]
  · rw [← hp]
    refine ⟨?_, ?_, ?_, ?_, ?_, ?_, ?_, ?_⟩
    · rw [f8 _ _ _ (by omega), f7 _ _ _ (by omega), f6 _ _ _ (by omega), f5 _ _ _ (by omega), f4 _ _ _ (by omega), f3 _ _ _ (by omega), f2 _ _ _ (by omega), f1 _ _ _ (by omega), v0]
    · rw [f8 _ _ _ (by omega), f7 _ _ _ (by omega), f6 _ _ _ (by omega), f5 _ _ _ (by omega), f4 _ _ _ (by omega), f3 _ _ _ (by omega), f2 _ _ _ (by omega), v1]
    · rw [f8 _ _ _ (by omega), f7 _ _ _ (by omega), f6 _ _ _ (by omega), f5 _ _ _ (by omega), f4 _ _ _ (by omega), f3 _ _ _ (by omega), v2]
    · rw [f8 _ _ _ (by omega), f7 _ _ _ (by omega), f6 _ _ _ (by omega), f5 _ _ _ (by omega), f4 _ _ _ (by omega), v3]
    · rw [f8 _ _ _ (by omega), f7 _ _ _ (by omega), f6 _ _ _ (by omega), f5 _ _ _ (by omega), v4]
    · rw [f8 _ _ _ (by omega), f7 _ _ _ (by omega), f6 _ _ _ (by omega), v5]
    · rw [f8 _ _ _ (by omega), f7 _ _ _ (by omega), v6]
    · rw [f8 _ _ _ (by omega), v7]
def giA (A : Int → Int) (l p1 p2 p3 : Int) : Int → Int := fun f => if f = 8 then l + 1 else if f = 164 + 8 * l + 0 then p1 else if f = 164 + 8 * l + 1 then p2 else if f = 164 + 8 * l + 2 then p3 else if f = 164 + 8 * l + 3 then A 1 else if f = 164 + 8 * l + 4 then p1 else if f = 164 + 8 * l + 5 then -1 else if f = 164 + 8 * l + 6 then -1 else if f = 164 + 8 * l + 7 then 0 else A f
theorem giA_n {A : Int → Int} {l p1 p2 p3 f : Int} (h7 : f ≠ 8) (h : ¬ (164 + 8 * l ≤ f ∧ f < 164 + 8 * l + 8)) : giA A l p1 p2 p3 f = A f := by
  unfold giA
  rw [if_neg (by omega), if_neg (by omega), if_neg (by omega), if_neg (by omega), if_neg (by omega), if_neg (by omega), if_neg (by omega), if_neg (by omega), if_neg (by omega)]
theorem giA_r {A : Int → Int} {l p1 p2 p3 : Int} (h : 0 ≤ l) : giA A l p1 p2 p3 8 = l + 1 ∧ (giA A l p1 p2 p3 (164 + 8 * l + 0) = p1 ∧ giA A l p1 p2 p3 (164 + 8 * l + 1) = p2 ∧ giA A l p1 p2 p3 (164 + 8 * l + 2) = p3 ∧ giA A l p1 p2 p3 (164 + 8 * l + 3) = A 1 ∧ giA A l p1 p2 p3 (164 + 8 * l + 4) = p1 ∧ giA A l p1 p2 p3 (164 + 8 * l + 5) = -1 ∧ giA A l p1 p2 p3 (164 + 8 * l + 6) = -1 ∧ giA A l p1 p2 p3 (164 + 8 * l + 7) = 0) := by
  unfold giA
  refine ⟨if_pos rfl, ?_, ?_, ?_, ?_, ?_, ?_, ?_, ?_⟩
  · rw [if_neg (by omega), if_pos rfl]
  · rw [if_neg (by omega), if_neg (by omega), if_pos rfl]
  · rw [if_neg (by omega), if_neg (by omega), if_neg (by omega), if_pos rfl]
  · rw [if_neg (by omega), if_neg (by omega), if_neg (by omega), if_neg (by omega), if_pos rfl]
  · rw [if_neg (by omega), if_neg (by omega), if_neg (by omega), if_neg (by omega), if_neg (by omega), if_pos rfl]
  · rw [if_neg (by omega), if_neg (by omega), if_neg (by omega), if_neg (by omega), if_neg (by omega), if_neg (by omega), if_pos rfl]
  · rw [if_neg (by omega), if_neg (by omega), if_neg (by omega), if_neg (by omega), if_neg (by omega), if_neg (by omega), if_neg (by omega), if_pos rfl]
  · rw [if_neg (by omega), if_neg (by omega), if_neg (by omega), if_neg (by omega), if_neg (by omega), if_neg (by omega), if_neg (by omega), if_neg (by omega), if_pos rfl]
theorem m_giv {H H7 : GS} {l p1 p2 p3 : Int} {A : Int → Int} (s1 : f_X8_save H = some H7) (x1 : inR p1) (x2 : inR p2) (c1 : 0 ≤ p1 ∧ p1 < A 0) (c2 : 0 ≤ p2 ∧ p2 < A 0) (c0 : A 0 ≤ 8) (c4 : ¬ p1 = p2) (hH : H 10 0 0 = A 0 ∧ H 10 0 8 = l) (h8 : H7 10 0 8 = l) (h0 : 0 ≤ l ∧ l < 12) (h3 : p3 = 0 ∨ p3 = 1) (s3 : ∀ f, 0 ≤ f → f < 260 → H7 10 0 f = A f) : ∃ H9, f_X8_give H p1 p2 p3 = some (gup H9 8 0 4 0, l) ∧ (∀ f, 0 ≤ f → f < 260 → H9 10 0 f = giA A l p1 p2 p3 f) ∧ (∀ k x f, ¬ (k = 10 ∧ x = 0) → H9 k x f = H7 k x f) := by
  have h1 : H7 10 0 1 = A 1 := s3 1 (by decide) (by decide)
  obtain ⟨b8, b0, b1, b2, b3, b4, b5, b6, b7⟩ := giA_r (A := A) (l := l) (p1 := p1) (p2 := p2) (p3 := p3) h0.1
  obtain ⟨K0, k0, n0, m0⟩ := gup_ex H7 10 0 (164 + 8 * l + 0) p1
  obtain ⟨K1, k1, n1, m1⟩ := gup_ex K0 10 0 (164 + 8 * l + 1) p2
  obtain ⟨K2, k2, n2, m2⟩ := gup_ex K1 10 0 (164 + 8 * l + 2) p3
  obtain ⟨K3, k3, n3, m3⟩ := gup_ex K2 10 0 (164 + 8 * l + 3) (K2 10 0 1)
  obtain ⟨K4, k4, n4, m4⟩ := gup_ex K3 10 0 (164 + 8 * l + 4) p1
  obtain ⟨K5, k5, n5, m5⟩ := gup_ex K4 10 0 (164 + 8 * l + 5) (-1)
  obtain ⟨K6, k6, n6, m6⟩ := gup_ex K5 10 0 (164 + 8 * l + 6) (-1)
  obtain ⟨K7, k7, n7, m7⟩ := gup_ex K6 10 0 (164 + 8 * l + 7) 0
  obtain ⟨K8, k8, n8, m8⟩ := gup_ex K7 10 0 8 (K7 10 0 8 + 1)
  have w8 : K8 10 0 8 = l + 1 := by rw [m8, n7 _ _ _ (by omega), n6 _ _ _ (by omega), n5 _ _ _ (by omega), n4 _ _ _ (by omega), n3 _ _ _ (by omega), n2 _ _ _ (by omega), n1 _ _ _ (by omega), n0 _ _ _ (by omega), h8]
  refine ⟨K8, ?_, fun f z1 z2 => ?_, fun k x f z => by rw [n8 _ _ _ (by omega), n7 _ _ _ (by omega), n6 _ _ _ (by omega), n5 _ _ _ (by omega), n4 _ _ _ (by omega), n3 _ _ _ (by omega), n2 _ _ _ (by omega), n1 _ _ _ (by omega), n0 _ _ _ (by omega)]⟩
  · unfold f_X8_give
    rw [m_isInn x1 (by omega), bn1_some, if_pos (by omega), gd_t (by decide), if_neg (by decide), m_isInn x2 (by omega), bn1_some, if_pos (by omega), gd_t (by decide), if_neg (by decide), gd_t x1, gd_t x2, if_neg c4, gd_t ⟨by omega, by omega⟩, if_neg (by omega), s1, bn1_some]
    rw [h8, m_letterAt, bn1_some, ga_t ⟨by omega, by omega⟩, k0, m_letterAt, bn1_some, ga_t ⟨by omega, by omega⟩, k1, m_letterAt, bn1_some, gd_t (by omega)]
    rcases h3 with rfl | rfl
    · rw [if_pos rfl, ga_t ⟨by omega, by omega⟩, k2, m_letterAt, bn1_some, ga_t ⟨by omega, by omega⟩, k3, m_letterAt, bn1_some, ga_t ⟨by omega, by omega⟩, k4, nm_eq, m_letterAt, bn1_some, ga_t ⟨by omega, by omega⟩, k5, m_letterAt, bn1_some, ga_t ⟨by omega, by omega⟩, k6, m_letterAt, bn1_some, ga_t ⟨by omega, by omega⟩, k7, k8, nm_eq, m_fine]
    · rw [if_neg (by decide), ga_t ⟨by omega, by omega⟩, k2, m_letterAt, bn1_some, ga_t ⟨by omega, by omega⟩, k3, m_letterAt, bn1_some, ga_t ⟨by omega, by omega⟩, k4, nm_eq, m_letterAt, bn1_some, ga_t ⟨by omega, by omega⟩, k5, m_letterAt, bn1_some, ga_t ⟨by omega, by omega⟩, k6, m_letterAt, bn1_some, ga_t ⟨by omega, by omega⟩, k7, k8, nm_eq, m_fine]
  · by_cases z8 : f = 8
    · rw [z8, w8, b8]
    · by_cases zr : 164 + 8 * l ≤ f ∧ f < 164 + 8 * l + 8
      · rcases (show f = 164 + 8 * l + 0 ∨ f = 164 + 8 * l + 1 ∨ f = 164 + 8 * l + 2 ∨ f = 164 + 8 * l + 3 ∨ f = 164 + 8 * l + 4 ∨ f = 164 + 8 * l + 5 ∨ f = 164 + 8 * l + 6 ∨ f = 164 + 8 * l + 7 by omega) with rfl | rfl | rfl | rfl | rfl | rfl | rfl | rfl
        · rw [n8 _ _ _ (by omega), n7 _ _ _ (by omega), n6 _ _ _ (by omega), n5 _ _ _ (by omega), n4 _ _ _ (by omega), n3 _ _ _ (by omega), n2 _ _ _ (by omega), n1 _ _ _ (by omega), m0, b0]
        · rw [n8 _ _ _ (by omega), n7 _ _ _ (by omega), n6 _ _ _ (by omega), n5 _ _ _ (by omega), n4 _ _ _ (by omega), n3 _ _ _ (by omega), n2 _ _ _ (by omega), m1, b1]
        · rw [n8 _ _ _ (by omega), n7 _ _ _ (by omega), n6 _ _ _ (by omega), n5 _ _ _ (by omega), n4 _ _ _ (by omega), n3 _ _ _ (by omega), m2, b2]
        · rw [n8 _ _ _ (by omega), n7 _ _ _ (by omega), n6 _ _ _ (by omega), n5 _ _ _ (by omega), n4 _ _ _ (by omega), m3, n2 _ _ _ (by omega), n1 _ _ _ (by omega), n0 _ _ _ (by omega), h1, b3]
        · rw [n8 _ _ _ (by omega), n7 _ _ _ (by omega), n6 _ _ _ (by omega), n5 _ _ _ (by omega), m4, b4]
        · rw [n8 _ _ _ (by omega), n7 _ _ _ (by omega), n6 _ _ _ (by omega), m5, b5]
        · rw [n8 _ _ _ (by omega), n7 _ _ _ (by omega), m6, b6]
        · rw [n8 _ _ _ (by omega), m7, b7]
      · rw [n8 _ _ _ (by omega), n7 _ _ _ (by omega), n6 _ _ _ (by omega), n5 _ _ _ (by omega), n4 _ _ _ (by omega), n3 _ _ _ (by omega), n2 _ _ _ (by omega), n1 _ _ _ (by omega), n0 _ _ _ (by omega), giA_n z8 zr, s3 f z1 z2]
theorem op_give {G : GS} {p1 p2 p3 : Int} (hI : Inv G) (h1 : inR p1) (h2 : inR p2) (h3 : p3 = 0 ∨ p3 = 1) : ∃ G2, lwT (f_L_give G p1 p2 p3) (fun G1 => f_X8_give G1 p1 p2 p3) = some G2 ∧ Inv G2 := by
  obtain ⟨A, S, c, len, T, i1, i2, i3⟩ := id hI
  have hWh := i3.1.1
  unfold WfH at hWh
  have r4 : G 3 0 4 = A 0 := i1.1.1.1
  have r5 : G 3 0 6 = A 8 := i1.1.1.2.2.1
  have q0 : ∀ H : GS, (∀ f, 0 ≤ f → f < 260 → H 10 0 f = A f) → H 10 0 0 = A 0 ∧ H 10 0 8 = A 8 := fun H h => ⟨h 0 (by decide) (by decide), h 8 (by decide) (by decide)⟩
  have g0 := q0 G i2.1
  by_cases c1 : 0 ≤ p1 ∧ p1 < A 0
  · by_cases c2 : 0 ≤ p2 ∧ p2 < A 0
    · by_cases c4 : p1 = p2
      · refine fin_throw (k := 2) hI ?_ ?_ (by decide)
        · unfold f_L_give f_X7_give
          rw [r4, c_num h1 ⟨by omega, by omega⟩, bn1_some, if_pos c1, if_pos rfl, c_num h2 ⟨by omega, by omega⟩, bn1_some, if_pos c2, if_pos rfl, gd_t h1, gd_t h2, if_pos c4, lwB_some, if_neg (by decide), if_neg (by decide), if_pos rfl]
        · unfold f_X8_give
          rw [m_isInn h1 (by omega), bn1_some, if_pos (by omega), gd_t (by decide), if_neg (by decide), m_isInn h2 (by omega), bn1_some, if_pos (by omega), gd_t (by decide), if_neg (by decide), gd_t h1, gd_t h2, if_pos c4, m_throw]
      · by_cases c3 : A 8 < 12
        · obtain ⟨l, hl⟩ : ∃ l, A 8 = l := ⟨_, rfl⟩
          rw [hl] at c3 hWh
          obtain ⟨a8, ar⟩ := giA_r (A := A) (l := l) (p1 := p1) (p2 := p2) (p3 := p3) (by omega)
          have hour : ∀ K : GS, Rd K 0 A → K 3 0 7 = A 1 := fun K h => h.1.2.2.2.1
          obtain ⟨Gd, ed, fd, d5, dr⟩ := c_letter (G := G) (o := 0) (l := l) (p1 := p1) (p2 := p2) (by omega) (by omega) h3
          rw [hour G i1.1] at dr
          obtain ⟨-, hW'⟩ := keep_give i1.1 i3.1 hl c3 c1 c2 c4 h3 fd d5 dr (fun f z1 z2 => giA_n z1 z2) a8 ar
          refine fin_save (r := l) (A' := giA A l p1 p2 p3) i1 i2 i3 hW' (fun G7 s1 s2 => ?_) (fun H H7 s1 s2 s3 => ?_)
          · have r7 : G7 3 0 6 = A 8 := s2.1.2.2.1
            obtain ⟨G9, e9, f9, d5, dr⟩ := c_letter (G := G7) (o := 0) (l := l) (p1 := p1) (p2 := p2) (by omega) (by omega) h3
            rw [hour G7 s2] at dr
            refine ⟨G9, ?_, (keep_give s2 i3.1 hl c3 c1 c2 c4 h3 f9 d5 dr (fun f z1 z2 => giA_n z1 z2) a8 ar).1, fun k x f z => by unfold ofR at z; exact f9 _ _ _ (by omega) (by omega)⟩
            unfold f_L_give f_X7_give
            rw [r4, c_num h1 ⟨by omega, by omega⟩, bn1_some, if_pos c1, if_pos rfl, c_num h2 ⟨by omega, by omega⟩, bn1_some, if_pos c2, if_pos rfl, gd_t h1, gd_t h2, if_neg c4, r5, c_room ⟨by omega, by omega⟩ (by decide), bn1_some, if_pos (show A 8 < 12 by omega), if_pos rfl, s1, bn1_some, e9, bnd_some, lwB_some, if_pos rfl]
          · have h0 := q0 H s2
            have h7 := q0 H7 s3
            exact m_giv (H7 := H7) (l := l) s1 h1 h2 c1 c2 (by omega) c4 (by omega) (by omega) (by omega) h3 s3
        · refine fin_throw (k := 3) hI ?_ ?_ (by decide)
          · unfold f_L_give f_X7_give
            rw [r4, c_num h1 ⟨by omega, by omega⟩, bn1_some, if_pos c1, if_pos rfl, c_num h2 ⟨by omega, by omega⟩, bn1_some, if_pos c2, if_pos rfl, gd_t h1, gd_t h2, if_neg c4, r5, c_room ⟨by omega, by omega⟩ (by decide), bn1_some, if_neg c3, if_neg (by decide), lwB_some, if_neg (by decide), if_neg (by decide), if_neg (by decide), if_pos rfl]
          · unfold f_X8_give
            rw [m_isInn h1 (by omega), bn1_some, if_pos (by omega), gd_t (by decide), if_neg (by decide), m_isInn h2 (by omega), bn1_some, if_pos (by omega), gd_t (by decide), if_neg (by decide), gd_t h1, gd_t h2, if_neg c4, gd_t ⟨by omega, by omega⟩, if_pos (by omega), m_throw]
    · refine fin_throw (k := 1) hI ?_ ?_ (by decide)
      · unfold f_L_give f_X7_give
        rw [r4, c_num h1 ⟨by omega, by omega⟩, bn1_some, if_pos c1, if_pos rfl, c_num h2 ⟨by omega, by omega⟩, bn1_some, if_neg c2, if_neg (by decide), lwB_some, if_neg (by decide), if_pos rfl]
      · unfold f_X8_give
        rw [m_isInn h1 (by omega), bn1_some, if_pos (by omega), gd_t (by decide), if_neg (by decide), m_isInn h2 (by omega), bn1_some, if_neg (by omega), gd_t (by decide), if_pos rfl, m_throw]
  · refine fin_throw (k := 1) hI ?_ ?_ (by decide)
    · unfold f_L_give f_X7_give
      rw [r4, c_num h1 ⟨by omega, by omega⟩, bn1_some, if_neg c1, if_neg (by decide), lwB_some, if_neg (by decide), if_pos rfl]
    · unfold f_X8_give
      rw [m_isInn h1 (by omega), bn1_some, if_neg (by omega), gd_t (by decide), if_pos rfl, m_throw]

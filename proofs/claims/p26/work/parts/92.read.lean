/-! READING A TEXT -/
def hr (T : Int → Int) (len j : Int) : Int := if j < len then T j else -1
/-- the text, as the class holds it, read up to p -/
def tC (G : GS) (T : Int → Int) (len p : Int) : Prop := (∀ j, 0 ≤ j → j < len → G 9 0 j = T j) ∧ G 4 0 1 = len ∧ G 4 0 2 = p
def tM (H : GS) (T : Int → Int) (len p i : Int) : Prop := (∀ j, 0 ≤ j → j < len → H 10 3 j = T j) ∧ H 8 0 7 = len ∧ H 8 0 8 = p ∧ H 8 0 10 = i
def tT (T : Int → Int) (len p : Int) : Prop := (0 ≤ p ∧ p ≤ len) ∧ len ≤ 90 ∧ (∀ j, 0 ≤ j → j < len → 0 ≤ T j ∧ T j ≤ 127)
theorem hr_r {T : Int → Int} {len p : Int} (h : tT T len p) : (hr T len p = -1 ∧ p = len) ∨ (p < len ∧ hr T len p = T p ∧ 0 ≤ hr T len p ∧ hr T len p ≤ 127) := by
  obtain ⟨h1, h2, h3⟩ := h
  unfold hr
  by_cases c : p < len
  · rw [if_pos c]
    have := h3 p h1.1 c
    exact Or.inr ⟨c, rfl, this.1, this.2⟩
  · rw [if_neg c]
    exact Or.inl ⟨rfl, by omega⟩
theorem c_here {G : GS} {T : Int → Int} {len p : Int} (h : tC G T len p) (hT : tT T len p) : f_X4_here G = some (hr T len p) := by
  obtain ⟨h1, h2, h3⟩ := h
  obtain ⟨t1, t2, t3⟩ := hT
  unfold f_X4_here hr
  rw [h3, h2, gd_t ⟨by omega, by omega⟩, gd_t ⟨by omega, by omega⟩]
  by_cases c : p < len
  · rw [if_pos c, if_pos c, ga_t ⟨by omega, by omega⟩, h1 p t1.1 c]
  · rw [if_neg c, if_neg c]
theorem c_dig {G : GS} {T : Int → Int} {len p m : Int} (h : tC G T len p) (hT : tT T len p) (hm : 0 ≤ m ∧ m ≤ 9) : f_X4_digitStands G m = some (if 49 ≤ hr T len p ∧ hr T len p ≤ 48 + m then 1 else 0) := by
  have hh := hr_r hT
  have e := c_here h hT
  unfold f_X4_digitStands
  rw [e, bn1_some, gd_t ⟨by omega, by omega⟩]
  by_cases c1 : hr T len p < 49
  · rw [if_pos c1, if_neg (by omega)]
  · rw [if_neg c1, bn1_some, gd_t ⟨by omega, by omega⟩, gd_t ⟨by omega, by omega⟩]
    by_cases c2 : 48 + m < hr T len p
    · rw [if_pos c2, if_neg (by omega)]
    · rw [if_neg c2, if_pos (by omega)]
theorem c_sign {G : GS} {T : Int → Int} {len p s : Int} (h : tC G T len p) (hT : tT T len p) (hs : 0 ≤ s ∧ s ≤ 127) : f_X4_signStands G s = some (if hr T len p = s then 1 else 0) := by
  have hh := hr_r hT
  have e := c_here h hT
  unfold f_X4_signStands
  rw [e, bn1_some, gd_t ⟨by omega, by omega⟩, gd_t ⟨by omega, by omega⟩]
  split <;> rfl
theorem c_take {G : GS} {T : Int → Int} {len p : Int} (h : tC G T len p) (hT : tT T len p) (hp : p < len) : ∃ G', f_X4_takeDigit G = some (G', hr T len p - 48) ∧ (∀ k x f, ¬ (k = 4 ∧ x = 0 ∧ f = 2) → G' k x f = G k x f) ∧ tC G' T len (p + 1) := by
  have e := c_here h hT
  obtain ⟨h1, h2, h3⟩ := h
  obtain ⟨t1, t2, t3⟩ := hT
  obtain ⟨Ga, ea, fa, va⟩ := gup_ex G 4 0 2 (G 4 0 2 + 1)
  have w : Ga 4 0 2 = p + 1 := by rw [va, h3]
  refine ⟨Ga, ?_, fa, fun j z1 z2 => by rw [fa _ _ _ (by omega)]; exact h1 j z1 z2, by rw [fa _ _ _ (by omega)]; exact h2, w⟩
  unfold f_X4_takeDigit
  rw [e, bn1_some, ea]
theorem c_adv {G : GS} {T : Int → Int} {len p : Int} (h : tC G T len p) : ∃ G', gup G 4 0 2 ((G 4 0 2) + 1) = G' ∧ (∀ k x f, ¬ (k = 4 ∧ x = 0 ∧ f = 2) → G' k x f = G k x f) ∧ tC G' T len (p + 1) := by
  obtain ⟨h1, h2, h3⟩ := h
  obtain ⟨Ga, ea, fa, va⟩ := gup_ex G 4 0 2 (G 4 0 2 + 1)
  exact ⟨Ga, ea, fa, fun j z1 z2 => by rw [fa _ _ _ (by omega)]; exact h1 j z1 z2, by rw [fa _ _ _ (by omega)]; exact h2, by rw [va, h3]⟩
theorem tT_1 {T : Int → Int} {len p : Int} (h : tT T len p) (hp : p < len) : tT T len (p + 1) := by
  obtain ⟨t1, t2, t3⟩ := h
  exact ⟨by omega, t2, t3⟩
theorem m_here {H : GS} {T : Int → Int} {len p i : Int} (h : tM H T len p i) (hT : tT T len p) : f_X8_here H = some (hr T len p) := by
  obtain ⟨h1, h2, h3, h4⟩ := h
  obtain ⟨t1, t2, t3⟩ := hT
  unfold f_X8_here hr
  rw [h3, h2, gd_t ⟨by omega, by omega⟩, gd_t ⟨by omega, by omega⟩]
  by_cases c : p < len
  · rw [if_pos c, if_pos c, ga_t ⟨by omega, by omega⟩, h1 p t1.1 c]
  · rw [if_neg c, if_neg c]
theorem m_adv {H : GS} {T : Int → Int} {len p i : Int} (h : tM H T len p i) : ∃ H', gup H 8 0 8 ((H 8 0 8) + 1) = H' ∧ (∀ k x f, ¬ (k = 8 ∧ x = 0 ∧ f = 8) → H' k x f = H k x f) ∧ tM H' T len (p + 1) i := by
  obtain ⟨h1, h2, h3, h4⟩ := h
  obtain ⟨Ha, ea, fa, va⟩ := gup_ex H 8 0 8 (H 8 0 8 + 1)
  exact ⟨Ha, ea, fa, fun j z1 z2 => by rw [fa _ _ _ (by omega)]; exact h1 j z1 z2, by rw [fa _ _ _ (by omega)]; exact h2, by rw [va, h3], by rw [fa _ _ _ (by omega)]; exact h4⟩
theorem m_inS {H : GS} {T : Int → Int} {len p b : Int} (hT : tT T len p) (hb : 0 ≤ b ∧ b ≤ 127) : f_X8_in H (bm (hr T len p)) 49 b = some (if 49 ≤ hr T len p ∧ hr T len p ≤ b then 1 else 0) := by
  have hh := hr_r hT
  exact m_inB ⟨by omega, by omega⟩ (by decide) ⟨by omega, by omega⟩
/-- the end of a stage, ';' or not -/
theorem m_end {H : GS} {T : Int → Int} {len p i : Int} (h : tM H T len p i) (hT : tT T len p) : ∃ (H' : GS) (r : Int), bn1 (f_X8_here H) (fun r34 => gd r34 (if r34 = 59 then some ((gup (gup H 8 0 8 ((H 8 0 8) + 1)) 8 0 10 (((gup H 8 0 8 ((H 8 0 8) + 1)) 8 0 10) + 1)), 1) else some ((gup (gup H 8 0 8 ((H 8 0 8) + 0)) 8 0 10 (((gup H 8 0 8 ((H 8 0 8) + 0)) 8 0 10) + 0)), 0))) = some (H', r) ∧ (∀ k x f, ¬ (k = 8 ∧ x = 0 ∧ (f = 8 ∨ f = 10)) → H' k x f = H k x f) ∧ ((hr T len p = 59 ∧ r = 1 ∧ tM H' T len (p + 1) (i + 1)) ∨ (hr T len p ≠ 59 ∧ r = 0 ∧ tM H' T len p i)) := by
  have hh := hr_r hT
  obtain ⟨h1, h2, h3, h4⟩ := id h
  rw [m_here h hT, bn1_some, gd_t ⟨by omega, by omega⟩]
  by_cases c : hr T len p = 59
  · obtain ⟨Ha, ea, fa, va⟩ := gup_ex H 8 0 8 (H 8 0 8 + 1)
    obtain ⟨Hb, eb, fb, vb⟩ := gup_ex Ha 8 0 10 (Ha 8 0 10 + 1)
    refine ⟨Hb, 1, by rw [if_pos c, ea, eb], fun k x f z => by rw [fb _ _ _ (by omega), fa _ _ _ (by omega)], Or.inl ⟨c, rfl, fun j z1 z2 => by rw [fb _ _ _ (by omega), fa _ _ _ (by omega)]; exact h1 j z1 z2, by rw [fb _ _ _ (by omega), fa _ _ _ (by omega)]; exact h2, by rw [fb _ _ _ (by omega), va, h3], by rw [vb, fa _ _ _ (by omega), h4]⟩⟩
  · obtain ⟨Ha, ea, fa, va⟩ := gup_ex H 8 0 8 (H 8 0 8 + 0)
    obtain ⟨Hb, eb, fb, vb⟩ := gup_ex Ha 8 0 10 (Ha 8 0 10 + 0)
    refine ⟨Hb, 0, by rw [if_neg c, ea, eb], fun k x f z => by rw [fb _ _ _ (by omega), fa _ _ _ (by omega)], Or.inr ⟨c, rfl, fun j z1 z2 => by rw [fb _ _ _ (by omega), fa _ _ _ (by omega)]; exact h1 j z1 z2, by rw [fb _ _ _ (by omega), fa _ _ _ (by omega)]; exact h2, by rw [fb _ _ _ (by omega), va, h3, Int.add_zero], by rw [vb, fa _ _ _ (by omega), h4, Int.add_zero]⟩⟩
/-- the end of a stage in the class -/
theorem c_end {G : GS} {T : Int → Int} {len p o x1 x2 : Int} (h : tC G T len p) (hT : tT T len p) : ∃ (G' : GS) (r p' : Int), bn1 (f_X4_signStands G 59) (fun r33 => gd r33 (if r33 = 0 then some (G, 0) else bn1 (f_X5_set (gup G 4 0 2 ((G 4 0 2) + 1)) o x1 x2 0) (fun G37 => some (G37, 1)))) = some (G', r) ∧ (∀ k x f, ¬ (k = 4 ∧ x = 0 ∧ f = 2) → ¬ (k = 5 ∧ x = o) → G' k x f = G k x f) ∧ tC G' T len p' ∧ ((hr T len p = 59 ∧ r = 1 ∧ p' = p + 1 ∧ G' 5 o 0 = x1 ∧ G' 5 o 1 = x2 ∧ G' 5 o 2 = 0) ∨ (hr T len p ≠ 59 ∧ r = 0 ∧ p' = p ∧ G' = G)) := by
  rw [c_sign h hT (by decide), bn1_some]
  by_cases c : hr T len p = 59
  · obtain ⟨Ga, ea, fa, ta⟩ := c_adv h
    obtain ⟨Gb, eb, fb, v0, v1, v2⟩ := c_set5 (G := Ga) (o := o) (p1 := x1) (p2 := x2) (p3 := 0) (Or.inl rfl)
    obtain ⟨q1, q2, q3⟩ := ta
    refine ⟨Gb, 1, p + 1, by rw [if_pos c, gd_t (by decide), if_neg (by decide), ea, eb, bn1_some], fun k x f z1 z2 => by rw [fb _ _ _ z2, fa _ _ _ z1], ⟨fun j z1 z2 => by rw [fb _ _ _ (by omega)]; exact q1 j z1 z2, by rw [fb _ _ _ (by omega)]; exact q2, by rw [fb _ _ _ (by omega)]; exact q3⟩, Or.inl ⟨c, rfl, rfl, v0, v1, v2⟩⟩
  · exact ⟨G, 0, p, by rw [if_neg c, gd_t (by decide), if_pos rfl], fun _ _ _ _ _ => rfl, h, Or.inr ⟨c, rfl, rfl, rfl⟩⟩
/-- a sign was read: its digit and the end -/
theorem hill_both {G H : GS} {T : Int → Int} {len p i o x1 s : Int} (hG : tC G T len p) (hH : tM H T len p i) (hT : tT T len p) (hi : 0 ≤ i ∧ i < 7) (hs : s = 1 ∨ s = -1) : ∃ (G' H' : GS) (r p' x2 : Int), bn1 (f_X4_digitStands G 5) (fun r26 => gd r26 (if r26 = 0 then some (G, 0) else bnd (f_X4_takeDigit G) (fun G30 r31 => bn1 (f_X4_signStands G30 59) (fun r33 => gd r33 (if r33 = 0 then some (G30, 0) else bn1 (f_X5_set (gup G30 4 0 2 ((G30 4 0 2) + 1)) o x1 (s * r31) 0) (fun G37 => some (G37, 1))))))) = some (G', r) ∧
    bn1 (f_X8_here H) (fun r23 => bn1 (f_X8_in H (bm r23) 49 53) (fun r25 => gd r25 (if r25 = 0 then some (H, 0) else bn1 (f_X8_here H) (fun r29 => ga ((2 * (H 8 0 10)) + 1) 14 (nm (gup (gup H 10 4 ((2 * (H 8 0 10)) + 1) (s * (r29 - 48))) 8 0 8 (((gup H 10 4 ((2 * (H 8 0 10)) + 1) (s * (r29 - 48))) 8 0 8) + 1)) (fun G32 => bn1 (f_X8_here G32) (fun r34 => gd r34 (if r34 = 59 then some ((gup (gup G32 8 0 8 ((G32 8 0 8) + 1)) 8 0 10 (((gup G32 8 0 8 ((G32 8 0 8) + 1)) 8 0 10) + 1)), 1) else some ((gup (gup G32 8 0 8 ((G32 8 0 8) + 0)) 8 0 10 (((gup G32 8 0 8 ((G32 8 0 8) + 0)) 8 0 10) + 0)), 0))))))))) = some (H', r) ∧
    (∀ k x f, ¬ (k = 4 ∧ x = 0 ∧ f = 2) → ¬ (k = 5 ∧ x = o) → G' k x f = G k x f) ∧ (∀ k x f, ¬ (k = 8 ∧ x = 0 ∧ (f = 8 ∨ f = 10)) → ¬ (k = 10 ∧ x = 4 ∧ f = 2 * i + 1) → H' k x f = H k x f) ∧ tC G' T len p' ∧ tT T len p' ∧ ((r = 1 ∧ tM H' T len p' (i + 1) ∧ H' 10 4 (2 * i + 1) = x2 ∧ (-5 ≤ x2 ∧ x2 ≤ 5) ∧ G' 5 o 0 = x1 ∧ G' 5 o 1 = x2 ∧ G' 5 o 2 = 0) ∨ (r = 0 ∧ tM H' T len p' i ∧ (∀ f, G' 5 o f = G 5 o f))) := by
  have hh := hr_r hT
  rw [c_dig hG hT (by decide), bn1_some, m_here hH hT, bn1_some, m_inS hT (by decide), bn1_some]
  by_cases c : 49 ≤ hr T len p ∧ hr T len p ≤ 53
  · have hp : p < len := by omega
    obtain ⟨Ga, ea, fa, ta⟩ := c_take hG hT hp
    have hT1 := tT_1 hT hp
    obtain ⟨Gb, rb, pb, eb, fb, tb, qb⟩ := c_end (o := o) (x1 := x1) (x2 := s * (hr T len p - 48)) ta hT1
    obtain ⟨h1, h2, h3, h4⟩ := id hH
    obtain ⟨Ha, ka, na, va⟩ := gup_ex H 10 4 ((2 * i) + 1) (s * (hr T len p - 48))
    have ha : tM Ha T len p i := ⟨fun j z1 z2 => by rw [na _ _ _ (by omega)]; exact h1 j z1 z2, by rw [na _ _ _ (by omega)]; exact h2, by rw [na _ _ _ (by omega)]; exact h3, by rw [na _ _ _ (by omega)]; exact h4⟩
    obtain ⟨Hb, kb, nb, hb⟩ := m_adv ha
    obtain ⟨Hc, rc, kc, nc, qc⟩ := m_end hb hT1
    have hr1 := hr_r hT1
    have hx : -5 ≤ s * (hr T len p - 48) ∧ s * (hr T len p - 48) ≤ 5 := by
      rcases hs with rfl | rfl <;> omega
    have er : rc = rb := by
      rcases qb with ⟨y1, y2, -⟩ | ⟨y1, y2, -⟩ <;> rcases qc with ⟨z1, z2, -⟩ | ⟨z1, z2, -⟩
      · omega
      · exact absurd y1 z1
      · exact absurd z1 y1
      · omega
    subst er
    refine ⟨Gb, Hc, rc, pb, s * (hr T len p - 48), ?_, ?_, fun k x f z1 z2 => by rw [fb _ _ _ z1 z2, fa _ _ _ z1], fun k x f z1 z2 => by rw [nc _ _ _ z1, nb _ _ _ (by omega), na _ _ _ z2], tb, ?_, ?_⟩
    · rw [if_pos (show 49 ≤ hr T len p ∧ hr T len p ≤ 48 + 5 by omega), gd_t (by decide), if_neg (by decide), ea, bnd_some]
      exact eb
    · rw [if_pos c, gd_t (by decide), if_neg (by decide), bn1_some, h4, ga_t ⟨by omega, by omega⟩, ka, kb, nm_eq]
      exact kc
    · rcases qb with ⟨y1, y2, y3, -⟩ | ⟨y1, y2, y3, -⟩
      · rw [y3]; exact tT_1 hT1 (by omega)
      · rw [y3]; exact hT1
    · rcases qb with ⟨y1, y2, y3, y4, y5, y6⟩ | ⟨y1, y2, y3, y4⟩
      · rcases qc with ⟨z1, z2, z3⟩ | ⟨z1, z2, z3⟩
        · exact Or.inl ⟨y2, by rw [y3]; exact z3, by rw [nc _ _ _ (by omega), nb _ _ _ (by omega)]; exact va, hx, y4, y5, y6⟩
        · exact absurd y1 z1
      · rcases qc with ⟨z1, z2, z3⟩ | ⟨z1, z2, z3⟩
        · exact absurd z1 y1
        · exact Or.inr ⟨y2, by rw [y3]; exact z3, fun f => by rw [y4, fa _ _ _ (by omega)]⟩
  · refine ⟨G, H, 0, p, 0, ?_, ?_, fun _ _ _ _ _ => rfl, fun _ _ _ _ _ => rfl, hG, hT, Or.inr ⟨rfl, hH, fun _ => rfl⟩⟩
    · rw [if_neg (by omega), gd_t (by decide), if_pos rfl]
    · rw [if_neg c, gd_t (by decide), if_pos rfl]
set_option maxHeartbeats 2000000 in
/-- a stage read on both sides -/
theorem stage_both {G H : GS} {T : Int → Int} {len p i o : Int} (hG : tC G T len p) (hH : tM H T len p i) (hT : tT T len p) (hi : 0 ≤ i ∧ i < 7) : ∃ (G' H' : GS) (r p' x1 x2 : Int), f_X4_readStage G o = some (G', r) ∧ f_X8_readsStage H = some (H', r) ∧ (∀ k x f, ¬ (k = 4 ∧ x = 0 ∧ f = 2) → ¬ (k = 5 ∧ x = o) → G' k x f = G k x f) ∧ (∀ k x f, ¬ (k = 8 ∧ x = 0 ∧ (f = 8 ∨ f = 10)) → ¬ (k = 10 ∧ x = 4 ∧ (f = 2 * i ∨ f = 2 * i + 1)) → H' k x f = H k x f) ∧ tC G' T len p' ∧ tT T len p' ∧ ((r = 1 ∧ tM H' T len p' (i + 1) ∧ H' 10 4 (2 * i) = x1 ∧ H' 10 4 (2 * i + 1) = x2 ∧ (1 ≤ x1 ∧ x1 ≤ 9) ∧ (-5 ≤ x2 ∧ x2 ≤ 5) ∧ G' 5 o 0 = x1 ∧ G' 5 o 1 = x2 ∧ G' 5 o 2 = 0) ∨ (r = 0 ∧ tM H' T len p' i ∧ (∀ f, G' 5 o f = G 5 o f))) := by
  have hh := hr_r hT
  obtain ⟨h1, h2, h3, h4⟩ := id hH
  by_cases c : 49 ≤ hr T len p ∧ hr T len p ≤ 57
  · have hp : p < len := by omega
    have hT1 := tT_1 hT hp
    have hr1 := hr_r hT1
    obtain ⟨Ga, ea, fa, ta⟩ := c_take hG hT hp
    obtain ⟨Ha, ka, na, va⟩ := gup_ex H 10 4 (2 * i) (hr T len p - 48)
    have a10 : Ha 8 0 10 = i := by rw [na _ _ _ (by omega)]; exact h4
    obtain ⟨Hb, kb, nb, vb⟩ := gup_ex Ha 10 4 ((2 * i) + 1) 0
    have hb : tM Hb T len p i := ⟨fun j z1 z2 => by rw [nb _ _ _ (by omega), na _ _ _ (by omega)]; exact h1 j z1 z2, by rw [nb _ _ _ (by omega), na _ _ _ (by omega)]; exact h2, by rw [nb _ _ _ (by omega), na _ _ _ (by omega)]; exact h3, by rw [nb _ _ _ (by omega)]; exact a10⟩
    obtain ⟨Hc, kc, nc, hc⟩ := m_adv hb
    have c0 : Hc 10 4 (2 * i) = hr T len p - 48 := by rw [nc _ _ _ (by omega), nb _ _ _ (by omega)]; exact va
    have c1 : Hc 10 4 (2 * i + 1) = 0 := by rw [nc _ _ _ (by omega)]; exact vb
    have fH : ∀ k x f, ¬ (k = 8 ∧ x = 0 ∧ (f = 8 ∨ f = 10)) → ¬ (k = 10 ∧ x = 4 ∧ (f = 2 * i ∨ f = 2 * i + 1)) → Hc k x f = H k x f := fun k x f z1 z2 => by rw [nc _ _ _ (by omega), nb _ _ _ (by omega), na _ _ _ (by omega)]
    obtain ⟨Gd, ed, fd, td⟩ := c_adv ta
    obtain ⟨Hd, kd, nd, hd⟩ := m_adv hc
    have fin : ∀ s : Int, (s = 1 ∨ s = -1) → p + 1 < len → ∃ (G' H' : GS) (r p' x1 x2 : Int), bn1 (f_X4_digitStands Gd 5) (fun r26 => gd r26 (if r26 = 0 then some (Gd, 0) else bnd (f_X4_takeDigit Gd) (fun G30 r31 => bn1 (f_X4_signStands G30 59) (fun r33 => gd r33 (if r33 = 0 then some (G30, 0) else bn1 (f_X5_set (gup G30 4 0 2 ((G30 4 0 2) + 1)) o (hr T len p - 48) (s * r31) 0) (fun G37 => some (G37, 1))))))) = some (G', r) ∧
        bn1 (f_X8_here Hd) (fun r23 => bn1 (f_X8_in Hd (bm r23) 49 53) (fun r25 => gd r25 (if r25 = 0 then some (Hd, 0) else bn1 (f_X8_here Hd) (fun r29 => ga ((2 * (Hd 8 0 10)) + 1) 14 (nm (gup (gup Hd 10 4 ((2 * (Hd 8 0 10)) + 1) (s * (r29 - 48))) 8 0 8 (((gup Hd 10 4 ((2 * (Hd 8 0 10)) + 1) (s * (r29 - 48))) 8 0 8) + 1)) (fun G32 => bn1 (f_X8_here G32) (fun r34 => gd r34 (if r34 = 59 then some ((gup (gup G32 8 0 8 ((G32 8 0 8) + 1)) 8 0 10 (((gup G32 8 0 8 ((G32 8 0 8) + 1)) 8 0 10) + 1)), 1) else some ((gup (gup G32 8 0 8 ((G32 8 0 8) + 0)) 8 0 10 (((gup G32 8 0 8 ((G32 8 0 8) + 0)) 8 0 10) + 0)), 0))))))))) = some (H', r) ∧
        (∀ k x f, ¬ (k = 4 ∧ x = 0 ∧ f = 2) → ¬ (k = 5 ∧ x = o) → G' k x f = G k x f) ∧ (∀ k x f, ¬ (k = 8 ∧ x = 0 ∧ (f = 8 ∨ f = 10)) → ¬ (k = 10 ∧ x = 4 ∧ (f = 2 * i ∨ f = 2 * i + 1)) → H' k x f = H k x f) ∧ tC G' T len p' ∧ tT T len p' ∧ ((r = 1 ∧ tM H' T len p' (i + 1) ∧ H' 10 4 (2 * i) = x1 ∧ H' 10 4 (2 * i + 1) = x2 ∧ (1 ≤ x1 ∧ x1 ≤ 9) ∧ (-5 ≤ x2 ∧ x2 ≤ 5) ∧ G' 5 o 0 = x1 ∧ G' 5 o 1 = x2 ∧ G' 5 o 2 = 0) ∨ (r = 0 ∧ tM H' T len p' i ∧ (∀ f, G' 5 o f = G 5 o f))) := by
      intro s hs hlt
      obtain ⟨G', H', r, p', x2, y1, y2, y3, y4, y5, y6, y7⟩ := hill_both (o := o) (x1 := hr T len p - 48) td hd (tT_1 hT1 hlt) hi hs
      refine ⟨G', H', r, p', hr T len p - 48, x2, y1, y2, fun k x f z1 z2 => by rw [y3 _ _ _ z1 z2, fd _ _ _ z1, fa _ _ _ z1], fun k x f z1 z2 => by rw [y4 _ _ _ z1 (by omega), nd _ _ _ (by omega), fH _ _ _ z1 z2], y5, y6, ?_⟩
      rcases y7 with ⟨w1, w2, w3, w4, w5, w6, w7⟩ | ⟨w1, w2, w3⟩
      · exact Or.inl ⟨w1, w2, by rw [y4 _ _ _ (by omega) (by omega), nd _ _ _ (by omega), c0], w3, by omega, w4, w5, w6, w7⟩
      · exact Or.inr ⟨w1, w2, fun f => by rw [w3, fd _ _ _ (by omega), fa _ _ _ (by omega)]⟩
    by_cases s1 : hr T len (p + 1) = 43
    · obtain ⟨G', H', r, p', x1, x2, y1, y2, y3⟩ := fin 1 (Or.inl rfl) (by omega)
      refine ⟨G', H', r, p', x1, x2, ?_, ?_, y3⟩
      · unfold f_X4_readStage
        rw [c_dig hG hT (by decide), bn1_some, if_pos (show 49 ≤ hr T len p ∧ hr T len p ≤ 48 + 9 by omega), gd_t (by decide), if_neg (by decide), ea, bnd_some, c_sign ta hT1 (by decide), bn1_some, if_pos s1, gd_t (by decide), if_neg (by decide), bn1_some, gd_t (by decide), if_neg (by decide), ed]
        exact y1
      · unfold f_X8_readsStage
        rw [h4, gd_t ⟨by omega, by omega⟩, if_neg (show ¬ i = 7 by omega), m_here hH hT, bn1_some, m_inS hT (by decide), bn1_some, if_pos c, gd_t (by decide), if_neg (by decide), bn1_some, ga_t ⟨by omega, by omega⟩, ka, a10, ga_t ⟨by omega, by omega⟩, kb, kc, nm_eq, m_here hc hT1, bn1_some, gd_t ⟨by omega, by omega⟩, if_pos s1, bn1_some, gd_t ⟨by omega, by omega⟩, if_pos s1, kd]
        exact y2
    · by_cases s2 : hr T len (p + 1) = 45
      · obtain ⟨G', H', r, p', x1, x2, y1, y2, y3⟩ := fin (-1) (Or.inr rfl) (by omega)
        refine ⟨G', H', r, p', x1, x2, ?_, ?_, y3⟩
        · unfold f_X4_readStage
          rw [c_dig hG hT (by decide), bn1_some, if_pos (show 49 ≤ hr T len p ∧ hr T len p ≤ 48 + 9 by omega), gd_t (by decide), if_neg (by decide), ea, bnd_some, c_sign ta hT1 (by decide), bn1_some, if_neg s1, gd_t (by decide), if_pos rfl, c_sign ta hT1 (by decide), bn1_some, if_pos s2, gd_t (by decide), if_neg (by decide), bn1_some, gd_t (by decide), if_pos rfl, ed]
          exact y1
        · unfold f_X8_readsStage
          rw [h4, gd_t ⟨by omega, by omega⟩, if_neg (show ¬ i = 7 by omega), m_here hH hT, bn1_some, m_inS hT (by decide), bn1_some, if_pos c, gd_t (by decide), if_neg (by decide), bn1_some, ga_t ⟨by omega, by omega⟩, ka, a10, ga_t ⟨by omega, by omega⟩, kb, kc, nm_eq, m_here hc hT1, bn1_some, gd_t ⟨by omega, by omega⟩, if_neg s1, bn1_some, gd_t ⟨by omega, by omega⟩, if_pos s2, bn1_some, gd_t ⟨by omega, by omega⟩, if_neg s1, kd]
          exact y2
      · obtain ⟨Ge, re, pe, ee, fe, te, qe⟩ := c_end (o := o) (x1 := hr T len p - 48) (x2 := 0) ta hT1
        obtain ⟨He, rm, ke, ne, qm⟩ := m_end hc hT1
        have er : rm = re := by
          rcases qe with ⟨y1, y2, -⟩ | ⟨y1, y2, -⟩ <;> rcases qm with ⟨z1, z2, -⟩ | ⟨z1, z2, -⟩
          · omega
          · exact absurd y1 z1
          · exact absurd z1 y1
          · omega
        subst er
        refine ⟨Ge, He, rm, pe, hr T len p - 48, 0, ?_, ?_, fun k x f z1 z2 => by rw [fe _ _ _ z1 z2, fa _ _ _ z1], fun k x f z1 z2 => by rw [ne _ _ _ z1, fH _ _ _ z1 z2], te, ?_, ?_⟩
        · unfold f_X4_readStage
          rw [c_dig hG hT (by decide), bn1_some, if_pos (show 49 ≤ hr T len p ∧ hr T len p ≤ 48 + 9 by omega), gd_t (by decide), if_neg (by decide), ea, bnd_some, c_sign ta hT1 (by decide), bn1_some, if_neg s1, gd_t (by decide), if_pos rfl, c_sign ta hT1 (by decide), bn1_some, if_neg s2, gd_t (by decide), if_pos rfl]
          exact ee
        · rw [m_here hc hT1, bn1_some] at ke
          unfold f_X8_readsStage
          rw [h4, gd_t ⟨by omega, by omega⟩, if_neg (show ¬ i = 7 by omega), m_here hH hT, bn1_some, m_inS hT (by decide), bn1_some, if_pos c, gd_t (by decide), if_neg (by decide), bn1_some, ga_t ⟨by omega, by omega⟩, ka, a10, ga_t ⟨by omega, by omega⟩, kb, kc, nm_eq, m_here hc hT1, bn1_some, gd_t ⟨by omega, by omega⟩, if_neg s1, bn1_some, gd_t ⟨by omega, by omega⟩, if_neg s2, bn1_some]
          exact ke
        · rcases qe with ⟨y1, y2, y3, -⟩ | ⟨y1, y2, y3, -⟩
          · rw [y3]; exact tT_1 hT1 (by omega)
          · rw [y3]; exact hT1
        · rcases qe with ⟨y1, y2, y3, y4, y5, y6⟩ | ⟨y1, y2, y3, y4⟩
          · rcases qm with ⟨z1, z2, z3⟩ | ⟨z1, z2, z3⟩
            · exact Or.inl ⟨y2, by rw [y3]; exact z3, by rw [ne _ _ _ (by omega), c0], by rw [ne _ _ _ (by omega), c1], by omega, by decide, y4, y5, y6⟩
            · exact absurd y1 z1
          · rcases qm with ⟨z1, z2, z3⟩ | ⟨z1, z2, z3⟩
            · exact absurd z1 y1
            · exact Or.inr ⟨y2, by rw [y3]; exact z3, fun f => by rw [y4, fa _ _ _ (by omega)]⟩
  · refine ⟨G, H, 0, p, 0, 0, ?_, ?_, fun _ _ _ _ _ => rfl, fun _ _ _ _ _ => rfl, hG, hT, Or.inr ⟨rfl, hH, fun _ => rfl⟩⟩
    · unfold f_X4_readStage
      rw [c_dig hG hT (by decide), bn1_some, if_neg (by omega), gd_t (by decide), if_pos rfl]
    · unfold f_X8_readsStage
      rw [h4, gd_t ⟨by omega, by omega⟩, if_neg (show ¬ i = 7 by omega), m_here hH hT, bn1_some, m_inS hT (by decide), bn1_some, if_neg c, gd_t (by decide), if_pos rfl]

/-! SETTING OUT -/
theorem c_setOut {G : GS} {p a b h : Int} (h2 : G 6 p 2 = a) (ha : inR a) (hb : inR b) : ∃ G', f_X6_setOut G p b h = some G' ∧ (∀ k x f, ¬ (k = 6 ∧ x = p ∧ (f = 2 ∨ f = 3 ∨ f = 4 ∨ f = 5)) → G' k x f = G k x f) ∧ G' 6 p 2 = b ∧ G' 6 p 3 = sg a b ∧ G' 6 p 4 = up a b ∧ G' 6 p 5 = h := by
  have main : ∀ u : Int, u = up a b → ∃ G', (bn1 (f_X7_stageBetween (gup G 6 p 4 u) ((gup G 6 p 4 u) 6 p 2) b) (fun r4 => some (gup (gup (gup (gup G 6 p 4 u) 6 p 3 r4) 6 p 2 b) 6 p 5 h))) = some G' ∧ (∀ k x f, ¬ (k = 6 ∧ x = p ∧ (f = 2 ∨ f = 3 ∨ f = 4 ∨ f = 5)) → G' k x f = G k x f) ∧ G' 6 p 2 = b ∧ G' 6 p 3 = sg a b ∧ G' 6 p 4 = up a b ∧ G' 6 p 5 = h := by
    intro u hu
    obtain ⟨Ga, ea, fa, va⟩ := gup_ex G 6 p 4 u
    obtain ⟨Gb, eb, fb, vb⟩ := gup_ex Ga 6 p 3 (sg a b)
    obtain ⟨Gc, ec, fc, vc⟩ := gup_ex Gb 6 p 2 b
    obtain ⟨Gd, ed, fd, vd⟩ := gup_ex Gc 6 p 5 h
    refine ⟨Gd, ?_, fun k x f z => ?_, ?_⟩
    · rw [ea, fa _ _ _ (by omega), h2, c_between ha hb, bn1_some, eb, ec, ed]
    · rw [fd _ _ _ (by omega), fc _ _ _ (by omega), fb _ _ _ (by omega), fa _ _ _ (by omega)]
    · rw [fd _ _ 2 (by omega), vc, fd _ _ 3 (by omega), fc _ _ 3 (by omega), vb, fd _ _ 4 (by omega), fc _ _ 4 (by omega), fb _ _ 4 (by omega), va, vd]
      exact ⟨rfl, rfl, hu, rfl⟩
  unfold f_X6_setOut
  rw [gd_t hb, h2, gd_t ha]
  by_cases c : a < b
  · rw [if_pos c]
    exact main 1 (if_pos c).symm
  · rw [if_neg c]
    exact main 0 (if_neg c).symm
theorem c_sendLetter {G : GS} {o l a to b s t h : Int} (hl : 0 ≤ l ∧ l < 12) (h4 : G 2 (12 * o + l) 4 = a) (h1 : G 2 (12 * o + l) 1 = to) (ha : inR a) (hto : inR to) (hb : b = nx a to) (hs : s = sg a b) (hs2 : 0 ≤ s ∧ s < 7) (hbR : inR b) (hf : f_X3_fittestTeamAt G o a = some t) (ht : 0 ≤ t ∧ t < 10) (h2 : G 6 (10 * o + t) 2 = a) (hh : G 5 (7 * o + s) 0 = h) :
    ∃ G', f_X3_sendLetter G o l = some G' ∧ (∀ k x f, ¬ (k = 6 ∧ x = 10 * o + t ∧ (f = 2 ∨ f = 3 ∨ f = 4 ∨ f = 5 ∨ f = 6)) → ¬ (k = 2 ∧ x = 12 * o + l ∧ (f = 4 ∨ f = 5 ∨ f = 7)) → G' k x f = G k x f) ∧ G' 6 (10 * o + t) 2 = b ∧ G' 6 (10 * o + t) 3 = s ∧ G' 6 (10 * o + t) 4 = up a b ∧ G' 6 (10 * o + t) 5 = h ∧ G' 6 (10 * o + t) 6 = l ∧ G' 2 (12 * o + l) 4 = b ∧ G' 2 (12 * o + l) 5 = t ∧ G' 2 (12 * o + l) 7 = G 2 (12 * o + l) 7 + 1 := by
  obtain ⟨Ga, ea, fa, v2, v3, v4, v5⟩ := c_setOut (h := h) h2 ha hbR
  obtain ⟨Gb, eb, fb, vb⟩ := gup_ex Ga 6 (10 * o + t) 6 l
  obtain ⟨Gc, ec, fc, vc⟩ := gup_ex Gb 2 (12 * o + l) 4 b
  obtain ⟨Gd, ed, fd, vd⟩ := gup_ex Gc 2 (12 * o + l) 5 t
  obtain ⟨Ge, ee, fe, ve⟩ := gup_ex Gd 2 (12 * o + l) 7 (Gd 2 (12 * o + l) 7 + 1)
  refine ⟨Ge, ?_, fun k x f z z2 => ?_, ?_⟩
  · unfold f_X3_sendLetter
    rw [ga_t hl, h4, h1, c_next ha hto, bn1_some, hf, bn1_some, ga_t ht, ← hb, c_between ha hbR, bn1_some, ← hs, ga_t hs2, hh, ea, bn1_some, eb, ec, ed, ee, nm_eq]
  · rw [fe _ _ _ (by omega), fd _ _ _ (by omega), fc _ _ _ (by omega), fb _ _ _ (by omega), fa _ _ _ (by omega)]
  · rw [fe _ _ 2 (by omega), fd _ _ 2 (by omega), fc _ _ 2 (by omega), fb _ _ 2 (by omega), v2, fe 6 _ 3 (by omega), fd 6 _ 3 (by omega), fc 6 _ 3 (by omega), fb 6 _ 3 (by omega), v3, fe 6 _ 4 (by omega), fd 6 _ 4 (by omega), fc 6 _ 4 (by omega), fb 6 _ 4 (by omega), v4, fe 6 _ 5 (by omega), fd 6 _ 5 (by omega), fc 6 _ 5 (by omega), fb 6 _ 5 (by omega), v5, fe 6 _ 6 (by omega), fd 6 _ 6 (by omega), fc 6 _ 6 (by omega), vb, fe 2 _ 4 (by omega), fd 2 _ 4 (by omega), vc, fe 2 _ 5 (by omega), vd, ve, fd 2 _ 7 (by omega), fc 2 _ 7 (by omega), fb 2 _ 7 (by omega), fa 2 _ 7 (by omega)]
    exact ⟨rfl, hs.symm, rfl, rfl, rfl, rfl, rfl, rfl⟩
theorem m_leaves {H : GS} {t b h : Int} (ht : 0 ≤ t ∧ t < 10) : ∃ H', f_X8_leaves H t b h = some H' ∧ (∀ k x f, ¬ (k = 10 ∧ x = 0 ∧ (f = 54 + 11 * t + 2 ∨ f = 54 + 11 * t + 3 ∨ f = 54 + 11 * t + 10)) → H' k x f = H k x f) ∧ H' 10 0 (54 + 11 * t + 2) = b ∧ H' 10 0 (54 + 11 * t + 3) = h ∧ H' 10 0 (54 + 11 * t + 10) = H 10 0 (54 + 11 * t + 2) := by
  obtain ⟨Ha, ea, fa, va⟩ := gup_ex H 10 0 (54 + 11 * t + 10) (H 10 0 (54 + 11 * t + 2))
  obtain ⟨Hb, eb, fb, vb⟩ := gup_ex Ha 10 0 (54 + 11 * t + 2) b
  obtain ⟨Hc, ec, fc, vc⟩ := gup_ex Hb 10 0 (54 + 11 * t + 3) h
  refine ⟨Hc, ?_, fun k x f z => ?_, ?_⟩
  · unfold f_X8_leaves
    rw [m_teamAt, bn1_some, m_of ⟨by omega, by omega⟩, bn1_some, ga_t ⟨by omega, by omega⟩, ea, m_teamAt, bn1_some, ga_t ⟨by omega, by omega⟩, eb, m_teamAt, bn1_some, ga_t ⟨by omega, by omega⟩, ec]
  · rw [fc _ _ _ (by omega), fb _ _ _ (by omega), fa _ _ _ (by omega)]
  · rw [fc _ _ (54 + 11 * t + 2) (by omega), vb, vc, fc _ _ (54 + 11 * t + 10) (by omega), fb _ _ (54 + 11 * t + 10) (by omega), va]
    exact ⟨rfl, rfl, rfl⟩
theorem m_goes {m : Int} {H : GS} {l a b s t : Int} (hW : Wf m (H 10 0)) (h0 : 0 ≤ l) (h1 : l < H 10 0 8) (hw : wn (H 10 0) l = 0) (ha : a = H 10 0 (164 + 8 * l + 4)) (hb : b = nx a (H 10 0 (164 + 8 * l + 1))) (hs : s = sg a b) (ht : t = ft (H 10 0) a (H 10 0 7).toNat) (hne : a ≠ H 10 0 (164 + 8 * l + 1)) (htn : t ≠ -1) (hte : H 10 0 (54 + 11 * t + 1) + ef (H 10 0) s (up a b) ≤ 100) :
    ∃ H', f_X8_goesOn H l = some H' ∧ (∀ k x f, ¬ (k = 10 ∧ x = 0 ∧ (f = 54 + 11 * t + 2 ∨ f = 54 + 11 * t + 3 ∨ f = 54 + 11 * t + 4 ∨ f = 54 + 11 * t + 10 ∨ f = 164 + 8 * l + 4 ∨ f = 164 + 8 * l + 5 ∨ f = 164 + 8 * l + 7)) → H' k x f = H k x f) ∧ H' 10 0 (54 + 11 * t + 2) = b ∧ H' 10 0 (54 + 11 * t + 3) = H 10 0 (9 + 3 * s) ∧ H' 10 0 (54 + 11 * t + 4) = l ∧ H' 10 0 (54 + 11 * t + 10) = a ∧ H' 10 0 (164 + 8 * l + 4) = b ∧ H' 10 0 (164 + 8 * l + 5) = t ∧ H' 10 0 (164 + 8 * l + 7) = H 10 0 (164 + 8 * l + 7) + 1 := by
  have hWh := hW.1
  unfold WfH at hWh
  have hwL := hW.2.2.2.2.1 l h0 h1
  unfold WfL at hwL
  have wy := way_r (A := H 10 0) (a := a) (b := H 10 0 (164 + 8 * l + 1)) ⟨by omega, by omega⟩ ⟨by omega, by omega⟩ hne
  rw [← hb, ← hs] at wy
  have rt := ft_r (H 10 0) a (H 10 0 7).toNat
  rw [← ht] at rt
  have r9 := fe_ft (H 10 0) a (ef (H 10 0) s (up a b)) (H 10 0 7).toNat
  rw [← ht, if_pos ⟨htn, hte⟩] at r9
  have tf := m_teamFor hW h0 h1 ha hb hs rfl hne
  rw [r9] at tf
  obtain ⟨Ha, ea, fa, v2, v3, v10⟩ := m_leaves (H := H) (t := t) (b := b) (h := H 10 0 (9 + 3 * s)) ⟨by omega, by omega⟩
  obtain ⟨Hb, eb, fb, vb⟩ := gup_ex Ha 10 0 (54 + 11 * t + 4) l
  obtain ⟨Hc, ec, fc, vc⟩ := gup_ex Hb 10 0 (164 + 8 * l + 4) b
  obtain ⟨Hd, ed, fd, vd⟩ := gup_ex Hc 10 0 (164 + 8 * l + 5) t
  obtain ⟨He, ee, fe, ve⟩ := gup_ex Hd 10 0 (164 + 8 * l + 7) (Hd 10 0 (164 + 8 * l + 7) + 1)
  have eb1 : (if a < H 10 0 (164 + 8 * l + 1) then a + 1 else a - 1) = b := hb.symm
  have es1 : (if a < b then a else b) = s := hs.symm
  refine ⟨He, ?_, fun k x f z => ?_, ?_⟩
  · unfold f_X8_goesOn
    rw [m_why hW h0 h1, bn1_some, hw, gd_t (by decide), if_pos rfl, m_ofL ⟨by omega, by omega⟩, bn1_some, m_ofL ⟨by omega, by omega⟩, bn1_some, ← ha, m_toward ⟨by omega, by omega⟩ ⟨by omega, by omega⟩, bn1_some, eb1, tf, bn1_some, m_between ⟨by omega, by omega⟩ ⟨by omega, by omega⟩, bn1_some, es1, m_hours ⟨by omega, by omega⟩, bn1_some, ea, bn1_some, m_teamAt, bn1_some, ga_t ⟨by omega, by omega⟩, eb, m_letterAt, bn1_some, ga_t ⟨by omega, by omega⟩, ec, m_letterAt, bn1_some, ga_t ⟨by omega, by omega⟩, ed, m_letterAt, bn1_some, ga_t ⟨by omega, by omega⟩, ee, nm_eq]
  · rw [fe _ _ _ (by omega), fd _ _ _ (by omega), fc _ _ _ (by omega), fb _ _ _ (by omega), fa _ _ _ (by omega)]
  · rw [fe _ _ (54 + 11 * t + 2) (by omega), fd _ _ (54 + 11 * t + 2) (by omega), fc _ _ (54 + 11 * t + 2) (by omega), fb _ _ (54 + 11 * t + 2) (by omega), v2, fe _ _ (54 + 11 * t + 3) (by omega), fd _ _ (54 + 11 * t + 3) (by omega), fc _ _ (54 + 11 * t + 3) (by omega), fb _ _ (54 + 11 * t + 3) (by omega), v3, fe _ _ (54 + 11 * t + 4) (by omega), fd _ _ (54 + 11 * t + 4) (by omega), fc _ _ (54 + 11 * t + 4) (by omega), vb, fe _ _ (54 + 11 * t + 10) (by omega), fd _ _ (54 + 11 * t + 10) (by omega), fc _ _ (54 + 11 * t + 10) (by omega), fb _ _ (54 + 11 * t + 10) (by omega), v10, fe _ _ (164 + 8 * l + 4) (by omega), fd _ _ (164 + 8 * l + 4) (by omega), vc, fe _ _ (164 + 8 * l + 5) (by omega), vd, ve, fd _ _ (164 + 8 * l + 7) (by omega), fc _ _ (164 + 8 * l + 7) (by omega), fb _ _ (164 + 8 * l + 7) (by omega), fa _ _ (164 + 8 * l + 7) (by omega)]
    exact ⟨rfl, rfl, rfl, by omega, rfl, rfl, rfl⟩
theorem m_stays {m : Int} {H : GS} {l : Int} (hW : Wf m (H 10 0)) (h0 : 0 ≤ l) (h1 : l < H 10 0 8) (hw : wn (H 10 0) l ≠ 0) (hr : inR (wn (H 10 0) l)) : f_X8_goesOn H l = some H := by
  unfold f_X8_goesOn
  rw [m_why hW h0 h1, bn1_some, gd_t hr, if_neg hw]
theorem wn_r (A : Int → Int) (l : Int) : 0 ≤ wn A l ∧ wn A l ≤ 7 := by
  unfold wn
  repeat' split
  all_goals decide
/-- it can go on: what that means -/
theorem wn_zero {A : Int → Int} {l a b s t : Int} (h : wn A l = 0) (ha : a = A (164 + 8 * l + 4)) (hb : b = nx a (A (164 + 8 * l + 1))) (hs : s = sg a b) (ht : t = ft A a (A 7).toNat) : A (164 + 8 * l + 6) = -1 ∧ A (164 + 8 * l + 5) = -1 ∧ fb A b ≠ 0 ∧ t ≠ -1 ∧ A (54 + 11 * t + 1) + ef A s (up a b) ≤ 100 := by
  unfold wn at h
  rw [← ha, ← hb, ← hs, ← ht] at h
  by_cases c1 : A (164 + 8 * l + 6) = -1
  · rw [if_neg (fun z => z c1)] at h
    by_cases c2 : A (164 + 8 * l + 5) = -1
    · rw [if_neg (fun z => z c2)] at h
      split at h
      · omega
      · split at h
        · omega
        · split at h
          · omega
          · split at h
            · omega
            · split at h
              · omega
              · rename_i q1 q2 q3
                exact ⟨c1, c2, q1, q2, by omega⟩
    · rw [if_pos c2] at h
      omega
  · rw [if_pos c1] at h
    omega

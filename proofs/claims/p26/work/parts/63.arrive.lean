/-! ARRIVING -/
theorem c_tire {G : GS} {p r : Int} (h : inR (G 6 p 1 + r)) (v1 : Int) (hv : v1 = if G 6 p 1 + r < 100 then G 6 p 1 + r else 100) : ∃ G', f_X6_tire G p r = some G' ∧ (∀ k x f, ¬ (k = 6 ∧ x = p ∧ (f = 1 ∨ f = 8 ∨ f = 9)) → G' k x f = G k x f) ∧ G' 6 p 1 = v1 ∧ G' 6 p 8 = G 6 p 8 + 1 ∧ G' 6 p 9 = G 6 p 9 + r := by
  unfold f_X6_tire
  rw [gd_t h, ← hv]
  refine ⟨?Ga, ?ea, ?fa, ?va⟩
  case ea =>
    simp (disch := first | decide | omega) only [gup_k, gup_o, gup_f, gup_s, nm_eq]
    rfl
  case fa =>
    intro k x f z1
    repeat rw [gup_n (by omega)]
  case va =>
    simp (disch := first | decide | omega) only [gup_k, gup_o, gup_f, gup_s, true_and, eq_self]
theorem c_stand {G : GS} {p i : Int} : ∃ G', f_X6_stand G p i = some G' ∧ (∀ k x f, ¬ (k = 6 ∧ x = p ∧ (f = 2 ∨ f = 3 ∨ f = 5 ∨ f = 6 ∨ f = 7)) → G' k x f = G k x f) ∧ G' 6 p 2 = i ∧ G' 6 p 3 = -1 ∧ G' 6 p 5 = 0 ∧ G' 6 p 6 = -1 ∧ G' 6 p 7 = 0 := by
  unfold f_X6_stand
  refine ⟨_, rfl, ?fa, ?va⟩
  case fa =>
    intro k x f z1
    repeat rw [gup_n (by omega)]
  case va =>
    simp (disch := first | decide | omega) only [gup_k, gup_o, gup_f, gup_s, true_and, eq_self]
theorem c_arrive_run {G : GS} {o p l s u r : Int} (hs : G 6 p 3 = s) (hs2 : 0 ≤ s ∧ s < 7) (hu : G 6 p 4 = u) (hw : G 6 p 7 = 0) (hl : G 6 p 6 = l) (hl2 : 0 ≤ l ∧ l < 12) (he : f_X5_effort G (7 * o + s) u = some r) (hr : 0 ≤ r ∧ r ≤ 65) (ht : 0 ≤ G 6 p 1 ∧ G 6 p 1 ≤ 100)
    (hin : inR (G 2 (12 * o + l) 4)) (hto : inR (G 2 (12 * o + l) 1)) (hx : G 2 (12 * o + l) 2 = 0 ∨ G 2 (12 * o + l) 2 = 1) (v1 v6 k8 k9 k10 k11 : Int) (hv1 : v1 = if G 6 p 1 + r < 100 then G 6 p 1 + r else 100)
    (hv : (G 2 (12 * o + l) 4 = G 2 (12 * o + l) 1 ∧ v6 = G 3 o 7 + 1 ∧ k8 = 1 ∧ k9 = G 3 o 7 + 1 - G 2 (12 * o + l) 3 ∧ ((G 2 (12 * o + l) 2 = 0 ∧ k10 = 0 ∧ k11 = 0) ∨ (G 2 (12 * o + l) 2 = 1 ∧ k10 = 1 ∧ k11 = k9))) ∨ (¬ G 2 (12 * o + l) 4 = G 2 (12 * o + l) 1 ∧ v6 = G 2 (12 * o + l) 6 ∧ k8 = 0 ∧ k9 = 0 ∧ k10 = 0 ∧ k11 = 0)) :
    ∃ G', f_X3_arrive G o p = some G' ∧ (∀ k x f, ¬ (k = 6 ∧ x = p ∧ (f = 1 ∨ f = 2 ∨ f = 3 ∨ f = 5 ∨ f = 6 ∨ f = 7 ∨ f = 8 ∨ f = 9)) → ¬ (k = 2 ∧ x = 12 * o + l ∧ (f = 5 ∨ f = 6)) → ¬ (k = 3 ∧ x = o ∧ 8 ≤ f ∧ f ≤ 11) → G' k x f = G k x f) ∧ G' 6 p 1 = v1 ∧ G' 6 p 2 = G 6 p 2 ∧ G' 6 p 3 = -1 ∧ G' 6 p 5 = 0 ∧ G' 6 p 6 = -1 ∧ G' 6 p 7 = 0 ∧ G' 6 p 8 = G 6 p 8 + 1 ∧ G' 6 p 9 = G 6 p 9 + r ∧ G' 2 (12 * o + l) 5 = -1 ∧ G' 2 (12 * o + l) 6 = v6 ∧ G' 3 o 8 = G 3 o 8 + k8 ∧ G' 3 o 9 = G 3 o 9 + k9 ∧ G' 3 o 10 = G 3 o 10 + k10 ∧ G' 3 o 11 = G 3 o 11 + k11 := by
  obtain ⟨Ga, ea, fa, a1, a8, a9⟩ := c_tire (G := G) (p := p) (r := r) ⟨by omega, by omega⟩ v1 hv1
  have b1 : Ga 2 (12 * o + l) 1 = G 2 (12 * o + l) 1 := fa _ _ _ (by omega)
  have b2 : Ga 2 (12 * o + l) 2 = G 2 (12 * o + l) 2 := fa _ _ _ (by omega)
  have b3 : Ga 2 (12 * o + l) 3 = G 2 (12 * o + l) 3 := fa _ _ _ (by omega)
  have b4 : Ga 2 (12 * o + l) 4 = G 2 (12 * o + l) 4 := fa _ _ _ (by omega)
  have b6 : Ga 2 (12 * o + l) 6 = G 2 (12 * o + l) 6 := fa _ _ _ (by omega)
  have b7 : Ga 3 o 7 = G 3 o 7 := fa _ _ _ (by omega)
  have c6 : Ga 6 p 6 = l := by rw [fa _ _ _ (by omega)]; exact hl
  obtain ⟨Gb, eb, fb, d5, d6, e8, e9, e10, e11⟩ := c_putDown (G := Ga) (o := o) (l := l) (by rw [b4]; exact hin) (by rw [b1]; exact hto) (by rw [b2]; exact hx) v6 k8 k9 k10 k11 (by rw [b1, b2, b3, b4, b6, b7]; exact hv)
  obtain ⟨Gc, ec, fc, g2, g3, g5, g6, g7⟩ := c_stand (G := Gb) (p := p) (i := Gb 6 p 2)
  refine ⟨Gc, ?_, fun k x f z1 z2 z3 => ?_, ?_⟩
  · unfold f_X3_arrive
    rw [hw, gd_t (by decide), if_pos rfl, hs, ga_t hs2, hu, he, bn1_some, ea, bn1_some, c6, gd_t ⟨by omega, by omega⟩, if_neg (by omega), ga_t hl2, eb, bn1_some, ec, bn1_some]
  · rw [fc _ _ _ (by omega), fb _ _ _ (by omega) (by omega), fa _ _ _ (by omega)]
  · rw [g2, g3, g5, g6, g7, fc 6 p 1 (by omega), fb 6 p 1 (by omega) (by omega), a1, fb 6 p 2 (by omega) (by omega), fa 6 p 2 (by omega), fc 6 p 8 (by omega), fb 6 p 8 (by omega) (by omega), a8, fc 6 p 9 (by omega), fb 6 p 9 (by omega) (by omega), a9, fc 2 _ 5 (by omega), d5, fc 2 _ 6 (by omega), d6, fc 3 o 8 (by omega), e8, fc 3 o 9 (by omega), e9, fc 3 o 10 (by omega), e10, fc 3 o 11 (by omega), e11, fa 3 o 8 (by omega), fa 3 o 9 (by omega), fa 3 o 10 (by omega), fa 3 o 11 (by omega)]
    exact ⟨rfl, rfl, rfl, rfl, rfl, rfl, rfl, rfl, rfl, rfl, rfl, rfl, rfl, rfl⟩
theorem c_arrive_walk {G : GS} {o p : Int} (hw : G 6 p 7 = 1) (hl : G 6 p 6 = -1) : ∃ G', f_X3_arrive G o p = some G' ∧ (∀ k x f, ¬ (k = 6 ∧ x = p ∧ (f = 2 ∨ f = 3 ∨ f = 5 ∨ f = 6 ∨ f = 7 ∨ f = 10)) → G' k x f = G k x f) ∧ G' 6 p 2 = G 6 p 2 ∧ G' 6 p 3 = -1 ∧ G' 6 p 5 = 0 ∧ G' 6 p 6 = -1 ∧ G' 6 p 7 = 0 ∧ G' 6 p 10 = G 6 p 10 + 1 := by
  obtain ⟨Ga, ha, fa, va⟩ : ∃ Ga, gup G 6 p 10 (G 6 p 10 + 1) = Ga ∧ (∀ k x f, ¬ (k = 6 ∧ x = p ∧ f = 10) → Ga k x f = G k x f) ∧ Ga 6 p 10 = G 6 p 10 + 1 := ⟨_, rfl, fun k x f z => gup_n z, gup_s⟩
  obtain ⟨Gc, ec, fc, g2, g3, g5, g6, g7⟩ := c_stand (G := Ga) (p := p) (i := Ga 6 p 2)
  refine ⟨Gc, ?_, fun k x f z1 => ?_, ?_⟩
  · unfold f_X3_arrive
    rw [hw, gd_t (by decide), if_neg (by decide), ha, fa 6 p 6 (by omega), hl, gd_t (by decide), if_pos rfl, ec, bn1_some]
  · rw [fc _ _ _ (by omega), fa _ _ _ (by omega)]
  · rw [g2, g3, g5, g6, g7, fc 6 p 10 (by omega), va, fa 6 p 2 (by omega)]
    exact ⟨rfl, rfl, rfl, rfl, rfl, rfl⟩
theorem gup_ex (G : GS) (k : Nat) (o f v : Int) : ∃ Ga, gup G k o f v = Ga ∧ (∀ k' o' f', ¬ (k' = k ∧ o' = o ∧ f' = f) → Ga k' o' f' = G k' o' f') ∧ Ga k o f = v := ⟨_, rfl, fun _ _ _ z => gup_n z, gup_s⟩
theorem m_arrive_run {H : GS} {t l r b inn : Int} (ht2 : 0 ≤ t ∧ t < 10) (hin : H 10 0 (54 + 11 * t + 2) = inn) (hbe : H 10 0 (54 + 11 * t + 10) = b) (hw : H 10 0 (54 + 11 * t + 5) = 0) (hl : H 10 0 (54 + 11 * t + 4) = l) (hl2 : 0 ≤ l ∧ l < 12) (he : f_X8_effort H b inn = some r) (hr : 0 ≤ r ∧ r ≤ 65) (ht : 0 ≤ H 10 0 (54 + 11 * t + 1) ∧ H 10 0 (54 + 11 * t + 1) ≤ 100) (hinR : inR inn)
    (hto : inR (H 10 0 (164 + 8 * l + 1))) (hx : H 10 0 (164 + 8 * l + 2) = 0 ∨ H 10 0 (164 + 8 * l + 2) = 1) (v1 v6 k8 k9 k10 k11 : Int) (hv1 : v1 = if H 10 0 (54 + 11 * t + 1) + r < 100 then H 10 0 (54 + 11 * t + 1) + r else 100)
    (hv : (inn = H 10 0 (164 + 8 * l + 1) ∧ v6 = H 10 0 1 + 1 ∧ k8 = 1 ∧ k9 = H 10 0 1 + 1 - H 10 0 (164 + 8 * l + 3) ∧ ((H 10 0 (164 + 8 * l + 2) = 0 ∧ k10 = 0 ∧ k11 = 0) ∨ (H 10 0 (164 + 8 * l + 2) = 1 ∧ k10 = 1 ∧ k11 = k9))) ∨ (¬ inn = H 10 0 (164 + 8 * l + 1) ∧ v6 = H 10 0 (164 + 8 * l + 6) ∧ k8 = 0 ∧ k9 = 0 ∧ k10 = 0 ∧ k11 = 0)) :
    ∃ H', f_X8_arrives H t = some H' ∧ (∀ k x f, ¬ (k = 10 ∧ x = 0 ∧ (f = 54 + 11 * t + 1 ∨ f = 54 + 11 * t + 4 ∨ f = 54 + 11 * t + 6 ∨ f = 54 + 11 * t + 7 ∨ f = 164 + 8 * l + 5 ∨ f = 164 + 8 * l + 6 ∨ (2 ≤ f ∧ f ≤ 5))) → H' k x f = H k x f) ∧ H' 10 0 (54 + 11 * t + 1) = v1 ∧ H' 10 0 (54 + 11 * t + 4) = -1 ∧ H' 10 0 (54 + 11 * t + 6) = H 10 0 (54 + 11 * t + 6) + 1 ∧ H' 10 0 (54 + 11 * t + 7) = H 10 0 (54 + 11 * t + 7) + r ∧ H' 10 0 (164 + 8 * l + 5) = -1 ∧ H' 10 0 (164 + 8 * l + 6) = v6 ∧ H' 10 0 2 = H 10 0 2 + k8 ∧ H' 10 0 3 = H 10 0 3 + k9 ∧ H' 10 0 4 = H 10 0 4 + k10 ∧ H' 10 0 5 = H 10 0 5 + k11 := by
  obtain ⟨Ha, ha, fa, va⟩ := gup_ex H 10 0 (54 + 11 * t + 1) v1
  obtain ⟨Hb, hb, fb, vb⟩ := gup_ex Ha 10 0 (54 + 11 * t + 6) (Ha 10 0 (54 + 11 * t + 6) + 1)
  obtain ⟨Hc, hc, fc, vc⟩ := gup_ex Hb 10 0 (54 + 11 * t + 7) (Hb 10 0 (54 + 11 * t + 7) + r)
  have rd : ∀ f, f ≠ 54 + 11 * t + 1 → f ≠ 54 + 11 * t + 6 → f ≠ 54 + 11 * t + 7 → Hc 10 0 f = H 10 0 f := fun f z1 z2 z3 => by
    rw [fc _ _ _ (by omega), fb _ _ _ (by omega), fa _ _ _ (by omega)]
  obtain ⟨Hd, ed, fd, d5, d6, e2, e3, e4, e5⟩ := m_comes (H := Hc) (l := l) (inn := inn) hl2 hinR (by rw [rd _ (by omega) (by omega) (by omega)]; exact hto) (by rw [rd _ (by omega) (by omega) (by omega)]; exact hx) v6 k8 k9 k10 k11 (by rw [rd (164 + 8 * l + 1) (by omega) (by omega) (by omega), rd 1 (by omega) (by omega) (by omega), rd (164 + 8 * l + 3) (by omega) (by omega) (by omega), rd (164 + 8 * l + 2) (by omega) (by omega) (by omega), rd (164 + 8 * l + 6) (by omega) (by omega) (by omega)]; exact hv)
  obtain ⟨He, hee, fe, ve⟩ := gup_ex Hd 10 0 (54 + 11 * t + 4) (-1)
  have c4 : Hc 10 0 (54 + 11 * t + 4) = l := by rw [rd _ (by omega) (by omega) (by omega)]; exact hl
  refine ⟨He, ?_, fun k x f z1 => ?_, ?_⟩
  · unfold f_X8_arrives
    rw [m_of ⟨by omega, by omega⟩, bn1_some, m_of ⟨by omega, by omega⟩, bn1_some, hw, gd_t (by decide), if_neg (by decide), m_of ⟨by omega, by omega⟩, bn1_some, hbe, hin, he, bn1_some, m_of ⟨by omega, by omega⟩, bn1_some, m_teamAt, bn1_some, gd_t ⟨by omega, by omega⟩]
    have fin : ∀ (X : GS), gup H 10 0 (54 + 11 * t + 1) v1 = X → bn1 (f_X8_teamAt X t 6) (fun r24 => ga r24 260 (bn1 (f_X8_teamAt (gup X 10 0 r24 (X 10 0 r24 + 1)) t 7) (fun r27 => ga r27 260 (nm (gup (gup X 10 0 r24 (X 10 0 r24 + 1)) 10 0 r27 ((gup X 10 0 r24 (X 10 0 r24 + 1)) 10 0 r27 + r)) (fun G30 => bn1 (f_X8_of G30 t 4) (fun r32 => bn1 (f_X8_comes G30 r32 inn) (fun G34 => bn1 (f_X8_teamAt G34 t 4) (fun r36 => ga r36 260 (some (gup G34 10 0 r36 (-1))))))))))) = some He := fun X hX => by
      rw [← hX, ha, m_teamAt, bn1_some, ga_t ⟨by omega, by omega⟩, hb, m_teamAt, bn1_some, ga_t ⟨by omega, by omega⟩, hc, nm_eq, m_of ⟨by omega, by omega⟩, bn1_some, c4, ed, bn1_some, m_teamAt, bn1_some, ga_t ⟨by omega, by omega⟩, hee]
    split
    · rw [ga_t ⟨by omega, by omega⟩]
      exact fin _ (by rw [hv1, if_neg (by omega)])
    · rw [ga_t ⟨by omega, by omega⟩]
      refine fin _ (congrArg _ ?_)
      rw [hv1]
      split <;> omega
  · rw [fe _ _ _ (by omega), fd _ _ _ (by omega), fc _ _ _ (by omega), fb _ _ _ (by omega), fa _ _ _ (by omega)]
  · rw [fe _ _ (54 + 11 * t + 1) (by omega), fd _ _ (54 + 11 * t + 1) (by omega), fc _ _ (54 + 11 * t + 1) (by omega), fb _ _ (54 + 11 * t + 1) (by omega), va, ve, fe _ _ (54 + 11 * t + 6) (by omega), fd _ _ (54 + 11 * t + 6) (by omega), fc _ _ (54 + 11 * t + 6) (by omega), vb, fa _ _ (54 + 11 * t + 6) (by omega), fe _ _ (54 + 11 * t + 7) (by omega), fd _ _ (54 + 11 * t + 7) (by omega), vc, fb _ _ (54 + 11 * t + 7) (by omega), fa _ _ (54 + 11 * t + 7) (by omega), fe _ _ (164 + 8 * l + 5) (by omega), d5, fe _ _ (164 + 8 * l + 6) (by omega), d6, fe _ _ 2 (by omega), e2, fe _ _ 3 (by omega), e3, fe _ _ 4 (by omega), e4, fe _ _ 5 (by omega), e5, rd 2 (by omega) (by omega) (by omega), rd 3 (by omega) (by omega) (by omega), rd 4 (by omega) (by omega) (by omega), rd 5 (by omega) (by omega) (by omega)]
    exact ⟨rfl, rfl, rfl, rfl, rfl, rfl, rfl, rfl, rfl, rfl⟩
theorem m_arrive_walk {H : GS} {t : Int} (ht2 : 0 ≤ t ∧ t < 10) (hw : H 10 0 (54 + 11 * t + 5) = 1) : ∃ H', f_X8_arrives H t = some H' ∧ (∀ k x f, ¬ (k = 10 ∧ x = 0 ∧ (f = 54 + 11 * t + 5 ∨ f = 54 + 11 * t + 8)) → H' k x f = H k x f) ∧ H' 10 0 (54 + 11 * t + 5) = 0 ∧ H' 10 0 (54 + 11 * t + 8) = H 10 0 (54 + 11 * t + 8) + 1 := by
  obtain ⟨Ha, ha, fa, va⟩ := gup_ex H 10 0 (54 + 11 * t + 8) (H 10 0 (54 + 11 * t + 8) + 1)
  obtain ⟨Hb, hb, fb, vb⟩ := gup_ex Ha 10 0 (54 + 11 * t + 5) 0
  refine ⟨Hb, ?_, fun k x f z1 => ?_, vb, ?_⟩
  · unfold f_X8_arrives
    rw [m_of ⟨by omega, by omega⟩, bn1_some, m_of ⟨by omega, by omega⟩, bn1_some, hw, gd_t (by decide), if_pos rfl, m_teamAt, bn1_some, ga_t ⟨by omega, by omega⟩, ha, m_teamAt, bn1_some, ga_t ⟨by omega, by omega⟩, hb]
  · rw [fb _ _ _ (by omega), fa _ _ _ (by omega)]
  · rw [fb _ _ _ (by omega), va]

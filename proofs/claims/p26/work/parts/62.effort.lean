/-! EFFORT, DELIVERY -/
def efX (A : Int → Int) (s u : Int) : Int := if u = 0 then 5 * A (9 + 3 * s) + (-4) * A (9 + 3 * s + 1) else 5 * A (9 + 3 * s) + 4 * A (9 + 3 * s + 1)
def ef (A : Int → Int) (s u : Int) : Int := if 5 < efX A s u then efX A s u else 5
theorem ef_le {A : Int → Int} {s u : Int} (h : WfS A s) : 5 ≤ ef A s u ∧ ef A s u ≤ 65 := by
  unfold WfS at h
  unfold ef efX
  repeat' split
  all_goals omega
theorem c_eff {G : GS} {o s u : Int} {A : Int → Int} (h : RdS G o A s) (hw : WfS A s) (hu : u = 0 ∨ u = 1) : f_X5_effort G (7 * o + s) u = some (ef A s u) := by
  unfold RdS at h
  unfold WfS at hw
  unfold f_X5_effort ef efX
  rw [h.1, h.2.1]
  rcases hu with rfl | rfl
  · rw [gd_t (by decide), if_pos rfl, gd_t ⟨by omega, by omega⟩, if_pos rfl]
  · simp only [if_neg (show ¬ (1 : Int) = 0 by decide)]
    rw [gd_t (by decide), gd_t ⟨by omega, by omega⟩]
theorem m_between {G : GS} {a b : Int} (ha : inR a) (hb : inR b) : f_X8_between G a b = some (if a < b then a else b) := by
  unfold f_X8_between
  rw [gd_t ha, gd_t hb]
  split <;> rfl
theorem m_toward {G : GS} {a b : Int} (ha : inR a) (hb : inR b) : f_X8_toward G a b = some (if a < b then a + 1 else a - 1) := by
  unfold f_X8_toward
  rw [gd_t ha, gd_t hb]
  split <;> rfl
theorem m_hours {G : GS} {s : Int} (h : 0 ≤ s ∧ s < 7) : f_X8_hoursOf G s = some (G 10 0 (9 + 3 * s)) := by
  unfold f_X8_hoursOf
  rw [ga_t ⟨by omega, by omega⟩]
/-- from a to its neighbour b -/
theorem m_eff {G : GS} {a b s u : Int} (hs : 0 ≤ s ∧ s < 7) (h : (a < b ∧ s = a ∧ u = 1) ∨ (¬ a < b ∧ s = b ∧ u = 0)) (ha : inR a) (hb : inR b) (hw : WfS (G 10 0) s) : f_X8_effort G a b = some (ef (G 10 0) s u) := by
  unfold WfS at hw
  unfold f_X8_effort
  rw [m_between ha hb, bn1_some]
  rcases h with ⟨h1, rfl, rfl⟩ | ⟨h1, rfl, rfl⟩
  · rw [if_pos h1, ga_t ⟨by omega, by omega⟩, m_hours hs, bn1_some, gd_t ha, gd_t hb, if_pos h1, gd_t ⟨by omega, by omega⟩]
    unfold ef efX
    rw [if_neg (show ¬ (1 : Int) = 0 by decide)]
    split
    · rw [if_neg (by omega)]
    · by_cases h5 : 5 < 5 * G 10 0 (9 + 3 * s) + 4 * G 10 0 (9 + 3 * s + 1)
      · rw [if_pos h5]
      · rw [if_neg h5]
        exact congrArg some (by omega)
  · rw [if_neg h1, ga_t ⟨by omega, by omega⟩, m_hours hs, bn1_some, gd_t ha, gd_t hb, if_neg h1, gd_t ⟨by omega, by omega⟩]
    unfold ef efX
    rw [if_pos rfl]
    split
    · rw [if_neg (by omega)]
    · by_cases h5 : 5 < 5 * G 10 0 (9 + 3 * s) + (-4) * G 10 0 (9 + 3 * s + 1)
      · rw [if_pos h5]
        exact congrArg some (by omega)
      · rw [if_neg h5]
        exact congrArg some (by omega)
/-- a letter put down: what the class does, by its numbers -/
theorem c_putDown {G : GS} {o l : Int} (hin : inR (G 2 (12 * o + l) 4)) (hto : inR (G 2 (12 * o + l) 1)) (hx : G 2 (12 * o + l) 2 = 0 ∨ G 2 (12 * o + l) 2 = 1) (v6 k8 k9 k10 k11 : Int)
    (hv : (G 2 (12 * o + l) 4 = G 2 (12 * o + l) 1 ∧ v6 = G 3 o 7 + 1 ∧ k8 = 1 ∧ k9 = G 3 o 7 + 1 - G 2 (12 * o + l) 3 ∧ ((G 2 (12 * o + l) 2 = 0 ∧ k10 = 0 ∧ k11 = 0) ∨ (G 2 (12 * o + l) 2 = 1 ∧ k10 = 1 ∧ k11 = k9))) ∨ (¬ G 2 (12 * o + l) 4 = G 2 (12 * o + l) 1 ∧ v6 = G 2 (12 * o + l) 6 ∧ k8 = 0 ∧ k9 = 0 ∧ k10 = 0 ∧ k11 = 0)) :
    ∃ G', f_X3_putDown G o (12 * o + l) = some G' ∧ (∀ k x f, ¬ (k = 2 ∧ x = 12 * o + l ∧ (f = 5 ∨ f = 6)) → ¬ (k = 3 ∧ x = o ∧ 8 ≤ f ∧ f ≤ 11) → G' k x f = G k x f) ∧ G' 2 (12 * o + l) 5 = -1 ∧ G' 2 (12 * o + l) 6 = v6 ∧ G' 3 o 8 = G 3 o 8 + k8 ∧ G' 3 o 9 = G 3 o 9 + k9 ∧ G' 3 o 10 = G 3 o 10 + k10 ∧ G' 3 o 11 = G 3 o 11 + k11 := by
  unfold f_X3_putDown f_X3_deliver
  rcases hv with ⟨h1, h2, h3, h4, h5⟩ | ⟨h1, h2, h3, h4, h5, h6⟩
  · rcases h5 with ⟨h5, h6, h7⟩ | ⟨h5, h6, h7⟩
    · refine ⟨?Ga, ?ea, ?fa, ?va⟩
      case ea =>
        simp (disch := first | decide | omega) only [gup_k, gup_o, gup_f, gup_s, gd_t, h1, h5, if_true, bn1_some, nm_eq]
        rfl
      case fa =>
        intro k x f z1 z2
        repeat rw [gup_n (by omega)]
      case va =>
        simp (disch := first | decide | omega) only [gup_k, gup_o, gup_f, gup_s, true_and, eq_self]
        omega
    · refine ⟨?Gb, ?eb, ?fb, ?vb⟩
      case eb =>
        simp (disch := first | decide | omega) only [gup_k, gup_o, gup_f, gup_s, gd_t, h1, h5, if_true, if_false, bn1_some, nm_eq, if_neg (show ¬ (1 : Int) = 0 by decide)]
        rfl
      case fb =>
        intro k x f z1 z2
        repeat rw [gup_n (by omega)]
      case vb =>
        simp (disch := first | decide | omega) only [gup_k, gup_o, gup_f, gup_s, true_and, eq_self]
        omega
  · refine ⟨?Gc, ?ec, ?fc, ?vc⟩
    case ec =>
      simp (disch := first | decide | omega) only [gup_k, gup_o, gup_f, gup_s, gd_t, h1, if_false, bn1_some]
      rfl
    case fc =>
      intro k x f z1 z2
      repeat rw [gup_n (by omega)]
    case vc =>
      simp (disch := first | decide | omega) only [gup_k, gup_o, gup_f, gup_s, true_and, eq_self]
      omega
/-- a letter put down: the model -/
theorem m_comes {H : GS} {l inn : Int} (hl : 0 ≤ l ∧ l < 12) (hin : inR inn) (hto : inR (H 10 0 (164 + 8 * l + 1))) (hx : H 10 0 (164 + 8 * l + 2) = 0 ∨ H 10 0 (164 + 8 * l + 2) = 1) (v6 k8 k9 k10 k11 : Int)
    (hv : (inn = H 10 0 (164 + 8 * l + 1) ∧ v6 = H 10 0 1 + 1 ∧ k8 = 1 ∧ k9 = H 10 0 1 + 1 - H 10 0 (164 + 8 * l + 3) ∧ ((H 10 0 (164 + 8 * l + 2) = 0 ∧ k10 = 0 ∧ k11 = 0) ∨ (H 10 0 (164 + 8 * l + 2) = 1 ∧ k10 = 1 ∧ k11 = k9))) ∨ (¬ inn = H 10 0 (164 + 8 * l + 1) ∧ v6 = H 10 0 (164 + 8 * l + 6) ∧ k8 = 0 ∧ k9 = 0 ∧ k10 = 0 ∧ k11 = 0)) :
    ∃ H', f_X8_comes H l inn = some H' ∧ (∀ k x f, ¬ (k = 10 ∧ x = 0 ∧ (f = 164 + 8 * l + 5 ∨ f = 164 + 8 * l + 6 ∨ (2 ≤ f ∧ f ≤ 5))) → H' k x f = H k x f) ∧ H' 10 0 (164 + 8 * l + 5) = -1 ∧ H' 10 0 (164 + 8 * l + 6) = v6 ∧ H' 10 0 2 = H 10 0 2 + k8 ∧ H' 10 0 3 = H 10 0 3 + k9 ∧ H' 10 0 4 = H 10 0 4 + k10 ∧ H' 10 0 5 = H 10 0 5 + k11 := by
  unfold f_X8_comes
  rcases hv with ⟨h1, h2, h3, h4, h5⟩ | ⟨h1, h2, h3, h4, h5, h6⟩
  · rcases h5 with ⟨h5, h6, h7⟩ | ⟨h5, h6, h7⟩
    · refine ⟨?Ga, ?ea, ?fa, ?va⟩
      case ea =>
        simp (disch := first | decide | omega) only [m_letterAt, m_ofL, ga_t, gup_k, gup_o, gup_f, gup_s, gd_t, h1, h5, if_true, bn1_some, nm_eq, if_neg (show ¬ (0 : Int) = 1 by decide)]
        rfl
      case fa =>
        intro k x f z1
        repeat rw [gup_n (by omega)]
      case va =>
        simp (disch := first | decide | omega) only [gup_k, gup_o, gup_f, gup_s, true_and, eq_self]
        omega
    · refine ⟨?Gb, ?eb, ?fb, ?vb⟩
      case eb =>
        simp (disch := first | decide | omega) only [m_letterAt, m_ofL, ga_t, gup_k, gup_o, gup_f, gup_s, gd_t, h1, h5, if_true, bn1_some, nm_eq]
        rfl
      case fb =>
        intro k x f z1
        repeat rw [gup_n (by omega)]
      case vb =>
        simp (disch := first | decide | omega) only [gup_k, gup_o, gup_f, gup_s, true_and, eq_self]
        omega
  · refine ⟨?Gc, ?ec, ?fc, ?vc⟩
    case ec =>
      simp (disch := first | decide | omega) only [m_letterAt, m_ofL, ga_t, gup_k, gup_o, gup_f, gup_s, gd_t, h1, if_false, bn1_some]
      rfl
    case fc =>
      intro k x f z1
      repeat rw [gup_n (by omega)]
    case vc =>
      simp (disch := first | decide | omega) only [gup_k, gup_o, gup_f, gup_s, true_and, eq_self]
      omega

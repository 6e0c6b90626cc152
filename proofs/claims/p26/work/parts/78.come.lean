/-! HAS IT COME -/
def allIn (A : Int → Int) : Int := if cnt (pLy A) (A 8).toNat + cnt (pWi A) (A 8).toNat = 0 then 1 else 0
def hasIn (A : Int → Int) (l : Int) : Int := if l = -1 then allIn A else if A (164 + 8 * l + 6) = -1 then 0 else 1
theorem m_allIn {G : GS} {m : Int} (hW : Wf m (G 10 0)) : f_X8_areDelivered G = some (allIn (G 10 0)) := by
  have hWh := hW.1
  unfold WfH at hWh
  have c1 := cnt_le (pLy (G 10 0)) (G 10 0 8).toNat
  have c2 := cnt_le (pWi (G 10 0)) (G 10 0 8).toNat
  unfold f_X8_areDelivered allIn
  rw [m_lettersBy0 hW, bn1_some, m_lettersBy1 hW, bn1_some, gd_t ⟨by omega, by omega⟩]
  split <;> rfl
theorem c_hasCome {G : GS} {o m l : Int} {A : Int → Int} (hR : Rd G o A) (hW : Wf m A) (hl : l = -1 ∨ (0 ≤ l ∧ l < A 8)) : f_X3_hasCome G o l = some (hasIn A l) := by
  have hWh := hW.1
  unfold WfH at hWh
  have c1 := cnt_le (pLy A) (A 8).toNat
  have c2 := cnt_le (pWi A) (A 8).toNat
  unfold f_X3_hasCome hasIn
  rw [gd_t ⟨by omega, by omega⟩]
  rcases hl with rfl | ⟨h0, h1⟩
  · rw [if_pos rfl, if_pos rfl, c_lettersLying hR hW, bn1_some, c_lettersOnStages hR hW, bn1_some, gd_t ⟨by omega, by omega⟩]
    unfold allIn
    split <;> rfl
  · have hT := hR.2.2.2.2.1 l h0 h1
    have hw := hW.2.2.2.2.1 l h0 h1
    unfold RdL at hT
    unfold WfL at hw
    unfold f_X2_isDelivered
    rw [if_neg (show ¬ l = -1 by omega), if_neg (show ¬ l = -1 by omega), ga_t ⟨by omega, by omega⟩, hT.2.2.2.2.2.2.1, gd_t ⟨by omega, by omega⟩]
    by_cases c : A (164 + 8 * l + 6) = -1
    · rw [if_pos c, if_pos c, bn1_some, gb_t (Or.inl rfl)]
    · rw [if_neg c, if_neg c, bn1_some, gb_t (Or.inr rfl)]
theorem hasIn_c {A A' : Int → Int} (h : ∀ f, f ≠ 1 → A' f = A f) {l : Int} (hl : l = -1 ∨ 0 ≤ l) : hasIn A' l = hasIn A l := by
  unfold hasIn allIn
  rw [h 8 (by omega), cnt_congr (p := pLy A') (q := pLy A) (fun i z1 z2 => by unfold pLy; rw [h _ (by omega), h _ (by omega)]), cnt_congr (p := pWi A') (q := pWi A) (fun i z1 z2 => by unfold pWi; rw [h _ (by omega)])]
  rcases hl with rfl | h0
  · rw [if_pos rfl, if_pos rfl]
  · rw [h (164 + 8 * l + 6) (by omega)]

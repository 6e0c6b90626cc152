/-! COUNTS OF THE MODEL -/
theorem m_teamsOf {G : GS} {m n w : Int} {p : Int → Bool} (hW : Wf m (G 10 0)) (hn : inR n) (hp : (w = 2 ∧ p = pAt (G 10 0) n) ∨ (w = 0 ∧ p = pSt (G 10 0) n) ∨ (w = 1 ∧ p = pOn (G 10 0) n)) : f_X8_teamsOf G n w = some (cnt p (G 10 0 7).toNat) := by
  have hWh := hW.1
  unfold WfH at hWh
  obtain ⟨e1, e2⟩ := nT hW
  refine cnt_loop (fun k (s : Int × Int) c => f_X8_teamsOf_L5 G n w k s.1 s.2 (fun a b => c (a, b))) (G 10 0 7).toNat p (fun k x i c h0 h1 => ?_) (fun k x c => ?_) gFuel (fun s => some s.1) e2
  · have hw := hW.2.2.2.1 i h0 (by omega)
    unfold WfT at hw
    show f_X8_teamsOf_L5 G n w (k + 1) x i _ = f_X8_teamsOf_L5 G n w k _ _ _
    rw [f_X8_teamsOf_L5, gd_t ⟨by omega, by omega⟩, gd_t ⟨by omega, by omega⟩, if_pos (by omega), m_of ⟨by omega, by omega⟩, bn1_some, gd_t ⟨by omega, by omega⟩, gd_t hn]
    by_cases c2 : G 10 0 (54 + 11 * i + 2) = n
    · rw [if_pos c2]
      rcases hp with ⟨rfl, rfl⟩ | ⟨rfl, rfl⟩ | ⟨rfl, rfl⟩
      · rw [gd_t (by decide), if_pos rfl, if_pos (by unfold pAt; simpa using c2)]
      · rw [gd_t (by decide), if_neg (by decide), m_of ⟨by omega, by omega⟩, bn1_some, gd_t ⟨by omega, by omega⟩]
        unfold pSt
        by_cases c3 : 0 < G 10 0 (54 + 11 * i + 3)
        · rw [if_pos c3, if_neg (by decide), if_neg (show ¬ decide (G 10 0 (54 + 11 * i + 2) = n ∧ G 10 0 (54 + 11 * i + 3) = 0) = true by simp only [decide_eq_true_eq]; omega)]
        · rw [if_neg c3, if_neg (by decide), if_pos (show decide (G 10 0 (54 + 11 * i + 2) = n ∧ G 10 0 (54 + 11 * i + 3) = 0) = true by simp only [decide_eq_true_eq]; omega)]
      · rw [gd_t (by decide), if_neg (by decide), m_of ⟨by omega, by omega⟩, bn1_some, gd_t ⟨by omega, by omega⟩]
        unfold pOn
        by_cases c3 : 0 < G 10 0 (54 + 11 * i + 3)
        · rw [if_pos c3, if_pos rfl, if_pos (show decide (G 10 0 (54 + 11 * i + 2) = n ∧ 0 < G 10 0 (54 + 11 * i + 3)) = true by simp only [decide_eq_true_eq]; omega)]
        · rw [if_neg c3, if_pos rfl, if_neg (show ¬ decide (G 10 0 (54 + 11 * i + 2) = n ∧ 0 < G 10 0 (54 + 11 * i + 3)) = true by simp only [decide_eq_true_eq]; omega)]
    · rw [if_neg c2]
      have : p i = false := by
        rcases hp with ⟨-, rfl⟩ | ⟨-, rfl⟩ | ⟨-, rfl⟩
        · unfold pAt; simp [c2]
        · unfold pSt; simp [c2]
        · unfold pOn; simp [c2]
      rw [this]
      rfl
  · show f_X8_teamsOf_L5 G n w (k + 1) x _ _ = _
    rw [f_X8_teamsOf_L5, gd_t ⟨by omega, by omega⟩, gd_t ⟨by omega, by omega⟩, if_neg (by omega)]
theorem m_isDel {G : GS} {m l : Int} (hW : Wf m (G 10 0)) (h0 : 0 ≤ l) (h1 : l < G 10 0 8) : f_X8_isDelivered G l = some (if G 10 0 (164 + 8 * l + 6) = -1 then 0 else 1) := by
  have hw := hW.2.2.2.2.1 l h0 h1
  unfold WfL at hw
  have hWh := hW.1
  unfold WfH at hWh
  unfold f_X8_isDelivered
  rw [m_ofL ⟨by omega, by omega⟩, bn1_some, gd_t ⟨by omega, by omega⟩]
  split <;> rfl
theorem m_lies {G : GS} {m l : Int} (hW : Wf m (G 10 0)) (h0 : 0 ≤ l) (h1 : l < G 10 0 8) : f_X8_lies G l = some (if pLy (G 10 0) l then 1 else 0) := by
  have hw := hW.2.2.2.2.1 l h0 h1
  unfold WfL at hw
  have hWh := hW.1
  unfold WfH at hWh
  unfold f_X8_lies pLy
  rw [m_isDel hW h0 h1, bn1_some]
  by_cases c : G 10 0 (164 + 8 * l + 6) = -1
  · rw [if_pos c, gd_t (by decide), if_pos rfl, m_ofL ⟨by omega, by omega⟩, bn1_some, gd_t ⟨by omega, by omega⟩]
    by_cases c2 : G 10 0 (164 + 8 * l + 5) = -1
    · rw [if_pos c2, if_pos (by simpa using ⟨c, c2⟩)]
    · rw [if_neg c2, if_neg (by simp [c2])]
  · rw [if_neg c, gd_t (by decide), if_neg (by decide), if_neg (by simp [c])]
theorem m_lettersAt {G : GS} {m n : Int} (hW : Wf m (G 10 0)) (hn : inR n) : f_X8_lettersAt G n = some (cnt (pLa (G 10 0) n) (G 10 0 8).toNat) := by
  have hWh := hW.1
  unfold WfH at hWh
  obtain ⟨e1, e2⟩ := nL' hW
  refine cnt_loop (fun k (s : Int × Int) c => f_X8_lettersAt_L4 G n k s.1 s.2 (fun a b => c (a, b))) (G 10 0 8).toNat (pLa (G 10 0) n) (fun k x i c h0 h1 => ?_) (fun k x c => ?_) gFuel (fun s => some s.1) e2
  · have hw := hW.2.2.2.2.1 i h0 (by omega)
    unfold WfL at hw
    show f_X8_lettersAt_L4 G n (k + 1) x i _ = f_X8_lettersAt_L4 G n k _ _ _
    rw [f_X8_lettersAt_L4, gd_t ⟨by omega, by omega⟩, gd_t ⟨by omega, by omega⟩, if_pos (by omega), m_lies hW h0 (by omega), bn1_some]
    unfold pLa pLy
    by_cases c1 : G 10 0 (164 + 8 * i + 6) = -1 ∧ G 10 0 (164 + 8 * i + 5) = -1
    · rw [if_pos (show decide (G 10 0 (164 + 8 * i + 6) = -1 ∧ G 10 0 (164 + 8 * i + 5) = -1) = true by simpa using c1), gd_t (by decide), if_neg (by decide), m_ofL ⟨by omega, by omega⟩, bn1_some, gd_t ⟨by omega, by omega⟩, gd_t hn]
      by_cases c : G 10 0 (164 + 8 * i + 4) = n
      · rw [if_pos c, if_pos (by simp [c1, c])]
      · rw [if_neg c, if_neg (by simp [c])]
    · rw [if_neg (show ¬ decide (G 10 0 (164 + 8 * i + 6) = -1 ∧ G 10 0 (164 + 8 * i + 5) = -1) = true by simpa using c1), gd_t (by decide), if_pos rfl, if_neg (by simp only [decide_eq_true_eq]; exact fun z => c1 z.1)]
  · show f_X8_lettersAt_L4 G n (k + 1) x _ _ = _
    rw [f_X8_lettersAt_L4, gd_t ⟨by omega, by omega⟩, gd_t ⟨by omega, by omega⟩, if_neg (by omega)]
theorem m_lettersBy0 {G : GS} {m : Int} (hW : Wf m (G 10 0)) : f_X8_lettersBy G 0 = some (cnt (pLy (G 10 0)) (G 10 0 8).toNat) := by
  have hWh := hW.1
  unfold WfH at hWh
  obtain ⟨e1, e2⟩ := nL' hW
  refine cnt_loop (fun k (s : Int × Int) c => f_X8_lettersBy_L4 G 0 k s.1 s.2 (fun a b => c (a, b))) (G 10 0 8).toNat (pLy (G 10 0)) (fun k x i c h0 h1 => ?_) (fun k x c => ?_) gFuel (fun s => some s.1) e2
  · show f_X8_lettersBy_L4 G 0 (k + 1) x i _ = f_X8_lettersBy_L4 G 0 k _ _ _
    rw [f_X8_lettersBy_L4, gd_t ⟨by omega, by omega⟩, gd_t ⟨by omega, by omega⟩, if_pos (by omega), gd_t (by decide), if_pos rfl, m_lies hW h0 (by omega), bn1_some]
    by_cases c : pLy (G 10 0) i = true
    · rw [if_pos c, gd_t (by decide), if_neg (by decide)]
    · rw [if_neg c, gd_t (by decide), if_pos rfl]
  · show f_X8_lettersBy_L4 G 0 (k + 1) x _ _ = _
    rw [f_X8_lettersBy_L4, gd_t ⟨by omega, by omega⟩, gd_t ⟨by omega, by omega⟩, if_neg (by omega)]
theorem m_lettersBy1 {G : GS} {m : Int} (hW : Wf m (G 10 0)) : f_X8_lettersBy G 1 = some (cnt (pWi (G 10 0)) (G 10 0 8).toNat) := by
  have hWh := hW.1
  unfold WfH at hWh
  obtain ⟨e1, e2⟩ := nL' hW
  refine cnt_loop (fun k (s : Int × Int) c => f_X8_lettersBy_L4 G 1 k s.1 s.2 (fun a b => c (a, b))) (G 10 0 8).toNat (pWi (G 10 0)) (fun k x i c h0 h1 => ?_) (fun k x c => ?_) gFuel (fun s => some s.1) e2
  · have hw := hW.2.2.2.2.1 i h0 (by omega)
    unfold WfL at hw
    show f_X8_lettersBy_L4 G 1 (k + 1) x i _ = f_X8_lettersBy_L4 G 1 k _ _ _
    rw [f_X8_lettersBy_L4, gd_t ⟨by omega, by omega⟩, gd_t ⟨by omega, by omega⟩, if_pos (by omega), gd_t (by decide), if_neg (by decide), m_ofL ⟨by omega, by omega⟩, bn1_some, gd_t ⟨by omega, by omega⟩]
    unfold pWi
    by_cases c : G 10 0 (164 + 8 * i + 5) = -1
    · rw [if_pos c, if_neg (by simpa using c)]
    · rw [if_neg c, if_pos (by simpa using c)]
  · show f_X8_lettersBy_L4 G 1 (k + 1) x _ _ = _
    rw [f_X8_lettersBy_L4, gd_t ⟨by omega, by omega⟩, gd_t ⟨by omega, by omega⟩, if_neg (by omega)]
theorem m_teamsOn {G : GS} {m n : Int} (hW : Wf m (G 10 0)) (hn : 0 ≤ n ∧ n < 7) : f_X8_teamsOn G n = some (cnt (pSg (G 10 0) n) (G 10 0 7).toNat) := by
  have hWh := hW.1
  unfold WfH at hWh
  obtain ⟨e1, e2⟩ := nT hW
  refine cnt_loop (fun k (s : Int × Int) c => f_X8_teamsOn_L4 G n k s.1 s.2 (fun a b => c (a, b))) (G 10 0 7).toNat (pSg (G 10 0) n) (fun k x i c h0 h1 => ?_) (fun k x c => ?_) gFuel (fun s => some s.1) e2
  · have hw := hW.2.2.2.1 i h0 (by omega)
    unfold WfT at hw
    show f_X8_teamsOn_L4 G n (k + 1) x i _ = f_X8_teamsOn_L4 G n k _ _ _
    rw [f_X8_teamsOn_L4, gd_t ⟨by omega, by omega⟩, gd_t ⟨by omega, by omega⟩, if_pos (by omega), m_of ⟨by omega, by omega⟩, bn1_some, gd_t ⟨by omega, by omega⟩]
    unfold pSg
    by_cases c : 0 < G 10 0 (54 + 11 * i + 3)
    · have hr : inR (if G 10 0 (54 + 11 * i + 2) < G 10 0 (54 + 11 * i + 10) then G 10 0 (54 + 11 * i + 2) else G 10 0 (54 + 11 * i + 10)) := by split <;> exact ⟨by omega, by omega⟩
      rw [if_pos c, m_of ⟨by omega, by omega⟩, bn1_some, m_of ⟨by omega, by omega⟩, bn1_some, m_between ⟨by omega, by omega⟩ ⟨by omega, by omega⟩, bn1_some, gd_t hr, gd_t ⟨by omega, by omega⟩]
      by_cases c2 : (if G 10 0 (54 + 11 * i + 2) < G 10 0 (54 + 11 * i + 10) then G 10 0 (54 + 11 * i + 2) else G 10 0 (54 + 11 * i + 10)) = n
      · rw [if_pos c2]
        rw [if_pos (show decide (0 < G 10 0 (54 + 11 * i + 3) ∧ (if G 10 0 (54 + 11 * i + 2) < G 10 0 (54 + 11 * i + 10) then G 10 0 (54 + 11 * i + 2) else G 10 0 (54 + 11 * i + 10)) = n) = true by simpa only [decide_eq_true_eq] using ⟨c, c2⟩)]
      · rw [if_neg c2]
        rw [if_neg (show ¬ decide (0 < G 10 0 (54 + 11 * i + 3) ∧ (if G 10 0 (54 + 11 * i + 2) < G 10 0 (54 + 11 * i + 10) then G 10 0 (54 + 11 * i + 2) else G 10 0 (54 + 11 * i + 10)) = n) = true by simp only [decide_eq_true_eq]; exact fun z => c2 z.2)]
    · rw [if_neg c, if_neg (by simp only [decide_eq_true_eq]; exact fun z => c z.1)]
  · show f_X8_teamsOn_L4 G n (k + 1) x _ _ = _
    rw [f_X8_teamsOn_L4, gd_t ⟨by omega, by omega⟩, gd_t ⟨by omega, by omega⟩, if_neg (by omega)]
def fb (A : Int → Int) (n : Int) : Int := if 0 < A (30 + 3 * n) - cnt (pAt A n) (A 7).toNat then A (30 + 3 * n) - cnt (pAt A n) (A 7).toNat else 0
theorem fb_r {m n : Int} {A : Int → Int} (hW : Wf m A) (h0 : 0 ≤ n) (h1 : n < A 0) : 0 ≤ fb A n ∧ fb A n ≤ 6 := by
  have hw := hW.2.2.1 n h0 h1
  unfold WfN at hw
  have := cnt_le (pAt A n) (A 7).toNat
  unfold fb
  split <;> omega
theorem fb_0 (A : Int → Int) (n : Int) : fb A n = 0 ↔ ¬ cnt (pAt A n) (A 7).toNat < A (30 + 3 * n) := by
  unfold fb
  split <;> omega
theorem fb_p (A : Int → Int) (n : Int) : 0 < fb A n ↔ cnt (pAt A n) (A 7).toNat < A (30 + 3 * n) := by
  unfold fb
  split <;> omega
theorem m_freeBeds {G : GS} {m n : Int} (hW : Wf m (G 10 0)) (h0 : 0 ≤ n) (h1 : n < G 10 0 0) : f_X8_freeBeds G n = some (fb (G 10 0) n) := by
  have hWh := hW.1
  unfold WfH at hWh
  have hw := hW.2.2.1 n h0 h1
  unfold WfN at hw
  have hc := cnt_le (pAt (G 10 0) n) (G 10 0 7).toNat
  unfold f_X8_freeBeds fb
  rw [ga_t ⟨by omega, by omega⟩, m_teamsOf hW ⟨by omega, by omega⟩ (Or.inl ⟨rfl, rfl⟩), bn1_some, gd_t ⟨by omega, by omega⟩]
  by_cases c : G 10 0 (30 + 3 * n) - cnt (pAt (G 10 0) n) (G 10 0 7).toNat < 0
  · rw [if_pos c, if_neg (by omega)]
  · rw [if_neg c]
    split
    · rfl
    · exact congrArg some (by omega)
theorem c_freeBeds {G : GS} {o m n : Int} {A : Int → Int} (hR : Rd G o A) (hW : Wf m A) (h0 : 0 ≤ n) (h1 : n < A 0) : f_X3_freeBeds G o n = some (fb A n) := by
  have hWh := hW.1
  unfold WfH at hWh
  have hN := hR.2.2.1 n h0 h1
  unfold RdN at hN
  have hw := hW.2.2.1 n h0 h1
  unfold WfN at hw
  have hc := cnt_le (pAt A n) (A 7).toNat
  unfold f_X3_freeBeds fb
  rw [ga_t ⟨by omega, by omega⟩, c_bedsTaken hR hW ⟨by omega, by omega⟩, bn1_some, hN.1, gd_t ⟨by omega, by omega⟩]
/-! the team for a letter -/
def ft (A : Int → Int) (n : Int) : Nat → Int
  | 0 => -1
  | k + 1 => if A (54 + 11 * k + 2) = n ∧ A (54 + 11 * k + 3) = 0 ∧ (ft A n k = -1 ∨ A (54 + 11 * k + 1) < A (54 + 11 * ft A n k + 1)) then k else ft A n k
def fe (A : Int → Int) (n e : Int) : Nat → Int
  | 0 => -1
  | k + 1 => if A (54 + 11 * k + 2) = n ∧ A (54 + 11 * k + 3) = 0 ∧ A (54 + 11 * k + 1) + e ≤ 100 ∧ (fe A n e k = -1 ∨ A (54 + 11 * k + 1) < A (54 + 11 * fe A n e k + 1)) then k else fe A n e k
theorem ft_r (A : Int → Int) (n : Int) (k : Nat) : ft A n k = -1 ∨ (0 ≤ ft A n k ∧ ft A n k < k ∧ A (54 + 11 * ft A n k + 2) = n ∧ A (54 + 11 * ft A n k + 3) = 0) := by
  induction k with
  | zero => exact Or.inl rfl
  | succ k ih =>
    rw [ft]
    split
    · rename_i h
      exact Or.inr ⟨by omega, by omega, h.1, h.2.1⟩
    · rcases ih with h | h
      · exact Or.inl h
      · exact Or.inr ⟨h.1, by omega, h.2.2⟩
theorem fe_ft (A : Int → Int) (n e : Int) (k : Nat) : fe A n e k = if ft A n k ≠ -1 ∧ A (54 + 11 * ft A n k + 1) + e ≤ 100 then ft A n k else -1 := by
  induction k with
  | zero => rfl
  | succ k ih =>
    have hr := ft_r A n k
    rw [fe, ft, ih]
    by_cases c : A (54 + 11 * (k : Int) + 2) = n ∧ A (54 + 11 * (k : Int) + 3) = 0
    · by_cases d : ft A n k = -1
      · rw [d]
        simp only [c, ne_eq, not_true, false_and, if_false, true_or, and_true, true_and, if_true]
        by_cases q : A (54 + 11 * (k : Int) + 1) + e ≤ 100
        · rw [if_pos q, if_pos ⟨by omega, q⟩]
        · rw [if_neg q, if_neg (fun z => q z.2)]
      · by_cases g : A (54 + 11 * (k : Int) + 1) < A (54 + 11 * ft A n k + 1)
        · rw [if_pos (show A (54 + 11 * (k : Int) + 2) = n ∧ A (54 + 11 * (k : Int) + 3) = 0 ∧ (ft A n k = -1 ∨ A (54 + 11 * (k : Int) + 1) < A (54 + 11 * ft A n k + 1)) from ⟨c.1, c.2, Or.inr g⟩)]
          by_cases q : A (54 + 11 * ft A n k + 1) + e ≤ 100
          · rw [if_pos (show ft A n k ≠ -1 ∧ A (54 + 11 * ft A n k + 1) + e ≤ 100 from ⟨d, q⟩), if_pos ⟨c.1, c.2, by omega, Or.inr g⟩, if_pos ⟨by omega, by omega⟩]
          · rw [if_neg (show ¬ (ft A n k ≠ -1 ∧ A (54 + 11 * ft A n k + 1) + e ≤ 100) from fun z => q z.2)]
            by_cases q2 : A (54 + 11 * (k : Int) + 1) + e ≤ 100
            · rw [if_pos ⟨c.1, c.2, q2, Or.inl rfl⟩, if_pos ⟨by omega, q2⟩]
            · rw [if_neg (fun z => q2 z.2.2.1), if_neg (fun z => q2 z.2)]
        · rw [if_neg (show ¬ (A (54 + 11 * (k : Int) + 2) = n ∧ A (54 + 11 * (k : Int) + 3) = 0 ∧ (ft A n k = -1 ∨ A (54 + 11 * (k : Int) + 1) < A (54 + 11 * ft A n k + 1))) from fun z => by rcases z.2.2 with z | z; exact d z; exact g z)]
          by_cases q : A (54 + 11 * ft A n k + 1) + e ≤ 100
          · rw [if_pos (show ft A n k ≠ -1 ∧ A (54 + 11 * ft A n k + 1) + e ≤ 100 from ⟨d, q⟩), if_neg (fun z => by rcases z.2.2.2 with z | z; exact d z; exact g z)]
          · rw [if_neg (show ¬ (ft A n k ≠ -1 ∧ A (54 + 11 * ft A n k + 1) + e ≤ 100) from fun z => q z.2), if_neg (fun z => by have := z.2.2.1; omega)]
    · rw [if_neg (show ¬ (A (54 + 11 * (k : Int) + 2) = n ∧ A (54 + 11 * (k : Int) + 3) = 0 ∧ (ft A n k = -1 ∨ A (54 + 11 * (k : Int) + 1) < A (54 + 11 * ft A n k + 1))) from fun z => c ⟨z.1, z.2.1⟩), if_neg (fun z => c ⟨z.1, z.2.1⟩)]
theorem ft_none {A : Int → Int} {n : Int} {k : Nat} : ft A n k = -1 ↔ cnt (pSt A n) k = 0 := by
  induction k with
  | zero => exact ⟨fun _ => rfl, fun _ => rfl⟩
  | succ k ih =>
    have hl := cnt_le (pSt A n) k
    rw [ft, cnt]
    unfold pSt at ih hl ⊢
    by_cases c : A (54 + 11 * (k : Int) + 2) = n ∧ A (54 + 11 * (k : Int) + 3) = 0
    · rw [if_pos (show decide (A (54 + 11 * (k : Int) + 2) = n ∧ A (54 + 11 * (k : Int) + 3) = 0) = true by simpa only [decide_eq_true_eq] using c)]
      constructor
      · intro h
        split at h
        · omega
        · rename_i z
          exact absurd ⟨c.1, c.2, Or.inl h⟩ z
      · intro h
        omega
    · rw [if_neg (show ¬ decide (A (54 + 11 * (k : Int) + 2) = n ∧ A (54 + 11 * (k : Int) + 3) = 0) = true by simpa only [decide_eq_true_eq] using c), if_neg (fun z => c ⟨z.1, z.2.1⟩), ih, Int.add_zero]

/-! WHY A LETTER CAN'T GO ON -/
theorem idx_loop {σ α : Type} (L : Nat → σ → (σ → Option α) → Option α) (N : Nat) (st : Nat → σ) (step : ∀ (n i : Nat) (k : σ → Option α), i < N → L (n + 1) (st i) k = L n (st (i + 1)) k) (fin : ∀ (n : Nat) (k : σ → Option α), L (n + 1) (st N) k = k (st N)) : ∀ n k, N < n → L n (st 0) k = k (st N) := by
  have main : ∀ (d : Nat) (i : Nat), i + d = N → ∀ n k, d < n → L n (st i) k = k (st N) := by
    intro d
    induction d with
    | zero =>
      intro i hi n k hn
      obtain ⟨n, rfl⟩ : ∃ m, n = m + 1 := ⟨n - 1, by omega⟩
      have : i = N := by omega
      subst this
      exact fin n k
    | succ d ih =>
      intro i hi n k hn
      obtain ⟨n, rfl⟩ : ∃ m, n = m + 1 := ⟨n - 1, by omega⟩
      rw [step n i k (by omega)]
      exact ih (i + 1) (by omega) n k (by omega)
  intro n k hn
  exact main N 0 (by omega) n k hn
def tr (A : Int → Int) (f : Int) : Int := if f = -1 then 101 else A (54 + 11 * f + 1)
theorem c_fittest {G : GS} {o m n : Int} {A : Int → Int} (hR : Rd G o A) (hW : Wf m A) (hn : inR n) : f_X3_fittestTeamAt G o n = some (ft A n (A 7).toNat) := by
  have hWh := hW.1
  unfold WfH at hWh
  have r5 : G 3 o 5 = A 7 := hR.1.2.1
  obtain ⟨e1, e2⟩ := nT hW
  refine idx_loop (fun k (s : Int × Int × Int) c => f_X3_fittestTeamAt_L8 G o n k s.1 s.2.1 s.2.2 (fun a b d => c (a, b, d))) (A 7).toNat (fun i => (ft A n i, tr A (ft A n i), (i : Int))) (fun k i c h1 => ?_) (fun k c => ?_) gFuel (fun s => some s.1) e2
  · have h0 : 0 ≤ (i : Int) := by omega
    have hT := hR.2.2.2.1 i h0 (by omega)
    have hw := hW.2.2.2.1 i h0 (by omega)
    unfold RdT at hT
    unfold WfT at hw
    have hr := ft_r A n i
    have hwf : ft A n i ≠ -1 → 0 ≤ A (54 + 11 * ft A n i + 1) ∧ A (54 + 11 * ft A n i + 1) ≤ 100 := fun z => by
      have := hW.2.2.2.1 (ft A n i) (by omega) (by omega)
      unfold WfT at this
      exact this.2.1
    show f_X3_fittestTeamAt_L8 G o n (k + 1) (ft A n i) (tr A (ft A n i)) i _ = f_X3_fittestTeamAt_L8 G o n k (ft A n (i + 1)) (tr A (ft A n (i + 1))) ((i + 1 : Nat) : Int) _
    have ei : ((i + 1 : Nat) : Int) = (i : Int) + 1 := by omega
    rw [ei, f_X3_fittestTeamAt_L8, gd_t ⟨by omega, by omega⟩, gd_t ⟨by omega, by omega⟩, if_pos (by omega), ga_t ⟨by omega, by omega⟩, ft]
    unfold f_X6_standsAt
    rw [gd_t ⟨by omega, by omega⟩]
    by_cases c3 : A (54 + 11 * (i : Int) + 3) = 0
    · rw [if_pos (hT.2.2.2.2.2.2.2.2.2.2.2.1 c3), gd_t ⟨by omega, by omega⟩, gd_t hn, hT.2.2.1]
      by_cases c2 : A (54 + 11 * (i : Int) + 2) = n
      · rw [if_pos c2, bn1_some, gd_t (by decide), if_neg (by decide), hT.2.1, gd_t ⟨by omega, by omega⟩]
        unfold tr
        by_cases cf : ft A n i = -1
        · rw [if_pos cf, gd_t (by decide), if_pos (by omega), if_pos ⟨c2, c3, Or.inl cf⟩, if_neg (by omega)]
        · have := hwf cf
          rw [if_neg cf, gd_t ⟨by omega, by omega⟩]
          by_cases g : A (54 + 11 * (i : Int) + 1) < A (54 + 11 * ft A n i + 1)
          · rw [if_pos g, if_pos ⟨c2, c3, Or.inr g⟩, if_neg (by omega)]
          · rw [if_neg g, if_neg (fun z => by rcases z.2.2 with z | z; exact cf z; exact g z), if_neg cf]
      · rw [if_neg c2, bn1_some, gd_t (by decide), if_pos rfl, if_neg (fun z => c2 z.1)]
    · rw [if_neg (by omega), bn1_some, gd_t (by decide), if_pos rfl, if_neg (fun z => c3 z.2.1)]
  · show f_X3_fittestTeamAt_L8 G o n (k + 1) (ft A n (A 7).toNat) (tr A (ft A n (A 7).toNat)) ((A 7).toNat : Int) _ = _
    rw [f_X3_fittestTeamAt_L8, gd_t ⟨by omega, by omega⟩, gd_t ⟨by omega, by omega⟩, if_neg (by omega)]
theorem fe_r (A : Int → Int) (n e : Int) (k : Nat) : fe A n e k = -1 ∨ (0 ≤ fe A n e k ∧ fe A n e k < k) := by
  have := ft_r A n k
  rw [fe_ft]
  split <;> omega
theorem m_teamLoop {G : GS} {m l n e : Int} (hW : Wf m (G 10 0)) (hn : inR n) (he : 0 ≤ e ∧ e ≤ 65) : f_X8_teamFor_L29 G l gFuel n e (-1) 0 (fun y2 y3 y4 y5 => some y4) = some (fe (G 10 0) n e (G 10 0 7).toNat) := by
  have hWh := hW.1
  unfold WfH at hWh
  obtain ⟨e1, e2⟩ := nT hW
  refine idx_loop (fun k (s : Int × Int) c => f_X8_teamFor_L29 G l k n e s.1 s.2 (fun a b d f => c (d, f))) (G 10 0 7).toNat (fun i => (fe (G 10 0) n e i, (i : Int))) (fun k i c h1 => ?_) (fun k c => ?_) gFuel (fun s => some s.1) e2
  · have h0 : 0 ≤ (i : Int) := by omega
    have hw := hW.2.2.2.1 i h0 (by omega)
    unfold WfT at hw
    have hr := fe_r (G 10 0) n e i
    have hwf : fe (G 10 0) n e i ≠ -1 → 0 ≤ G 10 0 (54 + 11 * fe (G 10 0) n e i + 1) ∧ G 10 0 (54 + 11 * fe (G 10 0) n e i + 1) ≤ 100 := fun z => by
      have := hW.2.2.2.1 (fe (G 10 0) n e i) (by omega) (by omega)
      unfold WfT at this
      exact this.2.1
    show f_X8_teamFor_L29 G l (k + 1) n e (fe (G 10 0) n e i) i _ = f_X8_teamFor_L29 G l k n e (fe (G 10 0) n e (i + 1)) ((i + 1 : Nat) : Int) _
    have ei : ((i + 1 : Nat) : Int) = (i : Int) + 1 := by omega
    rw [ei, f_X8_teamFor_L29, gd_t ⟨by omega, by omega⟩, gd_t ⟨by omega, by omega⟩, if_pos (by omega), m_of ⟨by omega, by omega⟩, bn1_some, gd_t ⟨by omega, by omega⟩, gd_t hn, fe]
    by_cases c2 : G 10 0 (54 + 11 * (i : Int) + 2) = n
    · rw [if_pos c2, m_of ⟨by omega, by omega⟩, bn1_some, gd_t ⟨by omega, by omega⟩]
      by_cases c3 : G 10 0 (54 + 11 * (i : Int) + 3) = 0
      · rw [if_pos c3, m_of ⟨by omega, by omega⟩, bn1_some, gd_t ⟨by omega, by omega⟩]
        by_cases c4 : 100 < G 10 0 (54 + 11 * (i : Int) + 1) + e
        · rw [if_pos c4, if_neg (fun z => by have := z.2.2.1; omega)]
        · rw [if_neg c4, gd_t ⟨by omega, by omega⟩]
          by_cases cf : fe (G 10 0) n e i = -1
          · rw [if_pos cf, if_pos ⟨c2, c3, by omega, Or.inl cf⟩]
          · have := hwf cf
            rw [if_neg cf, bn1_some, m_of ⟨by omega, by omega⟩, bn1_some, gd_t ⟨by omega, by omega⟩, gd_t ⟨by omega, by omega⟩]
            by_cases g : G 10 0 (54 + 11 * (i : Int) + 1) < G 10 0 (54 + 11 * fe (G 10 0) n e i + 1)
            · rw [if_pos g, if_pos ⟨c2, c3, by omega, Or.inr g⟩]
            · rw [if_neg g, if_neg (fun z => by rcases z.2.2.2 with z | z; exact cf z; exact g z)]
      · rw [if_neg c3, if_neg (fun z => c3 z.2.1)]
    · rw [if_neg c2, if_neg (fun z => c2 z.1)]
  · show f_X8_teamFor_L29 G l (k + 1) n e (fe (G 10 0) n e (G 10 0 7).toNat) ((G 10 0 7).toNat : Int) _ = _
    rw [f_X8_teamFor_L29, gd_t ⟨by omega, by omega⟩, gd_t ⟨by omega, by omega⟩, if_neg (by omega)]
/-- the next inn, the stage to it, the direction -/
def nx (a b : Int) : Int := if a < b then a + 1 else a - 1
def sg (a b : Int) : Int := if a < b then a else b
def up (a b : Int) : Int := if a < b then 1 else 0
def wn (A : Int → Int) (l : Int) : Int :=
  if ¬ A (164 + 8 * l + 6) = -1 then 1 else if ¬ A (164 + 8 * l + 5) = -1 then 2 else
  if A (9 + 3 * sg (A (164 + 8 * l + 4)) (nx (A (164 + 8 * l + 4)) (A (164 + 8 * l + 1))) + 2) = 1 then 3 else
  if A (30 + 3 * A (164 + 8 * l + 4) + 2) = 1 ∨ A (30 + 3 * nx (A (164 + 8 * l + 4)) (A (164 + 8 * l + 1)) + 2) = 1 then 4 else
  if fb A (nx (A (164 + 8 * l + 4)) (A (164 + 8 * l + 1))) = 0 then 5 else
  if ft A (A (164 + 8 * l + 4)) (A 7).toNat = -1 then 6 else
  if 100 < A (54 + 11 * ft A (A (164 + 8 * l + 4)) (A 7).toNat + 1) + ef A (sg (A (164 + 8 * l + 4)) (nx (A (164 + 8 * l + 4)) (A (164 + 8 * l + 1)))) (up (A (164 + 8 * l + 4)) (nx (A (164 + 8 * l + 4)) (A (164 + 8 * l + 1)))) then 7 else 0
theorem c_next {G : GS} {a b : Int} (ha : inR a) (hb : inR b) : f_X7_nextInn G a b = some (nx a b) := by
  unfold f_X7_nextInn nx
  rw [gd_t hb, gd_t ha]
  by_cases c : a < b
  · rw [if_pos c, if_pos c]
  · rw [if_neg c, if_neg c]
theorem c_between {G : GS} {a b : Int} (ha : inR a) (hb : inR b) : f_X7_stageBetween G a b = some (sg a b) := by
  unfold f_X7_stageBetween sg
  rw [gd_t ha, gd_t hb]
  by_cases c : a < b
  · rw [if_pos c, if_pos c]
  · rw [if_neg c, if_neg c]
/-- what is known of the way on -/
theorem way_r {A : Int → Int} {a b : Int} (ha : 0 ≤ a ∧ a < A 0) (hb : 0 ≤ b ∧ b < A 0) (h : a ≠ b) : (0 ≤ nx a b ∧ nx a b < A 0) ∧ (0 ≤ sg a (nx a b) ∧ sg a (nx a b) < A 0 - 1) ∧ ((a < nx a b ∧ sg a (nx a b) = a ∧ up a (nx a b) = 1 ∧ nx a b = a + 1) ∨ (¬ a < nx a b ∧ sg a (nx a b) = nx a b ∧ up a (nx a b) = 0 ∧ nx a b = a - 1)) := by
  by_cases c : a < b
  · have e : nx a b = a + 1 := if_pos c
    have e2 : sg a (nx a b) = a := if_pos (by omega)
    have e3 : up a (nx a b) = 1 := if_pos (by omega)
    omega
  · have e : nx a b = a - 1 := if_neg c
    have e2 : sg a (nx a b) = nx a b := if_neg (by omega)
    have e3 : up a (nx a b) = 0 := if_neg (by omega)
    omega
theorem c_why {G : GS} {o m l : Int} {A : Int → Int} (hR : Rd G o A) (hW : Wf m A) (h0 : 0 ≤ l) (h1 : l < A 8) : f_X3_hindrance G o l = some (wn A l) := by
  have hWh := hW.1
  unfold WfH at hWh
  have hT := hR.2.2.2.2.1 l h0 h1
  have hw := hW.2.2.2.2.1 l h0 h1
  unfold RdL at hT
  unfold WfL at hw
  obtain ⟨t0, t1, t2, t3, t4, t5, t6, t7⟩ := hT
  unfold f_X3_hindrance f_X2_isDelivered f_X2_isOnStage wn
  rw [ga_t ⟨by omega, by omega⟩, t6, gd_t ⟨by omega, by omega⟩]
  by_cases c6 : A (164 + 8 * l + 6) = -1
  · rw [if_pos c6, bn1_some, gd_t (by decide), if_pos rfl, if_neg (show ¬ ¬ A (164 + 8 * l + 6) = -1 from fun z => z c6), t5, gd_t ⟨by omega, by omega⟩]
    by_cases c5 : A (164 + 8 * l + 5) = -1
    · have wy := way_r (A := A) (a := A (164 + 8 * l + 4)) (b := A (164 + 8 * l + 1)) ⟨by omega, by omega⟩ ⟨by omega, by omega⟩ (hw.2.2.2.2.2.2.2 c6 c5)
      rw [if_pos c5, bn1_some, gd_t (by decide), if_pos rfl, if_neg (show ¬ ¬ A (164 + 8 * l + 5) = -1 from fun z => z c5), t4, t1, c_next ⟨by omega, by omega⟩ ⟨by omega, by omega⟩, bn1_some, c_between ⟨by omega, by omega⟩ ⟨by omega, by omega⟩, bn1_some]
      obtain ⟨a, ha⟩ : ∃ a, a = A (164 + 8 * l + 4) := ⟨_, rfl⟩
      rw [← ha] at wy ⊢
      obtain ⟨b, hb⟩ : ∃ b, b = nx a (A (164 + 8 * l + 1)) := ⟨_, rfl⟩
      rw [← hb] at wy ⊢
      obtain ⟨s, hs⟩ : ∃ s, s = sg a b := ⟨_, rfl⟩
      rw [← hs] at wy ⊢
      obtain ⟨u, hu⟩ : ∃ u, u = up a b := ⟨_, rfl⟩
      rw [← hu] at wy ⊢
      have rS := hR.2.1 s wy.2.1.1 wy.2.1.2
      have wS := hW.2.1 s wy.2.1.1 wy.2.1.2
      have re := ef_le (u := u) wS
      have ce := c_eff (u := u) rS wS (by omega)
      unfold RdS at rS
      unfold WfS at wS
      have rA := hR.2.2.1 a (by omega) (by omega)
      have wA := hW.2.2.1 a (by omega) (by omega)
      have rB := hR.2.2.1 b wy.1.1 wy.1.2
      have wB := hW.2.2.1 b wy.1.1 wy.1.2
      unfold RdN at rA rB
      unfold WfN at wA wB
      have hc := cnt_le (pAt A b) (A 7).toNat
      have rf := fb_r hW wy.1.1 wy.1.2
      rw [ga_t ⟨by omega, by omega⟩, rS.2.2, gd_t ⟨by omega, by omega⟩]
      by_cases d1 : A (9 + 3 * s + 2) = 0
      · rw [if_pos d1, if_neg (show ¬ A (9 + 3 * s + 2) = 1 by omega), ga_t ⟨by omega, by omega⟩, rA.2.2, gd_t ⟨by omega, by omega⟩]
        by_cases d2 : A (30 + 3 * a + 2) = 0
        · rw [if_pos d2, ga_t ⟨by omega, by omega⟩, rB.2.2, gd_t ⟨by omega, by omega⟩]
          by_cases d3 : A (30 + 3 * b + 2) = 0
          · rw [if_pos d3, if_neg (show ¬ (A (30 + 3 * a + 2) = 1 ∨ A (30 + 3 * b + 2) = 1) by omega), c_bedsTaken hR hW ⟨by omega, by omega⟩, bn1_some, gd_t ⟨by omega, by omega⟩, rB.1, gd_t ⟨by omega, by omega⟩]
            by_cases d4 : fb A b = 0
            · rw [if_neg ((fb_0 A b).mp d4), if_pos d4]
            · rw [if_pos (Decidable.not_not.mp (fun z => d4 ((fb_0 A b).mpr z))), if_neg d4, c_fittest hR hW ⟨by omega, by omega⟩, bn1_some]
              have rt := ft_r A a (A 7).toNat
              rw [gd_t ⟨by omega, by omega⟩]
              by_cases d5 : ft A a (A 7).toNat = -1
              · rw [if_pos d5, if_pos d5]
              · have rT := hR.2.2.2.1 (ft A a (A 7).toNat) (by omega) (by omega)
                have wT := hW.2.2.2.1 (ft A a (A 7).toNat) (by omega) (by omega)
                unfold RdT at rT
                unfold WfT at wT
                rw [if_neg d5, if_neg d5, ga_t ⟨by omega, by omega⟩, gd_t ⟨by omega, by omega⟩, gd_t ⟨by omega, by omega⟩, rT.2.1]
                by_cases d6 : a < b
                · have eu : u = 1 := by omega
                  rw [eu] at ce re ⊢
                  rw [if_pos d6, ce, bn1_some, gd_t ⟨by omega, by omega⟩]
                  by_cases d7 : 100 < A (54 + 11 * ft A a (A 7).toNat + 1) + ef A s 1
                  · rw [if_pos d7, if_pos d7]
                  · rw [if_neg d7, if_neg d7]
                · have eu : u = 0 := by omega
                  rw [eu] at ce re ⊢
                  rw [if_neg d6, ce, bn1_some, gd_t ⟨by omega, by omega⟩]
                  by_cases d7 : 100 < A (54 + 11 * ft A a (A 7).toNat + 1) + ef A s 0
                  · rw [if_pos d7, if_pos d7]
                  · rw [if_neg d7, if_neg d7]
          · rw [if_neg d3, if_pos (show A (30 + 3 * a + 2) = 1 ∨ A (30 + 3 * b + 2) = 1 by omega)]
        · rw [if_neg d2, if_pos (show A (30 + 3 * a + 2) = 1 ∨ A (30 + 3 * b + 2) = 1 by omega)]
      · rw [if_neg d1, if_pos (show A (9 + 3 * s + 2) = 1 by omega)]
    · rw [if_neg c5, bn1_some, gd_t (by decide), if_neg (by decide), if_pos c5]
  · rw [if_neg c6, bn1_some, gd_t (by decide), if_neg (by decide), if_pos c6]
theorem m_teamFor {G : GS} {m l a b s u : Int} (hW : Wf m (G 10 0)) (h0 : 0 ≤ l) (h1 : l < G 10 0 8) (ha : a = G 10 0 (164 + 8 * l + 4)) (hb : b = nx a (G 10 0 (164 + 8 * l + 1))) (hs : s = sg a b) (hu : u = up a b) (hne : a ≠ G 10 0 (164 + 8 * l + 1)) : f_X8_teamFor G l = some (fe (G 10 0) a (ef (G 10 0) s u) (G 10 0 7).toNat) := by
  have hWh := hW.1
  unfold WfH at hWh
  have hw := hW.2.2.2.2.1 l h0 h1
  unfold WfL at hw
  have wy := way_r (A := G 10 0) (a := a) (b := G 10 0 (164 + 8 * l + 1)) ⟨by omega, by omega⟩ ⟨by omega, by omega⟩ hne
  rw [← hb, ← hs, ← hu] at wy
  have wS := hW.2.1 s wy.2.1.1 wy.2.1.2
  have re := ef_le (u := u) wS
  unfold f_X8_teamFor
  rw [m_ofL ⟨by omega, by omega⟩, bn1_some, m_ofL ⟨by omega, by omega⟩, bn1_some, ← ha, m_toward ⟨by omega, by omega⟩ ⟨by omega, by omega⟩, bn1_some]
  have eb : (if a < G 10 0 (164 + 8 * l + 1) then a + 1 else a - 1) = b := hb.symm
  rw [eb, m_eff (s := s) (u := u) ⟨by omega, by omega⟩ (by omega) ⟨by omega, by omega⟩ ⟨by omega, by omega⟩ wS, bn1_some]
  exact m_teamLoop hW ⟨by omega, by omega⟩ ⟨by omega, by omega⟩
theorem m_blocked {G : GS} {s : Int} (h : 0 ≤ s ∧ s < 7) (hw : G 10 0 (9 + 3 * s + 2) = 0 ∨ G 10 0 (9 + 3 * s + 2) = 1) : f_X8_isBlocked G s = some (G 10 0 (9 + 3 * s + 2)) := by
  unfold f_X8_isBlocked
  rw [ga_t ⟨by omega, by omega⟩, gd_t ⟨by omega, by omega⟩]
  rcases hw with h | h <;> rw [h] <;> rfl
theorem m_shut {G : GS} {n : Int} (h : 0 ≤ n ∧ n < 8) (hw : G 10 0 (30 + 3 * n + 2) = 0 ∨ G 10 0 (30 + 3 * n + 2) = 1) : f_X8_isShut G n = some (G 10 0 (30 + 3 * n + 2)) := by
  unfold f_X8_isShut
  rw [ga_t ⟨by omega, by omega⟩, gd_t ⟨by omega, by omega⟩]
  rcases hw with h | h <;> rw [h] <;> rfl
theorem m_why {G : GS} {m l : Int} (hW : Wf m (G 10 0)) (h0 : 0 ≤ l) (h1 : l < G 10 0 8) : f_X8_whyNot G l = some (wn (G 10 0) l) := by
  have hWh := hW.1
  unfold WfH at hWh
  have hw := hW.2.2.2.2.1 l h0 h1
  unfold WfL at hw
  unfold f_X8_whyNot wn
  rw [m_isDel hW h0 h1, bn1_some]
  by_cases c6 : G 10 0 (164 + 8 * l + 6) = -1
  · rw [if_pos c6, gd_t (by decide), if_pos rfl, if_neg (show ¬ ¬ G 10 0 (164 + 8 * l + 6) = -1 from fun z => z c6), m_ofL ⟨by omega, by omega⟩, bn1_some, gd_t ⟨by omega, by omega⟩]
    by_cases c5 : G 10 0 (164 + 8 * l + 5) = -1
    · have hne := hw.2.2.2.2.2.2.2 c6 c5
      have wy := way_r (A := G 10 0) (a := G 10 0 (164 + 8 * l + 4)) (b := G 10 0 (164 + 8 * l + 1)) ⟨by omega, by omega⟩ ⟨by omega, by omega⟩ hne
      obtain ⟨a, ha⟩ : ∃ a, a = G 10 0 (164 + 8 * l + 4) := ⟨_, rfl⟩
      rw [if_pos c5, if_neg (show ¬ ¬ G 10 0 (164 + 8 * l + 5) = -1 from fun z => z c5), m_ofL ⟨by omega, by omega⟩, bn1_some, m_ofL ⟨by omega, by omega⟩, bn1_some, m_toward ⟨by omega, by omega⟩ ⟨by omega, by omega⟩, bn1_some]
      rw [← ha] at wy hne ⊢
      obtain ⟨b, hb⟩ : ∃ b, b = nx a (G 10 0 (164 + 8 * l + 1)) := ⟨_, rfl⟩
      have eb : (if a < G 10 0 (164 + 8 * l + 1) then a + 1 else a - 1) = b := hb.symm
      rw [eb]
      rw [← hb] at wy ⊢
      obtain ⟨s, hs⟩ : ∃ s, s = sg a b := ⟨_, rfl⟩
      obtain ⟨u, hu⟩ : ∃ u, u = up a b := ⟨_, rfl⟩
      have es : (if a < b then a else b) = s := hs.symm
      rw [m_between ⟨by omega, by omega⟩ ⟨by omega, by omega⟩, bn1_some, es]
      rw [← hs, ← hu] at wy ⊢
      have wS := hW.2.1 s wy.2.1.1 wy.2.1.2
      have re := ef_le (u := u) wS
      unfold WfS at wS
      have wA := hW.2.2.1 a (by omega) (by omega)
      have wB := hW.2.2.1 b wy.1.1 wy.1.2
      unfold WfN at wA wB
      have rf := fb_r hW wy.1.1 wy.1.2
      rw [m_blocked ⟨by omega, by omega⟩ wS.2.2, bn1_some, gd_t ⟨by omega, by omega⟩]
      by_cases d1 : G 10 0 (9 + 3 * s + 2) = 0
      · rw [if_pos d1, if_neg (show ¬ G 10 0 (9 + 3 * s + 2) = 1 by omega), m_shut ⟨by omega, by omega⟩ wA.2.2, bn1_some, gd_t ⟨by omega, by omega⟩]
        by_cases d2 : G 10 0 (30 + 3 * a + 2) = 0
        · rw [if_pos d2, m_shut ⟨by omega, by omega⟩ wB.2.2, bn1_some, gd_t ⟨by omega, by omega⟩]
          by_cases d3 : G 10 0 (30 + 3 * b + 2) = 0
          · rw [if_pos d3, if_neg (show ¬ (G 10 0 (30 + 3 * a + 2) = 1 ∨ G 10 0 (30 + 3 * b + 2) = 1) by omega), m_freeBeds hW wy.1.1 wy.1.2, bn1_some, gd_t ⟨by omega, by omega⟩]
            by_cases d4 : fb (G 10 0) b = 0
            · rw [if_pos d4, if_pos d4]
            · have rt := ft_r (G 10 0) a (G 10 0 7).toNat
              have rr := fe_r (G 10 0) a (ef (G 10 0) s u) (G 10 0 7).toNat
              have r9 := fe_ft (G 10 0) a (ef (G 10 0) s u) (G 10 0 7).toNat
              have rn := ft_none (A := G 10 0) (n := a) (k := (G 10 0 7).toNat)
              have rc := cnt_le (pSt (G 10 0) a) (G 10 0 7).toNat
              rw [if_neg d4, if_neg d4, m_teamFor hW h0 h1 ha hb hs hu hne, bn1_some, gd_t ⟨by omega, by omega⟩, m_teamsOf hW ⟨by omega, by omega⟩ (Or.inr (Or.inl ⟨rfl, rfl⟩)), bn1_some, gd_t ⟨by omega, by omega⟩]
              by_cases d5 : ft (G 10 0) a (G 10 0 7).toNat = -1
              · rw [if_neg (fun z => z.1 d5)] at r9
                rw [if_pos r9, if_pos d5, if_pos (rn.mp d5)]
              · rw [if_neg d5]
                by_cases d6 : 100 < G 10 0 (54 + 11 * ft (G 10 0) a (G 10 0 7).toNat + 1) + ef (G 10 0) s u
                · rw [if_neg (fun z => by have := z.2; omega)] at r9
                  rw [if_pos r9, if_pos d6, if_neg (fun z => d5 (rn.mpr z))]
                · rw [if_pos ⟨d5, by omega⟩] at r9
                  rw [r9, if_neg d5, if_neg d6]
          · rw [if_neg d3, if_pos (show G 10 0 (30 + 3 * a + 2) = 1 ∨ G 10 0 (30 + 3 * b + 2) = 1 by omega)]
        · rw [if_neg d2, if_pos (show G 10 0 (30 + 3 * a + 2) = 1 ∨ G 10 0 (30 + 3 * b + 2) = 1 by omega)]
      · rw [if_neg d1, if_pos (show G 10 0 (9 + 3 * s + 2) = 1 by omega)]
    · rw [if_neg c5, if_pos c5]
  · rw [if_neg c6, gd_t (by decide), if_neg (by decide), if_pos c6]

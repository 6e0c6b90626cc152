/-! WALKING BACK, ON BOTH SIDES -/
/-- no road but teams, letters changed: what the hour's second half leaves -/
def seen (H H' : GS) : Prop := (∀ k x f, ¬ (k = 10 ∧ x = 0) → ¬ k = 11 → H' k x f = H k x f) ∧ (∀ f, f < 54 → H' 10 0 f = H 10 0 f) ∧ (∀ u, 0 ≤ u → u < 10 → 0 < H 10 0 (54 + 11 * u + 3) → 0 < H' 10 0 (54 + 11 * u + 3))
theorem seen_rf (H : GS) : seen H H := ⟨fun _ _ _ _ _ => rfl, fun _ _ => rfl, fun _ _ _ z => z⟩
theorem seen_tr {H H1 H2 : GS} (h : seen H H1) (h2 : seen H1 H2) : seen H H2 := ⟨fun k x f z z2 => (h2.1 k x f z z2).trans (h.1 k x f z z2), fun f z => (h2.2.1 f z).trans (h.2.1 f z), fun u z1 z2 z3 => h2.2.2 u z1 z2 (h.2.2 u z1 z2 z3)⟩
theorem h_walkBack {o m : Int} {G1 G2 : GS} (hR : Rd G1 o (G2 10 0)) (hW : Wf m (G2 10 0)) : ∃ G1' G2', f_X3_sendTeamsBack G1 o = some G1' ∧ f_X8_walkBack G2 = some G2' ∧ Rd G1' o (G2' 10 0) ∧ Wf m (G2' 10 0) ∧ frC o G1 G1' ∧ seen G2 G2' ∧ ((G2' = G2 ∧ ∀ t, 0 ≤ t → t < G2 10 0 7 → ¬ wk (G2 10 0) t) ∨ ((∃ t, 0 ≤ t ∧ t < G2 10 0 7 ∧ wk (G2 10 0) t) ∧ ∃ t, 0 ≤ t ∧ t < G2 10 0 7 ∧ 0 < G2' 10 0 (54 + 11 * t + 3))) := by
  obtain ⟨N, hN⟩ : ∃ N : Nat, (N : Int) = G2 10 0 7 := ⟨(G2 10 0 7).toNat, by have := hW.1; unfold WfH at this; omega⟩
  have K := lock (fun n (s : GS × Int) k => f_X3_sendTeamsBack_L2 o n s.1 s.2 (fun a b => k (a, b))) (fun n (s : GS × Int) k => f_X8_walkBack_L2 n s.1 s.2 (fun a b => k (a, b)))
    (fun d s t => s.2 = t.2 ∧ t.2 + d = N ∧ 0 ≤ t.2 ∧ t.1 10 0 7 = N ∧ Rd s.1 o (t.1 10 0) ∧ Wf m (t.1 10 0) ∧ frC o G1 s.1 ∧ seen G2 t.1 ∧ ((t.1 = G2 ∧ ∀ u, 0 ≤ u → u < t.2 → ¬ wk (G2 10 0) u) ∨ ((∃ u, 0 ≤ u ∧ u < (N : Int) ∧ wk (G2 10 0) u) ∧ ∃ u, 0 ≤ u ∧ u < (N : Int) ∧ 0 < t.1 10 0 (54 + 11 * u + 3)))) (by
    rintro d ⟨H1, i⟩ ⟨H2, j⟩ ⟨rfl, h1, h0, hN7, hR, hW, f1, f2, f3⟩
    dsimp only at h1 h0 hN7 hR hW f1 f2 f3 ⊢
    have hWh := hW.1
    unfold WfH at hWh
    obtain ⟨G', H', e1, e2, q1, q2, q3, q4, q5, q6, q7, q8⟩ := back_both hR hW h0 (t := i) (by omega)
    refine ⟨(G', i + 1), (H', i + 1), fun n k => e1 n _, fun n k => e2 n _, rfl, ?_, ?_, ?_, q1, q2, frC_tr f1 q3, seen_tr f2 ⟨fun k x f z _ => q4 k x f z, q5, q8⟩, ?_⟩
    · show i + 1 + (d : Int) = N
      omega
    · show 0 ≤ i + 1
      omega
    · show H' 10 0 7 = N
      rw [q5 7 (by omega)]
      exact hN7
    · show (H' = G2 ∧ ∀ u, 0 ≤ u → u < i + 1 → ¬ wk (G2 10 0) u) ∨ ((∃ u, 0 ≤ u ∧ u < (N : Int) ∧ wk (G2 10 0) u) ∧ ∃ u, 0 ≤ u ∧ u < (N : Int) ∧ 0 < H' 10 0 (54 + 11 * u + 3))
      rcases f3 with ⟨rfl, f4⟩ | ⟨f5, u, z1, z2, z3⟩
      · by_cases c : wk (H2 10 0) i
        · exact Or.inr ⟨⟨i, h0, by omega, c⟩, i, h0, by omega, q7 c⟩
        · refine Or.inl ⟨q6 c, fun u z1 z2 => ?_⟩
          by_cases hu : u = i
          · rw [hu]; exact c
          · exact f4 u z1 (by omega)
      · exact Or.inr ⟨f5, u, z1, z2, q8 u z1 (by omega) z3⟩) (by
    rintro ⟨H1, i⟩ ⟨H2, j⟩ ⟨rfl, h1, h0, hN7, hR, hW, f1, f2, f3⟩
    dsimp only at h1 h0 hN7 hR hW f1 f2 ⊢
    have hWh := hW.1
    unfold WfH at hWh
    have r5 : H1 3 o 5 = H2 10 0 7 := hR.1.2.1
    refine ⟨fun n k => ?_, fun n k => ?_⟩
    · rw [f_X3_sendTeamsBack_L2, gd_t ⟨by omega, by omega⟩, gd_t ⟨by omega, by omega⟩, if_neg (by omega)]
    · rw [f_X8_walkBack_L2, gd_t ⟨by omega, by omega⟩, gd_t ⟨by omega, by omega⟩, if_neg (by omega)]) N (G1, 0) (G2, 0) ⟨rfl, by omega, by omega, hN.symm, hR, hW, frC_rf, seen_rf _, Or.inl ⟨rfl, fun u z1 z2 => by omega⟩⟩
  obtain ⟨s', t', e1, e2, -, e3, e4, e5, hR', hW', f1, f2, f3⟩ := K
  have hn : N < gFuel := by have := hW.1; unfold WfH at this; unfold gFuel; omega
  refine ⟨s'.1, t'.1, ?_, ?_, hR', hW', f1, f2, ?_⟩
  · unfold f_X3_sendTeamsBack
    exact e1 gFuel (fun s => some s.1) hn
  · unfold f_X8_walkBack
    exact e2 gFuel (fun s => some s.1) hn
  · rcases f3 with ⟨z1, z2⟩ | ⟨⟨v, v1, v2, v3⟩, u, z1, z2, z3⟩
    · exact Or.inl ⟨z1, fun t y1 y2 => z2 t y1 (by have : t'.2 + ((0 : Nat) : Int) = N := e3; omega)⟩
    · exact Or.inr ⟨⟨v, v1, by omega, v3⟩, u, z1, by omega, z3⟩
/-! THE MODEL'S CHOICE OF A LETTER -/
/-- of the first k letters not asked yet, the one that goes first -/
def bt (W A : Int → Int) : Nat → Int
  | 0 => -1
  | k + 1 => if W k = 0 ∧ (bt W A k = -1 ∨ A (164 + 8 * bt W A k + 2) < A (164 + 8 * k + 2)) then k else bt W A k
theorem bt_r (W A : Int → Int) (k : Nat) : bt W A k = -1 ∨ (0 ≤ bt W A k ∧ bt W A k < k ∧ W (bt W A k) = 0) := by
  induction k with
  | zero => exact Or.inl rfl
  | succ k ih =>
    rw [bt]
    split
    · rename_i h
      exact Or.inr ⟨by omega, by omega, h.1⟩
    · rcases ih with h | h
      · exact Or.inl h
      · exact Or.inr ⟨h.1, by omega, h.2.2⟩
theorem bt_is {W A : Int → Int} {c : Nat} (hc : W c = 0) (hb : ∀ l : Int, 0 ≤ l → l < c → W l = 0 → A (164 + 8 * l + 2) < A (164 + 8 * c + 2)) : ∀ k : Nat, c < k → (∀ l : Int, c < l → l < k → W l = 0 → ¬ A (164 + 8 * c + 2) < A (164 + 8 * l + 2)) → bt W A k = c := by
  intro k
  induction k with
  | zero => intro h; omega
  | succ k ih =>
    intro h ha
    rw [bt]
    by_cases hk : k = c
    · subst hk
      have hr := bt_r W A k
      rw [if_pos]
      refine ⟨hc, ?_⟩
      rcases hr with hr | hr
      · exact Or.inl hr
      · exact Or.inr (hb _ hr.1 hr.2.1 hr.2.2)
    · have e := ih (by omega) (fun l z1 z2 z3 => ha l z1 (by omega) z3)
      rw [e, if_neg]
      rintro ⟨z1, z2⟩
      rcases z2 with z2 | z2
      · omega
      · exact ha k (by omega) (by omega) z1 z2
theorem bt_none {W A : Int → Int} (k : Nat) (h : ∀ l : Int, 0 ≤ l → l < k → W l ≠ 0) : bt W A k = -1 := by
  induction k with
  | zero => rfl
  | succ k ih =>
    rw [bt, if_neg (fun z => h k (by omega) (by omega) z.1)]
    exact ih (fun l z1 z2 => h l z1 (by omega))
theorem m_ahead {m : Int} {H : GS} {x b : Int} (hW : Wf m (H 10 0)) (hm : m ≤ 20000) (b0 : 0 ≤ b) (bx : b < x) (x1 : x < H 10 0 8) : f_X8_isAhead H x b = some (if H 10 0 (164 + 8 * b + 2) < H 10 0 (164 + 8 * x + 2) then 1 else 0) := by
  have hWh := hW.1
  unfold WfH at hWh
  have wx := hW.2.2.2.2.1 x (by omega) x1
  have wb := hW.2.2.2.2.1 b b0 (by omega)
  unfold WfL at wx wb
  have ws := hW.2.2.2.2.2.2.2 b x b0 (by omega) x1
  unfold f_X8_isAhead
  rw [m_ofL ⟨by omega, by omega⟩, bn1_some, m_ofL ⟨by omega, by omega⟩, bn1_some, gd_t ⟨by omega, by omega⟩]
  by_cases c : H 10 0 (164 + 8 * b + 2) < H 10 0 (164 + 8 * x + 2)
  · rw [if_pos c, if_neg (by omega), if_pos (by omega)]
  · rw [if_neg c]
    by_cases d : H 10 0 (164 + 8 * b + 2) - H 10 0 (164 + 8 * x + 2) = 0
    · rw [if_pos d, m_ofL ⟨by omega, by omega⟩, bn1_some, m_ofL ⟨by omega, by omega⟩, bn1_some, gd_t ⟨by omega, by omega⟩, if_neg (by omega)]
      split
      · rw [gd_t ⟨by omega, by omega⟩, gd_t ⟨by omega, by omega⟩, if_neg (by omega)]
      · rfl
    · rw [if_neg d, if_neg (by omega)]
theorem m_pick {m : Int} {H : GS} (hW : Wf m (H 10 0)) (hm : m ≤ 20000) (hA : ∀ l, 0 ≤ l → l < 12 → H 11 0 l = 0 ∨ H 11 0 l = 1) (k : GS → Int → Int → Option GS) : f_X8_goOn_L55 gFuel H (-1) 0 k = k H (bt (H 11 0) (H 10 0) (H 10 0 8).toNat) ((H 10 0 8).toNat : Int) := by
  have hWh := hW.1
  unfold WfH at hWh
  obtain ⟨e1, e2⟩ := nL' hW
  refine idx_loop (fun n (s : GS × Int × Int) c => f_X8_goOn_L55 n s.1 s.2.1 s.2.2 (fun a b d => c (a, b, d))) (H 10 0 8).toNat (fun i => (H, bt (H 11 0) (H 10 0) i, (i : Int))) (fun n i c h1 => ?_) (fun n c => ?_) gFuel (fun s => k s.1 s.2.1 s.2.2) e2
  · have hr := bt_r (H 11 0) (H 10 0) i
    have ha := hA i (by omega) (by omega)
    show f_X8_goOn_L55 (n + 1) H (bt (H 11 0) (H 10 0) i) i _ = f_X8_goOn_L55 n H (bt (H 11 0) (H 10 0) (i + 1)) ((i + 1 : Nat) : Int) _
    have ei : ((i + 1 : Nat) : Int) = (i : Int) + 1 := by omega
    rw [ei, f_X8_goOn_L55, gd_t ⟨by omega, by omega⟩, gd_t ⟨by omega, by omega⟩, if_pos (by omega), ga_t ⟨by omega, by omega⟩, gd_t ⟨by omega, by omega⟩, bt]
    by_cases c0 : H 11 0 i = 0
    · rw [if_pos c0, gd_t ⟨by omega, by omega⟩]
      by_cases cb : bt (H 11 0) (H 10 0) i = -1
      · rw [if_pos cb, if_pos ⟨c0, Or.inl cb⟩]
      · rw [if_neg cb, m_ahead hW hm (by omega) (by omega) (by omega), bn1_some]
        by_cases g : H 10 0 (164 + 8 * bt (H 11 0) (H 10 0) i + 2) < H 10 0 (164 + 8 * (i : Int) + 2)
        · rw [if_pos g, gd_t (by decide), if_neg (by decide), if_pos ⟨c0, Or.inr g⟩]
        · rw [if_neg g, gd_t (by decide), if_pos rfl, if_neg (fun z => by rcases z.2 with z | z; exact cb z; exact g z)]
    · rw [if_neg c0, if_neg (fun z => c0 z.1)]
  · show f_X8_goOn_L55 (n + 1) H (bt (H 11 0) (H 10 0) (H 10 0 8).toNat) ((H 10 0 8).toNat : Int) _ = _
    rw [f_X8_goOn_L55, gd_t ⟨by omega, by omega⟩, gd_t ⟨by omega, by omega⟩, if_neg (by omega)]

/-! ONE TURN OF EACH LOOP OF AN HOUR, and what it does to the array -/
def rsE (A : Int → Int) (t inn : Int) : Int := if 0 < A (54 + 11 * t + 1) ∧ 0 < A (30 + 3 * inn + 1) then 1 else 0
def rsV (A : Int → Int) (t inn : Int) : Int := if 0 < A (54 + 11 * t + 1) ∧ 0 < A (30 + 3 * inn + 1) then (if A (54 + 11 * t + 1) < 6 then 0 else A (54 + 11 * t + 1) - 6) else (if A (54 + 11 * t + 1) < 1 then 0 else A (54 + 11 * t + 1) - 1)
def RsP (A : Int → Int) (t : Int) (A' : Int → Int) : Prop := (A (54 + 11 * t + 3) ≠ 0 → ∀ f, A' f = A f) ∧ (A (54 + 11 * t + 3) = 0 → ∀ inn, inn = A (54 + 11 * t + 2) → (∀ f, f ≠ 30 + 3 * inn + 1 → f ≠ 54 + 11 * t + 9 → f ≠ 54 + 11 * t + 1 → f ≠ 6 → A' f = A f) ∧ A' (30 + 3 * inn + 1) = A (30 + 3 * inn + 1) - rsE A t inn ∧ A' (54 + 11 * t + 9) = A (54 + 11 * t + 9) + rsE A t inn ∧ A' 6 = A 6 + rsE A t inn ∧ A' (54 + 11 * t + 1) = rsV A t inn)
def RuP (A : Int → Int) (t l r v1 v6 k8 k9 k10 k11 : Int) (A' : Int → Int) : Prop := (∀ f, f ≠ 54 + 11 * t + 1 → f ≠ 54 + 11 * t + 3 → f ≠ 54 + 11 * t + 4 → f ≠ 54 + 11 * t + 6 → f ≠ 54 + 11 * t + 7 → f ≠ 164 + 8 * l + 5 → f ≠ 164 + 8 * l + 6 → ¬ (2 ≤ f ∧ f ≤ 5) → A' f = A f) ∧ A' (54 + 11 * t + 1) = v1 ∧ A' (54 + 11 * t + 3) = 0 ∧ A' (54 + 11 * t + 4) = -1 ∧ A' (54 + 11 * t + 6) = A (54 + 11 * t + 6) + 1 ∧ A' (54 + 11 * t + 7) = A (54 + 11 * t + 7) + r ∧ A' (164 + 8 * l + 5) = -1 ∧ A' (164 + 8 * l + 6) = v6 ∧ A' 2 = A 2 + k8 ∧ A' 3 = A 3 + k9 ∧ A' 4 = A 4 + k10 ∧ A' 5 = A 5 + k11
/-- what a letter's arrival at its inn adds -/
def ComP (A : Int → Int) (l v6 k8 k9 k10 k11 : Int) : Prop := (A (164 + 8 * l + 4) = A (164 + 8 * l + 1) ∧ v6 = A 1 + 1 ∧ k8 = 1 ∧ k9 = A 1 + 1 - A (164 + 8 * l + 3) ∧ ((A (164 + 8 * l + 2) = 0 ∧ k10 = 0 ∧ k11 = 0) ∨ (A (164 + 8 * l + 2) = 1 ∧ k10 = 1 ∧ k11 = k9))) ∨ (¬ A (164 + 8 * l + 4) = A (164 + 8 * l + 1) ∧ v6 = A (164 + 8 * l + 6) ∧ k8 = 0 ∧ k9 = 0 ∧ k10 = 0 ∧ k11 = 0)
def RdP (A : Int → Int) (t : Int) (A' : Int → Int) : Prop := (A (54 + 11 * t + 3) = 0 ∧ ∀ f, A' f = A f) ∨ (1 < A (54 + 11 * t + 3) ∧ (∀ f, f ≠ 54 + 11 * t + 3 → A' f = A f) ∧ A' (54 + 11 * t + 3) = A (54 + 11 * t + 3) - 1) ∨ (A (54 + 11 * t + 3) = 1 ∧ A (54 + 11 * t + 5) = 1 ∧ (∀ f, f ≠ 54 + 11 * t + 3 → f ≠ 54 + 11 * t + 5 → f ≠ 54 + 11 * t + 8 → A' f = A f) ∧ A' (54 + 11 * t + 3) = 0 ∧ A' (54 + 11 * t + 5) = 0 ∧ A' (54 + 11 * t + 8) = A (54 + 11 * t + 8) + 1) ∨ (A (54 + 11 * t + 3) = 1 ∧ A (54 + 11 * t + 5) = 0 ∧ ∃ l s u r v1 v6 k8 k9 k10 k11 : Int, l = A (54 + 11 * t + 4) ∧ (0 ≤ l ∧ l < A 8) ∧ (0 ≤ s ∧ s < A 0 - 1) ∧ ((A (54 + 11 * t + 10) < A (54 + 11 * t + 2) ∧ s = A (54 + 11 * t + 10) ∧ u = 1) ∨ (¬ A (54 + 11 * t + 10) < A (54 + 11 * t + 2) ∧ s = A (54 + 11 * t + 2) ∧ u = 0)) ∧ r = ef A s u ∧ v1 = (if A (54 + 11 * t + 1) + r < 100 then A (54 + 11 * t + 1) + r else 100) ∧ ComP A l v6 k8 k9 k10 k11 ∧ A (164 + 8 * l + 6) = -1 ∧ A (164 + 8 * l + 5) = t ∧ RuP A t l r v1 v6 k8 k9 k10 k11 A')
def BkP (A : Int → Int) (t : Int) (A' : Int → Int) : Prop := ∀ a b s, a = A (54 + 11 * t + 2) → b = nx a (A (54 + 11 * t + 0)) → s = sg a b → (∀ f, f ≠ 54 + 11 * t + 2 → f ≠ 54 + 11 * t + 3 → f ≠ 54 + 11 * t + 5 → f ≠ 54 + 11 * t + 10 → A' f = A f) ∧ A' (54 + 11 * t + 2) = b ∧ A' (54 + 11 * t + 3) = 2 * A (9 + 3 * s) ∧ A' (54 + 11 * t + 5) = 1 ∧ A' (54 + 11 * t + 10) = a
set_option maxHeartbeats 8000000 in
theorem rest_turn {o m i : Int} {H1 H2 : GS} (hR : Rd H1 o (H2 10 0)) (hW : Wf m (H2 10 0)) (h0 : 0 ≤ i) (c0 : i < H2 10 0 7) : ∃ G' H' : GS, (∀ n (k : GS → Int → Option GS), f_X3_restTeams_L2 o (n + 1) H1 i k = f_X3_restTeams_L2 o n G' (i + 1) k) ∧ (∀ n (k : GS → Int → Option GS), f_X8_rests_L2 (n + 1) H2 i k = f_X8_rests_L2 n H' (i + 1) k) ∧ Rd G' o (H' 10 0) ∧ Wf m (H' 10 0) ∧ frC o H1 G' ∧ (∀ k x f, ¬ (k = 10 ∧ x = 0) → H' k x f = H2 k x f) ∧ RsP (H2 10 0) i (H' 10 0) := by
  have hRh := hR.1
  have hWh := hW.1
  unfold RdH at hRh
  unfold WfH at hWh
  obtain ⟨r4, r5, r6, r7, r8, r9, r10, r11, r12⟩ := hRh
  have hT := hR.2.2.2.1 i h0 (by omega)
  have hwT := hW.2.2.2.1 i h0 (by omega)
  unfold RdT at hT
  unfold WfT at hwT
  obtain ⟨t0, t1, t2, t5, t6, t7, t8, t9, t10, t11, t4, t3a, t3b⟩ := hT
  obtain ⟨inn, hinn⟩ : ∃ inn, inn = H2 10 0 (54 + 11 * i + 2) := ⟨_, rfl⟩
  have hNn := hR.2.2.1 inn (by omega) (by omega)
  have hwN := hW.2.2.1 inn (by omega) (by omega)
  unfold RdN at hNn
  unfold WfN at hwN
  obtain ⟨n0, n1, n2⟩ := hNn
  have a3 : f_X8_of H2 i 3 = some (H2 10 0 (54 + 11 * i + 3)) := m_of ⟨by omega, by omega⟩
  have a2 : f_X8_of H2 i 2 = some inn := by rw [hinn]; exact m_of ⟨by omega, by omega⟩
  have a1 : f_X8_of H2 i 1 = some (H2 10 0 (54 + 11 * i + 1)) := m_of ⟨by omega, by omega⟩
  rw [← hinn] at t2
  by_cases cL : H2 10 0 (54 + 11 * i + 3) = 0
  · have cS : H1 6 (10 * o + i) 3 = -1 := t3a cL
    have keep : ∀ (e v : Int) (G' H' : GS), (0 ≤ v ∧ v ≤ 100) → (0 ≤ e ∧ e ≤ H2 10 0 (30 + 3 * inn + 1)) →
        (∀ n k, f_X3_restTeams_L2 o (n + 1) H1 i k = f_X3_restTeams_L2 o n G' (i + 1) k) → (∀ n k, f_X8_rests_L2 (n + 1) H2 i k = f_X8_rests_L2 n H' (i + 1) k) →
        (∀ k x f, ¬ (k = 1 ∧ x = 8 * o + inn ∧ f = 1) → ¬ (k = 6 ∧ x = 10 * o + i ∧ (f = 11 ∨ f = 1)) → ¬ (k = 3 ∧ x = o ∧ f = 12) → G' k x f = H1 k x f) →
        G' 1 (8 * o + inn) 1 = H1 1 (8 * o + inn) 1 - e → G' 6 (10 * o + i) 11 = H1 6 (10 * o + i) 11 + e → G' 3 o 12 = H1 3 o 12 + e → G' 6 (10 * o + i) 1 = v →
        (∀ k x f, ¬ (k = 10 ∧ x = 0 ∧ (f = 30 + 3 * inn + 1 ∨ f = 54 + 11 * i + 9 ∨ f = 54 + 11 * i + 1 ∨ f = 6)) → H' k x f = H2 k x f) →
        H' 10 0 (30 + 3 * inn + 1) = H2 10 0 (30 + 3 * inn + 1) - e → H' 10 0 (54 + 11 * i + 9) = H2 10 0 (54 + 11 * i + 9) + e → H' 10 0 6 = H2 10 0 6 + e → H' 10 0 (54 + 11 * i + 1) = v →
        e = rsE (H2 10 0) i inn → v = rsV (H2 10 0) i inn → ∃ G' H' : GS, (∀ n (k : GS → Int → Option GS), f_X3_restTeams_L2 o (n + 1) H1 i k = f_X3_restTeams_L2 o n G' (i + 1) k) ∧ (∀ n (k : GS → Int → Option GS), f_X8_rests_L2 (n + 1) H2 i k = f_X8_rests_L2 n H' (i + 1) k) ∧ Rd G' o (H' 10 0) ∧ Wf m (H' 10 0) ∧ frC o H1 G' ∧ (∀ k x f, ¬ (k = 10 ∧ x = 0) → H' k x f = H2 k x f) ∧ RsP (H2 10 0) i (H' 10 0) := by
      intro e v G' H' hv he q1 q2 hG g1 g2 g3 g4 hA b1 b2 b3 b4 he2 hv2
      obtain ⟨k1, k2⟩ := rest_keep hR hW h0 c0 hinn hG g1 g2 g3 g4 (fun f z1 z2 z3 z4 => hA 10 0 f (by omega)) b1 b2 b3 b4 hv he
      refine ⟨G', H', q1, q2, k1, k2, fun k x f hn => hG k x f (by unfold ofR at hn; omega) (by unfold ofR at hn; omega) (by unfold ofR at hn; omega), fun k x f z => hA k x f (by omega), fun z => absurd cL z, fun _ inn2 hi2 => ?_⟩
      have hi3 : inn2 = inn := by rw [hi2, hinn]
      subst hi3
      rw [← he2, ← hv2]
      exact ⟨fun f z1 z2 z3 z4 => hA 10 0 f (by omega), b1, b2, b3, b4⟩
    by_cases cT : 0 < H2 10 0 (54 + 11 * i + 1)
    · by_cases cF : 0 < H2 10 0 (30 + 3 * inn + 1)
      · by_cases cV : H2 10 0 (54 + 11 * i + 1) - 6 < 0
        · have cW : ¬ 0 < H2 10 0 (54 + 11 * i + 1) - 6 := by omega
          refine keep 1 0 ?Gc0 ?Gm0 (by omega) (by omega) ?e1_0 ?e2_0 ?p1_0 ?p2_0 ?p3_0 ?p4_0 ?p5_0 ?q1_0 ?q2_0 ?q3_0 ?q4_0 ?q5_0 (by unfold rsE; (repeat' split) <;> omega) (by unfold rsV; (repeat' split) <;> omega)
          case e1_0 =>
            intro n k
            simp (disch := first | decide | omega) only [f_X3_restTeams_L2, f_X6_stands, f_X3_restTeam, f_X6_rest, bn1_some, nm_eq, gd_t, ga_t, r5, c0, cS, if_true, if_false, t1, t2, n1, gup_k, gup_o, gup_f, gup_s, if_neg (show ¬ (1 : Int) = 0 by decide), cT, cF, cV, cW]
            rfl
          case e2_0 =>
            intro n k
            simp (disch := first | decide | omega) only [f_X8_rests_L2, bn1_some, nm_eq, gd_t, ga_t, c0, a3, a2, a1, cL, if_true, if_false, m_teamAt, gup_k, gup_o, gup_f, gup_s, cT, cF, cV, cW]
            rfl
          case p1_0 =>
            intro k x f z1 z2 z3
            repeat rw [gup_n (by omega)]
          case q1_0 =>
            intro k x f z1
            repeat rw [gup_n (by omega)]
          all_goals (simp (disch := first | decide | omega) only [gup_k, gup_o, gup_f, gup_s, t1]; try omega)
        · by_cases cW : 0 < H2 10 0 (54 + 11 * i + 1) - 6
          · refine keep 1 (H2 10 0 (54 + 11 * i + 1) - 6) ?Gc1 ?Gm1 (by omega) (by omega) ?e1_1 ?e2_1 ?p1_1 ?p2_1 ?p3_1 ?p4_1 ?p5_1 ?q1_1 ?q2_1 ?q3_1 ?q4_1 ?q5_1 (by unfold rsE; (repeat' split) <;> omega) (by unfold rsV; (repeat' split) <;> omega)
            case e1_1 =>
              intro n k
              simp (disch := first | decide | omega) only [f_X3_restTeams_L2, f_X6_stands, f_X3_restTeam, f_X6_rest, bn1_some, nm_eq, gd_t, ga_t, r5, c0, cS, if_true, if_false, t1, t2, n1, gup_k, gup_o, gup_f, gup_s, if_neg (show ¬ (1 : Int) = 0 by decide), cT, cF, cV, cW]
              rfl
            case e2_1 =>
              intro n k
              simp (disch := first | decide | omega) only [f_X8_rests_L2, bn1_some, nm_eq, gd_t, ga_t, c0, a3, a2, a1, cL, if_true, if_false, m_teamAt, gup_k, gup_o, gup_f, gup_s, cT, cF, cV, cW]
              rfl
            case p1_1 =>
              intro k x f z1 z2 z3
              repeat rw [gup_n (by omega)]
            case q1_1 =>
              intro k x f z1
              repeat rw [gup_n (by omega)]
            all_goals (simp (disch := first | decide | omega) only [gup_k, gup_o, gup_f, gup_s, t1]; try omega)
          · refine keep 1 (H2 10 0 (54 + 11 * i + 1) - 6) ?Gc2 ?Gm2 (by omega) (by omega) ?e1_2 ?e2_2 ?p1_2 ?p2_2 ?p3_2 ?p4_2 ?p5_2 ?q1_2 ?q2_2 ?q3_2 ?q4_2 ?q5_2 (by unfold rsE; (repeat' split) <;> omega) (by unfold rsV; (repeat' split) <;> omega)
            case e1_2 =>
              intro n k
              simp (disch := first | decide | omega) only [f_X3_restTeams_L2, f_X6_stands, f_X3_restTeam, f_X6_rest, bn1_some, nm_eq, gd_t, ga_t, r5, c0, cS, if_true, if_false, t1, t2, n1, gup_k, gup_o, gup_f, gup_s, if_neg (show ¬ (1 : Int) = 0 by decide), cT, cF, cV, cW]
              rfl
            case e2_2 =>
              intro n k
              simp (disch := first | decide | omega) only [f_X8_rests_L2, bn1_some, nm_eq, gd_t, ga_t, c0, a3, a2, a1, cL, if_true, if_false, m_teamAt, gup_k, gup_o, gup_f, gup_s, cT, cF, cV, cW]
              rfl
            case p1_2 =>
              intro k x f z1 z2 z3
              repeat rw [gup_n (by omega)]
            case q1_2 =>
              intro k x f z1
              repeat rw [gup_n (by omega)]
            all_goals (simp (disch := first | decide | omega) only [gup_k, gup_o, gup_f, gup_s, t1]; try omega)
      · have cV : ¬ H2 10 0 (54 + 11 * i + 1) - 1 < 0 := by omega
        by_cases cW : 0 < H2 10 0 (54 + 11 * i + 1) - 1
        · refine keep 0 (H2 10 0 (54 + 11 * i + 1) - 1) ?Gc3 ?Gm3 (by omega) (by omega) ?e1_3 ?e2_3 ?p1_3 ?p2_3 ?p3_3 ?p4_3 ?p5_3 ?q1_3 ?q2_3 ?q3_3 ?q4_3 ?q5_3 (by unfold rsE; (repeat' split) <;> omega) (by unfold rsV; (repeat' split) <;> omega)
          case e1_3 =>
            intro n k
            simp (disch := first | decide | omega) only [f_X3_restTeams_L2, f_X6_stands, f_X3_restTeam, f_X6_rest, bn1_some, nm_eq, gd_t, ga_t, r5, c0, cS, if_true, if_false, t1, t2, n1, gup_k, gup_o, gup_f, gup_s, if_neg (show ¬ (1 : Int) = 0 by decide), cT, cF, cV, cW]
            rfl
          case e2_3 =>
            intro n k
            simp (disch := first | decide | omega) only [f_X8_rests_L2, bn1_some, nm_eq, gd_t, ga_t, c0, a3, a2, a1, cL, if_true, if_false, m_teamAt, gup_k, gup_o, gup_f, gup_s, cT, cF, cV, cW]
            rfl
          case p1_3 =>
            intro k x f z1 z2 z3
            repeat rw [gup_n (by omega)]
          case q1_3 =>
            intro k x f z1
            repeat rw [gup_n (by omega)]
          all_goals (simp (disch := first | decide | omega) only [gup_k, gup_o, gup_f, gup_s, t1]; try omega)
        · refine keep 0 (H2 10 0 (54 + 11 * i + 1) - 1) ?Gc4 ?Gm4 (by omega) (by omega) ?e1_4 ?e2_4 ?p1_4 ?p2_4 ?p3_4 ?p4_4 ?p5_4 ?q1_4 ?q2_4 ?q3_4 ?q4_4 ?q5_4 (by unfold rsE; (repeat' split) <;> omega) (by unfold rsV; (repeat' split) <;> omega)
          case e1_4 =>
            intro n k
            simp (disch := first | decide | omega) only [f_X3_restTeams_L2, f_X6_stands, f_X3_restTeam, f_X6_rest, bn1_some, nm_eq, gd_t, ga_t, r5, c0, cS, if_true, if_false, t1, t2, n1, gup_k, gup_o, gup_f, gup_s, if_neg (show ¬ (1 : Int) = 0 by decide), cT, cF, cV, cW]
            rfl
          case e2_4 =>
            intro n k
            simp (disch := first | decide | omega) only [f_X8_rests_L2, bn1_some, nm_eq, gd_t, ga_t, c0, a3, a2, a1, cL, if_true, if_false, m_teamAt, gup_k, gup_o, gup_f, gup_s, cT, cF, cV, cW]
            rfl
          case p1_4 =>
            intro k x f z1 z2 z3
            repeat rw [gup_n (by omega)]
          case q1_4 =>
            intro k x f z1
            repeat rw [gup_n (by omega)]
          all_goals (simp (disch := first | decide | omega) only [gup_k, gup_o, gup_f, gup_s, t1]; try omega)
    · have cV : H2 10 0 (54 + 11 * i + 1) - 1 < 0 := by omega
      have cW : ¬ 0 < H2 10 0 (54 + 11 * i + 1) - 1 := by omega
      refine keep 0 0 ?Gc5 ?Gm5 (by omega) (by omega) ?e1_5 ?e2_5 ?p1_5 ?p2_5 ?p3_5 ?p4_5 ?p5_5 ?q1_5 ?q2_5 ?q3_5 ?q4_5 ?q5_5 (by unfold rsE; (repeat' split) <;> omega) (by unfold rsV; (repeat' split) <;> omega)
      case e1_5 =>
        intro n k
        simp (disch := first | decide | omega) only [f_X3_restTeams_L2, f_X6_stands, f_X3_restTeam, f_X6_rest, bn1_some, nm_eq, gd_t, ga_t, r5, c0, cS, if_true, if_false, t1, t2, n1, gup_k, gup_o, gup_f, gup_s, if_neg (show ¬ (1 : Int) = 0 by decide), cT, cV, cW]
        rfl
      case e2_5 =>
        intro n k
        simp (disch := first | decide | omega) only [f_X8_rests_L2, bn1_some, nm_eq, gd_t, ga_t, c0, a3, a2, a1, cL, if_true, if_false, m_teamAt, gup_k, gup_o, gup_f, gup_s, cT, cV, cW]
        rfl
      case p1_5 =>
        intro k x f z1 z2 z3
        repeat rw [gup_n (by omega)]
      case q1_5 =>
        intro k x f z1
        repeat rw [gup_n (by omega)]
      all_goals (simp (disch := first | decide | omega) only [gup_k, gup_o, gup_f, gup_s, t1]; try omega)
  · have cS : ¬ H1 6 (10 * o + i) 3 = -1 := by omega
    refine ⟨H1, H2, fun n k => ?_, fun n k => ?_, hR, hW, frC_rf, fun _ _ _ _ => rfl, fun _ _ => rfl, fun z => absurd z cL⟩
    · simp (disch := first | decide | omega) only [f_X3_restTeams_L2, f_X6_stands, bn1_some, gd_t, ga_t, r5, c0, cS, if_true, if_false]
    · simp (disch := first | decide | omega) only [f_X8_rests_L2, bn1_some, gd_t, c0, a3, cL, if_true, if_false]
set_option maxHeartbeats 8000000 in
theorem road_turn {o m i : Int} (hm : m ≤ 20000) {H1 H2 : GS} (hR : Rd H1 o (H2 10 0)) (hW : Wf m (H2 10 0)) (h0 : 0 ≤ i) (c0 : i < H2 10 0 7) : ∃ G' H' : GS, (∀ n (k : GS → Int → Option GS), f_X3_moveTeams_L2 o (n + 1) H1 i k = f_X3_moveTeams_L2 o n G' (i + 1) k) ∧ (∀ n (k : GS → Int → Option GS), f_X8_roads_L2 (n + 1) H2 i k = f_X8_roads_L2 n H' (i + 1) k) ∧ Rd G' o (H' 10 0) ∧ Wf m (H' 10 0) ∧ frC o H1 G' ∧ frM H2 H' ∧ RdP (H2 10 0) i (H' 10 0) := by
  have hWh := hW.1
  unfold WfH at hWh
  have r5 : H1 3 o 5 = H2 10 0 7 := hR.1.2.1
  have r7 : H1 3 o 7 = H2 10 0 1 := hR.1.2.2.2.1
  have hT := hR.2.2.2.1 i h0 c0
  have hwT := hW.2.2.2.1 i h0 c0
  unfold RdT at hT
  unfold WfT at hwT
  obtain ⟨t0, t1, t2, t5, t6, t7, t8, t9, t10, t11, t4, t3a, t3b⟩ := hT
  obtain ⟨w0, w1, w2, w3, w4, w5⟩ := hwT
  have a3 : f_X8_of H2 i 3 = some (H2 10 0 (54 + 11 * i + 3)) := m_of ⟨by omega, by omega⟩
  have fin : ∀ (G' H' : GS), (∀ n k, f_X3_moveTeams_L2 o (n + 1) H1 i k = f_X3_moveTeams_L2 o n G' (i + 1) k) → (∀ n k, f_X8_roads_L2 (n + 1) H2 i k = f_X8_roads_L2 n H' (i + 1) k) → Rd G' o (H' 10 0) ∧ Wf m (H' 10 0) → frC o H1 G' → frM H2 H' → (H' 10 0 7 = H2 10 0 7 ∧ H' 10 0 8 = H2 10 0 8) →
      RdP (H2 10 0) i (H' 10 0) → ∃ G' H' : GS, (∀ n (k : GS → Int → Option GS), f_X3_moveTeams_L2 o (n + 1) H1 i k = f_X3_moveTeams_L2 o n G' (i + 1) k) ∧ (∀ n (k : GS → Int → Option GS), f_X8_roads_L2 (n + 1) H2 i k = f_X8_roads_L2 n H' (i + 1) k) ∧ Rd G' o (H' 10 0) ∧ Wf m (H' 10 0) ∧ frC o H1 G' ∧ frM H2 H' ∧ RdP (H2 10 0) i (H' 10 0) := by
    intro G' H' q1 q2 k1 k2 k3 k4 k9
    exact ⟨G', H', q1, q2, k1.1, k1.2, k2, k3, k9⟩
  have ex : ofR o 6 (10 * o + i) := by unfold ofR; omega
  by_cases cL : H2 10 0 (54 + 11 * i + 3) = 0
  · have cS : H1 6 (10 * o + i) 3 = -1 := t3a cL
    refine fin H1 H2 (fun n k => ?_) (fun n k => ?_) ⟨hR, hW⟩ frC_rf frM_rf ⟨rfl, rfl⟩ (Or.inl ⟨cL, fun _ => rfl⟩)
    · rw [f_X3_moveTeams_L2]
      unfold f_X6_stands
      rw [gd_t ⟨by omega, by omega⟩, gd_t ⟨by omega, by omega⟩, if_pos (by omega), ga_t ⟨by omega, by omega⟩, cS, gd_t (by decide), if_pos rfl, bn1_some, gd_t (by decide), if_neg (by decide)]
    · rw [f_X8_roads_L2, gd_t ⟨by omega, by omega⟩, gd_t ⟨by omega, by omega⟩, if_pos c0, a3, bn1_some, cL, gd_t (by decide), if_neg (by decide)]
  · have cL0 : 0 < H2 10 0 (54 + 11 * i + 3) := by omega
    have w5 := w5 cL0
    have t3 := t3b cL0
    have cS : 0 ≤ H1 6 (10 * o + i) 3 ∧ H1 6 (10 * o + i) 3 < 7 := by omega
    obtain ⟨Ga, ha, fa, va⟩ := gup_ex H1 6 (10 * o + i) 5 (H1 6 (10 * o + i) 5 - 1)
    obtain ⟨Ha, hb, fb, vb⟩ := gup_ex H2 10 0 (54 + 11 * i + 3) (H2 10 0 (54 + 11 * i + 3) - 1)
    have e1 : ∀ n k, f_X3_moveTeams_L2 o (n + 1) H1 i k = gd (Ga 6 (10 * o + i) 5) (if Ga 6 (10 * o + i) 5 = 0 then bn1 (f_X3_arrive Ga o (10 * o + i)) (fun G12 => f_X3_moveTeams_L2 o n G12 (i + 1) k) else f_X3_moveTeams_L2 o n Ga (i + 1) k) := fun n k => by
      rw [f_X3_moveTeams_L2]
      unfold f_X6_stands
      rw [ha, gd_t ⟨by omega, by omega⟩, gd_t ⟨by omega, by omega⟩, if_pos (by omega), ga_t ⟨by omega, by omega⟩, gd_t ⟨by omega, by omega⟩, if_neg (by omega), bn1_some, gd_t (by decide), if_pos rfl]
    have e2 : ∀ n k, f_X8_roads_L2 (n + 1) H2 i k = gd (Ha 10 0 (54 + 11 * i + 3)) (if Ha 10 0 (54 + 11 * i + 3) = 0 then bn1 (f_X8_arrives Ha i) (fun G15 => f_X8_roads_L2 n G15 (i + 1) k) else f_X8_roads_L2 n Ha (i + 1) k) := fun n k => by
      rw [f_X8_roads_L2, gd_t ⟨by omega, by omega⟩, gd_t ⟨by omega, by omega⟩, if_pos c0, a3, bn1_some, gd_t ⟨by omega, by omega⟩, if_pos cL0, m_teamAt, bn1_some, ga_t ⟨by omega, by omega⟩, hb, m_of ⟨by omega, by omega⟩, bn1_some]
    have hv : Ga 6 (10 * o + i) 5 = Ha 10 0 (54 + 11 * i + 3) := by rw [va, vb, t5]
    have frGa : frC o H1 Ga := fun k x f z => fa k x f (fun q => z (by rw [q.1, q.2.1]; exact ex))
    have frHa : frM H2 Ha := fun k x f z z2 => fb k x f (by omega)
    by_cases cZ : H2 10 0 (54 + 11 * i + 3) = 1
    · have z1 : Ha 10 0 (54 + 11 * i + 3) = 0 := by rw [vb, cZ]; rfl
      have z2 : Ga 6 (10 * o + i) 5 = 0 := by rw [hv, z1]
      rcases w5.2.2 with ⟨k5, k4⟩ | ⟨k5, k4⟩
      · -- it brings a letter
        obtain ⟨l, hl⟩ : ∃ l, l = H2 10 0 (54 + 11 * i + 4) := ⟨_, rfl⟩
        have wl : 0 ≤ l ∧ l < H2 10 0 8 := by omega
        have rL := hR.2.2.2.2.1 l wl.1 wl.2
        have wL := hW.2.2.2.2.1 l wl.1 wl.2
        unfold RdL at rL
        unfold WfL at wL
        have wY := hW.2.2.2.2.2.2.1 i h0 c0
        unfold WfY at wY
        have wY := wY cL0 k5
        rw [← hl] at wY
        obtain ⟨s, u, hs, hu⟩ : ∃ s u : Int, (0 ≤ s ∧ s < H2 10 0 0 - 1) ∧ ((H2 10 0 (54 + 11 * i + 10) < H2 10 0 (54 + 11 * i + 2) ∧ s = H2 10 0 (54 + 11 * i + 10) ∧ u = 1) ∨ (¬ H2 10 0 (54 + 11 * i + 10) < H2 10 0 (54 + 11 * i + 2) ∧ s = H2 10 0 (54 + 11 * i + 2) ∧ u = 0)) := by
          by_cases q : H2 10 0 (54 + 11 * i + 10) < H2 10 0 (54 + 11 * i + 2)
          · exact ⟨H2 10 0 (54 + 11 * i + 10), 1, by omega, Or.inl ⟨q, rfl, rfl⟩⟩
          · exact ⟨H2 10 0 (54 + 11 * i + 2), 0, by omega, Or.inr ⟨q, rfl, rfl⟩⟩
        have hsu : H1 6 (10 * o + i) 3 = s ∧ H1 6 (10 * o + i) 4 = u := by omega
        have rS := hR.2.1 s hs.1 hs.2
        have wS := hW.2.1 s hs.1 hs.2
        have rr := ef_le (u := u) wS
        have ceff : f_X5_effort Ga (7 * o + s) u = some (ef (H2 10 0) s u) := by
          refine c_eff (A := H2 10 0) ?_ wS (by omega)
          unfold RdS at rS ⊢
          rw [fa 5 _ 0 (by omega), fa 5 _ 1 (by omega), fa 5 _ 2 (by omega)]
          exact rS
        have hef : ef (Ha 10 0) s u = ef (H2 10 0) s u := by
          unfold ef efX
          rw [fb 10 0 (9 + 3 * s) (by omega), fb 10 0 (9 + 3 * s + 1) (by omega)]
        have meff : f_X8_effort Ha (H2 10 0 (54 + 11 * i + 10)) (H2 10 0 (54 + 11 * i + 2)) = some (ef (H2 10 0) s u) := by
          rw [← hef]
          refine m_eff (by omega) (by omega) ⟨by omega, by omega⟩ ⟨by omega, by omega⟩ ?_
          unfold WfS at wS ⊢
          rw [fb 10 0 (9 + 3 * s) (by omega), fb 10 0 (9 + 3 * s + 1) (by omega), fb 10 0 (9 + 3 * s + 2) (by omega)]
          exact wS
        obtain ⟨r, hr⟩ : ∃ r, r = ef (H2 10 0) s u := ⟨_, rfl⟩
        rw [← hr] at ceff meff rr
        obtain ⟨v1, hv1⟩ : ∃ v1, v1 = if H2 10 0 (54 + 11 * i + 1) + r < 100 then H2 10 0 (54 + 11 * i + 1) + r else 100 := ⟨_, rfl⟩
        have hv1r : 0 ≤ v1 ∧ v1 ≤ 100 := by rw [hv1]; split <;> omega
        obtain ⟨v6, k8, k9, k10, k11, hvv⟩ : ∃ v6 k8 k9 k10 k11 : Int, (H2 10 0 (164 + 8 * l + 4) = H2 10 0 (164 + 8 * l + 1) ∧ v6 = H2 10 0 1 + 1 ∧ k8 = 1 ∧ k9 = H2 10 0 1 + 1 - H2 10 0 (164 + 8 * l + 3) ∧ ((H2 10 0 (164 + 8 * l + 2) = 0 ∧ k10 = 0 ∧ k11 = 0) ∨ (H2 10 0 (164 + 8 * l + 2) = 1 ∧ k10 = 1 ∧ k11 = k9))) ∨ (¬ H2 10 0 (164 + 8 * l + 4) = H2 10 0 (164 + 8 * l + 1) ∧ v6 = H2 10 0 (164 + 8 * l + 6) ∧ k8 = 0 ∧ k9 = 0 ∧ k10 = 0 ∧ k11 = 0) := by
          by_cases q : H2 10 0 (164 + 8 * l + 4) = H2 10 0 (164 + 8 * l + 1)
          · rcases wL.2.1 with q2 | q2
            · exact ⟨_, _, _, 0, 0, Or.inl ⟨q, rfl, rfl, rfl, Or.inl ⟨q2, rfl, rfl⟩⟩⟩
            · exact ⟨_, _, _, _, _, Or.inl ⟨q, rfl, rfl, rfl, Or.inr ⟨q2, rfl, rfl⟩⟩⟩
          · exact ⟨_, _, _, _, _, Or.inr ⟨q, rfl, rfl, rfl, rfl, rfl⟩⟩
        have bL : ∀ f, Ga 2 (12 * o + l) f = H1 2 (12 * o + l) f := fun f => fa _ _ _ (by omega)
        have bM : ∀ f, 0 ≤ f → f < 8 → Ha 10 0 (164 + 8 * l + f) = H2 10 0 (164 + 8 * l + f) := fun f y1 y2 => fb _ _ _ (by omega)
        obtain ⟨Gb, eb, fGb, g1, g2, g3, g5, g6, g7, g8, g9, l5, l6, n8, n9, n10, n11⟩ := c_arrive_run (G := Ga) (o := o) (p := 10 * o + i) (l := l) (s := s) (u := u) (r := r) (by rw [fa _ _ _ (by omega)]; exact hsu.1) ⟨by omega, by omega⟩ (by rw [fa _ _ _ (by omega)]; exact hsu.2) (by rw [fa _ _ _ (by omega), t7]; exact k5) (by rw [fa _ _ _ (by omega), t6]; exact hl.symm) ⟨by omega, by omega⟩ ceff ⟨by omega, by omega⟩ (by rw [fa _ _ _ (by omega), t1]; exact w1) (by rw [bL, rL.2.2.2.2.1]; exact ⟨by omega, by omega⟩) (by rw [bL, rL.2.1]; exact ⟨by omega, by omega⟩) (by rw [bL, rL.2.2.1]; exact wL.2.1) v1 v6 k8 k9 k10 k11 (by rw [fa _ _ _ (by omega), t1]; exact hv1)
          (by rw [bL, bL, bL, bL, bL, rL.2.1, rL.2.2.1, rL.2.2.2.1, rL.2.2.2.2.1, rL.2.2.2.2.2.2.1, fa 3 o 7 (by omega), r7]; exact hvv)
        obtain ⟨Hb, ebm, fHb, b1, b4, b6, b7, m5, m6, q2, q3, q4, q5⟩ := m_arrive_run (H := Ha) (t := i) (l := l) (r := r) (b := H2 10 0 (54 + 11 * i + 10)) (inn := H2 10 0 (54 + 11 * i + 2)) ⟨by omega, by omega⟩ (fb _ _ _ (by omega)) (fb _ _ _ (by omega)) (by rw [fb _ _ _ (by omega)]; exact k5) (by rw [fb _ _ _ (by omega)]; exact hl.symm) ⟨by omega, by omega⟩ meff ⟨by omega, by omega⟩ (by rw [fb _ _ _ (by omega)]; exact w1) ⟨by omega, by omega⟩ (by rw [bM 1 (by decide) (by decide)]; exact ⟨by omega, by omega⟩) (by rw [bM 2 (by decide) (by decide)]; exact wL.2.1) v1 v6 k8 k9 k10 k11 (by rw [fb _ _ _ (by omega)]; exact hv1)
          (by rw [bM 1 (by decide) (by decide), bM 2 (by decide) (by decide), bM 3 (by decide) (by decide), bM 6 (by decide) (by decide), fb 10 0 1 (by omega), ← wY.2.1]; exact hvv)
        refine fin Gb Hb (fun n k => ?_) (fun n k => ?_) ?_ (frC_tr frGa (fun k x f z => ?_)) (frM_tr frHa (fun k x f z z2 => ?_)) ?_ (Or.inr (Or.inr (Or.inr ⟨cZ, k5, l, s, u, r, v1, v6, k8, k9, k10, k11, hl, wl, hs, hu, hr, hv1, hvv, wY.2.2, wY.1, (fun f y1 y2 y3 y4 y5 y6 y7 y8 => by rw [fHb _ _ _ (by omega), fb _ _ _ (by omega)]), b1, by rw [fHb _ _ _ (by omega), z1], b4, by rw [b6, fb _ _ _ (by omega)], by rw [b7, fb _ _ _ (by omega)], m5, m6, by rw [q2, fb _ _ _ (by omega)], by rw [q3, fb _ _ _ (by omega)], by rw [q4, fb _ _ _ (by omega)], by rw [q5, fb _ _ _ (by omega)]⟩)))
        · rw [e1, z2, gd_t (by decide), if_pos rfl, eb, bn1_some]
        · rw [e2, z1, gd_t (by decide), if_pos rfl, ebm, bn1_some]
        · refine keep_run hR hW h0 c0 cL0 k5 hl.symm (v1 := v1) (v6 := v6) (r := r) (k8 := k8) (k9 := k9) (k10 := k10) (k11 := k11) (fun k x f y1 y2 y3 => ?_) g1 ?_ g3 g5 g6 g7 ?_ ?_ l5 l6 ?_ ?_ ?_ ?_ (fun f y1 y2 y3 y4 y5 y6 y7 y8 => ?_) b1 ?_ b4 ?_ ?_ m5 m6 ?_ ?_ ?_ ?_ hv1r ?_
          · rw [fGb _ _ _ (by omega) (by omega) (by omega), fa _ _ _ (by omega)]
          · rw [g2, fa _ _ _ (by omega)]
          · rw [g8, fa _ _ _ (by omega)]
          · rw [g9, fa _ _ _ (by omega)]
          · rw [n8, fa _ _ _ (by omega)]
          · rw [n9, fa _ _ _ (by omega)]
          · rw [n10, fa _ _ _ (by omega)]
          · rw [n11, fa _ _ _ (by omega)]
          · rw [fHb _ _ _ (by omega), fb _ _ _ (by omega)]
          · rw [fHb _ _ _ (by omega), z1]
          · rw [b6, fb _ _ _ (by omega)]
          · rw [b7, fb _ _ _ (by omega)]
          · rw [q2, fb _ _ _ (by omega)]
          · rw [q3, fb _ _ _ (by omega)]
          · rw [q4, fb _ _ _ (by omega)]
          · rw [q5, fb _ _ _ (by omega)]
          · omega
        · unfold ofR at z
          exact fGb _ _ _ (by omega) (by omega) (by omega)
        · exact fHb _ _ _ (by omega)
        · exact ⟨by rw [fHb _ _ _ (by omega), fb _ _ _ (by omega)], by rw [fHb _ _ _ (by omega), fb _ _ _ (by omega)]⟩
      · -- it walks
        obtain ⟨Gb, eb, fGb, g2, g3, g5, g6, g7, g10⟩ := c_arrive_walk (G := Ga) (o := o) (p := 10 * o + i) (by rw [fa _ _ _ (by omega), t7]; exact k5) (by rw [fa _ _ _ (by omega), t6]; exact k4)
        obtain ⟨Hb, ebm, fHb, b5, b8⟩ := m_arrive_walk (H := Ha) (t := i) ⟨by omega, by omega⟩ (by rw [fb _ _ _ (by omega)]; exact k5)
        refine fin Gb Hb (fun n k => ?_) (fun n k => ?_) ?_ (frC_tr frGa (fun k x f z => ?_)) (frM_tr frHa (fun k x f z z2 => ?_)) ?_ (Or.inr (Or.inr (Or.inl ⟨cZ, k5, (fun f y1 y2 y3 => by rw [fHb _ _ _ (by omega), fb _ _ _ (by omega)]), by rw [fHb _ _ _ (by omega), z1], b5, by rw [b8, fb _ _ _ (by omega)]⟩)))
        · rw [e1, z2, gd_t (by decide), if_pos rfl, eb, bn1_some]
        · rw [e2, z1, gd_t (by decide), if_pos rfl, ebm, bn1_some]
        · refine keep_walk hR hW h0 c0 cL0 k5 (fun k x f y1 => ?_) ?_ g3 g5 g6 g7 ?_ (fun f y1 y2 y3 => ?_) ?_ b5 ?_
          · rw [fGb _ _ _ (by omega), fa _ _ _ (by omega)]
          · rw [g2, fa _ _ _ (by omega)]
          · rw [g10, fa _ _ _ (by omega)]
          · rw [fHb _ _ _ (by omega), fb _ _ _ (by omega)]
          · rw [fHb _ _ _ (by omega), z1]
          · rw [b8, fb _ _ _ (by omega)]
        · unfold ofR at z
          exact fGb _ _ _ (by omega)
        · exact fHb _ _ _ (by omega)
        · exact ⟨by rw [fHb _ _ _ (by omega), fb _ _ _ (by omega)], by rw [fHb _ _ _ (by omega), fb _ _ _ (by omega)]⟩
    · have z1 : ¬ Ha 10 0 (54 + 11 * i + 3) = 0 := by omega
      refine fin Ga Ha (fun n k => ?_) (fun n k => ?_) ?_ frGa frHa ⟨fb _ _ _ (by omega), fb _ _ _ (by omega)⟩ (Or.inr (Or.inl ⟨by omega, fun f z => fb _ _ _ (by omega), vb⟩))
      · rw [e1, hv, gd_t ⟨by omega, by omega⟩, if_neg z1]
      · rw [e2, gd_t ⟨by omega, by omega⟩, if_neg z1]
      · exact keep_dec hR hW h0 c0 (by omega) (fun k x f z => fa k x f z) va (fun f z => fb _ _ _ (by omega)) vb
set_option maxHeartbeats 8000000 in
theorem back_turn {o m t : Int} {G H : GS} (hR : Rd G o (H 10 0)) (hW : Wf m (H 10 0)) (t0 : 0 ≤ t) (t1 : t < H 10 0 7) : ∃ G' H', (∀ n (k : GS → Int → Option GS), f_X3_sendTeamsBack_L2 o (n + 1) G t k = f_X3_sendTeamsBack_L2 o n G' (t + 1) k) ∧ (∀ n (k : GS → Int → Option GS), f_X8_walkBack_L2 (n + 1) H t k = f_X8_walkBack_L2 n H' (t + 1) k) ∧ Rd G' o (H' 10 0) ∧ Wf m (H' 10 0) ∧ frC o G G' ∧ (∀ k x f, ¬ (k = 10 ∧ x = 0) → H' k x f = H k x f) ∧ (∀ f, f < 54 → H' 10 0 f = H 10 0 f) ∧ (¬ wk (H 10 0) t → H' = H) ∧ (wk (H 10 0) t → 0 < H' 10 0 (54 + 11 * t + 3)) ∧ (∀ u, 0 ≤ u → u < 10 → 0 < H 10 0 (54 + 11 * u + 3) → 0 < H' 10 0 (54 + 11 * u + 3)) ∧ (wk (H 10 0) t → BkP (H 10 0) t (H' 10 0)) := by
  have hWh := hW.1
  unfold WfH at hWh
  have r5 : G 3 o 5 = H 10 0 7 := hR.1.2.1
  have rT := hR.2.2.2.1 t t0 t1
  have wT := hW.2.2.2.1 t t0 t1
  unfold RdT at rT
  unfold WfT at wT
  obtain ⟨y0, y1, y2, y5, y6, y7, y8, y9, y10, y11, y4, y3a, y3b⟩ := rT
  have stay : ¬ wk (H 10 0) t → (∀ n (k : GS → Int → Option GS), f_X3_sendTeamsBack_L2 o (n + 1) G t k = f_X3_sendTeamsBack_L2 o n G (t + 1) k) → (∀ n (k : GS → Int → Option GS), f_X8_walkBack_L2 (n + 1) H t k = f_X8_walkBack_L2 n H (t + 1) k) → ∃ G' H', (∀ n (k : GS → Int → Option GS), f_X3_sendTeamsBack_L2 o (n + 1) G t k = f_X3_sendTeamsBack_L2 o n G' (t + 1) k) ∧ (∀ n (k : GS → Int → Option GS), f_X8_walkBack_L2 (n + 1) H t k = f_X8_walkBack_L2 n H' (t + 1) k) ∧ Rd G' o (H' 10 0) ∧ Wf m (H' 10 0) ∧ frC o G G' ∧ (∀ k x f, ¬ (k = 10 ∧ x = 0) → H' k x f = H k x f) ∧ (∀ f, f < 54 → H' 10 0 f = H 10 0 f) ∧ (¬ wk (H 10 0) t → H' = H) ∧ (wk (H 10 0) t → 0 < H' 10 0 (54 + 11 * t + 3)) ∧ (∀ u, 0 ≤ u → u < 10 → 0 < H 10 0 (54 + 11 * u + 3) → 0 < H' 10 0 (54 + 11 * u + 3)) ∧ (wk (H 10 0) t → BkP (H 10 0) t (H' 10 0)) := fun z e1 e2 => ⟨G, H, e1, e2, hR, hW, frC_rf, fun _ _ _ _ => rfl, fun _ _ => rfl, fun _ => rfl, fun w => absurd w z, fun _ _ _ w => w, fun z9 => absurd z9 z⟩
  have b1 : ∀ n (k : GS → Int → Option GS), f_X3_sendTeamsBack_L2 o (n + 1) G t k = bn1 (f_X6_stands G (10 * o + t)) (fun r6 => gd r6 (if r6 = 0 then f_X3_sendTeamsBack_L2 o n G (t + 1) k else gd (G 6 (10 * o + t) 2) (gd (G 6 (10 * o + t) 0) (if (G 6 (10 * o + t) 2) = (G 6 (10 * o + t) 0) then f_X3_sendTeamsBack_L2 o n G (t + 1) k else gd (G 6 (10 * o + t) 1) (if (G 6 (10 * o + t) 1) = 0 then bn1 (f_X3_lettersAt G o (G 6 (10 * o + t) 2)) (fun r15 => gd r15 (if r15 = 0 then bn1 (f_X3_sendBack G o (10 * o + t)) (fun G19 => f_X3_sendTeamsBack_L2 o n G19 (t + 1) k) else f_X3_sendTeamsBack_L2 o n G (t + 1) k)) else f_X3_sendTeamsBack_L2 o n G (t + 1) k))))) := fun n k => by
    rw [f_X3_sendTeamsBack_L2, gd_t ⟨by omega, by omega⟩, gd_t ⟨by omega, by omega⟩, if_pos (by omega), ga_t ⟨by omega, by omega⟩]
  unfold f_X6_stands at b1
  rw [y2, y1, y0] at b1
  have a2 : f_X8_of H t 2 = some (H 10 0 (54 + 11 * t + 2)) := m_of ⟨by omega, by omega⟩
  have a3 : f_X8_of H t 3 = some (H 10 0 (54 + 11 * t + 3)) := m_of ⟨by omega, by omega⟩
  have a0 : f_X8_of H t 0 = some (H 10 0 (54 + 11 * t + 0)) := m_of ⟨by omega, by omega⟩
  have a1 : f_X8_of H t 1 = some (H 10 0 (54 + 11 * t + 1)) := m_of ⟨by omega, by omega⟩
  by_cases c3 : H 10 0 (54 + 11 * t + 3) = 0
  · have cS : G 6 (10 * o + t) 3 = -1 := y3a c3
    rw [cS] at b1
    by_cases c2 : H 10 0 (54 + 11 * t + 2) = H 10 0 (54 + 11 * t + 0)
    · refine stay (fun z => z.2.1 c2) (fun n k => ?_) (fun n k => ?_)
      · rw [b1, gd_t (by decide), if_pos rfl, bn1_some, gd_t (by decide), if_neg (by decide), gd_t ⟨by omega, by omega⟩, gd_t ⟨by omega, by omega⟩, if_pos c2]
      · rw [f_X8_walkBack_L2, gd_t ⟨by omega, by omega⟩, gd_t ⟨by omega, by omega⟩, if_pos t1, a2, bn1_some, a3, bn1_some, gd_t ⟨by omega, by omega⟩, if_pos c3, a0, bn1_some, gd_t ⟨by omega, by omega⟩, gd_t ⟨by omega, by omega⟩, if_pos c2]
    · by_cases c1 : H 10 0 (54 + 11 * t + 1) = 0
      · have cl := cnt_le (pLa (H 10 0) (H 10 0 (54 + 11 * t + 2))) (H 10 0 8).toNat
        by_cases cL : cnt (pLa (H 10 0) (H 10 0 (54 + 11 * t + 2))) (H 10 0 8).toNat = 0
        · -- where it goes
          have wy := way_r (A := H 10 0) (a := H 10 0 (54 + 11 * t + 2)) (b := H 10 0 (54 + 11 * t + 0)) ⟨by omega, by omega⟩ ⟨by omega, by omega⟩ c2
          obtain ⟨b, hb⟩ : ∃ b, b = nx (H 10 0 (54 + 11 * t + 2)) (H 10 0 (54 + 11 * t + 0)) := ⟨_, rfl⟩
          rw [← hb] at wy
          obtain ⟨s, hs⟩ : ∃ s, s = sg (H 10 0 (54 + 11 * t + 2)) b := ⟨_, rfl⟩
          rw [← hs] at wy
          have rS := hR.2.1 s wy.2.1.1 wy.2.1.2
          have wS := hW.2.1 s wy.2.1.1 wy.2.1.2
          unfold RdS at rS
          unfold WfS at wS
          have rf := fb_r hW wy.1.1 wy.1.2
          have rB := hR.2.2.1 b wy.1.1 wy.1.2
          have wB := hW.2.2.1 b wy.1.1 wy.1.2
          unfold RdN at rB
          unfold WfN at wB
          have hc := cnt_le (pAt (H 10 0) b) (H 10 0 7).toNat
          have hWh := hW.1
          unfold WfH at hWh
          have eb1 : (if H 10 0 (54 + 11 * t + 2) < H 10 0 (54 + 11 * t + 0) then H 10 0 (54 + 11 * t + 2) + 1 else H 10 0 (54 + 11 * t + 2) - 1) = b := hb.symm
          have es1 : (if H 10 0 (54 + 11 * t + 2) < b then H 10 0 (54 + 11 * t + 2) else b) = s := hs.symm
          have b9 : ∀ n (k : GS → Int → Option GS), f_X3_sendTeamsBack_L2 o (n + 1) G t k = bn1 (f_X3_sendBack G o (10 * o + t)) (fun G19 => f_X3_sendTeamsBack_L2 o n G19 (t + 1) k) := fun n k => by
            rw [b1, gd_t (by decide), if_pos rfl, bn1_some, gd_t (by decide), if_neg (by decide), gd_t ⟨by omega, by omega⟩, gd_t ⟨by omega, by omega⟩, if_neg c2, c1, gd_t (by decide), if_pos rfl, c_lettersAt hR hW ⟨by omega, by omega⟩, bn1_some, cL, gd_t (by decide), if_pos rfl]
          have d9 : ∀ n (k : GS → Int → Option GS), f_X8_walkBack_L2 (n + 1) H t k = (if H 10 0 (9 + 3 * s + 2) = 0 then (if 0 < fb (H 10 0) b then bn1 (f_X8_leaves H t b (2 * H 10 0 (9 + 3 * s))) (fun G39 => bn1 (f_X8_teamAt G39 t 5) (fun r41 => ga r41 260 (f_X8_walkBack_L2 n (gup G39 10 0 r41 1) (t + 1) k))) else f_X8_walkBack_L2 n H (t + 1) k) else f_X8_walkBack_L2 n H (t + 1) k) := fun n k => by
            rw [f_X8_walkBack_L2, gd_t ⟨by omega, by omega⟩, gd_t ⟨by omega, by omega⟩, if_pos t1, a2, bn1_some, a3, bn1_some, gd_t ⟨by omega, by omega⟩, if_pos c3, a0, bn1_some, gd_t ⟨by omega, by omega⟩, gd_t ⟨by omega, by omega⟩, if_neg c2, a1, bn1_some, c1, gd_t (by decide), if_pos rfl, m_lettersAt hW ⟨by omega, by omega⟩, bn1_some, cL, gd_t (by decide), if_pos rfl, bn1_some, m_toward ⟨by omega, by omega⟩ ⟨by omega, by omega⟩, bn1_some, eb1, m_between ⟨by omega, by omega⟩ ⟨by omega, by omega⟩, bn1_some, es1, m_blocked ⟨by omega, by omega⟩ wS.2.2, bn1_some, gd_t ⟨by omega, by omega⟩, m_freeBeds hW wy.1.1 wy.1.2, bn1_some, gd_t ⟨by omega, by omega⟩, m_hours ⟨by omega, by omega⟩, bn1_some]
          have s9 : f_X3_sendBack G o (10 * o + t) = (if H 10 0 (9 + 3 * s + 2) = 0 then (if 0 < fb (H 10 0) b then bn1 (f_X6_setOut G (10 * o + t) b (2 * H 10 0 (9 + 3 * s))) (fun G13 => some (gup G13 6 (10 * o + t) 7 1)) else some G) else some G) := by
            unfold f_X3_sendBack
            rw [y2, y0, c_next ⟨by omega, by omega⟩ ⟨by omega, by omega⟩, bn1_some, ← hb, c_between ⟨by omega, by omega⟩ ⟨by omega, by omega⟩, bn1_some, ← hs, ga_t ⟨by omega, by omega⟩, rS.2.2, gd_t ⟨by omega, by omega⟩, c_bedsTaken hR hW ⟨by omega, by omega⟩, bn1_some, ga_t ⟨by omega, by omega⟩, gd_t ⟨by omega, by omega⟩, rB.1, gd_t ⟨by omega, by omega⟩, rS.1]
            by_cases dB : H 10 0 (9 + 3 * s + 2) = 0
            · rw [if_pos dB, if_pos dB]
              by_cases dF : 0 < fb (H 10 0) b
              · rw [if_pos dF, if_pos ((fb_p (H 10 0) b).mp dF)]
              · rw [if_neg dF, if_neg (fun z => dF ((fb_p (H 10 0) b).mpr z))]
            · rw [if_neg dB, if_neg dB]
          by_cases dB : H 10 0 (9 + 3 * s + 2) = 0
          · by_cases dF : 0 < fb (H 10 0) b
            · rw [if_pos dB, if_pos dF] at s9
              obtain ⟨Ga, ea, fa, v2, v3, v4, v5⟩ := c_setOut (G := G) (p := 10 * o + t) (a := H 10 0 (54 + 11 * t + 2)) (b := b) (h := 2 * H 10 0 (9 + 3 * s)) y2 ⟨by omega, by omega⟩ ⟨by omega, by omega⟩
              obtain ⟨Gb, eb, fb, vb⟩ := gup_ex Ga 6 (10 * o + t) 7 1
              obtain ⟨Ha, eh, fh, w2, w3, w10⟩ := m_leaves (H := H) (t := t) (b := b) (h := 2 * H 10 0 (9 + 3 * s)) ⟨by omega, by omega⟩
              obtain ⟨Hb, ek, fk, vk⟩ := gup_ex Ha 10 0 (54 + 11 * t + 5) 1
              obtain ⟨q1, q2⟩ := keep_back (G' := Gb) (H' := Hb) hR hW t0 t1 (a := H 10 0 (54 + 11 * t + 2)) (b := b) (s := s) (h := 2 * H 10 0 (9 + 3 * s)) rfl c3 wy.1 (by omega) (by omega) (fun k x f z => by rw [fb _ _ _ (by omega), fa _ _ _ (by omega)]) (by rw [fb _ _ _ (by omega), v2]) (by rw [fb _ _ _ (by omega), v3, hs]) (by rw [fb _ _ _ (by omega), v4]) (by rw [fb _ _ _ (by omega), v5]) vb (fun f z1 z2 z3 z4 => by rw [fk _ _ _ (by omega), fh _ _ _ (by omega)]) (by rw [fk _ _ _ (by omega), w2]) (by rw [fk _ _ _ (by omega), w3]) vk (by rw [fk _ _ _ (by omega), w10])
              refine ⟨Gb, Hb, fun n k => ?_, fun n k => ?_, q1, q2, fun k x f z => ?_, fun k x f z => ?_, fun f z => ?_, fun z => ?_, fun _ => ?_, fun u z1 z2 z3 => ?_, fun _ a9 b9' s9' e1 e2 e3 => ?_⟩
              · rw [b9, s9, ea, bn1_some, eb, bn1_some]
              · rw [d9, if_pos dB, if_pos dF, eh, bn1_some, m_teamAt, bn1_some, ga_t ⟨by omega, by omega⟩, ek]
              · unfold ofR at z
                rw [fb _ _ _ (by omega), fa _ _ _ (by omega)]
              · rw [fk _ _ _ (by omega), fh _ _ _ (by omega)]
              · rw [fk _ _ _ (by omega), fh _ _ _ (by omega)]
              · exact absurd (show wk (H 10 0) t from ⟨c3, c2, c1, cL, by rw [← hb, ← hs]; exact dB, by rw [← hb]; exact dF⟩) z
              · rw [fk _ _ _ (by omega), w3]
                omega
              · by_cases hu : u = t
                · rw [hu] at z3
                  omega
                · rw [fk _ _ _ (by omega), fh _ _ _ (by omega)]
                  exact z3
              · have e4 : b9' = b := by rw [e2, hb, e1]
                have e5 : s9' = s := by rw [e3, e4, hs, e1]
                subst e4 e5
                exact ⟨fun f y1 y2 y3 y4 => by rw [fk _ _ _ (by omega), fh _ _ _ (by omega)], by rw [fk _ _ _ (by omega), w2], by rw [fk _ _ _ (by omega), w3], vk, by rw [fk _ _ _ (by omega), w10, e1]⟩
            · refine stay (fun z => dF (by have := z.2.2.2.2.2; rw [← hb] at this; exact this)) (fun n k => ?_) (fun n k => ?_)
              · rw [b9, s9, if_pos dB, if_neg dF, bn1_some]
              · rw [d9, if_pos dB, if_neg dF]
          · refine stay (fun z => dB (by have := z.2.2.2.2.1; rw [← hb, ← hs] at this; exact this)) (fun n k => ?_) (fun n k => ?_)
            · rw [b9, s9, if_neg dB, bn1_some]
            · rw [d9, if_neg dB]
        · refine stay (fun z => cL z.2.2.2.1) (fun n k => ?_) (fun n k => ?_)
          · rw [b1, gd_t (by decide), if_pos rfl, bn1_some, gd_t (by decide), if_neg (by decide), gd_t ⟨by omega, by omega⟩, gd_t ⟨by omega, by omega⟩, if_neg c2, c1, gd_t (by decide), if_pos rfl, c_lettersAt hR hW ⟨by omega, by omega⟩, bn1_some, gd_t ⟨by omega, by omega⟩, if_neg cL]
          · rw [f_X8_walkBack_L2, gd_t ⟨by omega, by omega⟩, gd_t ⟨by omega, by omega⟩, if_pos t1, a2, bn1_some, a3, bn1_some, gd_t ⟨by omega, by omega⟩, if_pos c3, a0, bn1_some, gd_t ⟨by omega, by omega⟩, gd_t ⟨by omega, by omega⟩, if_neg c2, a1, bn1_some, c1, gd_t (by decide), if_pos rfl, m_lettersAt hW ⟨by omega, by omega⟩, bn1_some, gd_t ⟨by omega, by omega⟩, if_neg cL]
      · refine stay (fun z => c1 z.2.2.1) (fun n k => ?_) (fun n k => ?_)
        · rw [b1, gd_t (by decide), if_pos rfl, bn1_some, gd_t (by decide), if_neg (by decide), gd_t ⟨by omega, by omega⟩, gd_t ⟨by omega, by omega⟩, if_neg c2, gd_t ⟨by omega, by omega⟩, if_neg c1]
        · rw [f_X8_walkBack_L2, gd_t ⟨by omega, by omega⟩, gd_t ⟨by omega, by omega⟩, if_pos t1, a2, bn1_some, a3, bn1_some, gd_t ⟨by omega, by omega⟩, if_pos c3, a0, bn1_some, gd_t ⟨by omega, by omega⟩, gd_t ⟨by omega, by omega⟩, if_neg c2, a1, bn1_some, gd_t ⟨by omega, by omega⟩, if_neg c1]
  · have cS : ¬ G 6 (10 * o + t) 3 = -1 := by omega
    refine stay (fun z => c3 z.1) (fun n k => ?_) (fun n k => ?_)
    · rw [b1, gd_t ⟨by omega, by omega⟩, if_neg cS, bn1_some, gd_t (by decide), if_pos rfl]
    · rw [f_X8_walkBack_L2, gd_t ⟨by omega, by omega⟩, gd_t ⟨by omega, by omega⟩, if_pos t1, a2, bn1_some, a3, bn1_some, gd_t ⟨by omega, by omega⟩, if_neg c3]

/-! A REST -/
theorem rest_keep {o m i e v inn : Int} {G G' H H' : GS} (hR : Rd G o (H 10 0)) (hW : Wf m (H 10 0)) (h0 : 0 ≤ i) (h1 : i < H 10 0 7) (hinn : inn = H 10 0 (54 + 11 * i + 2))
    (hG : ∀ k x f, ¬ (k = 1 ∧ x = 8 * o + inn ∧ f = 1) → ¬ (k = 6 ∧ x = 10 * o + i ∧ (f = 11 ∨ f = 1)) → ¬ (k = 3 ∧ x = o ∧ f = 12) → G' k x f = G k x f)
    (g1 : G' 1 (8 * o + inn) 1 = G 1 (8 * o + inn) 1 - e) (g2 : G' 6 (10 * o + i) 11 = G 6 (10 * o + i) 11 + e) (g3 : G' 3 o 12 = G 3 o 12 + e) (g4 : G' 6 (10 * o + i) 1 = v)
    (hA : ∀ f, f ≠ 30 + 3 * inn + 1 → f ≠ 54 + 11 * i + 9 → f ≠ 54 + 11 * i + 1 → f ≠ 6 → H' 10 0 f = H 10 0 f)
    (a1 : H' 10 0 (30 + 3 * inn + 1) = H 10 0 (30 + 3 * inn + 1) - e) (a2 : H' 10 0 (54 + 11 * i + 9) = H 10 0 (54 + 11 * i + 9) + e) (a3 : H' 10 0 6 = H 10 0 6 + e) (a4 : H' 10 0 (54 + 11 * i + 1) = v)
    (hv : 0 ≤ v ∧ v ≤ 100) (he : 0 ≤ e ∧ e ≤ H 10 0 (30 + 3 * inn + 1)) : Rd G' o (H' 10 0) ∧ Wf m (H' 10 0) := by
  have hWh := hW.1
  unfold WfH at hWh
  have hwT := hW.2.2.2.1 i h0 h1
  unfold WfT at hwT
  have e0 : H' 10 0 0 = H 10 0 0 := hA 0 (by omega) (by omega) (by omega) (by omega)
  have e1 : H' 10 0 1 = H 10 0 1 := hA 1 (by omega) (by omega) (by omega) (by omega)
  have e7 : H' 10 0 7 = H 10 0 7 := hA 7 (by omega) (by omega) (by omega) (by omega)
  have e8 : H' 10 0 8 = H 10 0 8 := hA 8 (by omega) (by omega) (by omega) (by omega)
  have a5 : ∀ j, 9 ≤ j → j < 30 → H' 10 0 j = H 10 0 j := fun j h2 h3 => hA j (by omega) (by omega) (by omega) (by omega)
  have aL : ∀ l f, 0 ≤ l → 0 ≤ f → H' 10 0 (164 + 8 * l + f) = H 10 0 (164 + 8 * l + f) := fun l f h2 h3 => hA _ (by omega) (by omega) (by omega) (by omega)
  have aT : ∀ t f, 0 ≤ t → 0 ≤ f → f < 11 → (t = i → f ≠ 1 ∧ f ≠ 9) → H' 10 0 (54 + 11 * t + f) = H 10 0 (54 + 11 * t + f) := fun t f h2 h3 h4 h5 => hA _ (by omega) (by omega) (by omega) (by omega)
  constructor
  · refine Rd_hour hR e0 e7 e8 (fun x f => hG _ _ _ (by omega) (by omega) (by omega)) a5 (fun x => hG _ _ _ (by omega) (by omega) (by omega)) ?_ (fun n h2 h3 => ?_) (fun t h2 h3 => ?_) (fun l h2 h3 => ?_) hWh.2.1
    · have r := hR.1
      unfold RdH at r ⊢
      rw [hG 3 o 4 (by omega) (by omega) (by omega), hG 3 o 5 (by omega) (by omega) (by omega), hG 3 o 6 (by omega) (by omega) (by omega), hG 3 o 7 (by omega) (by omega) (by omega), hG 3 o 8 (by omega) (by omega) (by omega), hG 3 o 9 (by omega) (by omega) (by omega), hG 3 o 10 (by omega) (by omega) (by omega), hG 3 o 11 (by omega) (by omega) (by omega), g3, a3, e0, e1, e7, e8, hA 2 (by omega) (by omega) (by omega) (by omega), hA 3 (by omega) (by omega) (by omega) (by omega), hA 4 (by omega) (by omega) (by omega) (by omega), hA 5 (by omega) (by omega) (by omega) (by omega)]
      omega
    · have r := hR.2.2.1 n h2 h3
      by_cases hn : n = inn
      · unfold RdN at r ⊢
        rw [hG _ _ 0 (by omega) (by omega) (by omega), hG _ _ 2 (by omega) (by omega) (by omega), hn, g1, a1, hA (30 + 3 * inn) (by omega) (by omega) (by omega) (by omega), hA (30 + 3 * inn + 2) (by omega) (by omega) (by omega) (by omega)]
        rw [hn] at r
        omega
      · exact RdN_c r (fun f => hG _ _ _ (by omega) (by omega) (by omega)) ⟨hA _ (by omega) (by omega) (by omega) (by omega), hA _ (by omega) (by omega) (by omega) (by omega), hA _ (by omega) (by omega) (by omega) (by omega)⟩
    · have r := hR.2.2.2.1 t h2 h3
      by_cases ht : t = i
      · subst ht
        unfold RdT at r ⊢
        rw [g2, g4, a2, a4]
        simp only [hG 6 (10 * o + t) 0 (by omega) (by omega) (by omega), hG 6 (10 * o + t) 2 (by omega) (by omega) (by omega), hG 6 (10 * o + t) 3 (by omega) (by omega) (by omega), hG 6 (10 * o + t) 4 (by omega) (by omega) (by omega), hG 6 (10 * o + t) 5 (by omega) (by omega) (by omega), hG 6 (10 * o + t) 6 (by omega) (by omega) (by omega), hG 6 (10 * o + t) 7 (by omega) (by omega) (by omega), hG 6 (10 * o + t) 8 (by omega) (by omega) (by omega), hG 6 (10 * o + t) 9 (by omega) (by omega) (by omega), hG 6 (10 * o + t) 10 (by omega) (by omega) (by omega), aT t 0 h2 (by omega) (by omega) (by omega), aT t 2 h2 (by omega) (by omega) (by omega), aT t 3 h2 (by omega) (by omega) (by omega), aT t 4 h2 (by omega) (by omega) (by omega), aT t 5 h2 (by omega) (by omega) (by omega), aT t 6 h2 (by omega) (by omega) (by omega), aT t 7 h2 (by omega) (by omega) (by omega), aT t 8 h2 (by omega) (by omega) (by omega), aT t 10 h2 (by omega) (by omega) (by omega)]
        refine ⟨r.1, trivial, r.2.2.1, r.2.2.2.1, r.2.2.2.2.1, r.2.2.2.2.2.1, r.2.2.2.2.2.2.1, r.2.2.2.2.2.2.2.1, r.2.2.2.2.2.2.2.2.1, by rw [r.2.2.2.2.2.2.2.2.2.1], r.2.2.2.2.2.2.2.2.2.2⟩
      · exact RdT_c r (fun f => hG _ _ _ (by omega) (by omega) (by omega)) (fun f h4 h5 => aT t f h2 h4 h5 (by omega))
    · exact RdL_c (hR.2.2.2.2.1 l h2 h3) (fun f => hG _ _ _ (by omega) (by omega) (by omega)) (fun f h4 h5 => aL l f h2 h4)
  · refine Wf_hour hW e0 e7 e8 e1 a5 (fun n h2 h3 => ?_) (fun t h2 h3 => ?_) (fun l h2 h3 => ?_) (fun l h2 h3 => ?_) (fun t h2 h3 => ?_) (fun l h2 h3 => aL l 3 h2 (by omega))
    · have r := hW.2.2.1 n h2 h3
      unfold WfN at r ⊢
      by_cases hn : n = inn
      · rw [hn, a1, hA (30 + 3 * inn) (by omega) (by omega) (by omega) (by omega), hA (30 + 3 * inn + 2) (by omega) (by omega) (by omega) (by omega)]
        rw [hn] at r
        omega
      · rw [hA (30 + 3 * n) (by omega) (by omega) (by omega) (by omega), hA (30 + 3 * n + 1) (by omega) (by omega) (by omega) (by omega), hA (30 + 3 * n + 2) (by omega) (by omega) (by omega) (by omega)]
        exact r
    · have r := hW.2.2.2.1 t h2 h3
      by_cases ht : t = i
      · subst ht
        unfold WfT at r ⊢
        simp only [a4, e0, e8, aT t 0 h2 (by omega) (by omega) (by omega), aT t 2 h2 (by omega) (by omega) (by omega), aT t 3 h2 (by omega) (by omega) (by omega), aT t 4 h2 (by omega) (by omega) (by omega), aT t 5 h2 (by omega) (by omega) (by omega), aT t 10 h2 (by omega) (by omega) (by omega)]
        exact ⟨r.1, hv, r.2.2⟩
      · exact WfT_c r e0 e8 (fun f h4 h5 => aT t f h2 h4 h5 (by omega))
    · exact WfL_c (hW.2.2.2.2.1 l h2 h3) e0 e7 e1 (fun f h4 h5 => aL l f h2 h4)
    · have r := hW.2.2.2.2.2.1 l h2 h3
      have w := hW.2.2.2.2.1 l h2 h3
      unfold WfL at w
      unfold WfX at r ⊢
      rw [aL l 5 h2 (by omega)]
      intro hx
      rw [aT _ 3 (by omega) (by omega) (by omega) (by omega), aT _ 4 (by omega) (by omega) (by omega) (by omega), aT _ 5 (by omega) (by omega) (by omega) (by omega)]
      exact r hx
    · have r := hW.2.2.2.2.2.2.1 t h2 h3
      have w := hW.2.2.2.1 t h2 h3
      unfold WfT at w
      unfold WfY at r ⊢
      rw [aT t 3 h2 (by omega) (by omega) (by omega), aT t 5 h2 (by omega) (by omega) (by omega), aT t 4 h2 (by omega) (by omega) (by omega), aT t 2 h2 (by omega) (by omega) (by omega)]
      intro hx hy
      rw [aL _ 5 (by omega) (by omega), aL _ 4 (by omega) (by omega), aL _ 6 (by omega) (by omega)]
      exact r hx hy
set_option maxHeartbeats 8000000 in
theorem h_rests {o m : Int} {G1 G2 : GS} (hR : Rd G1 o (G2 10 0)) (hW : Wf m (G2 10 0)) : ∃ G1' G2', f_X3_restTeams G1 o = some G1' ∧ f_X8_rests G2 = some G2' ∧ Rd G1' o (G2' 10 0) ∧ Wf m (G2' 10 0) ∧ frC o G1 G1' ∧ frM G2 G2' ∧ G2' 10 0 8 = G2 10 0 8 := by
  obtain ⟨N, hN⟩ : ∃ N : Nat, (N : Int) = G2 10 0 7 := ⟨(G2 10 0 7).toNat, by have := hW.1; unfold WfH at this; omega⟩
  have K := lock (fun n (s : GS × Int) k => f_X3_restTeams_L2 o n s.1 s.2 (fun a b => k (a, b))) (fun n (s : GS × Int) k => f_X8_rests_L2 n s.1 s.2 (fun a b => k (a, b)))
    (fun d s t => s.2 = t.2 ∧ t.2 + d = N ∧ 0 ≤ t.2 ∧ t.1 10 0 7 = N ∧ Rd s.1 o (t.1 10 0) ∧ Wf m (t.1 10 0) ∧ frC o G1 s.1 ∧ frM G2 t.1 ∧ t.1 10 0 8 = G2 10 0 8) (by
    rintro d ⟨H1, i⟩ ⟨H2, j⟩ ⟨rfl, h1, h0, hN7, hR, hW, f1, f2, f8⟩
    dsimp only at h1 h0 hN7 hR hW f1 f2 f8 ⊢
    have hRh := hR.1
    have hWh := hW.1
    unfold RdH at hRh
    unfold WfH at hWh
    obtain ⟨r4, r5, r6, r7, r8, r9, r10, r11, r12⟩ := hRh
    have hT := hR.2.2.2.1 i h0 (by omega)
    have hwT := hW.2.2.2.1 i h0 (by omega)
    unfold RdT at hT
    unfold WfT at hwT
    obtain ⟨t0, t1, t2, t5, t6, t7, t8, t9, t10, t11, t4, t3a, t3b⟩ := hT
    obtain ⟨inn, hinn⟩ : ∃ inn, inn = H2 10 0 (54 + 11 * i + 2) := ⟨_, rfl⟩
    have hNn := hR.2.2.1 inn (by omega) (by omega)
    have hwN := hW.2.2.1 inn (by omega) (by omega)
    unfold RdN at hNn
    unfold WfN at hwN
    obtain ⟨n0, n1, n2⟩ := hNn
    have c0 : i < H2 10 0 7 := by omega
    have a3 : f_X8_of H2 i 3 = some (H2 10 0 (54 + 11 * i + 3)) := m_of ⟨by omega, by omega⟩
    have a2 : f_X8_of H2 i 2 = some inn := by rw [hinn]; exact m_of ⟨by omega, by omega⟩
    have a1 : f_X8_of H2 i 1 = some (H2 10 0 (54 + 11 * i + 1)) := m_of ⟨by omega, by omega⟩
    rw [← hinn] at t2
    by_cases cL : H2 10 0 (54 + 11 * i + 3) = 0
    · have cS : H1 6 (10 * o + i) 3 = -1 := t3a cL
      have keep : ∀ (e v : Int) (G' H' : GS), (0 ≤ v ∧ v ≤ 100) → (0 ≤ e ∧ e ≤ H2 10 0 (30 + 3 * inn + 1)) →
          (∀ n k, f_X3_restTeams_L2 o (n + 1) H1 i k = f_X3_restTeams_L2 o n G' (i + 1) k) → (∀ n k, f_X8_rests_L2 (n + 1) H2 i k = f_X8_rests_L2 n H' (i + 1) k) →
          (∀ k x f, ¬ (k = 1 ∧ x = 8 * o + inn ∧ f = 1) → ¬ (k = 6 ∧ x = 10 * o + i ∧ (f = 11 ∨ f = 1)) → ¬ (k = 3 ∧ x = o ∧ f = 12) → G' k x f = H1 k x f) →
          G' 1 (8 * o + inn) 1 = H1 1 (8 * o + inn) 1 - e → G' 6 (10 * o + i) 11 = H1 6 (10 * o + i) 11 + e → G' 3 o 12 = H1 3 o 12 + e → G' 6 (10 * o + i) 1 = v →
          (∀ k x f, ¬ (k = 10 ∧ x = 0 ∧ (f = 30 + 3 * inn + 1 ∨ f = 54 + 11 * i + 9 ∨ f = 54 + 11 * i + 1 ∨ f = 6)) → H' k x f = H2 k x f) →
          H' 10 0 (30 + 3 * inn + 1) = H2 10 0 (30 + 3 * inn + 1) - e → H' 10 0 (54 + 11 * i + 9) = H2 10 0 (54 + 11 * i + 9) + e → H' 10 0 6 = H2 10 0 6 + e → H' 10 0 (54 + 11 * i + 1) = v →
          ∃ s' t' : GS × Int, (∀ n (k : GS × Int → Option GS), f_X3_restTeams_L2 o (n + 1) H1 i (fun a b => k (a, b)) = f_X3_restTeams_L2 o n s'.1 s'.2 (fun a b => k (a, b))) ∧ (∀ n (k : GS × Int → Option GS), f_X8_rests_L2 (n + 1) H2 i (fun a b => k (a, b)) = f_X8_rests_L2 n t'.1 t'.2 (fun a b => k (a, b))) ∧ s'.2 = t'.2 ∧ t'.2 + d = N ∧ 0 ≤ t'.2 ∧ t'.1 10 0 7 = N ∧ Rd s'.1 o (t'.1 10 0) ∧ Wf m (t'.1 10 0) ∧ frC o G1 s'.1 ∧ frM G2 t'.1 ∧ t'.1 10 0 8 = G2 10 0 8 := by
        intro e v G' H' hv he q1 q2 hG g1 g2 g3 g4 hA b1 b2 b3 b4
        obtain ⟨k1, k2⟩ := rest_keep hR hW h0 c0 hinn hG g1 g2 g3 g4 (fun f z1 z2 z3 z4 => hA 10 0 f (by omega)) b1 b2 b3 b4 hv he
        refine ⟨(G', i + 1), (H', i + 1), fun n k => q1 n _, fun n k => q2 n _, rfl, ?_, ?_, ?_, k1, k2, ?_, ?_, (hA 10 0 8 (by omega)).trans f8⟩
        · show i + 1 + (d : Int) = N
          omega
        · show 0 ≤ i + 1
          omega
        · show H' 10 0 7 = N
          rw [hA 10 0 7 (by omega)]
          exact hN7
        · exact frC_tr f1 (fun k x f hn => hG k x f (by unfold ofR at hn; omega) (by unfold ofR at hn; omega) (by unfold ofR at hn; omega))
        · exact frM_tr f2 (fun k x f hn hm => hA k x f (by omega))
      by_cases cT : 0 < H2 10 0 (54 + 11 * i + 1)
      · by_cases cF : 0 < H2 10 0 (30 + 3 * inn + 1)
        · by_cases cV : H2 10 0 (54 + 11 * i + 1) - 6 < 0
          · have cW : ¬ 0 < H2 10 0 (54 + 11 * i + 1) - 6 := by omega
            refine keep 1 0 ?Gc0 ?Gm0 (by omega) (by omega) ?e1_0 ?e2_0 ?p1_0 ?p2_0 ?p3_0 ?p4_0 ?p5_0 ?q1_0 ?q2_0 ?q3_0 ?q4_0 ?q5_0
            case e1_0 =>
              intro n k
              simp (disch := first | decide | omega) only [f_X3_restTeams_L2, f_X6_stands, f_X3_restTeam, f_X6_rest, bn1_some, nm_eq, gd_t, ga_t, r5, c0, cS, if_true, if_false, t1, t2, n1, gup_k, gup_o, gup_f, gup_s, if_neg (show ¬ (1 : Int) = 0 by decide), cT, cF, cV, cW]
              rfl
            case e2_0 =>
              intro n k
              simp (disch := first | decide | omega) only [f_X8_rests_L2, bn1_some, nm_eq, gd_t, ga_t, c0, a3, a2, a1, cL, if_true, if_false, m_teamAt, gup_k, gup_o, gup_f, gup_s, cT, cF, cV, cW]
              rfl
            case p1_0 =>
              intro k x f z1 z2 z3
              repeat rw [gup_n (by omega)]
            case q1_0 =>
              intro k x f z1
              repeat rw [gup_n (by omega)]
            all_goals (simp (disch := first | decide | omega) only [gup_k, gup_o, gup_f, gup_s, t1]; try omega)
          · by_cases cW : 0 < H2 10 0 (54 + 11 * i + 1) - 6
            · refine keep 1 (H2 10 0 (54 + 11 * i + 1) - 6) ?Gc1 ?Gm1 (by omega) (by omega) ?e1_1 ?e2_1 ?p1_1 ?p2_1 ?p3_1 ?p4_1 ?p5_1 ?q1_1 ?q2_1 ?q3_1 ?q4_1 ?q5_1
              case e1_1 =>
                intro n k
                simp (disch := first | decide | omega) only [f_X3_restTeams_L2, f_X6_stands, f_X3_restTeam, f_X6_rest, bn1_some, nm_eq, gd_t, ga_t, r5, c0, cS, if_true, if_false, t1, t2, n1, gup_k, gup_o, gup_f, gup_s, if_neg (show ¬ (1 : Int) = 0 by decide), cT, cF, cV, cW]
                rfl
              case e2_1 =>
                intro n k
                simp (disch := first | decide | omega) only [f_X8_rests_L2, bn1_some, nm_eq, gd_t, ga_t, c0, a3, a2, a1, cL, if_true, if_false, m_teamAt, gup_k, gup_o, gup_f, gup_s, cT, cF, cV, cW]
                rfl
              case p1_1 =>
                intro k x f z1 z2 z3
                repeat rw [gup_n (by omega)]
              case q1_1 =>
                intro k x f z1
                repeat rw [gup_n (by omega)]
              all_goals (simp (disch := first | decide | omega) only [gup_k, gup_o, gup_f, gup_s, t1]; try omega)
            · refine keep 1 (H2 10 0 (54 + 11 * i + 1) - 6) ?Gc2 ?Gm2 (by omega) (by omega) ?e1_2 ?e2_2 ?p1_2 ?p2_2 ?p3_2 ?p4_2 ?p5_2 ?q1_2 ?q2_2 ?q3_2 ?q4_2 ?q5_2
              case e1_2 =>
                intro n k
                simp (disch := first | decide | omega) only [f_X3_restTeams_L2, f_X6_stands, f_X3_restTeam, f_X6_rest, bn1_some, nm_eq, gd_t, ga_t, r5, c0, cS, if_true, if_false, t1, t2, n1, gup_k, gup_o, gup_f, gup_s, if_neg (show ¬ (1 : Int) = 0 by decide), cT, cF, cV, cW]
                rfl
              case e2_2 =>
                intro n k
                simp (disch := first | decide | omega) only [f_X8_rests_L2, bn1_some, nm_eq, gd_t, ga_t, c0, a3, a2, a1, cL, if_true, if_false, m_teamAt, gup_k, gup_o, gup_f, gup_s, cT, cF, cV, cW]
                rfl
              case p1_2 =>
                intro k x f z1 z2 z3
                repeat rw [gup_n (by omega)]
              case q1_2 =>
                intro k x f z1
                repeat rw [gup_n (by omega)]
              all_goals (simp (disch := first | decide | omega) only [gup_k, gup_o, gup_f, gup_s, t1]; try omega)
        · have cV : ¬ H2 10 0 (54 + 11 * i + 1) - 1 < 0 := by omega
          by_cases cW : 0 < H2 10 0 (54 + 11 * i + 1) - 1
          · refine keep 0 (H2 10 0 (54 + 11 * i + 1) - 1) ?Gc3 ?Gm3 (by omega) (by omega) ?e1_3 ?e2_3 ?p1_3 ?p2_3 ?p3_3 ?p4_3 ?p5_3 ?q1_3 ?q2_3 ?q3_3 ?q4_3 ?q5_3
            case e1_3 =>
              intro n k
              simp (disch := first | decide | omega) only [f_X3_restTeams_L2, f_X6_stands, f_X3_restTeam, f_X6_rest, bn1_some, nm_eq, gd_t, ga_t, r5, c0, cS, if_true, if_false, t1, t2, n1, gup_k, gup_o, gup_f, gup_s, if_neg (show ¬ (1 : Int) = 0 by decide), cT, cF, cV, cW]
              rfl
            case e2_3 =>
              intro n k
              simp (disch := first | decide | omega) only [f_X8_rests_L2, bn1_some, nm_eq, gd_t, ga_t, c0, a3, a2, a1, cL, if_true, if_false, m_teamAt, gup_k, gup_o, gup_f, gup_s, cT, cF, cV, cW]
              rfl
            case p1_3 =>
              intro k x f z1 z2 z3
              repeat rw [gup_n (by omega)]
            case q1_3 =>
              intro k x f z1
              repeat rw [gup_n (by omega)]
            all_goals (simp (disch := first | decide | omega) only [gup_k, gup_o, gup_f, gup_s, t1]; try omega)
          · refine keep 0 (H2 10 0 (54 + 11 * i + 1) - 1) ?Gc4 ?Gm4 (by omega) (by omega) ?e1_4 ?e2_4 ?p1_4 ?p2_4 ?p3_4 ?p4_4 ?p5_4 ?q1_4 ?q2_4 ?q3_4 ?q4_4 ?q5_4
            case e1_4 =>
              intro n k
              simp (disch := first | decide | omega) only [f_X3_restTeams_L2, f_X6_stands, f_X3_restTeam, f_X6_rest, bn1_some, nm_eq, gd_t, ga_t, r5, c0, cS, if_true, if_false, t1, t2, n1, gup_k, gup_o, gup_f, gup_s, if_neg (show ¬ (1 : Int) = 0 by decide), cT, cF, cV, cW]
              rfl
            case e2_4 =>
              intro n k
              simp (disch := first | decide | omega) only [f_X8_rests_L2, bn1_some, nm_eq, gd_t, ga_t, c0, a3, a2, a1, cL, if_true, if_false, m_teamAt, gup_k, gup_o, gup_f, gup_s, cT, cF, cV, cW]
              rfl
            case p1_4 =>
              intro k x f z1 z2 z3
              repeat rw [gup_n (by omega)]
            case q1_4 =>
              intro k x f z1
              repeat rw [gup_n (by omega)]
            all_goals (simp (disch := first | decide | omega) only [gup_k, gup_o, gup_f, gup_s, t1]; try omega)
      · have cV : H2 10 0 (54 + 11 * i + 1) - 1 < 0 := by omega
        have cW : ¬ 0 < H2 10 0 (54 + 11 * i + 1) - 1 := by omega
        refine keep 0 0 ?Gc5 ?Gm5 (by omega) (by omega) ?e1_5 ?e2_5 ?p1_5 ?p2_5 ?p3_5 ?p4_5 ?p5_5 ?q1_5 ?q2_5 ?q3_5 ?q4_5 ?q5_5
        case e1_5 =>
          intro n k
          simp (disch := first | decide | omega) only [f_X3_restTeams_L2, f_X6_stands, f_X3_restTeam, f_X6_rest, bn1_some, nm_eq, gd_t, ga_t, r5, c0, cS, if_true, if_false, t1, t2, n1, gup_k, gup_o, gup_f, gup_s, if_neg (show ¬ (1 : Int) = 0 by decide), cT, cV, cW]
          rfl
        case e2_5 =>
          intro n k
          simp (disch := first | decide | omega) only [f_X8_rests_L2, bn1_some, nm_eq, gd_t, ga_t, c0, a3, a2, a1, cL, if_true, if_false, m_teamAt, gup_k, gup_o, gup_f, gup_s, cT, cV, cW]
          rfl
        case p1_5 =>
          intro k x f z1 z2 z3
          repeat rw [gup_n (by omega)]
        case q1_5 =>
          intro k x f z1
          repeat rw [gup_n (by omega)]
        all_goals (simp (disch := first | decide | omega) only [gup_k, gup_o, gup_f, gup_s, t1]; try omega)
    · have cS : ¬ H1 6 (10 * o + i) 3 = -1 := by omega
      refine ⟨(H1, i + 1), (H2, i + 1), fun n k => ?_, fun n k => ?_, rfl, ?_, ?_, hN7, hR, hW, f1, f2, f8⟩
      · show f_X3_restTeams_L2 o (n + 1) H1 i _ = _
        simp (disch := first | decide | omega) only [f_X3_restTeams_L2, f_X6_stands, bn1_some, gd_t, ga_t, r5, c0, cS, if_true, if_false]
      · show f_X8_rests_L2 (n + 1) H2 i _ = _
        simp (disch := first | decide | omega) only [f_X8_rests_L2, bn1_some, gd_t, c0, a3, cL, if_true, if_false]
      · show i + 1 + (d : Int) = N
        omega
      · show 0 ≤ i + 1
        omega) (by
    rintro ⟨H1, i⟩ ⟨H2, j⟩ ⟨rfl, h1, h0, hN7, hR, hW, f1, f2, f8⟩
    dsimp only at h1 h0 hN7 hR hW f1 f2 f8 ⊢
    have hRh := hR.1
    have hWh := hW.1
    unfold RdH at hRh
    unfold WfH at hWh
    have c0 : ¬ i < H2 10 0 7 := by omega
    have r5 : H1 3 o 5 = H2 10 0 7 := hRh.2.1
    refine ⟨fun n k => ?_, fun n k => ?_⟩
    · simp (disch := first | decide | omega) only [f_X3_restTeams_L2, gd_t, r5, c0, if_false]
    · simp (disch := first | decide | omega) only [f_X8_rests_L2, gd_t, c0, if_false]) N (G1, 0) (G2, 0) ⟨rfl, by omega, by omega, hN.symm, hR, hW, frC_rf, frM_rf, rfl⟩
  obtain ⟨s', t', e1, e2, -, e3, -, hR', hW', hN7, f1, f2⟩ := K
  have hn : N < gFuel := by have := hW.1; unfold WfH at this; unfold gFuel; omega
  refine ⟨s'.1, t'.1, ?_, ?_, hW', hN7, f1, f2⟩
  · unfold f_X3_restTeams
    exact e1 gFuel (fun s => some s.1) hn
  · unfold f_X8_rests
    exact e2 gFuel (fun s => some s.1) hn

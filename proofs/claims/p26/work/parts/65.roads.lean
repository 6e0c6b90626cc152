set_option maxHeartbeats 4000000 in
theorem h_roads {o m : Int} (hm : m ≤ 20000) {G1 G2 : GS} (hR : Rd G1 o (G2 10 0)) (hW : Wf m (G2 10 0)) : ∃ G1' G2', f_X3_moveTeams G1 o = some G1' ∧ f_X8_roads G2 = some G2' ∧ Rd G1' o (G2' 10 0) ∧ Wf m (G2' 10 0) ∧ frC o G1 G1' ∧ frM G2 G2' ∧ G2' 10 0 8 = G2 10 0 8 := by
  obtain ⟨N, hN⟩ : ∃ N : Nat, (N : Int) = G2 10 0 7 := ⟨(G2 10 0 7).toNat, by have := hW.1; unfold WfH at this; omega⟩
  have K := lock (fun n (s : GS × Int) k => f_X3_moveTeams_L2 o n s.1 s.2 (fun a b => k (a, b))) (fun n (s : GS × Int) k => f_X8_roads_L2 n s.1 s.2 (fun a b => k (a, b)))
    (fun d s t => s.2 = t.2 ∧ t.2 + d = N ∧ 0 ≤ t.2 ∧ t.1 10 0 7 = N ∧ Rd s.1 o (t.1 10 0) ∧ Wf m (t.1 10 0) ∧ frC o G1 s.1 ∧ frM G2 t.1 ∧ t.1 10 0 8 = G2 10 0 8) (by
    rintro d ⟨H1, i⟩ ⟨H2, j⟩ ⟨rfl, h1, h0, hN7, hR, hW, f1, f2, f8⟩
    dsimp only at h1 h0 hN7 hR hW f1 f2 f8 ⊢
    have hWh := hW.1
    unfold WfH at hWh
    have r5 : H1 3 o 5 = H2 10 0 7 := hR.1.2.1
    have r7 : H1 3 o 7 = H2 10 0 1 := hR.1.2.2.2.1
    have c0 : i < H2 10 0 7 := by omega
    have hT := hR.2.2.2.1 i h0 c0
    have hwT := hW.2.2.2.1 i h0 c0
    unfold RdT at hT
    unfold WfT at hwT
    obtain ⟨t0, t1, t2, t5, t6, t7, t8, t9, t10, t11, t4, t3a, t3b⟩ := hT
    obtain ⟨w0, w1, w2, w3, w4, w5⟩ := hwT
    have a3 : f_X8_of H2 i 3 = some (H2 10 0 (54 + 11 * i + 3)) := m_of ⟨by omega, by omega⟩
    have fin : ∀ (G' H' : GS), (∀ n k, f_X3_moveTeams_L2 o (n + 1) H1 i k = f_X3_moveTeams_L2 o n G' (i + 1) k) → (∀ n k, f_X8_roads_L2 (n + 1) H2 i k = f_X8_roads_L2 n H' (i + 1) k) → Rd G' o (H' 10 0) ∧ Wf m (H' 10 0) → frC o H1 G' → frM H2 H' → (H' 10 0 7 = H2 10 0 7 ∧ H' 10 0 8 = H2 10 0 8) →
        ∃ s' t' : GS × Int, (∀ n (k : GS × Int → Option GS), f_X3_moveTeams_L2 o (n + 1) H1 i (fun a b => k (a, b)) = f_X3_moveTeams_L2 o n s'.1 s'.2 (fun a b => k (a, b))) ∧ (∀ n (k : GS × Int → Option GS), f_X8_roads_L2 (n + 1) H2 i (fun a b => k (a, b)) = f_X8_roads_L2 n t'.1 t'.2 (fun a b => k (a, b))) ∧ s'.2 = t'.2 ∧ t'.2 + d = N ∧ 0 ≤ t'.2 ∧ t'.1 10 0 7 = N ∧ Rd s'.1 o (t'.1 10 0) ∧ Wf m (t'.1 10 0) ∧ frC o G1 s'.1 ∧ frM G2 t'.1 ∧ t'.1 10 0 8 = G2 10 0 8 := by
      intro G' H' q1 q2 k1 k2 k3 k4
      exact ⟨(G', i + 1), (H', i + 1), fun n k => q1 n _, fun n k => q2 n _, rfl, by show i + 1 + (d : Int) = N; omega, by show 0 ≤ i + 1; omega, by show H' 10 0 7 = N; omega, k1.1, k1.2, frC_tr f1 k2, frM_tr f2 k3, k4.2.trans f8⟩
    have ex : ofR o 6 (10 * o + i) := by unfold ofR; omega
    by_cases cL : H2 10 0 (54 + 11 * i + 3) = 0
    · have cS : H1 6 (10 * o + i) 3 = -1 := t3a cL
      refine fin H1 H2 (fun n k => ?_) (fun n k => ?_) ⟨hR, hW⟩ frC_rf frM_rf ⟨rfl, rfl⟩
      · rw [f_X3_moveTeams_L2]
        unfold f_X6_stands
        rw [gd_t ⟨by omega, by omega⟩, gd_t ⟨by omega, by omega⟩, if_pos (by omega), ga_t ⟨by omega, by omega⟩, cS, gd_t (by decide), if_pos rfl, bn1_some, gd_t (by decide), if_neg (by decide)]
      · rw [f_X8_roads_L2, gd_t ⟨by omega, by omega⟩, gd_t ⟨by omega, by omega⟩, if_pos c0, a3, bn1_some, cL, gd_t (by decide), if_neg (by decide)]
    · have cL0 : 0 < H2 10 0 (54 + 11 * i + 3) := by omega
      have w5 := w5 cL0
      have t3 := t3b cL0
      have cS : 0 ≤ H1 6 (10 * o + i) 3 ∧ H1 6 (10 * o + i) 3 < 7 := by omega
      obtain ⟨Ga, ha, fa, va⟩ := gup_ex H1 6 (10 * o + i) 5 (H1 6 (10 * o + i) 5 - 1)
      obtain ⟨Ha, hb, fb, vb⟩ := gup_ex H2 10 0 (54 + 11 * i + 3) (H2 10 0 (54 + 11 * i + 3) - 1)
      have e1 : ∀ n k, f_X3_moveTeams_L2 o (n + 1) H1 i k = gd (Ga 6 (10 * o + i) 5) (if Ga 6 (10 * o + i) 5 = 0 then bn1 (f_X3_arrive Ga o (10 * o + i)) (fun G12 => f_X3_moveTeams_L2 o n G12 (i + 1) k) else f_X3_moveTeams_L2 o n Ga (i + 1) k) := fun n k => by
        rw [f_X3_moveTeams_L2]
        unfold f_X6_stands
        rw [ha, gd_t ⟨by omega, by omega⟩, gd_t ⟨by omega, by omega⟩, if_pos (by omega), ga_t ⟨by omega, by omega⟩, gd_t ⟨by omega, by omega⟩, if_neg (by omega), bn1_some, gd_t (by decide), if_pos rfl]
      have e2 : ∀ n k, f_X8_roads_L2 (n + 1) H2 i k = gd (Ha 10 0 (54 + 11 * i + 3)) (if Ha 10 0 (54 + 11 * i + 3) = 0 then bn1 (f_X8_arrives Ha i) (fun G15 => f_X8_roads_L2 n G15 (i + 1) k) else f_X8_roads_L2 n Ha (i + 1) k) := fun n k => by
        rw [f_X8_roads_L2, gd_t ⟨by omega, by omega⟩, gd_t ⟨by omega, by omega⟩, if_pos c0, a3, bn1_some, gd_t ⟨by omega, by omega⟩, if_pos cL0, m_teamAt, bn1_some, ga_t ⟨by omega, by omega⟩, hb, m_of ⟨by omega, by omega⟩, bn1_some]
      have hv : Ga 6 (10 * o + i) 5 = Ha 10 0 (54 + 11 * i + 3) := by rw [va, vb, t5]
      have frGa : frC o H1 Ga := fun k x f z => fa k x f (fun q => z (by rw [q.1, q.2.1]; exact ex))
      have frHa : frM H2 Ha := fun k x f z z2 => fb k x f (by omega)
      by_cases cZ : H2 10 0 (54 + 11 * i + 3) = 1
      · have z1 : Ha 10 0 (54 + 11 * i + 3) = 0 := by rw [vb, cZ]; rfl
        have z2 : Ga 6 (10 * o + i) 5 = 0 := by rw [hv, z1]
        rcases w5.2.2 with ⟨k5, k4⟩ | ⟨k5, k4⟩
        · -- it brings a letter
          obtain ⟨l, hl⟩ : ∃ l, l = H2 10 0 (54 + 11 * i + 4) := ⟨_, rfl⟩
          have wl : 0 ≤ l ∧ l < H2 10 0 8 := by omega
          have rL := hR.2.2.2.2.1 l wl.1 wl.2
          have wL := hW.2.2.2.2.1 l wl.1 wl.2
          unfold RdL at rL
          unfold WfL at wL
          have wY := hW.2.2.2.2.2.2.1 i h0 c0
          unfold WfY at wY
          have wY := wY cL0 k5
          rw [← hl] at wY
          obtain ⟨s, u, hs, hu⟩ : ∃ s u : Int, (0 ≤ s ∧ s < H2 10 0 0 - 1) ∧ ((H2 10 0 (54 + 11 * i + 10) < H2 10 0 (54 + 11 * i + 2) ∧ s = H2 10 0 (54 + 11 * i + 10) ∧ u = 1) ∨ (¬ H2 10 0 (54 + 11 * i + 10) < H2 10 0 (54 + 11 * i + 2) ∧ s = H2 10 0 (54 + 11 * i + 2) ∧ u = 0)) := by
            by_cases q : H2 10 0 (54 + 11 * i + 10) < H2 10 0 (54 + 11 * i + 2)
            · exact ⟨H2 10 0 (54 + 11 * i + 10), 1, by omega, Or.inl ⟨q, rfl, rfl⟩⟩
            · exact ⟨H2 10 0 (54 + 11 * i + 2), 0, by omega, Or.inr ⟨q, rfl, rfl⟩⟩
          have hsu : H1 6 (10 * o + i) 3 = s ∧ H1 6 (10 * o + i) 4 = u := by omega
          have rS := hR.2.1 s hs.1 hs.2
          have wS := hW.2.1 s hs.1 hs.2
          have rr := ef_le (u := u) wS
          have ceff : f_X5_effort Ga (7 * o + s) u = some (ef (H2 10 0) s u) := by
            refine c_eff (A := H2 10 0) ?_ wS (by omega)
            unfold RdS at rS ⊢
            rw [fa 5 _ 0 (by omega), fa 5 _ 1 (by omega), fa 5 _ 2 (by omega)]
            exact rS
          have hef : ef (Ha 10 0) s u = ef (H2 10 0) s u := by
            unfold ef efX
            rw [fb 10 0 (9 + 3 * s) (by omega), fb 10 0 (9 + 3 * s + 1) (by omega)]
          have meff : f_X8_effort Ha (H2 10 0 (54 + 11 * i + 10)) (H2 10 0 (54 + 11 * i + 2)) = some (ef (H2 10 0) s u) := by
            rw [← hef]
            refine m_eff (by omega) (by omega) ⟨by omega, by omega⟩ ⟨by omega, by omega⟩ ?_
            unfold WfS at wS ⊢
            rw [fb 10 0 (9 + 3 * s) (by omega), fb 10 0 (9 + 3 * s + 1) (by omega), fb 10 0 (9 + 3 * s + 2) (by omega)]
            exact wS
          obtain ⟨r, hr⟩ : ∃ r, r = ef (H2 10 0) s u := ⟨_, rfl⟩
          rw [← hr] at ceff meff rr
          obtain ⟨v1, hv1⟩ : ∃ v1, v1 = if H2 10 0 (54 + 11 * i + 1) + r < 100 then H2 10 0 (54 + 11 * i + 1) + r else 100 := ⟨_, rfl⟩
          have hv1r : 0 ≤ v1 ∧ v1 ≤ 100 := by rw [hv1]; split <;> omega
          obtain ⟨v6, k8, k9, k10, k11, hvv⟩ : ∃ v6 k8 k9 k10 k11 : Int, (H2 10 0 (164 + 8 * l + 4) = H2 10 0 (164 + 8 * l + 1) ∧ v6 = H2 10 0 1 + 1 ∧ k8 = 1 ∧ k9 = H2 10 0 1 + 1 - H2 10 0 (164 + 8 * l + 3) ∧ ((H2 10 0 (164 + 8 * l + 2) = 0 ∧ k10 = 0 ∧ k11 = 0) ∨ (H2 10 0 (164 + 8 * l + 2) = 1 ∧ k10 = 1 ∧ k11 = k9))) ∨ (¬ H2 10 0 (164 + 8 * l + 4) = H2 10 0 (164 + 8 * l + 1) ∧ v6 = H2 10 0 (164 + 8 * l + 6) ∧ k8 = 0 ∧ k9 = 0 ∧ k10 = 0 ∧ k11 = 0) := by
            by_cases q : H2 10 0 (164 + 8 * l + 4) = H2 10 0 (164 + 8 * l + 1)
            · rcases wL.2.1 with q2 | q2
              · exact ⟨_, _, _, 0, 0, Or.inl ⟨q, rfl, rfl, rfl, Or.inl ⟨q2, rfl, rfl⟩⟩⟩
              · exact ⟨_, _, _, _, _, Or.inl ⟨q, rfl, rfl, rfl, Or.inr ⟨q2, rfl, rfl⟩⟩⟩
            · exact ⟨_, _, _, _, _, Or.inr ⟨q, rfl, rfl, rfl, rfl, rfl⟩⟩
          have bL : ∀ f, Ga 2 (12 * o + l) f = H1 2 (12 * o + l) f := fun f => fa _ _ _ (by omega)
          have bM : ∀ f, 0 ≤ f → f < 8 → Ha 10 0 (164 + 8 * l + f) = H2 10 0 (164 + 8 * l + f) := fun f y1 y2 => fb _ _ _ (by omega)
          obtain ⟨Gb, eb, fGb, g1, g2, g3, g5, g6, g7, g8, g9, l5, l6, n8, n9, n10, n11⟩ := c_arrive_run (G := Ga) (o := o) (p := 10 * o + i) (l := l) (s := s) (u := u) (r := r) (by rw [fa _ _ _ (by omega)]; exact hsu.1) ⟨by omega, by omega⟩ (by rw [fa _ _ _ (by omega)]; exact hsu.2) (by rw [fa _ _ _ (by omega), t7]; exact k5) (by rw [fa _ _ _ (by omega), t6]; exact hl.symm) ⟨by omega, by omega⟩ ceff ⟨by omega, by omega⟩ (by rw [fa _ _ _ (by omega), t1]; exact w1) (by rw [bL, rL.2.2.2.2.1]; exact ⟨by omega, by omega⟩) (by rw [bL, rL.2.1]; exact ⟨by omega, by omega⟩) (by rw [bL, rL.2.2.1]; exact wL.2.1) v1 v6 k8 k9 k10 k11 (by rw [fa _ _ _ (by omega), t1]; exact hv1)
            (by rw [bL, bL, bL, bL, bL, rL.2.1, rL.2.2.1, rL.2.2.2.1, rL.2.2.2.2.1, rL.2.2.2.2.2.2.1, fa 3 o 7 (by omega), r7]; exact hvv)
          obtain ⟨Hb, ebm, fHb, b1, b4, b6, b7, m5, m6, q2, q3, q4, q5⟩ := m_arrive_run (H := Ha) (t := i) (l := l) (r := r) (b := H2 10 0 (54 + 11 * i + 10)) (inn := H2 10 0 (54 + 11 * i + 2)) ⟨by omega, by omega⟩ (fb _ _ _ (by omega)) (fb _ _ _ (by omega)) (by rw [fb _ _ _ (by omega)]; exact k5) (by rw [fb _ _ _ (by omega)]; exact hl.symm) ⟨by omega, by omega⟩ meff ⟨by omega, by omega⟩ (by rw [fb _ _ _ (by omega)]; exact w1) ⟨by omega, by omega⟩ (by rw [bM 1 (by decide) (by decide)]; exact ⟨by omega, by omega⟩) (by rw [bM 2 (by decide) (by decide)]; exact wL.2.1) v1 v6 k8 k9 k10 k11 (by rw [fb _ _ _ (by omega)]; exact hv1)
            (by rw [bM 1 (by decide) (by decide), bM 2 (by decide) (by decide), bM 3 (by decide) (by decide), bM 6 (by decide) (by decide), fb 10 0 1 (by omega), ← wY.2.1]; exact hvv)
          refine fin Gb Hb (fun n k => ?_) (fun n k => ?_) ?_ (frC_tr frGa (fun k x f z => ?_)) (frM_tr frHa (fun k x f z z2 => ?_)) ?_
          · rw [e1, z2, gd_t (by decide), if_pos rfl, eb, bn1_some]
          · rw [e2, z1, gd_t (by decide), if_pos rfl, ebm, bn1_some]
          · refine keep_run hR hW h0 c0 cL0 k5 hl.symm (v1 := v1) (v6 := v6) (r := r) (k8 := k8) (k9 := k9) (k10 := k10) (k11 := k11) (fun k x f y1 y2 y3 => ?_) g1 ?_ g3 g5 g6 g7 ?_ ?_ l5 l6 ?_ ?_ ?_ ?_ (fun f y1 y2 y3 y4 y5 y6 y7 y8 => ?_) b1 ?_ b4 ?_ ?_ m5 m6 ?_ ?_ ?_ ?_ hv1r ?_
            · rw [fGb _ _ _ (by omega) (by omega) (by omega), fa _ _ _ (by omega)]
            · rw [g2, fa _ _ _ (by omega)]
            · rw [g8, fa _ _ _ (by omega)]
            · rw [g9, fa _ _ _ (by omega)]
            · rw [n8, fa _ _ _ (by omega)]
            · rw [n9, fa _ _ _ (by omega)]
            · rw [n10, fa _ _ _ (by omega)]
            · rw [n11, fa _ _ _ (by omega)]
            · rw [fHb _ _ _ (by omega), fb _ _ _ (by omega)]
            · rw [fHb _ _ _ (by omega), z1]
            · rw [b6, fb _ _ _ (by omega)]
            · rw [b7, fb _ _ _ (by omega)]
            · rw [q2, fb _ _ _ (by omega)]
            · rw [q3, fb _ _ _ (by omega)]
            · rw [q4, fb _ _ _ (by omega)]
            · rw [q5, fb _ _ _ (by omega)]
            · omega
          · unfold ofR at z
            exact fGb _ _ _ (by omega) (by omega) (by omega)
          · exact fHb _ _ _ (by omega)
          · exact ⟨by rw [fHb _ _ _ (by omega), fb _ _ _ (by omega)], by rw [fHb _ _ _ (by omega), fb _ _ _ (by omega)]⟩
        · -- it walks
          obtain ⟨Gb, eb, fGb, g2, g3, g5, g6, g7, g10⟩ := c_arrive_walk (G := Ga) (o := o) (p := 10 * o + i) (by rw [fa _ _ _ (by omega), t7]; exact k5) (by rw [fa _ _ _ (by omega), t6]; exact k4)
          obtain ⟨Hb, ebm, fHb, b5, b8⟩ := m_arrive_walk (H := Ha) (t := i) ⟨by omega, by omega⟩ (by rw [fb _ _ _ (by omega)]; exact k5)
          refine fin Gb Hb (fun n k => ?_) (fun n k => ?_) ?_ (frC_tr frGa (fun k x f z => ?_)) (frM_tr frHa (fun k x f z z2 => ?_)) ?_
          · rw [e1, z2, gd_t (by decide), if_pos rfl, eb, bn1_some]
          · rw [e2, z1, gd_t (by decide), if_pos rfl, ebm, bn1_some]
          · refine keep_walk hR hW h0 c0 cL0 k5 (fun k x f y1 => ?_) ?_ g3 g5 g6 g7 ?_ (fun f y1 y2 y3 => ?_) ?_ b5 ?_
            · rw [fGb _ _ _ (by omega), fa _ _ _ (by omega)]
            · rw [g2, fa _ _ _ (by omega)]
            · rw [g10, fa _ _ _ (by omega)]
            · rw [fHb _ _ _ (by omega), fb _ _ _ (by omega)]
            · rw [fHb _ _ _ (by omega), z1]
            · rw [b8, fb _ _ _ (by omega)]
          · unfold ofR at z
            exact fGb _ _ _ (by omega)
          · exact fHb _ _ _ (by omega)
          · exact ⟨by rw [fHb _ _ _ (by omega), fb _ _ _ (by omega)], by rw [fHb _ _ _ (by omega), fb _ _ _ (by omega)]⟩
      · have z1 : ¬ Ha 10 0 (54 + 11 * i + 3) = 0 := by omega
        refine fin Ga Ha (fun n k => ?_) (fun n k => ?_) ?_ frGa frHa ⟨fb _ _ _ (by omega), fb _ _ _ (by omega)⟩
        · rw [e1, hv, gd_t ⟨by omega, by omega⟩, if_neg z1]
        · rw [e2, gd_t ⟨by omega, by omega⟩, if_neg z1]
        · exact keep_dec hR hW h0 c0 (by omega) (fun k x f z => fa k x f z) va (fun f z => fb _ _ _ (by omega)) vb) (by
    rintro ⟨H1, i⟩ ⟨H2, j⟩ ⟨rfl, h1, h0, hN7, hR, hW, f1, f2, f8⟩
    dsimp only at h1 h0 hN7 hR hW f1 f2 f8 ⊢
    have hWh := hW.1
    unfold WfH at hWh
    have r5 : H1 3 o 5 = H2 10 0 7 := hR.1.2.1
    refine ⟨fun n k => ?_, fun n k => ?_⟩
    · rw [f_X3_moveTeams_L2, gd_t ⟨by omega, by omega⟩, gd_t ⟨by omega, by omega⟩, if_neg (by omega)]
    · rw [f_X8_roads_L2, gd_t ⟨by omega, by omega⟩, gd_t ⟨by omega, by omega⟩, if_neg (by omega)]) N (G1, 0) (G2, 0) ⟨rfl, by omega, by omega, hN.symm, hR, hW, frC_rf, frM_rf, rfl⟩
  obtain ⟨s', t', e1, e2, -, e3, -, hR', hW', hN7, f1, f2⟩ := K
  have hn : N < gFuel := by have := hW.1; unfold WfH at this; unfold gFuel; omega
  refine ⟨s'.1, t'.1, ?_, ?_, hW', hN7, f1, f2⟩
  · unfold f_X3_moveTeams
    exact e1 gFuel (fun s => some s.1) hn
  · unfold f_X8_roads
    exact e2 gFuel (fun s => some s.1) hn

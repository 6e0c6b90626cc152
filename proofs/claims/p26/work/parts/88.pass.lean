/-! HOURS PASS, UNDO, THE TEXT'S BYTES -/
theorem Wf_m {m m' : Int} {A : Int → Int} (h : Wf m A) (h1 : A 1 ≤ m') : Wf m' A := by
  obtain ⟨w1, w⟩ := h
  refine ⟨?_, w⟩
  unfold WfH at w1 ⊢
  omega
theorem hours_both {p1 : Int} : ∀ (d : Nat) (i m : Int) (G H : GS), m + d ≤ 20000 → i + d = p1 → 0 ≤ i → p1 ≤ 200 → Rd G 0 (H 10 0) → Wf m (H 10 0) → ∃ G' H', (∀ n x k, d < n → f_X7_pass_L54 p1 n G x i k = k G' x p1) ∧ (∀ n x k, d < n → f_X8_pass_L51 p1 n H x i k = k H' x p1) ∧ Rd G' 0 (H' 10 0) ∧ Wf (m + d) (H' 10 0) ∧ frC 0 G G' ∧ frM H H' := by
  intro d
  induction d with
  | zero =>
    intro i m G H hm hi h0 hp hR hW
    have e : i = p1 := by omega
    subst e
    refine ⟨G, H, fun n x k hn => ?_, fun n x k hn => ?_, hR, Wf_m hW (by have := hW.1; unfold WfH at this; omega), frC_rf, frM_rf⟩
    · obtain ⟨n, rfl⟩ : ∃ q, n = q + 1 := ⟨n - 1, by omega⟩
      rw [f_X7_pass_L54, gd_t ⟨by omega, by omega⟩, gd_t ⟨by omega, by omega⟩, if_neg (by omega)]
    · obtain ⟨n, rfl⟩ : ∃ q, n = q + 1 := ⟨n - 1, by omega⟩
      rw [f_X8_pass_L51, gd_t ⟨by omega, by omega⟩, gd_t ⟨by omega, by omega⟩, if_neg (by omega)]
  | succ d ih =>
    intro i m G H hm hi h0 hp hR hW
    obtain ⟨G1, H1, Hx, Hy, a1, a2, a3, a4, a5, a6, -⟩ := h_hour (by omega) hR hW
    obtain ⟨G', H', b1, b2, b3, b4, b5, b6⟩ := ih (i + 1) (m + 1) G1 H1 (by omega) (by omega) (by omega) hp a3 a4
    refine ⟨G', H', fun n x k hn => ?_, fun n x k hn => ?_, b3, Wf_m b4 (by have := b4.1; unfold WfH at this; omega), frC_tr a5 b5, frM_tr a6 b6⟩
    · obtain ⟨n, rfl⟩ : ∃ q, n = q + 1 := ⟨n - 1, by omega⟩
      rw [f_X7_pass_L54, gd_t ⟨by omega, by omega⟩, gd_t ⟨by omega, by omega⟩, if_pos (by omega), a1, bn1_some, b1 n x k (by omega)]
    · obtain ⟨n, rfl⟩ : ∃ q, n = q + 1 := ⟨n - 1, by omega⟩
      rw [f_X8_pass_L51, gd_t ⟨by omega, by omega⟩, gd_t ⟨by omega, by omega⟩, if_pos (by omega), a2, bn1_some, b2 n x k (by omega)]
theorem op_pass {G : GS} {p1 : Int} (hI : Inv G) (h1 : inR p1) : ∃ G2, lwT (f_L_pass G p1) (fun G1 => f_X8_pass G1 p1) = some G2 ∧ Inv G2 := by
  obtain ⟨A, S, c, len, T, i1, i2, i3⟩ := id hI
  have hWh := i3.1.1
  unfold WfH at hWh
  have r7 : G 3 0 7 = A 1 := i1.1.1.2.2.2.1
  have g1 : G 10 0 1 = A 1 := i2.1 1 (by decide) (by decide)
  by_cases c1 : 1 ≤ p1 ∧ p1 ≤ 200
  · by_cases c2 : 10000 < A 1 + p1
    · refine fin_throw (k := 2) hI ?_ ?_ (by decide)
      · unfold f_L_pass f_X7_pass
        rw [c_rng h1 (by decide) (by decide), bn1_some, if_pos c1, if_pos rfl, r7, gd_t ⟨by omega, by omega⟩, if_pos c2, lwB_some, if_neg (by decide), if_neg (by decide), if_pos rfl]
      · unfold f_X8_pass
        rw [m_inB h1 (by decide) (by decide), bn1_some, if_pos c1, gd_t (by decide), if_neg (by decide), g1, gd_t ⟨by omega, by omega⟩, if_pos c2, m_throw]
    · obtain ⟨G7, a1, a2, a3⟩ := c_save i1 i3
      have hp := IP_save i3
      have hg : gFuel = 3000 := rfl
      obtain ⟨G9, Hx, b1, -, -, -, b5, -⟩ := hours_both (p1 := p1) p1.toNat 0 (A 1) G7 G (by omega) (by omega) (by omega) c1.2 (Rd_fr a2.1 i3.1.1 i2.1 (fun _ _ _ _ => rfl)) (Wf_ext (Wf_m i3.1 (Int.le_refl _)) i2.1)
      obtain ⟨r, hr⟩ : ∃ r, r = G9 3 0 8 - G7 3 0 8 := ⟨_, rfl⟩
      obtain ⟨Ga, ea, fa, va⟩ := gup_ex G9 13 0 0 (bm r)
      have iM : IM Ga A S c len T := IM_fr i2 (fun k x f z => by rw [fa _ _ _ (by omega), b5 _ _ _ (by unfold ofR; omega), frS_K a3 (by omega)])
      obtain ⟨H7, d1, d2, d3⟩ := m_save iM i3
      obtain ⟨G8, H9, e1, e2, e3, e4, -, e6⟩ := hours_both (p1 := p1) p1.toNat 0 (A 1) G7 H7 (by omega) (by omega) (by omega) c1.2 (Rd_fr a2.1 i3.1.1 d2.1 (fun _ _ _ _ => rfl)) (Wf_ext (Wf_m i3.1 (Int.le_refl _)) d2.1)
      have eG : G8 = G9 := by
        have q1 := b1 gFuel 0 (fun G _ _ => some (G, (0, 0))) (by omega)
        have q2 := e1 gFuel 0 (fun G _ _ => some (G, (0, 0))) (by omega)
        exact (some_pair (q2.symm.trans q1)).1
      subst eG
      have h78 : G7 3 0 8 = A 2 := a2.1.1.2.2.2.2.1
      have h98 : G8 3 0 8 = H9 10 0 2 := e3.1.2.2.2.2.1
      have m78 : H7 10 0 2 = A 2 := d2.1 2 (by decide) (by decide)
      have hW' : Wf 10000 (H9 10 0) := Wf_m e4 (by have := e4.1; unfold WfH at this; omega)
      have ic : IC G8 (H9 10 0) (psh A S c) (pc c) len T := IC_A a2 hp e3 (fun k x f z _ _ _ _ => b5 k x f z)
      refine ⟨gup H9 8 0 4 0, turnT (k := 0) (b := r) (G1 := Ga) ?_ ?_ gup_s (by decide) (fun _ => ?_), H9 10 0, psh A S c, pc c, len, T, IC_fr ic ⟨hW', hp.2⟩ (fun k x f z1 z2 z3 z4 z5 z6 => ?_), IM_A d2 (fun f z1 z2 => gup_k (by decide)) (fun k x f z => ?_), ⟨hW', hp.2⟩⟩
      · unfold f_L_pass f_X7_pass
        rw [c_rng h1 (by decide) (by decide), bn1_some, if_pos c1, if_pos rfl, r7, gd_t ⟨by omega, by omega⟩, if_neg c2, a1, bn1_some, b1 gFuel _ _ (by omega), lwB_some, if_pos rfl, ← hr, ea]
      · have ga1 : Ga 10 0 1 = A 1 := iM.1 1 (by decide) (by decide)
        unfold f_X8_pass
        rw [m_inB h1 (by decide) (by decide), bn1_some, if_pos c1, gd_t (by decide), if_neg (by decide), ga1, gd_t ⟨by omega, by omega⟩, if_neg c2, d1, bn1_some, e2 gFuel _ _ (by omega), m78, ← h98, ← h78, ← hr, m_fine]
      · rw [gup_k (by decide), e6 _ _ _ (by omega) (by omega), d3 _ _ _ (by omega) (by omega)]
        exact va
      · rw [gup_n (by omega), e6 _ _ _ (by omega) (by omega), d3 _ _ _ (by omega) (by omega), fa _ _ _ (by omega)]
      · rw [gup_n (by omega), e6 _ _ _ (by omega) (by omega)]
  · refine fin_throw (k := 1) hI ?_ ?_ (by decide)
    · unfold f_L_pass f_X7_pass
      rw [c_rng h1 (by decide) (by decide), bn1_some, if_neg c1, if_neg (by decide), lwB_some, if_neg (by decide), if_pos rfl]
    · unfold f_X8_pass
      rw [m_inB h1 (by decide) (by decide), bn1_some, if_neg c1, gd_t (by decide), if_pos rfl, m_throw]
theorem op_undo {G : GS} (hI : Inv G) : ∃ G2, lwT (f_L_undo G) (fun G1 => f_X8_undo G1) = some G2 ∧ Inv G2 := by
  obtain ⟨A, S, c, len, T, i1, i2, i3⟩ := id hI
  have hc := i3.2.2.1
  have r1 : G 0 0 1 = c := i1.2.1
  have m3 : G 8 0 3 = c := i2.2.2.1
  by_cases c0 : c = 0
  · refine fin_throw (k := 1) hI ?_ ?_ (by decide)
    · unfold f_L_undo f_X7_undo
      rw [gd_t ⟨by omega, by omega⟩, if_pos (by omega), lwB_some, if_neg (by decide), if_pos rfl]
    · unfold f_X8_undo
      rw [gd_t ⟨by omega, by omega⟩, if_pos (by omega), m_throw]
  · obtain ⟨G7, a1, a2, a3⟩ := c_restore i1 i3 (by omega)
    refine fin_ok (G1 := G7) (A := A) (S := S) (c := c) (r := c - 1) ?_ a2 (IM_fr i2 (fun k x f z => a3 _ _ _ (by omega) (by unfold ofR; omega))) ⟨i3.2.1 (c - 1) (by omega) (by omega), fun i z1 z2 => i3.2.1 i z1 (by omega), ⟨by omega, by omega⟩, i3.2.2.2⟩ (fun H hH => ?_)
    · unfold f_L_undo f_X7_undo
      rw [gd_t ⟨by omega, by omega⟩, if_neg (by omega), a1, bn1_some, lwB_some, if_pos rfl, a2.2.1]
    · obtain ⟨H', b1, b2, b3, b4⟩ := m_restore hH i3 (by omega)
      exact ⟨H', b1, b2, b3, fun k x f z => b4 _ _ _ (by omega)⟩
theorem op_append {G : GS} {p1 : Int} (hI : Inv G) (h1 : inR p1) : ∃ G2, lwT (f_L_append G p1) (fun G1 => f_X8_append G1 p1) = some G2 ∧ Inv G2 := by
  obtain ⟨A, S, c, len, T, i1, i2, i3⟩ := id hI
  have hl := i3.2.2.2.1
  have r1 : G 4 0 1 = len := i1.2.2.2.2.2.1
  have m3 : G 8 0 7 = len := i2.2.2.2.1
  by_cases c1 : 0 ≤ p1 ∧ p1 ≤ 127
  · by_cases c2 : len < 90
    · obtain ⟨G7, e7, f7, v7⟩ := gup_ex G 9 0 len p1
      obtain ⟨G8, e8, f8, v8⟩ := gup_ex G7 4 0 1 (G7 4 0 1 + 1)
      have w8 : G8 4 0 1 = len + 1 := by rw [v8, f7 _ _ _ (by omega), r1]
      have fr : ∀ k x f, k ≠ 9 → k ≠ 4 → G8 k x f = G k x f := fun k x f z1 z2 => by rw [f8 _ _ _ (by omega), f7 _ _ _ (by omega)]
      have iC : IC G8 A S c (len + 1) (fun j => if j = len then p1 else T j) := by
        obtain ⟨q1, q2, q3, q4, q5, q6, q7⟩ := i1
        have a12 : ∀ f, G8 12 0 f = G 12 0 f := fun f => fr _ _ _ (by decide) (by decide)
        refine ⟨Rd_fr q1 i3.1.1 (fun _ _ _ => rfl) (fun k x f z => fr _ _ _ (by unfold ofR at z; omega) (by unfold ofR at z; omega)), by rw [fr _ _ _ (by decide) (by decide)]; exact q2, fun i z1 z2 => by rw [a12]; exact q3 i z1 z2, fun i j z1 z2 z3 z4 z5 => by rw [a12, a12]; exact q4 i j z1 z2 z3 z4 z5, fun i z1 z2 => ?_, w8, fun j z1 z2 => ?_⟩
        · rw [a12]
          exact Rd_fr (q5 i z1 z2) (i3.2.1 i z1 z2).1 (fun _ _ _ => rfl) (fun k x f z => fr _ _ _ (by unfold ofR at z; omega) (by unfold ofR at z; omega))
        · dsimp only
          rw [f8 _ _ _ (by omega)]
          by_cases e : j = len
          · rw [if_pos e, e, v7]
          · rw [if_neg e, f7 _ _ _ (by omega)]
            exact q7 j z1 (by omega)
      refine fin_ok (G1 := G8) (A := A) (S := S) (c := c) (r := len + 1) ?_ iC (IM_fr i2 (fun k x f z => fr _ _ _ (by omega) (by omega))) ⟨i3.1, i3.2.1, i3.2.2.1, ⟨by omega, by omega⟩, fun j z1 z2 => ?_⟩ (fun H hH => ?_)
      · unfold f_L_append f_X7_append f_X4_add
        rw [c_rng h1 (by decide) (by decide), bn1_some, if_pos c1, if_pos rfl, gy_t ⟨by omega, by omega⟩, r1, gd_t ⟨by omega, by omega⟩, if_pos c2, ga_t ⟨by omega, by omega⟩, gy_t ⟨by omega, by omega⟩, e7, e8, bnd_some, gd_t (by decide), if_neg (by decide), lwB_some, if_pos rfl, w8]
      · dsimp only
        by_cases e : j = len
        · rw [if_pos e]; exact c1
        · rw [if_neg e]; exact i3.2.2.2.2 j z1 (by omega)
      · have h7 : H 8 0 7 = len := hH.2.2.2.1
        obtain ⟨H7, k7, n7, x7⟩ := gup_ex H 10 3 len p1
        obtain ⟨H8, k8, n8, x8⟩ := gup_ex H7 8 0 7 (H7 8 0 7 + 1)
        have y8 : H8 8 0 7 = len + 1 := by rw [x8, n7 _ _ _ (by omega), h7]
        refine ⟨gup H8 8 0 4 0, ?_, gup_s, ⟨fun f z1 z2 => ?_, fun i f z1 z2 z3 z4 => ?_, ?_, ?_, fun j z1 z2 => ?_⟩, fun k x f z => ?_⟩
        · unfold f_X8_append
          rw [m_inB h1 (by decide) (by decide), bn1_some, if_pos c1, gd_t (by decide), if_neg (by decide), h7, gd_t ⟨by omega, by omega⟩, if_neg (by omega), ga_t ⟨by omega, by omega⟩, k7, k8, y8, m_fine]
        · rw [gup_n (by omega), n8 _ _ _ (by omega), n7 _ _ _ (by omega)]; exact hH.1 f z1 z2
        · rw [gup_n (by omega), n8 _ _ _ (by omega), n7 _ _ _ (by omega)]; exact hH.2.1 i f z1 z2 z3 z4
        · rw [gup_n (by omega), n8 _ _ _ (by omega), n7 _ _ _ (by omega)]; exact hH.2.2.1
        · rw [gup_n (by omega)]; exact y8
        · dsimp only
          rw [gup_n (by omega), n8 _ _ _ (by omega)]
          by_cases e : j = len
          · rw [if_pos e, e, x7]
          · rw [if_neg e, n7 _ _ _ (by omega)]
            exact hH.2.2.2.2 j z1 (by omega)
        · rw [gup_n (by omega), n8 _ _ _ (by omega), n7 _ _ _ (by omega)]
    · refine fin_throw (k := 2) hI ?_ ?_ (by decide)
      · unfold f_L_append f_X7_append f_X4_add
        rw [c_rng h1 (by decide) (by decide), bn1_some, if_pos c1, if_pos rfl, gy_t ⟨by omega, by omega⟩, r1, gd_t ⟨by omega, by omega⟩, if_neg c2, bnd_some, gd_t (by decide), if_pos rfl, lwB_some, if_neg (by decide), if_neg (by decide), if_pos rfl]
      · unfold f_X8_append
        rw [m_inB h1 (by decide) (by decide), bn1_some, if_pos c1, gd_t (by decide), if_neg (by decide), m3, gd_t ⟨by omega, by omega⟩, if_pos (by omega), m_throw]
  · refine fin_throw (k := 1) hI ?_ ?_ (by decide)
    · unfold f_L_append f_X7_append
      rw [c_rng h1 (by decide) (by decide), bn1_some, if_neg c1, if_neg (by decide), lwB_some, if_neg (by decide), if_pos rfl]
    · unfold f_X8_append
      rw [m_inB h1 (by decide) (by decide), bn1_some, if_neg c1, gd_t (by decide), if_pos rfl, m_throw]
theorem op_clearText {G : GS} (hI : Inv G) : ∃ G2, lwU (f_X7_clearText G) (fun G1 => f_X8_clearText G1) = some G2 ∧ Inv G2 := by
  obtain ⟨A, S, c, len, T, i1, i2, i3⟩ := id hI
  have hl := i3.2.2.2.1
  have r1 : G 4 0 1 = len := i1.2.2.2.2.2.1
  have m3 : G 8 0 7 = len := i2.2.2.2.1
  obtain ⟨G7, e7, f7, v7⟩ := gup_ex G 4 0 1 0
  obtain ⟨H7, k7, n7, x7⟩ := gup_ex G7 8 0 7 0
  have fr : ∀ k x f, ¬ (k = 4 ∧ x = 0 ∧ f = 1) → ¬ (k = 8 ∧ x = 0 ∧ (f = 7 ∨ f = 4)) → (gup H7 8 0 4 0) k x f = G k x f := fun k x f z1 z2 => by rw [gup_n (by omega), n7 _ _ _ (by omega), f7 _ _ _ (by omega)]
  have a12 : ∀ f, (gup H7 8 0 4 0) 12 0 f = G 12 0 f := fun f => fr _ _ _ (by omega) (by omega)
  obtain ⟨q1, q2, q3, q4, q5, q6, q7⟩ := i1
  refine ⟨gup H7 8 0 4 0, turnU (a := len) (G1 := G7) ?_ ?_ ⟨by omega, by omega⟩, A, S, c, 0, T, ⟨Rd_fr q1 i3.1.1 (fun _ _ _ => rfl) (fun k x f z => fr _ _ _ (by unfold ofR at z; omega) (by unfold ofR at z; omega)), by rw [fr _ _ _ (by omega) (by omega)]; exact q2, fun i z1 z2 => by rw [a12]; exact q3 i z1 z2, fun i j z1 z2 z3 z4 z5 => by rw [a12, a12]; exact q4 i j z1 z2 z3 z4 z5, fun i z1 z2 => ?_, ?_, fun j z1 z2 => by omega⟩, ⟨fun f z1 z2 => by rw [fr _ _ _ (by omega) (by omega)]; exact i2.1 f z1 z2, fun i f z1 z2 z3 z4 => by rw [fr _ _ _ (by omega) (by omega)]; exact i2.2.1 i f z1 z2 z3 z4, by rw [fr _ _ _ (by omega) (by omega)]; exact i2.2.2.1, ?_, fun j z1 z2 => by omega⟩, i3.1, i3.2.1, i3.2.2.1, by decide, fun j z1 z2 => by omega⟩
  · unfold f_X7_clearText
    rw [e7, r1]
  · unfold f_X8_clearText
    rw [k7, f7 _ _ _ (by omega), m3, m_fine]
  · rw [a12]
    exact Rd_fr (q5 i z1 z2) (i3.2.1 i z1 z2).1 (fun _ _ _ => rfl) (fun k x f z => fr _ _ _ (by unfold ofR at z; omega) (by unfold ofR at z; omega))
  · rw [gup_n (by omega), n7 _ _ _ (by omega), v7]
  · rw [gup_n (by omega), x7]

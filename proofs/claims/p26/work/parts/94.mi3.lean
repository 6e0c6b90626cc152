/-! EACH TURN KEEPS THE MIRROR, the sums and the number of letters on their way or delivered -/
theorem Mi_eq {n : Int} {A B A' B' : Int → Int} (hM : Mi n A B) (h1 : ∀ f, A' f = A f) (h2 : ∀ f, B' f = B f) : Mi n A' B' := by
  have e1 : A' = A := funext h1
  have e2 : B' = B := funext h2
  rw [e1, e2]
  exact hM
set_option maxHeartbeats 4000000 in
theorem mi_rest {n m t : Int} {A B A' B' : Int → Int} (hM : Mi n A B) (hW : Wf m A) (t0 : 0 ≤ t) (t1 : t < A 7) (hA : RsP A t A') (hB : RsP B t B') : Mi n A' B' := by
  have hWh := hW.1
  have wT := hW.2.2.2.1 t t0 t1
  have hT := hM.2.2.2.1 t t0 t1
  unfold WfH at hWh
  unfold WfT at wT
  have hT0 := hT
  unfold MiT at hT0
  obtain ⟨e0, e1, k1, k2, k3, k4, k5, k6, k7, k8⟩ := hM.1
  unfold RsP at hA hB
  by_cases c : A (54 + 11 * t + 3) = 0
  · obtain ⟨inn, hi⟩ : ∃ inn, inn = A (54 + 11 * t + 2) := ⟨_, rfl⟩
    obtain ⟨aF, a1, a2, a3, a4⟩ := hA.2 c inn hi
    obtain ⟨bF, b1, b2, b3, b4⟩ := hB.2 (by omega) (n - 1 - inn) (by omega)
    have hN := hM.2.2.1 inn (by omega) (by omega)
    have hN0 := hN
    unfold MiN at hN0
    have ee : rsE B t (n - 1 - inn) = rsE A t inn := by
      unfold rsE
      rw [hT0.2.1, hN0.2.1]
    have ev : rsV B t (n - 1 - inn) = rsV A t inn := by
      unfold rsV
      rw [hT0.2.1, hN0.2.1]
    rw [ee] at b1 b2 b3
    rw [ev] at b4
    generalize rsE A t inn = e at a1 a2 a3 b1 b2 b3
    generalize rsV A t inn = v at a4 b4
    have z7 : A' 7 = A 7 := aF 7 (by omega) (by omega) (by omega) (by omega)
    have z8 : A' 8 = A 8 := aF 8 (by omega) (by omega) (by omega) (by omega)
    refine ⟨⟨?_, ?_, ?_, ?_, ?_, ?_, ?_, ?_, ?_, ?_⟩, fun s h0 h1 => ?_, fun i h0 h1 => ?_, fun u h0 h1 => ?_, fun l h0 h1 => ?_⟩
    · rw [aF _ (by omega) (by omega) (by omega) (by omega)]; exact e0
    · rw [bF _ (by omega) (by omega) (by omega) (by omega)]; exact e1
    · rw [bF _ (by omega) (by omega) (by omega) (by omega), aF _ (by omega) (by omega) (by omega) (by omega)]; exact k1
    · rw [bF _ (by omega) (by omega) (by omega) (by omega), aF _ (by omega) (by omega) (by omega) (by omega)]; exact k2
    · rw [bF _ (by omega) (by omega) (by omega) (by omega), aF _ (by omega) (by omega) (by omega) (by omega)]; exact k3
    · rw [bF _ (by omega) (by omega) (by omega) (by omega), aF _ (by omega) (by omega) (by omega) (by omega)]; exact k4
    · rw [bF _ (by omega) (by omega) (by omega) (by omega), aF _ (by omega) (by omega) (by omega) (by omega)]; exact k5
    · rw [b3, a3, k6]
    · rw [bF _ (by omega) (by omega) (by omega) (by omega), z7]; exact k7
    · rw [bF _ (by omega) (by omega) (by omega) (by omega), z8]; exact k8
    · have h := hM.2.1 s h0 h1
      unfold MiS at h ⊢
      simp (disch := omega) only [aF, bF]
      exact h
    · have h := hM.2.2.1 i h0 h1
      by_cases ci : i = inn
      · subst ci
        unfold MiN at h ⊢
        simp (disch := omega) only [aF, bF, a1, b1]
        omega
      · unfold MiN at h ⊢
        simp (disch := omega) only [aF, bF]
        exact h
    · have h := hM.2.2.2.1 u h0 (by omega)
      by_cases cu : u = t
      · subst cu
        unfold MiT at h ⊢
        simp (disch := omega) only [aF, bF, a2, b2, a4, b4]
        omega
      · unfold MiT at h ⊢
        simp (disch := omega) only [aF, bF]
        exact h
    · have h := hM.2.2.2.2 l h0 (by omega)
      unfold MiL at h ⊢
      simp (disch := omega) only [aF, bF]
      exact h
  · exact Mi_eq hM (hA.1 c) (hB.1 (by omega))
set_option maxHeartbeats 8000000 in
theorem mi_run {n m t l r v1 v6 k8 k9 k10 k11 : Int} {A B A' B' : Int → Int} (hM : Mi n A B) (hW : Wf m A) (t0 : 0 ≤ t) (t1 : t < A 7) (l0 : 0 ≤ l) (l1 : l < A 8) (hA : RuP A t l r v1 v6 k8 k9 k10 k11 A') (hB : RuP B t l r v1 v6 k8 k9 k10 k11 B') : Mi n A' B' := by
  have hWh := hW.1
  unfold WfH at hWh
  obtain ⟨e0, e1, f1, f2, f3, f4, f5, f6, f7, f8⟩ := hM.1
  unfold RuP at hA hB
  obtain ⟨aF, a1, a3, a4, a6, a7, a15, a16, x2, x3, x4, x5⟩ := hA
  obtain ⟨bF, b1, b3, b4, b6, b7, b15, b16, y2, y3, y4, y5⟩ := hB
  have z7 : A' 7 = A 7 := aF 7 (by omega) (by omega) (by omega) (by omega) (by omega) (by omega) (by omega) (by omega)
  have z8 : A' 8 = A 8 := aF 8 (by omega) (by omega) (by omega) (by omega) (by omega) (by omega) (by omega) (by omega)
  refine ⟨?_, fun s h0 h1 => ?_, fun i h0 h1 => ?_, fun u h0 h1 => ?_, fun q h0 h1 => ?_⟩
  · unfold MiH
    simp (disch := omega) only [aF, bF, x2, x3, x4, x5, y2, y3, y4, y5]
    omega
  · have h := hM.2.1 s h0 h1
    unfold MiS at h ⊢
    simp (disch := omega) only [aF, bF]
    exact h
  · have h := hM.2.2.1 i h0 h1
    unfold MiN at h ⊢
    simp (disch := omega) only [aF, bF]
    exact h
  · have h := hM.2.2.2.1 u h0 (by omega)
    by_cases cu : u = t
    · subst cu
      unfold MiT at h ⊢
      simp (disch := omega) only [aF, bF, a1, a3, a4, a6, a7, b1, b3, b4, b6, b7]
      omega
    · unfold MiT at h ⊢
      simp (disch := omega) only [aF, bF]
      exact h
  · have h := hM.2.2.2.2 q h0 (by omega)
    by_cases cq : q = l
    · subst cq
      unfold MiL at h ⊢
      simp (disch := omega) only [aF, bF, a15, a16, b15, b16]
      omega
    · unfold MiL at h ⊢
      simp (disch := omega) only [aF, bF]
      exact h
set_option maxHeartbeats 4000000 in
theorem mi_three {n m t : Int} {A B A' B' : Int → Int} {p q : Int} (hM : Mi n A B) (hW : Wf m A) (t0 : 0 ≤ t) (t1 : t < A 7) (aF : ∀ f, f ≠ 54 + 11 * t + 3 → f ≠ 54 + 11 * t + 5 → f ≠ 54 + 11 * t + 8 → A' f = A f) (bF : ∀ f, f ≠ 54 + 11 * t + 3 → f ≠ 54 + 11 * t + 5 → f ≠ 54 + 11 * t + 8 → B' f = B f) (h3 : B' (54 + 11 * t + 3) = A' (54 + 11 * t + 3)) (h5 : B' (54 + 11 * t + 5) = A' (54 + 11 * t + 5)) (h8 : B' (54 + 11 * t + 8) = A' (54 + 11 * t + 8)) (hr : 0 < A' (54 + 11 * t + 3) → 0 < A (54 + 11 * t + 3)) : Mi n A' B' := by
  have hWh := hW.1
  unfold WfH at hWh
  obtain ⟨e0, e1, f1, f2, f3, f4, f5, f6, f7, f8⟩ := hM.1
  have z7 : A' 7 = A 7 := aF 7 (by omega) (by omega) (by omega)
  have z8 : A' 8 = A 8 := aF 8 (by omega) (by omega) (by omega)
  refine ⟨?_, fun s h0 h1 => ?_, fun i h0 h1 => ?_, fun u h0 h1 => ?_, fun q h0 h1 => ?_⟩
  · unfold MiH
    simp (disch := omega) only [aF, bF]
    exact ⟨e0, e1, f1, f2, f3, f4, f5, f6, f7, f8⟩
  · have h := hM.2.1 s h0 h1
    unfold MiS at h ⊢
    simp (disch := omega) only [aF, bF]
    exact h
  · have h := hM.2.2.1 i h0 h1
    unfold MiN at h ⊢
    simp (disch := omega) only [aF, bF]
    exact h
  · have h := hM.2.2.2.1 u h0 (by omega)
    by_cases cu : u = t
    · subst cu
      unfold MiT at h ⊢
      rw [h3, h5, h8]
      simp (disch := omega) only [aF, bF]
      omega
    · unfold MiT at h ⊢
      simp (disch := omega) only [aF, bF]
      exact h
  · have h := hM.2.2.2.2 q h0 (by omega)
    unfold MiL at h ⊢
    simp (disch := omega) only [aF, bF]
    exact h
theorem mi_road {n m t : Int} {A B A' B' : Int → Int} (hM : Mi n A B) (hW : Wf m A) (t0 : 0 ≤ t) (t1 : t < A 7) (hA : RdP A t A') (hB : RdP B t B') : Mi n A' B' := by
  have wT := hW.2.2.2.1 t t0 t1
  have hT := hM.2.2.2.1 t t0 t1
  have e0 : A 0 = n := hM.1.1
  have e1 : B 0 = n := hM.1.2.1
  unfold WfT at wT
  unfold MiT at hT
  obtain ⟨q0, q1, q2, q3, q4, q5, q6, q7, q8, q9, q10⟩ := hT
  unfold RdP at hA hB
  rcases hA with ⟨c, h⟩ | ⟨c, h, h2⟩ | ⟨c, c2, h, h2, h3, h4⟩ | ⟨c, c2, l, s, u, r, v1, v6, k8, k9, k10, k11, hl, hlr, hs, hsu, hr, hv1, hC, hl6, hl5, hR⟩
  · rcases hB with ⟨d, g⟩ | ⟨d, g, g2⟩ | ⟨d, d2, g, g2, g3, g4⟩ | ⟨d, d2, -⟩
    · exact Mi_eq hM h g
    · exfalso; omega
    · exfalso; omega
    · exfalso; omega
  · rcases hB with ⟨d, g⟩ | ⟨d, g, g2⟩ | ⟨d, d2, g, g2, g3, g4⟩ | ⟨d, d2, -⟩
    · exfalso; omega
    · refine mi_three hM hW t0 t1 (fun f y1 _ _ => h f y1) (fun f y1 _ _ => g f y1) (by omega) ?_ ?_ (fun _ => by omega)
      · rw [g _ (by omega), h _ (by omega)]
        exact q5
      · rw [g _ (by omega), h _ (by omega)]
        exact q8
    · exfalso; omega
    · exfalso; omega
  · rcases hB with ⟨d, g⟩ | ⟨d, g, g2⟩ | ⟨d, d2, g, g2, g3, g4⟩ | ⟨d, d2, -⟩
    · exfalso; omega
    · exfalso; omega
    · exact mi_three hM hW t0 t1 h g (by omega) (by omega) (by omega) (fun z => by omega)
    · exfalso; omega
  · rcases hB with ⟨d, g⟩ | ⟨d, g, g2⟩ | ⟨d, d2, g, g2, g3, g4⟩ | ⟨d, d2, l', s', u', r', v1', v6', k8', k9', k10', k11', hl', hlr', hs', hsu', hr', hv1', hC', hl6', hl5', hR'⟩
    · exfalso; omega
    · exfalso; omega
    · exfalso; omega
    · have w5 := (wT.2.2.2.2.2 (by omega)).2.1
      have q10 := q10 (by omega)
      have el : l' = l := by omega
      have es : s' = n - 2 - s := by omega
      have eu : u' = 1 - u := by omega
      have hu : u = 0 ∨ u = 1 := by omega
      have er : r' = r := by
        rw [hr', hr, es, eu]
        exact mi_ef (hM.2.1 s hs.1 (by omega)) hu
      have ev : v1' = v1 := by rw [hv1', hv1, er, q1]
      have hL := hM.2.2.2.2 l hlr.1 hlr.2
      unfold MiL at hL
      obtain ⟨p0, p1, p2, p3, p4, p5, p6, p7⟩ := hL
      have b1 : B 1 = A 1 := hM.1.2.2.1
      unfold ComP at hC hC'
      rw [el] at hC'
      have ec : v6' = v6 ∧ k8' = k8 ∧ k9' = k9 ∧ k10' = k10 ∧ k11' = k11 := by omega
      obtain ⟨x1, x2, x3, x4, x5⟩ := ec
      rw [el, er, ev, x1, x2, x3, x4, x5] at hR'
      exact mi_run hM hW t0 t1 hlr.1 hlr.2 hR hR'
def SdP (A : Int → Int) (l : Int) (A' : Int → Int) : Prop := (wn A l ≠ 0 → ∀ f, A' f = A f) ∧ (wn A l = 0 → ∀ a b s t, a = A (164 + 8 * l + 4) → b = nx a (A (164 + 8 * l + 1)) → s = sg a b → t = ft A a (A 7).toNat → (0 ≤ t ∧ t < A 7) ∧ A (54 + 11 * t + 2) = a ∧ A (54 + 11 * t + 3) = 0 ∧ (∀ f, f ≠ 54 + 11 * t + 2 → f ≠ 54 + 11 * t + 3 → f ≠ 54 + 11 * t + 4 → f ≠ 54 + 11 * t + 10 → f ≠ 164 + 8 * l + 4 → f ≠ 164 + 8 * l + 5 → f ≠ 164 + 8 * l + 7 → A' f = A f) ∧ A' (54 + 11 * t + 2) = b ∧ A' (54 + 11 * t + 3) = A (9 + 3 * s) ∧ A' (54 + 11 * t + 4) = l ∧ A' (54 + 11 * t + 10) = a ∧ A' (164 + 8 * l + 4) = b ∧ A' (164 + 8 * l + 5) = t ∧ A' (164 + 8 * l + 7) = A (164 + 8 * l + 7) + 1)
set_option maxHeartbeats 4000000 in
theorem mi_send {n m l : Int} {A B A' B' : Int → Int} (hM : Mi n A B) (hW : Wf m A) (l0 : 0 ≤ l) (l1 : l < A 8) (hA : SdP A l A') (hB : SdP B l B') : Mi n A' B' := by
  have hWh := hW.1
  have wL := hW.2.2.2.2.1 l l0 l1
  have hL := hM.2.2.2.2 l l0 l1
  unfold WfH at hWh
  unfold WfL at wL
  unfold MiL at hL
  obtain ⟨p0, p1, p2, p3, p4, p5, p6, p7⟩ := hL
  obtain ⟨e0, e1, f1, f2, f3, f4, f5, f6, f7, f8⟩ := hM.1
  have ew := mi_wn hM hW l0 l1
  unfold SdP at hA hB
  by_cases c : wn A l = 0
  · obtain ⟨z6, z5, zf, zt, ze⟩ := wn_zero c rfl rfl rfl rfl
    have hne := wL.2.2.2.2.2.2.2 z6 z5
    obtain ⟨a, ha⟩ : ∃ a, a = A (164 + 8 * l + 4) := ⟨_, rfl⟩
    obtain ⟨to, hto⟩ : ∃ to, to = A (164 + 8 * l + 1) := ⟨_, rfl⟩
    rw [← ha, ← hto] at hne
    obtain ⟨w1, w2, w3, w4, w5, w6⟩ := mi_way hM (a := a) (c := to) (by omega) (by omega) hne
    obtain ⟨b, hb⟩ : ∃ b, b = nx a to := ⟨_, rfl⟩
    rw [← hb] at w1 w2 w3 w4 w5 w6
    obtain ⟨s, hs⟩ : ∃ s, s = sg a b := ⟨_, rfl⟩
    rw [← hs] at w2 w5
    obtain ⟨t, ht⟩ : ∃ t, t = ft A a (A 7).toNat := ⟨_, rfl⟩
    obtain ⟨tr, ta, ts, aF, a2, a3, a4, a10, m4, m5, m7⟩ := hA.2 c a b s t ha (by rw [hb, hto]) hs ht
    obtain ⟨-, -, -, bF, b2, b3, b4, b10, n4, n5, n7⟩ := hB.2 (by rw [ew]; exact c) (n - 1 - a) (n - 1 - b) (n - 2 - s) t (by rw [p4, ha]) (by rw [p1, ← hto, w1]) w2.symm (by rw [f7, mi_ft hM _ (by omega)]; exact ht)
    have hS := hM.2.1 s w5.1 w5.2
    unfold MiS at hS
    have z7 : A' 7 = A 7 := aF 7 (by omega) (by omega) (by omega) (by omega) (by omega) (by omega) (by omega)
    have z8 : A' 8 = A 8 := aF 8 (by omega) (by omega) (by omega) (by omega) (by omega) (by omega) (by omega)
    refine ⟨?_, fun s h0 h1 => ?_, fun i h0 h1 => ?_, fun u h0 h1 => ?_, fun q h0 h1 => ?_⟩
    · unfold MiH
      simp (disch := omega) only [aF, bF]
      exact ⟨e0, e1, f1, f2, f3, f4, f5, f6, f7, f8⟩
    · have h := hM.2.1 s h0 h1
      unfold MiS at h ⊢
      simp (disch := omega) only [aF, bF]
      exact h
    · have h := hM.2.2.1 i h0 h1
      unfold MiN at h ⊢
      simp (disch := omega) only [aF, bF]
      exact h
    · have h := hM.2.2.2.1 u h0 (by omega)
      by_cases cu : u = t
      · subst cu
        unfold MiT at h ⊢
        simp (disch := omega) only [aF, bF, a2, a3, a4, a10, b2, b3, b4, b10]
        omega
      · unfold MiT at h ⊢
        simp (disch := omega) only [aF, bF]
        exact h
    · have h := hM.2.2.2.2 q h0 (by omega)
      by_cases cq : q = l
      · subst cq
        unfold MiL at h ⊢
        simp (disch := omega) only [aF, bF, m4, m5, m7, n4, n5, n7]
        omega
      · unfold MiL at h ⊢
        simp (disch := omega) only [aF, bF]
        exact h
  · exact Mi_eq hM (hA.1 c) (hB.1 (by rw [ew]; exact c))
set_option maxHeartbeats 4000000 in
theorem mi_back {n m t : Int} {A B A' B' : Int → Int} (hM : Mi n A B) (hW : Wf m A) (t0 : 0 ≤ t) (t1 : t < A 7) (hA0 : ¬ wk A t → ∀ f, A' f = A f) (hB0 : ¬ wk B t → ∀ f, B' f = B f) (hA : wk A t → BkP A t A') (hB : wk B t → BkP B t B') : Mi n A' B' := by
  have hWh := hW.1
  have wT := hW.2.2.2.1 t t0 t1
  have hT := hM.2.2.2.1 t t0 t1
  unfold WfH at hWh
  unfold WfT at wT
  unfold MiT at hT
  obtain ⟨e0, e1, f1, f2, f3, f4, f5, f6, f7, f8⟩ := hM.1
  have ew := mi_wk hM hW t0 t1
  by_cases c : wk A t
  · have cne : A (54 + 11 * t + 2) ≠ A (54 + 11 * t + 0) := c.2.1
    have c3 : A (54 + 11 * t + 3) = 0 := c.1
    obtain ⟨a, ha⟩ : ∃ a, a = A (54 + 11 * t + 2) := ⟨_, rfl⟩
    obtain ⟨to, hto⟩ : ∃ to, to = A (54 + 11 * t + 0) := ⟨_, rfl⟩
    rw [← ha, ← hto] at cne
    obtain ⟨w1, w2, w3, w4, w5, w6⟩ := mi_way hM (a := a) (c := to) (by omega) (by omega) cne
    obtain ⟨b, hb⟩ : ∃ b, b = nx a to := ⟨_, rfl⟩
    rw [← hb] at w1 w2 w3 w4 w5 w6
    obtain ⟨s, hs⟩ : ∃ s, s = sg a b := ⟨_, rfl⟩
    rw [← hs] at w2 w5
    obtain ⟨aF, a2, a3, a5, a10⟩ := hA c a b s ha (by rw [hb, hto]) hs
    obtain ⟨bF, b2, b3, b5, b10⟩ := hB (ew.mpr c) (n - 1 - a) (n - 1 - b) (n - 2 - s) (by rw [hT.2.2.1, ha]) (by rw [hT.1, ← hto, w1]) w2.symm
    have hS := hM.2.1 s w5.1 w5.2
    unfold MiS at hS
    have z7 : A' 7 = A 7 := aF 7 (by omega) (by omega) (by omega) (by omega)
    have z8 : A' 8 = A 8 := aF 8 (by omega) (by omega) (by omega) (by omega)
    refine ⟨?_, fun s h0 h1 => ?_, fun i h0 h1 => ?_, fun u h0 h1 => ?_, fun q h0 h1 => ?_⟩
    · unfold MiH
      simp (disch := omega) only [aF, bF]
      exact ⟨e0, e1, f1, f2, f3, f4, f5, f6, f7, f8⟩
    · have h := hM.2.1 s h0 h1
      unfold MiS at h ⊢
      simp (disch := omega) only [aF, bF]
      exact h
    · have h := hM.2.2.1 i h0 h1
      unfold MiN at h ⊢
      simp (disch := omega) only [aF, bF]
      exact h
    · have h := hM.2.2.2.1 u h0 (by omega)
      by_cases cu : u = t
      · subst cu
        unfold MiT at h ⊢
        simp (disch := omega) only [aF, bF, a2, a3, a5, a10, b2, b3, b5, b10]
        omega
      · unfold MiT at h ⊢
        simp (disch := omega) only [aF, bF]
        exact h
    · have h := hM.2.2.2.2 q h0 (by omega)
      unfold MiL at h ⊢
      simp (disch := omega) only [aF, bF]
      exact h
  · exact Mi_eq hM (hA0 c) (hB0 (fun z => c (ew.mp z)))

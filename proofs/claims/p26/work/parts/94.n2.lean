/-! THE LAW'S TEXT AND ITS ROAD -/
def ev2 (j : Int) : Int := if j % 2 = 0 then 50 else 59
theorem ev2_r (j : Int) : 0 ≤ ev2 j ∧ ev2 j ≤ 127 := by
  unfold ev2
  split <;> omega
theorem c_stg {G : GS} {len p o : Int} (h : tC G ev2 len p) (hT : tT ev2 len p) (hp : p % 2 = 0) (hl : p + 2 ≤ len) : ∃ G', f_X4_readStage G o = some (G', 1) ∧ (∀ k x f, ¬ (k = 4 ∧ x = 0 ∧ f = 2) → ¬ (k = 5 ∧ x = o) → G' k x f = G k x f) ∧ tC G' ev2 len (p + 2) ∧ (G' 5 o 0 = 2 ∧ G' 5 o 1 = 0 ∧ G' 5 o 2 = 0) := by
  have e0 : hr ev2 len p = 50 := by
    unfold hr ev2
    rw [if_pos (by omega), if_pos hp]
  have e1 : hr ev2 len (p + 1) = 59 := by
    unfold hr ev2
    rw [if_pos (by omega), if_neg (by omega)]
  have hp1 : p < len := by omega
  have hT1 := tT_1 hT hp1
  obtain ⟨Ga, ea, fa, ta⟩ := c_take h hT hp1
  obtain ⟨Ge, re, pe, ee, fe, te, qe⟩ := c_end (o := o) (x1 := hr ev2 len p - 48) (x2 := 0) ta hT1
  rcases qe with ⟨y1, rfl, rfl, y4, y5, y6⟩ | ⟨y1, -⟩
  · have ep : p + 1 + 1 = p + 2 := by omega
    rw [ep] at te
    refine ⟨Ge, ?_, fun k x f z1 z2 => by rw [fe _ _ _ z1 z2, fa _ _ _ z1], te, ⟨by rw [y4, e0]; rfl, y5, y6⟩⟩
    unfold f_X4_readStage
    rw [c_dig h hT (by decide), bn1_some, if_pos (by omega), gd_t (by decide), if_neg (by decide), ea, bnd_some, c_sign ta hT1 (by decide), bn1_some, if_neg (by omega), gd_t (by decide), if_pos rfl, c_sign ta hT1 (by decide), bn1_some, if_neg (by omega), gd_t (by decide), if_pos rfl]
    exact ee
  · exact absurd e1 y1
theorem c_text {G0 : GS} {M : Int} (hM : 1 ≤ M ∧ M ≤ 7) : ∀ (d : Nat) (i : Int) (G : GS), i + d + 1 = M → 0 ≤ i → tC G ev2 (2 * M) (2 * i) → (∀ k x f, ¬ (k = 4 ∧ x = 0 ∧ f = 2) → ¬ (k = 5 ∧ 7 ≤ x ∧ x < 14) → ¬ (k = 3 ∧ x = 1 ∧ f = 4) → G k x f = G0 k x f) → (∀ s, 0 ≤ s → s < 7 → G 5 (7 * 1 + s) 0 = 2 ∧ G 5 (7 * 1 + s) 1 = 0 ∧ G 5 (7 * 1 + s) 2 = 0) →
    ∃ G', (∀ n K, d + 1 < n → f_X4_readInto_L7 1 n G i K = some (G', -1)) ∧ (∀ k x f, ¬ (k = 4 ∧ x = 0 ∧ f = 2) → ¬ (k = 5 ∧ 7 ≤ x ∧ x < 14) → ¬ (k = 3 ∧ x = 1 ∧ f = 4) → G' k x f = G0 k x f) ∧ (∀ s, 0 ≤ s → s < 7 → G' 5 (7 * 1 + s) 0 = 2 ∧ G' 5 (7 * 1 + s) 1 = 0 ∧ G' 5 (7 * 1 + s) 2 = 0) ∧ G' 3 1 4 = M + 1 := by
  intro d
  induction d with
  | zero =>
    intro i G hi h0 hG fG hrow
    obtain ⟨G1, x1, x2, x3, x4⟩ := c_stg (o := 7 * 1 + i) hG ⟨⟨by omega, by omega⟩, by omega, fun j _ _ => ev2_r j⟩ (by omega) (by omega)
    obtain ⟨G2, e2, f2, v2⟩ := gup_ex G1 3 1 4 (i + 2)
    refine ⟨G2, fun n K hn => ?_, fun k x f z1 z2 z3 => by rw [f2 _ _ _ z3, x2 _ _ _ z1 (by omega)]; exact fG _ _ _ z1 z2 z3, fun s z1 z2 => ?_, by rw [v2]; omega⟩
    · obtain ⟨n, rfl⟩ : ∃ q, n = q + 1 := ⟨n - 1, by omega⟩
      have t1 := x3.2.1
      have t2 := x3.2.2
      rw [f_X4_readInto_L7, gd_t ⟨by omega, by omega⟩, if_pos (by omega), ga_t ⟨by omega, by omega⟩, x1, bnd_some, gd_t (by decide), if_neg (by decide), t1, t2, gd_t ⟨by omega, by omega⟩, gd_t ⟨by omega, by omega⟩, if_pos (by omega), e2]
    · rw [f2 _ _ _ (by omega), f2 _ _ _ (by omega), f2 _ _ _ (by omega)]
      by_cases c : s = i
      · rw [c]; exact x4
      · rw [x2 _ _ _ (by omega) (by omega), x2 _ _ _ (by omega) (by omega), x2 _ _ _ (by omega) (by omega)]
        exact hrow s z1 z2
  | succ d ih =>
    intro i G hi h0 hG fG hrow
    obtain ⟨G1, x1, x2, x3, x4⟩ := c_stg (o := 7 * 1 + i) hG ⟨⟨by omega, by omega⟩, by omega, fun j _ _ => ev2_r j⟩ (by omega) (by omega)
    have ep : 2 * i + 2 = 2 * (i + 1) := by omega
    rw [ep] at x3
    obtain ⟨G', y1, y2, y3, y4⟩ := ih (i + 1) G1 (by omega) (by omega) x3 (fun k x f z1 z2 z3 => by rw [x2 _ _ _ z1 (by omega)]; exact fG _ _ _ z1 z2 z3) (fun s z1 z2 => by
      by_cases c : s = i
      · rw [c]; exact x4
      · rw [x2 _ _ _ (by omega) (by omega), x2 _ _ _ (by omega) (by omega), x2 _ _ _ (by omega) (by omega)]
        exact hrow s z1 z2)
    refine ⟨G', fun n K hn => ?_, y2, y3, y4⟩
    obtain ⟨n, rfl⟩ : ∃ q, n = q + 1 := ⟨n - 1, by omega⟩
    have t1 := x3.2.1
    have t2 := x3.2.2
    rw [f_X4_readInto_L7, gd_t ⟨by omega, by omega⟩, if_pos (by omega), ga_t ⟨by omega, by omega⟩, x1, bnd_some, gd_t (by decide), if_neg (by decide), t1, t2, gd_t ⟨by omega, by omega⟩, gd_t ⟨by omega, by omega⟩, if_neg (by omega)]
    exact y1 n K (by omega)
/-- the road that the law's text gives -/
def nw (M : Int) : Int → Int := fun f => if f = 0 then M + 1 else if 9 ≤ f ∧ f < 9 + 3 * M then v5 ((f - 9) % 3) else if 30 ≤ f ∧ f < 30 + 3 * (M + 1) then v1 ((f - 30) % 3) else 0
theorem nw_r {M : Int} (hM : 1 ≤ M ∧ M ≤ 7) : nw M 0 = M + 1 ∧ (∀ s f, 0 ≤ s → s < M → 0 ≤ f → f < 3 → nw M (9 + 3 * s + f) = v5 f) ∧ (∀ s f, 0 ≤ s → s < M + 1 → 0 ≤ f → f < 3 → nw M (30 + 3 * s + f) = v1 f) ∧ (∀ f, f ≠ 0 → ¬ (9 ≤ f ∧ f < 9 + 3 * M) → ¬ (30 ≤ f ∧ f < 30 + 3 * (M + 1)) → nw M f = 0) := by
  unfold nw
  refine ⟨if_pos rfl, fun s f z1 z2 z3 z4 => ?_, fun s f z1 z2 z3 z4 => ?_, fun f z1 z2 z3 => ?_⟩
  · rw [if_neg (by omega), if_pos (by omega), show (9 + 3 * s + f - 9) % 3 = f by omega]
  · rw [if_neg (by omega), if_neg (by omega), if_pos (by omega), show (30 + 3 * s + f - 30) % 3 = f by omega]
  · rw [if_neg z1, if_neg z2, if_neg z3]
theorem v_parse {G : GS} {A : Int → Int} {S : Int → Int → Int} {c M : Int} (hM : 1 ≤ M ∧ M ≤ 7) (i1 : IC G A S c (2 * M) ev2) (i3 : IP A S c (2 * M) ev2) : ∃ G', f_X7_parse G = some (G', M + 1) ∧ St G' (nw M) := by
  obtain ⟨G1, a1, a2, a3, a4, a5⟩ := c_restart G 1
  have t1 : ∀ j, 0 ≤ j → j < 2 * M → G1 9 0 j = ev2 j := fun j z1 z2 => by rw [a2 _ _ _ (by unfold ofR; omega)]; exact i1.2.2.2.2.2.2 j z1 z2
  have t2 : G1 4 0 1 = 2 * M := by rw [a2 _ _ _ (by unfold ofR; omega)]; exact i1.2.2.2.2.2.1
  obtain ⟨Ga, ea, fa, va⟩ := gup_ex G1 4 0 2 0
  obtain ⟨d, hd⟩ : ∃ d : Nat, (0 : Int) + d + 1 = M := ⟨(M - 1).toNat, by omega⟩
  obtain ⟨G3, b1, b3, b5, gI⟩ := c_text (G0 := G1) hM d 0 Ga hd (by decide) ⟨fun j z1 z2 => by rw [fa _ _ _ (by omega)]; exact t1 j z1 z2, by rw [fa _ _ _ (by omega)]; exact t2, va⟩ (fun k x f z1 z2 z3 => fa _ _ _ z1) (fun s z1 z2 => by
    rw [fa _ _ _ (by omega), fa _ _ _ (by omega), fa _ _ _ (by omega), a3 s 0 z1 z2 (by decide) (by decide), a3 s 1 z1 z2 (by decide) (by decide), a3 s 2 z1 z2 (by decide) (by decide)]
    exact ⟨rfl, rfl, rfl⟩)
  have hg : gFuel = 3000 := rfl
  have eI : f_X4_readInto G1 1 = some (G3, -1) := by
    unfold f_X4_readInto
    rw [ea]
    exact b1 gFuel _ (by omega)
  have f3 : ∀ k x f, ¬ ofR 1 k x → ¬ (k = 4 ∧ x = 0 ∧ f = 2) → G3 k x f = G k x f := fun k x f z1 z2 => by
    rw [b3 _ _ _ z2 (by unfold ofR at z1; omega) (by unfold ofR at z1; omega), a2 _ _ _ z1]
  have iC : IC G3 A S c (2 * M) ev2 := IC_fr i1 i3 (fun k x f z1 z2 z3 z4 z5 z6 => f3 _ _ _ z1 (by omega))
  obtain ⟨A', hA'⟩ : ∃ A', A' = nw M := ⟨_, rfl⟩
  obtain ⟨p0, pS, pN, pZ⟩ := nw_r hM
  rw [← hA'] at p0 pS pN pZ
  rw [← hA']
  have p7 := pZ 7 (by decide) (by omega) (by omega)
  have p8 := pZ 8 (by decide) (by omega) (by omega)
  have pz1 := pZ 1 (by decide) (by omega) (by omega)
  have rowN : ∀ n f, 0 ≤ n → n < 8 → 0 ≤ f → f < 3 → G3 1 (8 * 1 + n) f = v1 f := fun n f z1 z2 z3 z4 => by rw [b3 _ _ _ (by omega) (by omega) (by omega)]; exact a4 n f z1 z2 z3 z4
  have row3 : ∀ f, 5 ≤ f → f ≤ 12 → G3 3 1 f = 0 := fun f z1 z2 => by rw [b3 _ _ _ (by omega) (by omega) (by omega)]; exact a5 f z1 z2
  have R1 : Rd G3 1 A' := by
    refine ⟨?_, fun s z1 z2 => ?_, fun n z1 z2 => ?_, fun t z1 z2 => by omega, fun l z1 z2 => by omega, fun s z1 z2 => Or.inl (b5 s z1 z2).2.2, fun n z1 z2 => Or.inl ?_⟩
    · unfold RdH
      rw [gI, p0, p7, p8, pz1, pZ 2 (by decide) (by omega) (by omega), pZ 3 (by decide) (by omega) (by omega), pZ 4 (by decide) (by omega) (by omega), pZ 5 (by decide) (by omega) (by omega), pZ 6 (by decide) (by omega) (by omega), row3 5 (by decide) (by decide), row3 6 (by decide) (by decide), row3 7 (by decide) (by decide), row3 8 (by decide) (by decide), row3 9 (by decide) (by decide), row3 10 (by decide) (by decide), row3 11 (by decide) (by decide), row3 12 (by decide) (by decide)]
      exact ⟨rfl, rfl, rfl, rfl, rfl, rfl, rfl, rfl, rfl⟩
    · have q0 := pS s 0 z1 (by omega) (by decide) (by decide)
      rw [Int.add_zero] at q0
      obtain ⟨y1, y2, y3⟩ := b5 s z1 (by omega)
      unfold RdS
      rw [q0, pS s 1 z1 (by omega) (by decide) (by decide), pS s 2 z1 (by omega) (by decide) (by decide), y1, y2, y3]
      exact ⟨rfl, rfl, rfl⟩
    · have q0 := pN n 0 z1 (by omega) (by decide) (by decide)
      rw [Int.add_zero] at q0
      unfold RdN
      rw [q0, pN n 1 z1 (by omega) (by decide) (by decide), pN n 2 z1 (by omega) (by decide) (by decide), rowN n 0 z1 (by omega) (by decide) (by decide), rowN n 1 z1 (by omega) (by decide) (by decide), rowN n 2 z1 (by omega) (by decide) (by decide)]
      exact ⟨rfl, rfl, rfl⟩
    · rw [rowN n 2 z1 z2 (by decide) (by decide)]; rfl
  have W1 : Wf 10000 A' := by
    refine ⟨?_, fun s z1 z2 => ?_, fun n z1 z2 => ?_, fun t z1 z2 => by omega, fun l z1 z2 => by omega, fun l z1 z2 => by omega, fun t z1 z2 => by omega, fun l l' z1 z2 z3 => by omega⟩
    · unfold WfH
      rw [p0, p7, p8, pz1]
      omega
    · have q0 := pS s 0 z1 (by omega) (by decide) (by decide)
      rw [Int.add_zero] at q0
      unfold WfS
      rw [q0, pS s 1 z1 (by omega) (by decide) (by decide), pS s 2 z1 (by omega) (by decide) (by decide)]
      decide
    · have q0 := pN n 0 z1 (by omega) (by decide) (by decide)
      rw [Int.add_zero] at q0
      unfold WfN
      rw [q0, pN n 1 z1 (by omega) (by decide) (by decide), pN n 2 z1 (by omega) (by decide) (by decide)]
      decide
  obtain ⟨G8, c1, c2, c3⟩ := c_save iC i3
  have hp := IP_save i3
  have R8 : Rd G8 1 A' := Rd_fr R1 W1.1 (fun _ _ _ => rfl) (fun k x f z => c3 _ _ _ (by unfold ofR at z; omega) (by unfold ofR at z; omega) (fun r y1 y2 => by unfold ofR at z ⊢; omega))
  obtain ⟨G9, d1, d2, d3⟩ := c_copy (G := G8) (o := 0) (p := 1) (by decide) R8 W1
  have ic9 : IC G9 A' (psh A S c) (pc c) (2 * M) ev2 := IC_A c2 hp d2 (fun k x f z _ _ _ _ => d3 k x f z)
  have r9 : G9 3 0 4 = M + 1 := by rw [← p0]; exact d2.1.1
  refine ⟨G9, ?_, ⟨_, _, _, _, ic9, ⟨W1, hp.2⟩⟩⟩
  unfold f_X7_parse
  rw [a1, bn1_some, eI, bnd_some, gd_t (by decide), if_pos rfl, c1, bn1_some, d1, bn1_some, r9]
/-- it is its own mirror -/
theorem mi_nw {M : Int} (hM : 1 ≤ M ∧ M ≤ 7) : Mi (M + 1) (nw M) (nw M) ∧ Jv (nw M) ∧ nw M 1 = 0 ∧ Bnd 0 (nw M) := by
  obtain ⟨p0, pS, pN, pZ⟩ := nw_r hM
  have z : ∀ f, 1 ≤ f → f ≤ 8 → nw M f = 0 := fun f z1 z2 => pZ f (by omega) (by omega) (by omega)
  have z1 := z 1 (by decide) (by decide)
  have z2 := z 2 (by decide) (by decide)
  have z3 := z 3 (by decide) (by decide)
  have z4 := z 4 (by decide) (by decide)
  have z5 := z 5 (by decide) (by decide)
  have z6 := z 6 (by decide) (by decide)
  have z7 := z 7 (by decide) (by decide)
  have z8 := z 8 (by decide) (by decide)
  refine ⟨⟨⟨p0, p0, rfl, rfl, rfl, rfl, rfl, rfl, rfl, rfl⟩, fun s y0 y1 => ?_, fun i y0 y1 => ?_, fun t y0 y1 => by omega, fun l y0 y1 => by omega⟩, ⟨by rw [z7, z6]; rfl, by omega, by omega⟩, z1, ⟨by omega, by omega⟩, ⟨by omega, by omega⟩, ⟨by omega, by omega⟩, ⟨by omega, by omega⟩, ⟨by omega, by omega⟩, fun t y0 y1 => by omega, fun l y0 y1 => by omega⟩
  · have a := pS s 0 y0 (by omega) (by decide) (by decide)
    have b := pS (M + 1 - 2 - s) 0 (by omega) (by omega) (by decide) (by decide)
    rw [Int.add_zero] at a b
    unfold MiS
    rw [a, b, pS s 1 y0 (by omega) (by decide) (by decide), pS s 2 y0 (by omega) (by decide) (by decide), pS (M + 1 - 2 - s) 1 (by omega) (by omega) (by decide) (by decide), pS (M + 1 - 2 - s) 2 (by omega) (by omega) (by decide) (by decide)]
    exact ⟨rfl, rfl, rfl⟩
  · have a := pN i 0 y0 (by omega) (by decide) (by decide)
    have b := pN (M + 1 - 1 - i) 0 (by omega) (by omega) (by decide) (by decide)
    rw [Int.add_zero] at a b
    unfold MiN
    rw [a, b, pN i 1 y0 (by omega) (by decide) (by decide), pN i 2 y0 (by omega) (by decide) (by decide), pN (M + 1 - 1 - i) 1 (by omega) (by omega) (by decide) (by decide), pN (M + 1 - 1 - i) 2 (by omega) (by omega) (by decide) (by decide)]
    exact ⟨rfl, rfl, rfl⟩
/-- the text grows -/
theorem v_append {G : GS} {A : Int → Int} {S : Int → Int → Int} {c len : Int} (i1 : IC G A S c len ev2) (i3 : IP A S c len ev2) (hl : len < 90) : ∃ G', f_X7_append G (ev2 len) = some (G', (0, len + 1)) ∧ IC G' A S c (len + 1) ev2 ∧ IP A S c (len + 1) ev2 := by
  have hl0 := i3.2.2.2.1
  have r1 : G 4 0 1 = len := i1.2.2.2.2.2.1
  have r := ev2_r len
  obtain ⟨G7, e7, f7, v7⟩ := gup_ex G 9 0 len (ev2 len)
  obtain ⟨G8, e8, f8, v8⟩ := gup_ex G7 4 0 1 (G7 4 0 1 + 1)
  have w8 : G8 4 0 1 = len + 1 := by rw [v8, f7 _ _ _ (by omega), r1]
  have fr : ∀ k x f, k ≠ 9 → k ≠ 4 → G8 k x f = G k x f := fun k x f z1 z2 => by rw [f8 _ _ _ (by omega), f7 _ _ _ (by omega)]
  have iC : IC G8 A S c (len + 1) ev2 := by
    obtain ⟨q1, q2, q3, q4, q5, q6, q7⟩ := i1
    have a12 : ∀ f, G8 12 0 f = G 12 0 f := fun f => fr _ _ _ (by decide) (by decide)
    refine ⟨Rd_fr q1 i3.1.1 (fun _ _ _ => rfl) (fun k x f z => fr _ _ _ (by unfold ofR at z; omega) (by unfold ofR at z; omega)), by rw [fr _ _ _ (by decide) (by decide)]; exact q2, fun i z1 z2 => by rw [a12]; exact q3 i z1 z2, fun i j z1 z2 z3 z4 z5 => by rw [a12, a12]; exact q4 i j z1 z2 z3 z4 z5, fun i z1 z2 => ?_, w8, fun j z1 z2 => ?_⟩
    · rw [a12]
      exact Rd_fr (q5 i z1 z2) (i3.2.1 i z1 z2).1 (fun _ _ _ => rfl) (fun k x f z => fr _ _ _ (by unfold ofR at z; omega) (by unfold ofR at z; omega))
    · rw [f8 _ _ _ (by omega)]
      by_cases e : j = len
      · rw [e, v7]
      · rw [f7 _ _ _ (by omega)]
        exact q7 j z1 (by omega)
  refine ⟨G8, ?_, iC, ⟨i3.1, i3.2.1, i3.2.2.1, ⟨by omega, by omega⟩, fun j _ _ => ev2_r j⟩⟩
  unfold f_X7_append f_X4_add
  rw [c_rng ⟨by omega, by omega⟩ (by decide) (by decide), bn1_some, if_pos r, if_pos rfl, gy_t ⟨by omega, by omega⟩, r1, gd_t ⟨by omega, by omega⟩, if_pos hl, ga_t ⟨by omega, by omega⟩, gy_t ⟨by omega, by omega⟩, e7, e8, bnd_some, gd_t (by decide), if_neg (by decide), w8]
/-- the first state -/
theorem st_gI : ∃ (A : Int → Int) (S : Int → Int → Int), IC gI A S 0 0 ev2 ∧ IP A S 0 0 ev2 := by
  refine ⟨gI 10 0, fun _ => gI 10 0, ⟨⟨?_, fun s z1 z2 => ?_, fun n z1 z2 => ?_, fun t z1 z2 => ?_, fun l z1 z2 => ?_, fun s z1 z2 => Or.inl ?_, fun n z1 z2 => Or.inl ?_⟩, rfl, fun i z1 z2 => ?_, fun i j z1 z2 z3 z4 z5 => ?_, fun i z1 z2 => by omega, rfl, fun j z1 z2 => by omega⟩, ⟨⟨?_, fun s z1 z2 => ?_, fun n z1 z2 => ?_, fun t z1 z2 => ?_, fun l z1 z2 => ?_, fun l z1 z2 => ?_, fun t z1 z2 => ?_, fun l l' z1 z2 z3 => ?_⟩, fun i z1 z2 => by omega, by decide, by decide, fun j z1 z2 => by omega⟩⟩
  · exact ⟨rfl, rfl, rfl, rfl, rfl, rfl, rfl, rfl, rfl⟩
  · have e : gI 10 0 0 = 2 := rfl
    have : s = 0 := by omega
    subst this
    exact ⟨rfl, rfl, rfl⟩
  · have e : gI 10 0 0 = 2 := rfl
    rcases (show n = 0 ∨ n = 1 by omega) with rfl | rfl
    · exact ⟨rfl, rfl, rfl⟩
    · exact ⟨rfl, rfl, rfl⟩
  · have e : gI 10 0 7 = 0 := rfl
    omega
  · have e : gI 10 0 8 = 0 := rfl
    omega
  · simp [gI]
  · simp [gI]
  · have e : gI 12 0 i = i + 2 := by simp [gI]
    omega
  · have e1 : gI 12 0 i = i + 2 := by simp [gI]
    have e2 : gI 12 0 j = j + 2 := by simp [gI]
    omega
  · have e0 : gI 10 0 0 = 2 := rfl
    have e1 : gI 10 0 1 = 0 := rfl
    have e7 : gI 10 0 7 = 0 := rfl
    have e8 : gI 10 0 8 = 0 := rfl
    unfold WfH
    omega
  · have e : gI 10 0 0 = 2 := rfl
    have : s = 0 := by omega
    subst this
    exact ⟨by decide, by decide, by decide⟩
  · have e : gI 10 0 0 = 2 := rfl
    rcases (show n = 0 ∨ n = 1 by omega) with rfl | rfl
    · exact ⟨by decide, by decide, by decide⟩
    · exact ⟨by decide, by decide, by decide⟩
  · have e : gI 10 0 7 = 0 := rfl
    omega
  · have e : gI 10 0 8 = 0 := rfl
    omega
  · have e : gI 10 0 8 = 0 := rfl
    omega
  · have e : gI 10 0 7 = 0 := rfl
    omega
  · have e : gI 10 0 8 = 0 := rfl
    omega

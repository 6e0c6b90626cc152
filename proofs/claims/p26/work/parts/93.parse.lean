/-! PARSE -/
theorem rows_set {α : Type} (v : Int → Int) (L : Nat → GS → Int → (GS → Int → Option α) → Option α) (N : Nat) (kk : Nat) (b nf : Int) (G0 : GS)
    (step : ∀ G i, 0 ≤ i → i < (N : Int) → (∀ k x f, ¬ (k = kk ∧ b ≤ x ∧ x < b + (N : Int)) → G k x f = G0 k x f) → ∃ G', (∀ n k, L (n + 1) G i k = L n G' (i + 1) k) ∧ (∀ k x f, ¬ (k = kk ∧ x = b + i) → G' k x f = G k x f) ∧ ∀ f, 0 ≤ f → f < nf → G' kk (b + i) f = v f)
    (fin : ∀ G, (∀ k x f, ¬ (k = kk ∧ b ≤ x ∧ x < b + (N : Int)) → G k x f = G0 k x f) → ∀ n k, L (n + 1) G N k = k G N) :
    ∃ G', (∀ n k, N < n → L n G0 0 k = k G' N) ∧ (∀ k x f, ¬ (k = kk ∧ b ≤ x ∧ x < b + (N : Int)) → G' k x f = G0 k x f) ∧ ∀ i f : Int, 0 ≤ i → i < (N : Int) → 0 ≤ f → f < nf → G' kk (b + i) f = v f := by
  have main : ∀ (d : Nat) (i : Nat) (G : GS), i + d = N → (∀ k x f, ¬ (k = kk ∧ b ≤ x ∧ x < b + (i : Int)) → G k x f = G0 k x f) → (∀ j f : Int, 0 ≤ j → j < (i : Int) → 0 ≤ f → f < nf → G kk (b + j) f = v f) → ∃ G', (∀ n k, d < n → L n G i k = k G' N) ∧ (∀ k x f, ¬ (k = kk ∧ b ≤ x ∧ x < b + (N : Int)) → G' k x f = G0 k x f) ∧ ∀ i f : Int, 0 ≤ i → i < (N : Int) → 0 ≤ f → f < nf → G' kk (b + i) f = v f := by
    intro d
    induction d with
    | zero =>
      intro i G hi hf hv
      have e : i = N := by omega
      subst e
      refine ⟨G, fun n k hn => ?_, hf, hv⟩
      obtain ⟨n, rfl⟩ : ∃ q, n = q + 1 := ⟨n - 1, by omega⟩
      exact fin G hf n k
    | succ d ih =>
      intro i G hi hf hv
      obtain ⟨Ga, ea, fa, va⟩ := step G i (by omega) (by omega) (fun k x f z => hf k x f (by omega))
      have ei : ((i + 1 : Nat) : Int) = (i : Int) + 1 := by omega
      obtain ⟨G', q1, q2, q3⟩ := ih (i + 1) Ga (by omega) (fun k x f z => by rw [fa _ _ _ (by omega), hf _ _ _ (by omega)]) (fun j f z1 z2 z3 z4 => by
        by_cases hj : j = i
        · rw [hj, va f z3 z4]
        · rw [fa _ _ _ (by omega)]
          exact hv j f z1 (by omega) z3 z4)
      rw [ei] at q1
      refine ⟨G', fun n k hn => ?_, q2, q3⟩
      obtain ⟨n, rfl⟩ : ∃ q, n = q + 1 := ⟨n - 1, by omega⟩
      rw [ea n k]
      exact q1 n k (by omega)
  exact main N 0 G0 (by omega) (fun _ _ _ _ => rfl) (fun j f z1 z2 => by omega)
def v5 (f : Int) : Int := if f = 0 then 2 else 0
def v1 (f : Int) : Int := if f = 0 then 2 else if f = 1 then 100 else 0
theorem c_restart (G : GS) (o : Int) : ∃ G', f_X3_restart G o = some G' ∧ frC o G G' ∧ (∀ s f, 0 ≤ s → s < 7 → 0 ≤ f → f < 3 → G' 5 (7 * o + s) f = v5 f) ∧ (∀ n f, 0 ≤ n → n < 8 → 0 ≤ f → f < 3 → G' 1 (8 * o + n) f = v1 f) ∧ (∀ f, 5 ≤ f → f ≤ 12 → G' 3 o f = 0) := by
  obtain ⟨Ga, ea, fa, va⟩ := rows_set (α := GS) v5 (f_X3_restart_L2 o) 7 5 (7 * o) 3 G (fun H i h0 h1 hH => by
    obtain ⟨G', q1, q2, q3, q4, q5⟩ := c_set5 (G := H) (o := 7 * o + i) (p1 := 2) (p2 := 0) (p3 := 0) (Or.inl rfl)
    refine ⟨G', fun n k => ?_, q2, fun f z1 z2 => ?_⟩
    · rw [f_X3_restart_L2, gd_t ⟨by omega, by omega⟩, if_pos (by omega), ga_t ⟨by omega, by omega⟩, q1, bn1_some]
    · rcases (show f = 0 ∨ f = 1 ∨ f = 2 by omega) with rfl | rfl | rfl
      · exact q3
      · exact q4
      · exact q5) (fun H hH n k => by
    rw [f_X3_restart_L2, gd_t (by decide), if_neg (by decide)])
  obtain ⟨Gb, eb, fb, vb⟩ := rows_set (α := GS) v1 (f_X3_restart_L28 o) 8 1 (8 * o) 3 Ga (fun H i h0 h1 hH => by
    obtain ⟨G', q1, q2, q3, q4, q5⟩ := c_set1 (G := H) (o := 8 * o + i) (p1 := 2) (p2 := 100) (p3 := 0) (Or.inl rfl)
    refine ⟨G', fun n k => ?_, q2, fun f z1 z2 => ?_⟩
    · rw [f_X3_restart_L28, gd_t ⟨by omega, by omega⟩, if_pos (by omega), ga_t ⟨by omega, by omega⟩, q1, bn1_some]
    · rcases (show f = 0 ∨ f = 1 ∨ f = 2 by omega) with rfl | rfl | rfl
      · exact q3
      · exact q4
      · exact q5) (fun H hH n k => by
    rw [f_X3_restart_L28, gd_t (by decide), if_neg (by decide)])
  obtain ⟨K0, k0, n0, m0⟩ := gup_ex Gb 3 o 4 2
  obtain ⟨K1, k1, n1, m1⟩ := gup_ex K0 3 o 5 0
  obtain ⟨K2, k2, n2, m2⟩ := gup_ex K1 3 o 6 0
  obtain ⟨K3, k3, n3, m3⟩ := gup_ex K2 3 o 7 0
  obtain ⟨K4, k4, n4, m4⟩ := gup_ex K3 3 o 8 0
  obtain ⟨K5, k5, n5, m5⟩ := gup_ex K4 3 o 9 0
  obtain ⟨K6, k6, n6, m6⟩ := gup_ex K5 3 o 10 0
  obtain ⟨K7, k7, n7, m7⟩ := gup_ex K6 3 o 11 0
  obtain ⟨K8, k8, n8, m8⟩ := gup_ex K7 3 o 12 0
  have fr : ∀ k x f, ¬ (k = 3 ∧ x = o) → K8 k x f = Gb k x f := fun k x f z => by rw [n8 _ _ _ (by omega), n7 _ _ _ (by omega), n6 _ _ _ (by omega), n5 _ _ _ (by omega), n4 _ _ _ (by omega), n3 _ _ _ (by omega), n2 _ _ _ (by omega), n1 _ _ _ (by omega), n0 _ _ _ (by omega)]
  refine ⟨K8, ?_, fun k x f z => ?_, fun s f z1 z2 z3 z4 => ?_, fun s f z1 z2 z3 z4 => ?_, fun f z1 z2 => ?_⟩
  · have hg : gFuel = 3000 := rfl
    unfold f_X3_restart
    rw [ea gFuel _ (by omega), eb gFuel _ (by omega), k0, k1, k2, k3, k4, k5, k6, k7, k8]
  · unfold ofR at z
    rw [fr _ _ _ (by omega), fb _ _ _ (by omega), fa _ _ _ (by omega)]
  · rw [fr _ _ _ (by omega), fb _ _ _ (by omega)]
    exact va s f z1 (by omega) z3 z4
  · rw [fr _ _ _ (by omega)]
    exact vb s f z1 (by omega) z3 z4
  · rcases (show f = 5 ∨ f = 6 ∨ f = 7 ∨ f = 8 ∨ f = 9 ∨ f = 10 ∨ f = 11 ∨ f = 12 by omega) with rfl | rfl | rfl | rfl | rfl | rfl | rfl | rfl
    · rw [n8 _ _ _ (by omega), n7 _ _ _ (by omega), n6 _ _ _ (by omega), n5 _ _ _ (by omega), n4 _ _ _ (by omega), n3 _ _ _ (by omega), n2 _ _ _ (by omega), m1]
    · rw [n8 _ _ _ (by omega), n7 _ _ _ (by omega), n6 _ _ _ (by omega), n5 _ _ _ (by omega), n4 _ _ _ (by omega), n3 _ _ _ (by omega), m2]
    · rw [n8 _ _ _ (by omega), n7 _ _ _ (by omega), n6 _ _ _ (by omega), n5 _ _ _ (by omega), n4 _ _ _ (by omega), m3]
    · rw [n8 _ _ _ (by omega), n7 _ _ _ (by omega), n6 _ _ _ (by omega), n5 _ _ _ (by omega), m4]
    · rw [n8 _ _ _ (by omega), n7 _ _ _ (by omega), n6 _ _ _ (by omega), m5]
    · rw [n8 _ _ _ (by omega), n7 _ _ _ (by omega), m6]
    · rw [n8 _ _ _ (by omega), m7]
    · rw [m8]
/-- what a good text leaves: M stages in the class's road 1 and in the model's list -/
def gdT (G H : GS) (M : Int) : Prop := (1 ≤ M ∧ M ≤ 7) ∧ H 8 0 10 = M ∧ G 3 1 4 = M + 1 ∧ (∀ j, 0 ≤ j → j < M → G 5 (7 * 1 + j) 0 = H 10 4 (2 * j) ∧ G 5 (7 * 1 + j) 1 = H 10 4 (2 * j + 1) ∧ G 5 (7 * 1 + j) 2 = 0 ∧ (1 ≤ H 10 4 (2 * j) ∧ H 10 4 (2 * j) ≤ 9) ∧ (-5 ≤ H 10 4 (2 * j + 1) ∧ H 10 4 (2 * j + 1) ≤ 5))
theorem reads_loop {G0 H0 : GS} {T : Int → Int} {len : Int} : ∀ (d : Nat) (i p : Int) (G H : GS), i + d = 7 → 0 ≤ i → tC G T len p → tM H T len p i → tT T len p → (∀ k x f, ¬ (k = 4 ∧ x = 0 ∧ f = 2) → ¬ (k = 5 ∧ 7 ≤ x ∧ x < 14) → ¬ (k = 3 ∧ x = 1 ∧ f = 4) → G k x f = G0 k x f) → (∀ k x f, ¬ (k = 8 ∧ x = 0 ∧ (f = 8 ∨ f = 10)) → ¬ (k = 10 ∧ x = 4) → H k x f = H0 k x f) → (∀ j, 0 ≤ j → j < i → G 5 (7 * 1 + j) 0 = H 10 4 (2 * j) ∧ G 5 (7 * 1 + j) 1 = H 10 4 (2 * j + 1) ∧ G 5 (7 * 1 + j) 2 = 0 ∧ (1 ≤ H 10 4 (2 * j) ∧ H 10 4 (2 * j) ≤ 9) ∧ (-5 ≤ H 10 4 (2 * j + 1) ∧ H 10 4 (2 * j + 1) ≤ 5)) → (∀ s, 0 ≤ s → s < 7 → G 5 (7 * 1 + s) 2 = 0) →
    ∃ (G' H' : GS) (e r : Int), (∀ n, d < n → f_X4_readInto_L7 1 n G i (fun G14 y2_13 => some (G14, G14 4 0 2)) = some (G', e)) ∧ (∀ n, d + 1 < n → bnd (f_X8_readsStage H) (fun G9 r10 => f_X8_readsText_L15 n G9 r10 (fun G13 y1_12 => gb y1_12 (some (G13, y1_12)))) = some (H', r)) ∧ (∀ k x f, ¬ (k = 4 ∧ x = 0 ∧ f = 2) → ¬ (k = 5 ∧ 7 ≤ x ∧ x < 14) → ¬ (k = 3 ∧ x = 1 ∧ f = 4) → G' k x f = G0 k x f) ∧ (∀ k x f, ¬ (k = 8 ∧ x = 0 ∧ (f = 8 ∨ f = 10)) → ¬ (k = 10 ∧ x = 4) → H' k x f = H0 k x f) ∧ (∀ s, 0 ≤ s → s < 7 → G' 5 (7 * 1 + s) 2 = 0) ∧ ((e = -1 ∧ r = 1 ∧ ∃ M, gdT G' H' M) ∨ ((0 ≤ e ∧ e ≤ 90) ∧ r = 0 ∧ H' 8 0 8 = e)) := by
  intro d
  induction d with
  | zero =>
    intro i p G H hi h0 hG hH hT fG fH hrow hb
    have e : i = 7 := by omega
    subst e
    have hp := hG.2.2
    have hT1 := hT.1
    have hT2 := hT.2.1
    refine ⟨G, H, p, 0, fun n hn => ?_, fun n hn => ?_, fG, fH, hb, Or.inr ⟨by omega, rfl, hH.2.2.1⟩⟩
    · obtain ⟨n, rfl⟩ : ∃ q, n = q + 1 := ⟨n - 1, by omega⟩
      rw [f_X4_readInto_L7, gd_t (by decide), if_neg (by decide), hp]
    · obtain ⟨n, rfl⟩ : ∃ q, n = q + 1 := ⟨n - 1, by omega⟩
      unfold f_X8_readsStage
      rw [hH.2.2.2, gd_t (by decide), if_pos rfl, bnd_some, f_X8_readsText_L15, gd_t (by decide), if_pos rfl, gb_t (Or.inl rfl)]
  | succ d ih =>
    intro i p G H hi h0 hG hH hT fG fH hrow hb
    obtain ⟨G1, H1, r, p1, x1, x2, a1, a2, a3, a4, a5, a6, a7⟩ := stage_both (o := 7 * 1 + i) hG hH hT (by omega)
    have fG1 : ∀ k x f, ¬ (k = 4 ∧ x = 0 ∧ f = 2) → ¬ (k = 5 ∧ 7 ≤ x ∧ x < 14) → ¬ (k = 3 ∧ x = 1 ∧ f = 4) → G1 k x f = G0 k x f := fun k x f z1 z2 z3 => by rw [a3 _ _ _ z1 (by omega)]; exact fG _ _ _ z1 z2 z3
    have fH1 : ∀ k x f, ¬ (k = 8 ∧ x = 0 ∧ (f = 8 ∨ f = 10)) → ¬ (k = 10 ∧ x = 4) → H1 k x f = H0 k x f := fun k x f z1 z2 => by rw [a4 _ _ _ z1 (by omega)]; exact fH _ _ _ z1 z2
    have cls : ∀ n K, f_X4_readInto_L7 1 (n + 1) G i K = gd r (if r = 0 then some (G1, G1 4 0 2) else gd (G1 4 0 2) (gd (G1 4 0 1) (if (G1 4 0 2) = (G1 4 0 1) then some ((gup G1 3 1 4 (i + 2)), (-1)) else f_X4_readInto_L7 1 n G1 (i + 1) K))) := fun n K => by
      rw [f_X4_readInto_L7, gd_t ⟨by omega, by omega⟩, if_pos (by omega), ga_t ⟨by omega, by omega⟩, a1, bnd_some]
    have t1 := a6.1
    have t2 := a6.2.1
    rcases a7 with ⟨rfl, w1, w2, w3, w4, w5, w6, w7, w8⟩ | ⟨rfl, w1, w2⟩
    · have hrow1 : ∀ j, 0 ≤ j → j < i + 1 → G1 5 (7 * 1 + j) 0 = H1 10 4 (2 * j) ∧ G1 5 (7 * 1 + j) 1 = H1 10 4 (2 * j + 1) ∧ G1 5 (7 * 1 + j) 2 = 0 ∧ (1 ≤ H1 10 4 (2 * j) ∧ H1 10 4 (2 * j) ≤ 9) ∧ (-5 ≤ H1 10 4 (2 * j + 1) ∧ H1 10 4 (2 * j + 1) ≤ 5) := fun j z1 z2 => by
        by_cases cj : j = i
        · rw [cj, w2, w3]
          exact ⟨w6, w7, w8, w4, w5⟩
        · rw [a3 _ _ _ (by omega) (by omega), a3 _ _ _ (by omega) (by omega), a3 _ _ _ (by omega) (by omega), a4 _ _ _ (by omega) (by omega), a4 _ _ _ (by omega) (by omega)]
          exact hrow j z1 (by omega)
      have hb1 : ∀ s, 0 ≤ s → s < 7 → G1 5 (7 * 1 + s) 2 = 0 := fun s z1 z2 => by
        by_cases cj : s = i
        · rw [cj]; exact w8
        · rw [a3 _ _ _ (by omega) (by omega)]; exact hb s z1 z2
      by_cases c : p1 = len
      · obtain ⟨G2, e2, f2, v2⟩ := gup_ex G1 3 1 4 (i + 2)
        refine ⟨G2, H1, -1, 1, fun n hn => ?_, fun n hn => ?_, fun k x f z1 z2 z3 => by rw [f2 _ _ _ z3]; exact fG1 _ _ _ z1 z2 z3, fH1, fun s z1 z2 => by rw [f2 _ _ _ (by omega)]; exact hb1 s z1 z2, Or.inl ⟨rfl, rfl, i + 1, by omega, w1.2.2.2, by rw [v2]; omega, fun j z1 z2 => ?_⟩⟩
        · obtain ⟨n, rfl⟩ : ∃ q, n = q + 1 := ⟨n - 1, by omega⟩
          rw [cls, gd_t (by decide), if_neg (by decide), a5.2.2, a5.2.1, gd_t ⟨by omega, by omega⟩, gd_t ⟨by omega, by omega⟩, if_pos c, e2]
        · obtain ⟨n, rfl⟩ : ∃ q, n = q + 1 := ⟨n - 1, by omega⟩
          rw [a2, bnd_some, f_X8_readsText_L15, gd_t (by decide), if_neg (by decide), w1.2.2.1, w1.2.1, gd_t ⟨by omega, by omega⟩, gd_t ⟨by omega, by omega⟩, if_neg (by omega), gb_t (Or.inr rfl)]
        · rw [f2 _ _ _ (by omega), f2 _ _ _ (by omega), f2 _ _ _ (by omega)]
          exact hrow1 j z1 z2
      · obtain ⟨G', H', e, r', b1, b2, b3, b4, b5, b6⟩ := ih (i + 1) p1 G1 H1 (by omega) (by omega) a5 w1 a6 fG1 fH1 hrow1 hb1
        refine ⟨G', H', e, r', fun n hn => ?_, fun n hn => ?_, b3, b4, b5, b6⟩
        · obtain ⟨n, rfl⟩ : ∃ q, n = q + 1 := ⟨n - 1, by omega⟩
          rw [cls, gd_t (by decide), if_neg (by decide), a5.2.2, a5.2.1, gd_t ⟨by omega, by omega⟩, gd_t ⟨by omega, by omega⟩, if_neg c]
          exact b1 n (by omega)
        · obtain ⟨n, rfl⟩ : ∃ q, n = q + 1 := ⟨n - 1, by omega⟩
          rw [a2, bnd_some, f_X8_readsText_L15, gd_t (by decide), if_neg (by decide), w1.2.2.1, w1.2.1, gd_t ⟨by omega, by omega⟩, gd_t ⟨by omega, by omega⟩, if_pos (by omega)]
          exact b2 n (by omega)
    · refine ⟨G1, H1, p1, 0, fun n hn => ?_, fun n hn => ?_, fG1, fH1, fun s z1 z2 => ?_, Or.inr ⟨by omega, rfl, w1.2.2.1⟩⟩
      · obtain ⟨n, rfl⟩ : ∃ q, n = q + 1 := ⟨n - 1, by omega⟩
        rw [cls, gd_t (by decide), if_pos rfl, a5.2.2]
      · obtain ⟨n, rfl⟩ : ∃ q, n = q + 1 := ⟨n - 1, by omega⟩
        rw [a2, bnd_some, f_X8_readsText_L15, gd_t (by decide), if_pos rfl, gb_t (Or.inl rfl)]
      · by_cases cj : s = i
        · rw [cj, w2, ← cj]; exact hb s z1 z2
        · rw [a3 _ _ _ (by omega) (by omega)]; exact hb s z1 z2
theorem reads_both {G H : GS} {T : Int → Int} {len : Int} (hl : 0 ≤ len ∧ len ≤ 90) (hT : ∀ j, 0 ≤ j → j < len → 0 ≤ T j ∧ T j ≤ 127) (g1 : ∀ j, 0 ≤ j → j < len → G 9 0 j = T j) (g2 : G 4 0 1 = len) (m1 : ∀ j, 0 ≤ j → j < len → H 10 3 j = T j) (m2 : H 8 0 7 = len) (hb : ∀ s, 0 ≤ s → s < 7 → G 5 (7 * 1 + s) 2 = 0) : ∃ (G' H' : GS) (e r : Int), f_X4_readInto G 1 = some (G', e) ∧ f_X8_readsText H = some (H', r) ∧ (∀ k x f, ¬ (k = 4 ∧ x = 0 ∧ f = 2) → ¬ (k = 5 ∧ 7 ≤ x ∧ x < 14) → ¬ (k = 3 ∧ x = 1 ∧ f = 4) → G' k x f = G k x f) ∧ (∀ k x f, ¬ (k = 8 ∧ x = 0 ∧ (f = 8 ∨ f = 10)) → ¬ (k = 10 ∧ x = 4) → H' k x f = H k x f) ∧ (∀ s, 0 ≤ s → s < 7 → G' 5 (7 * 1 + s) 2 = 0) ∧ ((e = -1 ∧ r = 1 ∧ ∃ M, gdT G' H' M) ∨ ((0 ≤ e ∧ e ≤ 90) ∧ r = 0 ∧ H' 8 0 8 = e)) := by
  obtain ⟨Ga, ea, fa, va⟩ := gup_ex G 4 0 2 0
  obtain ⟨Ha, ka, na, xa⟩ := gup_ex H 8 0 8 0
  obtain ⟨Hb, kb, nb, xb⟩ := gup_ex Ha 8 0 10 0
  obtain ⟨G', H', e, r, b1, b2, b3, b4, b5, b6⟩ := reads_loop (G0 := G) (H0 := H) (T := T) (len := len) 7 0 0 Ga Hb (by decide) (by decide) ⟨fun j z1 z2 => by rw [fa _ _ _ (by omega)]; exact g1 j z1 z2, by rw [fa _ _ _ (by omega)]; exact g2, va⟩ ⟨fun j z1 z2 => by rw [nb _ _ _ (by omega), na _ _ _ (by omega)]; exact m1 j z1 z2, by rw [nb _ _ _ (by omega), na _ _ _ (by omega)]; exact m2, by rw [nb _ _ _ (by omega)]; exact xa, xb⟩ ⟨by omega, hl.2, hT⟩ (fun k x f z1 z2 z3 => fa _ _ _ z1) (fun k x f z1 z2 => by rw [nb _ _ _ (by omega), na _ _ _ (by omega)]) (fun j z1 z2 => by omega) (fun s z1 z2 => by rw [fa _ _ _ (by omega)]; exact hb s z1 z2)
  refine ⟨G', H', e, r, ?_, ?_, b3, b4, b5, b6⟩
  · unfold f_X4_readInto
    rw [ea]
    exact b1 gFuel (by decide)
  · unfold f_X8_readsText
    rw [ka, kb]
    exact b2 gFuel (by decide)
/-! the model's new road -/
theorem pair_loop {α : Type} (L : Nat → GS → Int → (GS → Int → Option α) → Option α) (N : Nat) (b : Int) (u v : Int → Int) (G0 : GS)
    (step : ∀ G i, 0 ≤ i → i < (N : Int) → (∀ k x f, ¬ (k = 10 ∧ x = 0 ∧ b ≤ f ∧ f < b + 3 * i) → G k x f = G0 k x f) → ∀ n k, L (n + 1) G i k = L n (gup (gup G 10 0 (b + 3 * i) (u i)) 10 0 ((b + 3 * i) + 1) (v i)) (i + 1) k)
    (fin : ∀ G, (∀ k x f, ¬ (k = 10 ∧ x = 0 ∧ b ≤ f ∧ f < b + 3 * (N : Int)) → G k x f = G0 k x f) → ∀ n k, L (n + 1) G N k = k G N) :
    ∃ G', (∀ n k, N < n → L n G0 0 k = k G' N) ∧ (∀ k x f, ¬ (k = 10 ∧ x = 0 ∧ b ≤ f ∧ f < b + 3 * (N : Int)) → G' k x f = G0 k x f) ∧ ∀ j : Int, 0 ≤ j → j < (N : Int) → G' 10 0 (b + 3 * j) = u j ∧ G' 10 0 (b + 3 * j + 1) = v j ∧ G' 10 0 (b + 3 * j + 2) = G0 10 0 (b + 3 * j + 2) := by
  have main : ∀ (d : Nat) (i : Nat) (G : GS), i + d = N → (∀ k x f, ¬ (k = 10 ∧ x = 0 ∧ b ≤ f ∧ f < b + 3 * (i : Int)) → G k x f = G0 k x f) → (∀ j : Int, 0 ≤ j → j < (i : Int) → G 10 0 (b + 3 * j) = u j ∧ G 10 0 (b + 3 * j + 1) = v j ∧ G 10 0 (b + 3 * j + 2) = G0 10 0 (b + 3 * j + 2)) → ∃ G', (∀ n k, d < n → L n G i k = k G' N) ∧ (∀ k x f, ¬ (k = 10 ∧ x = 0 ∧ b ≤ f ∧ f < b + 3 * (N : Int)) → G' k x f = G0 k x f) ∧ ∀ j : Int, 0 ≤ j → j < (N : Int) → G' 10 0 (b + 3 * j) = u j ∧ G' 10 0 (b + 3 * j + 1) = v j ∧ G' 10 0 (b + 3 * j + 2) = G0 10 0 (b + 3 * j + 2) := by
    intro d
    induction d with
    | zero =>
      intro i G hi hf hv
      have e : i = N := by omega
      subst e
      refine ⟨G, fun n k hn => ?_, hf, hv⟩
      obtain ⟨n, rfl⟩ : ∃ q, n = q + 1 := ⟨n - 1, by omega⟩
      exact fin G hf n k
    | succ d ih =>
      intro i G hi hf hv
      obtain ⟨Ga, ea, fa, va⟩ := gup_ex G 10 0 (b + 3 * (i : Int)) (u i)
      obtain ⟨Gb, eb, fb, vb⟩ := gup_ex Ga 10 0 (b + 3 * (i : Int) + 1) (v i)
      have ei : ((i + 1 : Nat) : Int) = (i : Int) + 1 := by omega
      obtain ⟨G', q1, q2, q3⟩ := ih (i + 1) Gb (by omega) (fun k x f z => by rw [fb _ _ _ (by omega), fa _ _ _ (by omega), hf _ _ _ (by omega)]) (fun j z1 z2 => by
        by_cases hj : j = i
        · rw [hj, vb, fb _ _ _ (by omega), va, fb _ _ _ (by omega), fa _ _ _ (by omega), hf _ _ _ (by omega)]
          exact ⟨rfl, rfl, rfl⟩
        · rw [fb _ _ _ (by omega), fa _ _ _ (by omega), fb _ _ _ (by omega), fa _ _ _ (by omega), fb _ _ _ (by omega), fa _ _ _ (by omega)]
          exact hv j z1 (by omega))
      rw [ei] at q1
      refine ⟨G', fun n k hn => ?_, q2, q3⟩
      obtain ⟨n, rfl⟩ : ∃ q, n = q + 1 := ⟨n - 1, by omega⟩
      rw [step G i (by omega) (by omega) hf n k, ea, eb]
      exact q1 n k (by omega)
  exact main N 0 G0 (by omega) (fun _ _ _ _ => rfl) (fun j z1 z2 => by omega)
theorem m_begins {H : GS} {n : Int} (hn : 1 ≤ n ∧ n ≤ 8) : ∃ H', f_X8_begins H n = some H' ∧ (∀ k x f, ¬ (k = 10 ∧ x = 0) → H' k x f = H k x f) ∧ H' 10 0 0 = n ∧ (∀ j, 0 ≤ j → j < n → H' 10 0 (30 + 3 * j) = 2 ∧ H' 10 0 (30 + 3 * j + 1) = 100 ∧ H' 10 0 (30 + 3 * j + 2) = 0) ∧ (∀ f, 0 < f → f < 260 → ¬ (30 ≤ f ∧ f < 30 + 3 * n) → H' 10 0 f = 0) := by
  obtain ⟨Ha, ea, fa, va⟩ := arr_loop (α := GS) (f_X8_begins_L2 n) 260 0 0 (fun _ => 0) H (fun G i z1 z2 hG q k => by
    rw [f_X8_begins_L2, gd_t ⟨by omega, by omega⟩, if_pos (by omega), ga_t ⟨by omega, by omega⟩, Int.zero_add]) (fun G hG q k => by
    rw [f_X8_begins_L2, gd_t (by decide), if_neg (by decide)])
  have za : ∀ f, 0 ≤ f → f < 260 → Ha 10 0 f = 0 := fun f z1 z2 => by
    have v := va f z1 (by omega)
    rw [Int.zero_add] at v
    exact v
  obtain ⟨Hb, eb, fb, vb⟩ := gup_ex Ha 10 0 0 n
  obtain ⟨N, hN⟩ : ∃ N : Nat, (N : Int) = n := ⟨n.toNat, by omega⟩
  obtain ⟨Hc, ec, fc, vc⟩ := pair_loop (α := GS) (f_X8_begins_L31 n) N 30 (fun _ => 2) (fun _ => 100) Hb (fun G i z1 z2 hG q k => by
    rw [f_X8_begins_L31, gd_t ⟨by omega, by omega⟩, gd_t ⟨by omega, by omega⟩, if_pos (by omega), ga_t ⟨by omega, by omega⟩, ga_t ⟨by omega, by omega⟩]) (fun G hG q k => by
    rw [f_X8_begins_L31, gd_t ⟨by omega, by omega⟩, gd_t ⟨by omega, by omega⟩, if_neg (by omega)])
  have hg : gFuel = 3000 := rfl
  refine ⟨Hc, ?_, fun k x f z => by rw [fc _ _ _ (by omega), fb _ _ _ (by omega), fa _ _ _ (by omega)], by rw [fc _ _ _ (by omega)]; exact vb, fun j z1 z2 => ?_, fun f z1 z2 z3 => ?_⟩
  · unfold f_X8_begins
    rw [ea gFuel _ (by omega), eb, ec gFuel _ (by omega)]
  · obtain ⟨y1, y2, y3⟩ := vc j z1 (by omega)
    exact ⟨y1, y2, by rw [y3, fb _ _ _ (by omega)]; exact za _ (by omega) (by omega)⟩
  · rw [fc _ _ _ (by omega), fb _ _ _ (by omega)]
    exact za f (by omega) z2
/-- the new road's array -/
def paA (G : GS) (M : Int) : Int → Int := fun f => if f = 0 then M + 1 else if 9 ≤ f ∧ f < 9 + 3 * M then G 5 (7 * 1 + (f - 9) / 3) ((f - 9) % 3) else if 30 ≤ f ∧ f < 30 + 3 * (M + 1) then v1 ((f - 30) % 3) else 0
theorem paA_r {G : GS} {M : Int} (hM : 1 ≤ M ∧ M ≤ 7) : paA G M 0 = M + 1 ∧ (∀ s f, 0 ≤ s → s < M → 0 ≤ f → f < 3 → paA G M (9 + 3 * s + f) = G 5 (7 * 1 + s) f) ∧ (∀ s f, 0 ≤ s → s < M + 1 → 0 ≤ f → f < 3 → paA G M (30 + 3 * s + f) = v1 f) ∧ (∀ f, f ≠ 0 → ¬ (9 ≤ f ∧ f < 9 + 3 * M) → ¬ (30 ≤ f ∧ f < 30 + 3 * (M + 1)) → paA G M f = 0) := by
  unfold paA
  refine ⟨if_pos rfl, fun s f z1 z2 z3 z4 => ?_, fun s f z1 z2 z3 z4 => ?_, fun f z1 z2 z3 => ?_⟩
  · rw [if_neg (by omega), if_pos (by omega), show (9 + 3 * s + f - 9) / 3 = s by omega, show (9 + 3 * s + f - 9) % 3 = f by omega]
  · rw [if_neg (by omega), if_neg (by omega), if_pos (by omega), show (30 + 3 * s + f - 30) % 3 = f by omega]
  · rw [if_neg z1, if_neg z2, if_neg z3]
theorem op_parse {G : GS} (hI : Inv G) : ∃ G2, lwU (f_X7_parse G) (fun G1 => f_X8_parse G1) = some G2 ∧ Inv G2 := by
  obtain ⟨A, S, c, len, T, i1, i2, i3⟩ := id hI
  obtain ⟨-, -, -, hl, hT⟩ := id i3
  obtain ⟨G1, a1, a2, a3, a4, a5⟩ := c_restart G 1
  have t1 : ∀ j, 0 ≤ j → j < len → G1 9 0 j = T j := fun j z1 z2 => by rw [a2 _ _ _ (by unfold ofR; omega)]; exact i1.2.2.2.2.2.2 j z1 z2
  have t2 : G1 4 0 1 = len := by rw [a2 _ _ _ (by unfold ofR; omega)]; exact i1.2.2.2.2.2.1
  have hb : ∀ s, 0 ≤ s → s < 7 → G1 5 (7 * 1 + s) 2 = 0 := fun s z1 z2 => by rw [a3 s 2 z1 z2 (by decide) (by decide)]; rfl
  obtain ⟨G3, Hx, e, rx, b1, -, b3, -, b5, b6⟩ := reads_both hl hT t1 t2 i2.2.2.2.2 i2.2.2.2.1 hb
  have f3 : ∀ k x f, ¬ ofR 1 k x → ¬ (k = 4 ∧ x = 0 ∧ f = 2) → G3 k x f = G k x f := fun k x f z1 z2 => by
    rw [b3 _ _ _ z2 (by unfold ofR at z1; omega) (by unfold ofR at z1; omega), a2 _ _ _ z1]
  have iC : IC G3 A S c len T := IC_fr i1 i3 (fun k x f z1 z2 z3 z4 z5 z6 => f3 _ _ _ z1 (by omega))
  rcases b6 with ⟨e1, -, M, gM⟩ | ⟨e1, -, -⟩
  · -- a good text
    subst e1
    obtain ⟨hM, -, gI, gR⟩ := gM
    obtain ⟨A', hA'⟩ : ∃ A', A' = paA G3 M := ⟨_, rfl⟩
    obtain ⟨p0, pS, pN, pZ⟩ := paA_r (G := G3) hM
    rw [← hA'] at p0 pS pN pZ
    have p7 := pZ 7 (by decide) (by omega) (by omega)
    have p8 := pZ 8 (by decide) (by omega) (by omega)
    have pz1 := pZ 1 (by decide) (by omega) (by omega)
    have rowN : ∀ n f, 0 ≤ n → n < 8 → 0 ≤ f → f < 3 → G3 1 (8 * 1 + n) f = v1 f := fun n f z1 z2 z3 z4 => by rw [b3 _ _ _ (by omega) (by omega) (by omega)]; exact a4 n f z1 z2 z3 z4
    have row3 : ∀ f, 5 ≤ f → f ≤ 12 → G3 3 1 f = 0 := fun f z1 z2 => by rw [b3 _ _ _ (by omega) (by omega) (by omega)]; exact a5 f z1 z2
    have R1 : Rd G3 1 A' := by
      refine ⟨?_, fun s z1 z2 => ?_, fun n z1 z2 => ?_, fun t z1 z2 => by omega, fun l z1 z2 => by omega, fun s z1 z2 => Or.inl (b5 s z1 z2), fun n z1 z2 => Or.inl ?_⟩
      · unfold RdH
        rw [gI, p0, p7, p8, pz1, pZ 2 (by decide) (by omega) (by omega), pZ 3 (by decide) (by omega) (by omega), pZ 4 (by decide) (by omega) (by omega), pZ 5 (by decide) (by omega) (by omega), pZ 6 (by decide) (by omega) (by omega), row3 5 (by decide) (by decide), row3 6 (by decide) (by decide), row3 7 (by decide) (by decide), row3 8 (by decide) (by decide), row3 9 (by decide) (by decide), row3 10 (by decide) (by decide), row3 11 (by decide) (by decide), row3 12 (by decide) (by decide)]
        exact ⟨rfl, rfl, rfl, rfl, rfl, rfl, rfl, rfl, rfl⟩
      · have q0 := pS s 0 z1 (by omega) (by decide) (by decide)
        rw [Int.add_zero] at q0
        unfold RdS
        rw [q0, pS s 1 z1 (by omega) (by decide) (by decide), pS s 2 z1 (by omega) (by decide) (by decide)]
        exact ⟨rfl, rfl, rfl⟩
      · have q0 := pN n 0 z1 (by omega) (by decide) (by decide)
        rw [Int.add_zero] at q0
        unfold RdN
        rw [q0, pN n 1 z1 (by omega) (by decide) (by decide), pN n 2 z1 (by omega) (by decide) (by decide), rowN n 0 z1 (by omega) (by decide) (by decide), rowN n 1 z1 (by omega) (by decide) (by decide), rowN n 2 z1 (by omega) (by decide) (by decide)]
        exact ⟨rfl, rfl, rfl⟩
      · rw [rowN n 2 z1 z2 (by decide) (by decide)]; rfl
    have W1 : Wf 10000 A' := by
      refine ⟨?_, fun s z1 z2 => ?_, fun n z1 z2 => ?_, fun t z1 z2 => by omega, fun l z1 z2 => by omega, fun l z1 z2 => by omega, fun t z1 z2 => by omega, fun l l' z1 z2 z3 => by omega⟩
      · unfold WfH
        rw [p0, p7, p8, pz1]
        omega
      · have q0 := pS s 0 z1 (by omega) (by decide) (by decide)
        rw [Int.add_zero] at q0
        obtain ⟨y1, y2, y3, y4, y5⟩ := gR s z1 (by omega)
        unfold WfS
        rw [q0, pS s 1 z1 (by omega) (by decide) (by decide), pS s 2 z1 (by omega) (by decide) (by decide), y1, y2, y3]
        exact ⟨y4, y5, Or.inl rfl⟩
      · have q0 := pN n 0 z1 (by omega) (by decide) (by decide)
        rw [Int.add_zero] at q0
        unfold WfN
        rw [q0, pN n 1 z1 (by omega) (by decide) (by decide), pN n 2 z1 (by omega) (by decide) (by decide)]
        decide
    obtain ⟨G8, c1, c2, c3⟩ := c_save iC i3
    have hp := IP_save i3
    have R8 : Rd G8 1 A' := Rd_fr R1 W1.1 (fun _ _ _ => rfl) (fun k x f z => c3 _ _ _ (by unfold ofR at z; omega) (by unfold ofR at z; omega) (fun r y1 y2 => by unfold ofR at z ⊢; omega))
    obtain ⟨G9, d1, d2, d3⟩ := c_copy (G := G8) (o := 0) (p := 1) (by decide) R8 W1
    have ic9 : IC G9 A' (psh A S c) (pc c) len T := IC_A c2 hp d2 (fun k x f z _ _ _ _ => d3 k x f z)
    have r9 : G9 3 0 4 = M + 1 := by rw [← p0]; exact d2.1.1
    have k9 : ∀ k x f, k = 8 ∨ k = 10 ∨ k = 11 ∨ k = 13 → G9 k x f = G k x f := fun k x f z => by rw [d3 _ _ _ (by unfold ofR; omega), frS_K c3 z, f3 _ _ _ (by unfold ofR; omega) (by omega)]
    have im9 : IM G9 A S c len T := IM_fr i2 (fun k x f z => k9 _ _ _ (by omega))
    -- the model
    obtain ⟨G3', H3, e', r, x1, x2, -, x4, -, x6⟩ := reads_both hl hT t1 t2 im9.2.2.2.2 im9.2.2.2.1 hb
    obtain ⟨eG, ee⟩ := some_pair (x1.symm.trans b1)
    subst eG ee
    rcases x6 with ⟨-, rfl, M', gM'⟩ | ⟨y, -⟩
    · obtain ⟨hM', h10, gI', gR'⟩ := gM'
      have eM : M' = M := by omega
      subst eM
      have im3 : IM H3 A S c len T := IM_fr im9 (fun k x f z => x4 _ _ _ (by omega) (by omega))
      obtain ⟨H7, s1, s2, s3⟩ := m_save im3 i3
      have h7 : H7 8 0 10 = M' := by rw [s3 _ _ _ (by omega) (by omega)]; exact h10
      obtain ⟨H8, q1, q2, q3, q4, q5⟩ := m_begins (H := H7) (n := M' + 1) (by omega)
      have h8 : H8 8 0 10 = M' := by rw [q2 _ _ _ (by omega)]; exact h7
      obtain ⟨N, hN⟩ : ∃ N : Nat, (N : Int) = M' := ⟨M'.toNat, by omega⟩
      obtain ⟨H9, w1, w2, w3⟩ := pair_loop (α := GS × Int) f_X8_parse_L35 N 9 (fun j => H3 10 4 (2 * j)) (fun j => H3 10 4 (2 * j + 1)) H8 (fun K i z1 z2 hK n k => by
        have k10 : K 8 0 10 = M' := by rw [hK _ _ _ (by omega)]; exact h8
        have r0 : K 10 4 (2 * i) = H3 10 4 (2 * i) := by rw [hK _ _ _ (by omega), q2 _ _ _ (by omega), s3 _ _ _ (by omega) (by omega)]
        obtain ⟨Ka, ea, na, va⟩ := gup_ex K 10 0 (9 + 3 * i) (H3 10 4 (2 * i))
        have r1 : Ka 10 4 (2 * i + 1) = H3 10 4 (2 * i + 1) := by rw [na _ _ _ (by omega), hK _ _ _ (by omega), q2 _ _ _ (by omega), s3 _ _ _ (by omega) (by omega)]
        rw [f_X8_parse_L35, gd_t ⟨by omega, by omega⟩, k10, gd_t ⟨by omega, by omega⟩, if_pos (by omega), ga_t ⟨by omega, by omega⟩, ga_t ⟨by omega, by omega⟩, ga_t ⟨by omega, by omega⟩, ga_t ⟨by omega, by omega⟩, r0, ea, r1, nm_eq]) (fun K hK n k => by
        have k10 : K 8 0 10 = M' := by rw [hK _ _ _ (by omega)]; exact h8
        rw [f_X8_parse_L35, gd_t ⟨by omega, by omega⟩, k10, gd_t ⟨by omega, by omega⟩, if_neg (by omega)])
      have hg : gFuel = 3000 := rfl
      have m0 : H9 10 0 0 = M' + 1 := by rw [w2 _ _ _ (by omega)]; exact q3
      refine ⟨gup H9 8 0 4 0, turnU (a := M' + 1) (G1 := G9) ?_ ?_ ⟨by omega, by omega⟩, A', psh A S c, pc c, len, T, IC_fr ic9 ⟨W1, hp.2⟩ (fun k x f z1 z2 z3 z4 z5 z6 => ?_), IM_A s2 (fun f z1 z2 => ?_) (fun k x f z => ?_), ⟨W1, hp.2⟩⟩
      · unfold f_X7_parse
        rw [a1, bn1_some, b1, bnd_some, gd_t (by decide), if_pos rfl, c1, bn1_some, d1, bn1_some, r9]
      · unfold f_X8_parse
        rw [x2, bnd_some, gd_t (by decide), if_neg (by decide), s1, bn1_some, h7, q1, bn1_some, w1 gFuel _ (by omega), m0, m_fine]
      · rw [gup_n (by omega), w2 _ _ _ (by omega), q2 _ _ _ (by omega), s3 _ _ _ (by omega) (by omega), x4 _ _ _ (by omega) (by omega)]
      · rw [gup_n (by omega)]
        by_cases z0 : f = 0
        · rw [z0, m0, p0]
        · by_cases zs : 9 ≤ f ∧ f < 9 + 3 * M'
          · obtain ⟨s, x, hs, hx, ef⟩ : ∃ s x : Int, (0 ≤ s ∧ s < M') ∧ (0 ≤ x ∧ x < 3) ∧ f = 9 + 3 * s + x := ⟨(f - 9) / 3, (f - 9) % 3, by omega, by omega, by omega⟩
            obtain ⟨u1, u2, u3⟩ := w3 s hs.1 (by omega)
            obtain ⟨y1, y2, y3, y4, y5⟩ := gR' s hs.1 hs.2
            rw [ef, pS s x hs.1 hs.2 hx.1 hx.2]
            rcases (show x = 0 ∨ x = 1 ∨ x = 2 by omega) with rfl | rfl | rfl
            · rw [Int.add_zero, u1, y1]
            · rw [u2, y2]
            · rw [u3, y3]
              exact q5 _ (by omega) (by omega) (by omega)
          · by_cases zn : 30 ≤ f ∧ f < 30 + 3 * (M' + 1)
            · obtain ⟨s, x, hs, hx, ef⟩ : ∃ s x : Int, (0 ≤ s ∧ s < M' + 1) ∧ (0 ≤ x ∧ x < 3) ∧ f = 30 + 3 * s + x := ⟨(f - 30) / 3, (f - 30) % 3, by omega, by omega, by omega⟩
              obtain ⟨u1, u2, u3⟩ := q4 s hs.1 (by omega)
              rw [w2 _ _ _ (by omega), ef, pN s x hs.1 hs.2 hx.1 hx.2]
              rcases (show x = 0 ∨ x = 1 ∨ x = 2 by omega) with rfl | rfl | rfl
              · rw [Int.add_zero, u1]; rfl
              · rw [u2]; rfl
              · rw [u3]; rfl
            · rw [w2 _ _ _ (by omega), pZ f z0 zs zn]
              exact q5 f (by omega) z2 zn
      · rw [gup_n (by omega), w2 _ _ _ (by omega), q2 _ _ _ (by omega)]
    · omega
  · -- a syntax error
    have k3 : ∀ k x f, k = 8 ∨ k = 10 ∨ k = 11 ∨ k = 13 → G3 k x f = G k x f := fun k x f z => f3 _ _ _ (by unfold ofR; omega) (by omega)
    have im3 : IM G3 A S c len T := IM_fr i2 (fun k x f z => k3 _ _ _ (by omega))
    obtain ⟨G3', H3, e', r, x1, x2, -, x4, -, x6⟩ := reads_both hl hT t1 t2 im3.2.2.2.2 im3.2.2.2.1 hb
    obtain ⟨eG, ee⟩ := some_pair (x1.symm.trans b1)
    subst eG ee
    rcases x6 with ⟨y, -⟩ | ⟨-, rfl, y⟩
    · omega
    · refine ⟨gup H3 8 0 4 0, turnU (a := -10 - e') (G1 := G3') ?_ ?_ ⟨by omega, by omega⟩, A, S, c, len, T, IC_fr iC i3 (fun k x f z1 z2 z3 z4 z5 z6 => ?_), IM_fr im3 (fun k x f z => ?_), i3⟩
      · unfold f_X7_parse
        rw [a1, bn1_some, b1, bnd_some, gd_t ⟨by omega, by omega⟩, if_neg (by omega)]
      · unfold f_X8_parse
        rw [x2, bnd_some, gd_t (by decide), if_pos rfl, y, m_fine]
      · rw [gup_n (by omega), x4 _ _ _ (by omega) (by omega)]
      · rw [gup_n (by omega), x4 _ _ _ (by omega) (by omega)]

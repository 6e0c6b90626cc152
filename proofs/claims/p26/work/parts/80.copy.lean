/-! LOOPS THAT COPY -/
theorem arr_loop {α : Type} (L : Nat → GS → Int → (GS → Int → Option α) → Option α) (N : Nat) (a b : Int) (v : Int → Int) (G0 : GS)
    (step : ∀ G i, 0 ≤ i → i < (N : Int) → (∀ k x f, ¬ (k = 10 ∧ x = a ∧ b ≤ f ∧ f < b + i) → G k x f = G0 k x f) → ∀ n k, L (n + 1) G i k = L n (gup G 10 a (b + i) (v i)) (i + 1) k)
    (fin : ∀ G, (∀ k x f, ¬ (k = 10 ∧ x = a ∧ b ≤ f ∧ f < b + (N : Int)) → G k x f = G0 k x f) → ∀ n k, L (n + 1) G N k = k G N) :
    ∃ G', (∀ n k, N < n → L n G0 0 k = k G' N) ∧ (∀ k x f, ¬ (k = 10 ∧ x = a ∧ b ≤ f ∧ f < b + (N : Int)) → G' k x f = G0 k x f) ∧ ∀ j : Int, 0 ≤ j → j < (N : Int) → G' 10 a (b + j) = v j := by
  have main : ∀ (d : Nat) (i : Nat) (G : GS), i + d = N → (∀ k x f, ¬ (k = 10 ∧ x = a ∧ b ≤ f ∧ f < b + (i : Int)) → G k x f = G0 k x f) → (∀ j : Int, 0 ≤ j → j < (i : Int) → G 10 a (b + j) = v j) → ∃ G', (∀ n k, d < n → L n G i k = k G' N) ∧ (∀ k x f, ¬ (k = 10 ∧ x = a ∧ b ≤ f ∧ f < b + (N : Int)) → G' k x f = G0 k x f) ∧ ∀ j : Int, 0 ≤ j → j < (N : Int) → G' 10 a (b + j) = v j := by
    intro d
    induction d with
    | zero =>
      intro i G hi hf hv
      have e : i = N := by omega
      subst e
      refine ⟨G, fun n k hn => ?_, hf, hv⟩
      obtain ⟨n, rfl⟩ : ∃ q, n = q + 1 := ⟨n - 1, by omega⟩
      exact fin G hf n k
    | succ d ih =>
      intro i G hi hf hv
      obtain ⟨Ga, ea, fa, va⟩ := gup_ex G 10 a (b + i) (v i)
      have ei : ((i + 1 : Nat) : Int) = (i : Int) + 1 := by omega
      obtain ⟨G', q1, q2, q3⟩ := ih (i + 1) Ga (by omega) (fun k x f z => by rw [fa _ _ _ (by omega), hf _ _ _ (by omega)]) (fun j z1 z2 => by
        by_cases hj : j = i
        · rw [hj, va]
        · rw [fa _ _ _ (by omega)]
          exact hv j z1 (by omega))
      rw [ei] at q1
      refine ⟨G', fun n k hn => ?_, q2, q3⟩
      obtain ⟨n, rfl⟩ : ∃ q, n = q + 1 := ⟨n - 1, by omega⟩
      rw [step G i (by omega) (by omega) hf n k, ea]
      exact q1 n k (by omega)
  exact main N 0 G0 (by omega) (fun _ _ _ _ => rfl) (fun j z1 z2 => by omega)
theorem rows_loop {α : Type} (L : Nat → GS → Int → (GS → Int → Option α) → Option α) (N : Nat) (kk : Nat) (b c nf : Int) (G0 : GS) (hbc : c + N ≤ b ∨ b + N ≤ c)
    (step : ∀ G i, 0 ≤ i → i < (N : Int) → (∀ k x f, ¬ (k = kk ∧ b ≤ x ∧ x < b + (N : Int)) → G k x f = G0 k x f) → ∃ G', (∀ n k, L (n + 1) G i k = L n G' (i + 1) k) ∧ (∀ k x f, ¬ (k = kk ∧ x = b + i) → G' k x f = G k x f) ∧ ∀ f, 0 ≤ f → f < nf → G' kk (b + i) f = G kk (c + i) f)
    (fin : ∀ G, (∀ k x f, ¬ (k = kk ∧ b ≤ x ∧ x < b + (N : Int)) → G k x f = G0 k x f) → ∀ n k, L (n + 1) G N k = k G N) :
    ∃ G', (∀ n k, N < n → L n G0 0 k = k G' N) ∧ (∀ k x f, ¬ (k = kk ∧ b ≤ x ∧ x < b + (N : Int)) → G' k x f = G0 k x f) ∧ ∀ i f : Int, 0 ≤ i → i < (N : Int) → 0 ≤ f → f < nf → G' kk (b + i) f = G0 kk (c + i) f := by
  have main : ∀ (d : Nat) (i : Nat) (G : GS), i + d = N → (∀ k x f, ¬ (k = kk ∧ b ≤ x ∧ x < b + (i : Int)) → G k x f = G0 k x f) → (∀ j f : Int, 0 ≤ j → j < (i : Int) → 0 ≤ f → f < nf → G kk (b + j) f = G0 kk (c + j) f) → ∃ G', (∀ n k, d < n → L n G i k = k G' N) ∧ (∀ k x f, ¬ (k = kk ∧ b ≤ x ∧ x < b + (N : Int)) → G' k x f = G0 k x f) ∧ ∀ i f : Int, 0 ≤ i → i < (N : Int) → 0 ≤ f → f < nf → G' kk (b + i) f = G0 kk (c + i) f := by
    intro d
    induction d with
    | zero =>
      intro i G hi hf hv
      have e : i = N := by omega
      subst e
      refine ⟨G, fun n k hn => ?_, hf, hv⟩
      obtain ⟨n, rfl⟩ : ∃ q, n = q + 1 := ⟨n - 1, by omega⟩
      exact fin G hf n k
    | succ d ih =>
      intro i G hi hf hv
      obtain ⟨Ga, ea, fa, va⟩ := step G i (by omega) (by omega) (fun k x f z => hf k x f (by omega))
      have ei : ((i + 1 : Nat) : Int) = (i : Int) + 1 := by omega
      obtain ⟨G', q1, q2, q3⟩ := ih (i + 1) Ga (by omega) (fun k x f z => by rw [fa _ _ _ (by omega), hf _ _ _ (by omega)]) (fun j f z1 z2 z3 z4 => by
        by_cases hj : j = i
        · rw [hj, va f z3 z4, hf _ _ _ (by omega)]
        · rw [fa _ _ _ (by omega)]
          exact hv j f z1 (by omega) z3 z4)
      rw [ei] at q1
      refine ⟨G', fun n k hn => ?_, q2, q3⟩
      obtain ⟨n, rfl⟩ : ∃ q, n = q + 1 := ⟨n - 1, by omega⟩
      rw [ea n k]
      exact q1 n k (by omega)
  exact main N 0 G0 (by omega) (fun _ _ _ _ => rfl) (fun j f z1 z2 => by omega)
/-! ROWS SET AND COPIED -/
theorem c_set5 {G : GS} {o p1 p2 p3 : Int} (h : p3 = 0 ∨ p3 = 1) : ∃ G', f_X5_set G o p1 p2 p3 = some G' ∧ (∀ k x f, ¬ (k = 5 ∧ x = o) → G' k x f = G k x f) ∧ G' 5 o 0 = p1 ∧ G' 5 o 1 = p2 ∧ G' 5 o 2 = p3 := by
  obtain ⟨G0, e0, f0, v0⟩ := gup_ex G 5 o 0 p1
  obtain ⟨G1, e1, f1, v1⟩ := gup_ex G0 5 o 1 p2
  obtain ⟨G2, e2, f2, v2⟩ := gup_ex G1 5 o 2 p3
  refine ⟨G2, ?_, fun k x f z => ?_, ?_, ?_, v2⟩
  · unfold f_X5_set
    rw [gb_t h, e0, e1, e2]
  · rw [f2 _ _ _ (by omega), f1 _ _ _ (by omega), f0 _ _ _ (by omega)]
  · rw [f2 _ _ _ (by omega), f1 _ _ _ (by omega), v0]
  · rw [f2 _ _ _ (by omega), v1]
theorem c_copy5 {G : GS} {o p : Int} (h : G 5 p 2 = 0 ∨ G 5 p 2 = 1) : ∃ G', f_X5_copyFrom G o p = some G' ∧ (∀ k x f, ¬ (k = 5 ∧ x = o) → G' k x f = G k x f) ∧ ∀ f, 0 ≤ f → f < 3 → G' 5 o f = G 5 p f := by
  obtain ⟨G1, e1, f1, v0, v1, v2⟩ := c_set5 (G := G) (o := o) (p1 := G 5 p 0) (p2 := G 5 p 1) h
  refine ⟨G1, ?_, f1, fun f z1 z2 => ?_⟩
  · unfold f_X5_copyFrom
    rw [e1, bn1_some]
  · rcases (show f = 0 ∨ f = 1 ∨ f = 2 by omega) with rfl | rfl | rfl
    · exact v0
    · exact v1
    · exact v2
theorem c_set1 {G : GS} {o p1 p2 p3 : Int} (h : p3 = 0 ∨ p3 = 1) : ∃ G', f_X1_set G o p1 p2 p3 = some G' ∧ (∀ k x f, ¬ (k = 1 ∧ x = o) → G' k x f = G k x f) ∧ G' 1 o 0 = p1 ∧ G' 1 o 1 = p2 ∧ G' 1 o 2 = p3 := by
  obtain ⟨G0, e0, f0, v0⟩ := gup_ex G 1 o 0 p1
  obtain ⟨G1, e1, f1, v1⟩ := gup_ex G0 1 o 1 p2
  obtain ⟨G2, e2, f2, v2⟩ := gup_ex G1 1 o 2 p3
  refine ⟨G2, ?_, fun k x f z => ?_, ?_, ?_, v2⟩
  · unfold f_X1_set
    rw [gb_t h, e0, e1, e2]
  · rw [f2 _ _ _ (by omega), f1 _ _ _ (by omega), f0 _ _ _ (by omega)]
  · rw [f2 _ _ _ (by omega), f1 _ _ _ (by omega), v0]
  · rw [f2 _ _ _ (by omega), v1]
theorem c_copy1 {G : GS} {o p : Int} (h : G 1 p 2 = 0 ∨ G 1 p 2 = 1) : ∃ G', f_X1_copyFrom G o p = some G' ∧ (∀ k x f, ¬ (k = 1 ∧ x = o) → G' k x f = G k x f) ∧ ∀ f, 0 ≤ f → f < 3 → G' 1 o f = G 1 p f := by
  obtain ⟨G1, e1, f1, v0, v1, v2⟩ := c_set1 (G := G) (o := o) (p1 := G 1 p 0) (p2 := G 1 p 1) h
  refine ⟨G1, ?_, f1, fun f z1 z2 => ?_⟩
  · unfold f_X1_copyFrom
    rw [e1, bn1_some]
  · rcases (show f = 0 ∨ f = 1 ∨ f = 2 by omega) with rfl | rfl | rfl
    · exact v0
    · exact v1
    · exact v2
theorem c_copy6 {G : GS} {o p : Int} (hop : o ≠ p) (h4 : G 6 p 4 = 0 ∨ G 6 p 4 = 1) (h7 : G 6 p 7 = 0 ∨ G 6 p 7 = 1) : ∃ G', f_X6_copyFrom G o p = some G' ∧ (∀ k x f, ¬ (k = 6 ∧ x = o) → G' k x f = G k x f) ∧ ∀ f, 0 ≤ f → f < 12 → G' 6 o f = G 6 p f := by
  obtain ⟨G0, e0, f0, v0⟩ := gup_ex G 6 o 0 (G 6 p 0)
  obtain ⟨G1, e1, f1, v1⟩ := gup_ex G0 6 o 1 (G0 6 p 1)
  obtain ⟨G2, e2, f2, v2⟩ := gup_ex G1 6 o 2 (G1 6 p 2)
  obtain ⟨G3, e3, f3, v3⟩ := gup_ex G2 6 o 3 (G2 6 p 3)
  obtain ⟨G4, e4, f4, v4⟩ := gup_ex G3 6 o 4 (G3 6 p 4)
  obtain ⟨G5, e5, f5, v5⟩ := gup_ex G4 6 o 5 (G4 6 p 5)
  obtain ⟨G6, e6, f6, v6⟩ := gup_ex G5 6 o 6 (G5 6 p 6)
  obtain ⟨G7, e7, f7, v7⟩ := gup_ex G6 6 o 7 (G6 6 p 7)
  obtain ⟨G8, e8, f8, v8⟩ := gup_ex G7 6 o 8 (G7 6 p 8)
  obtain ⟨G9, e9, f9, v9⟩ := gup_ex G8 6 o 9 (G8 6 p 9)
  obtain ⟨G10, e10, f10, v10⟩ := gup_ex G9 6 o 10 (G9 6 p 10)
  obtain ⟨G11, e11, f11, v11⟩ := gup_ex G10 6 o 11 (G10 6 p 11)
  refine ⟨G11, ?_, fun k x f z => ?_, fun f z1 z2 => ?_⟩
  · unfold f_X6_copyFrom
    rw [e0, e1, e2, nm_eq, e3, gb_t (by rw [f3 _ _ _ (by omega), f2 _ _ _ (by omega), f1 _ _ _ (by omega), f0 _ _ _ (by omega)]; exact h4), e4, e5, nm_eq, e6, gb_t (by rw [f6 _ _ _ (by omega), f5 _ _ _ (by omega), f4 _ _ _ (by omega), f3 _ _ _ (by omega), f2 _ _ _ (by omega), f1 _ _ _ (by omega), f0 _ _ _ (by omega)]; exact h7), e7, e8, nm_eq, e9, e10, e11, nm_eq]
  · rw [f11 _ _ _ (by omega), f10 _ _ _ (by omega), f9 _ _ _ (by omega), f8 _ _ _ (by omega), f7 _ _ _ (by omega), f6 _ _ _ (by omega), f5 _ _ _ (by omega), f4 _ _ _ (by omega), f3 _ _ _ (by omega), f2 _ _ _ (by omega), f1 _ _ _ (by omega), f0 _ _ _ (by omega)]
  · rcases (show f = 0 ∨ f = 1 ∨ f = 2 ∨ f = 3 ∨ f = 4 ∨ f = 5 ∨ f = 6 ∨ f = 7 ∨ f = 8 ∨ f = 9 ∨ f = 10 ∨ f = 11 by omega) with rfl | rfl | rfl | rfl | rfl | rfl | rfl | rfl | rfl | rfl | rfl | rfl
    · rw [f11 _ _ _ (by omega), f10 _ _ _ (by omega), f9 _ _ _ (by omega), f8 _ _ _ (by omega), f7 _ _ _ (by omega), f6 _ _ _ (by omega), f5 _ _ _ (by omega), f4 _ _ _ (by omega), f3 _ _ _ (by omega), f2 _ _ _ (by omega), f1 _ _ _ (by omega), v0]
    · rw [f11 _ _ _ (by omega), f10 _ _ _ (by omega), f9 _ _ _ (by omega), f8 _ _ _ (by omega), f7 _ _ _ (by omega), f6 _ _ _ (by omega), f5 _ _ _ (by omega), f4 _ _ _ (by omega), f3 _ _ _ (by omega), f2 _ _ _ (by omega), v1, f0 _ _ _ (by omega)]
    · rw [f11 _ _ _ (by omega), f10 _ _ _ (by omega), f9 _ _ _ (by omega), f8 _ _ _ (by omega), f7 _ _ _ (by omega), f6 _ _ _ (by omega), f5 _ _ _ (by omega), f4 _ _ _ (by omega), f3 _ _ _ (by omega), v2, f1 _ _ _ (by omega), f0 _ _ _ (by omega)]
    · rw [f11 _ _ _ (by omega), f10 _ _ _ (by omega), f9 _ _ _ (by omega), f8 _ _ _ (by omega), f7 _ _ _ (by omega), f6 _ _ _ (by omega), f5 _ _ _ (by omega), f4 _ _ _ (by omega), v3, f2 _ _ _ (by omega), f1 _ _ _ (by omega), f0 _ _ _ (by omega)]
    · rw [f11 _ _ _ (by omega), f10 _ _ _ (by omega), f9 _ _ _ (by omega), f8 _ _ _ (by omega), f7 _ _ _ (by omega), f6 _ _ _ (by omega), f5 _ _ _ (by omega), v4, f3 _ _ _ (by omega), f2 _ _ _ (by omega), f1 _ _ _ (by omega), f0 _ _ _ (by omega)]
    · rw [f11 _ _ _ (by omega), f10 _ _ _ (by omega), f9 _ _ _ (by omega), f8 _ _ _ (by omega), f7 _ _ _ (by omega), f6 _ _ _ (by omega), v5, f4 _ _ _ (by omega), f3 _ _ _ (by omega), f2 _ _ _ (by omega), f1 _ _ _ (by omega), f0 _ _ _ (by omega)]
    · rw [f11 _ _ _ (by omega), f10 _ _ _ (by omega), f9 _ _ _ (by omega), f8 _ _ _ (by omega), f7 _ _ _ (by omega), v6, f5 _ _ _ (by omega), f4 _ _ _ (by omega), f3 _ _ _ (by omega), f2 _ _ _ (by omega), f1 _ _ _ (by omega), f0 _ _ _ (by omega)]
    · rw [f11 _ _ _ (by omega), f10 _ _ _ (by omega), f9 _ _ _ (by omega), f8 _ _ _ (by omega), v7, f6 _ _ _ (by omega), f5 _ _ _ (by omega), f4 _ _ _ (by omega), f3 _ _ _ (by omega), f2 _ _ _ (by omega), f1 _ _ _ (by omega), f0 _ _ _ (by omega)]
    · rw [f11 _ _ _ (by omega), f10 _ _ _ (by omega), f9 _ _ _ (by omega), v8, f7 _ _ _ (by omega), f6 _ _ _ (by omega), f5 _ _ _ (by omega), f4 _ _ _ (by omega), f3 _ _ _ (by omega), f2 _ _ _ (by omega), f1 _ _ _ (by omega), f0 _ _ _ (by omega)]
    · rw [f11 _ _ _ (by omega), f10 _ _ _ (by omega), v9, f8 _ _ _ (by omega), f7 _ _ _ (by omega), f6 _ _ _ (by omega), f5 _ _ _ (by omega), f4 _ _ _ (by omega), f3 _ _ _ (by omega), f2 _ _ _ (by omega), f1 _ _ _ (by omega), f0 _ _ _ (by omega)]
    · rw [f11 _ _ _ (by omega), v10, f9 _ _ _ (by omega), f8 _ _ _ (by omega), f7 _ _ _ (by omega), f6 _ _ _ (by omega), f5 _ _ _ (by omega), f4 _ _ _ (by omega), f3 _ _ _ (by omega), f2 _ _ _ (by omega), f1 _ _ _ (by omega), f0 _ _ _ (by omega)]
    · rw [v11, f10 _ _ _ (by omega), f9 _ _ _ (by omega), f8 _ _ _ (by omega), f7 _ _ _ (by omega), f6 _ _ _ (by omega), f5 _ _ _ (by omega), f4 _ _ _ (by omega), f3 _ _ _ (by omega), f2 _ _ _ (by omega), f1 _ _ _ (by omega), f0 _ _ _ (by omega)]
theorem c_copy2 {G : GS} {o p : Int} (hop : o ≠ p) (h2 : G 2 p 2 = 0 ∨ G 2 p 2 = 1) : ∃ G', f_X2_copyFrom G o p = some G' ∧ (∀ k x f, ¬ (k = 2 ∧ x = o) → G' k x f = G k x f) ∧ ∀ f, 0 ≤ f → f < 8 → G' 2 o f = G 2 p f := by
  obtain ⟨G0, e0, f0, v0⟩ := gup_ex G 2 o 0 (G 2 p 0)
  obtain ⟨G1, e1, f1, v1⟩ := gup_ex G0 2 o 1 (G0 2 p 1)
  obtain ⟨G2, e2, f2, v2⟩ := gup_ex G1 2 o 2 (G1 2 p 2)
  obtain ⟨G3, e3, f3, v3⟩ := gup_ex G2 2 o 3 (G2 2 p 3)
  obtain ⟨G4, e4, f4, v4⟩ := gup_ex G3 2 o 4 (G3 2 p 4)
  obtain ⟨G5, e5, f5, v5⟩ := gup_ex G4 2 o 5 (G4 2 p 5)
  obtain ⟨G6, e6, f6, v6⟩ := gup_ex G5 2 o 6 (G5 2 p 6)
  obtain ⟨G7, e7, f7, v7⟩ := gup_ex G6 2 o 7 (G6 2 p 7)
  refine ⟨G7, ?_, fun k x f z => ?_, fun f z1 z2 => ?_⟩
  · unfold f_X2_copyFrom
    rw [e0, e1, gb_t (by rw [f1 _ _ _ (by omega), f0 _ _ _ (by omega)]; exact h2), e2, nm_eq, e3, e4, e5, nm_eq, e6, e7]
  · rw [f7 _ _ _ (by omega), f6 _ _ _ (by omega), f5 _ _ _ (by omega), f4 _ _ _ (by omega), f3 _ _ _ (by omega), f2 _ _ _ (by omega), f1 _ _ _ (by omega), f0 _ _ _ (by omega)]
  · rcases (show f = 0 ∨ f = 1 ∨ f = 2 ∨ f = 3 ∨ f = 4 ∨ f = 5 ∨ f = 6 ∨ f = 7 by omega) with rfl | rfl | rfl | rfl | rfl | rfl | rfl | rfl
    · rw [f7 _ _ _ (by omega), f6 _ _ _ (by omega), f5 _ _ _ (by omega), f4 _ _ _ (by omega), f3 _ _ _ (by omega), f2 _ _ _ (by omega), f1 _ _ _ (by omega), v0]
    · rw [f7 _ _ _ (by omega), f6 _ _ _ (by omega), f5 _ _ _ (by omega), f4 _ _ _ (by omega), f3 _ _ _ (by omega), f2 _ _ _ (by omega), v1, f0 _ _ _ (by omega)]
    · rw [f7 _ _ _ (by omega), f6 _ _ _ (by omega), f5 _ _ _ (by omega), f4 _ _ _ (by omega), f3 _ _ _ (by omega), v2, f1 _ _ _ (by omega), f0 _ _ _ (by omega)]
    · rw [f7 _ _ _ (by omega), f6 _ _ _ (by omega), f5 _ _ _ (by omega), f4 _ _ _ (by omega), v3, f2 _ _ _ (by omega), f1 _ _ _ (by omega), f0 _ _ _ (by omega)]
    · rw [f7 _ _ _ (by omega), f6 _ _ _ (by omega), f5 _ _ _ (by omega), v4, f3 _ _ _ (by omega), f2 _ _ _ (by omega), f1 _ _ _ (by omega), f0 _ _ _ (by omega)]
    · rw [f7 _ _ _ (by omega), f6 _ _ _ (by omega), v5, f4 _ _ _ (by omega), f3 _ _ _ (by omega), f2 _ _ _ (by omega), f1 _ _ _ (by omega), f0 _ _ _ (by omega)]
    · rw [f7 _ _ _ (by omega), v6, f5 _ _ _ (by omega), f4 _ _ _ (by omega), f3 _ _ _ (by omega), f2 _ _ _ (by omega), f1 _ _ _ (by omega), f0 _ _ _ (by omega)]
    · rw [v7, f6 _ _ _ (by omega), f5 _ _ _ (by omega), f4 _ _ _ (by omega), f3 _ _ _ (by omega), f2 _ _ _ (by omega), f1 _ _ _ (by omega), f0 _ _ _ (by omega)]
theorem c_copyHead {G : GS} {o p : Int} (hop : o ≠ p) : ∃ G', f_X3_copyFrom G o p = f_X3_copyFrom_L74 o p gFuel G' 0 (fun G15 y2_14 => f_X3_copyFrom_L103 o p gFuel G15 0 (fun G24 y2_23 => f_X3_copyFrom_L132 o p gFuel G24 0 (fun G34 y2_33 => f_X3_copyFrom_L161 o p gFuel G34 0 (fun G44 y2_43 => some G44)))) ∧ (∀ k x f, ¬ (k = 3 ∧ x = o) → G' k x f = G k x f) ∧ ∀ f, 4 ≤ f → f ≤ 12 → G' 3 o f = G 3 p f := by
  obtain ⟨G0, e0, f0, v0⟩ := gup_ex G 3 o 4 (G 3 p 4)
  obtain ⟨G1, e1, f1, v1⟩ := gup_ex G0 3 o 5 (G0 3 p 5)
  obtain ⟨G2, e2, f2, v2⟩ := gup_ex G1 3 o 6 (G1 3 p 6)
  obtain ⟨G3, e3, f3, v3⟩ := gup_ex G2 3 o 7 (G2 3 p 7)
  obtain ⟨G4, e4, f4, v4⟩ := gup_ex G3 3 o 8 (G3 3 p 8)
  obtain ⟨G5, e5, f5, v5⟩ := gup_ex G4 3 o 9 (G4 3 p 9)
  obtain ⟨G6, e6, f6, v6⟩ := gup_ex G5 3 o 10 (G5 3 p 10)
  obtain ⟨G7, e7, f7, v7⟩ := gup_ex G6 3 o 11 (G6 3 p 11)
  obtain ⟨G8, e8, f8, v8⟩ := gup_ex G7 3 o 12 (G7 3 p 12)
  refine ⟨G8, ?_, fun k x f z => ?_, fun f z1 z2 => ?_⟩
  · unfold f_X3_copyFrom
    rw [e0, e1, e2, nm_eq, e3, e4, e5, nm_eq, e6, e7, e8, nm_eq]
  · rw [f8 _ _ _ (by omega), f7 _ _ _ (by omega), f6 _ _ _ (by omega), f5 _ _ _ (by omega), f4 _ _ _ (by omega), f3 _ _ _ (by omega), f2 _ _ _ (by omega), f1 _ _ _ (by omega), f0 _ _ _ (by omega)]
  · rcases (show f = 4 ∨ f = 5 ∨ f = 6 ∨ f = 7 ∨ f = 8 ∨ f = 9 ∨ f = 10 ∨ f = 11 ∨ f = 12 by omega) with rfl | rfl | rfl | rfl | rfl | rfl | rfl | rfl | rfl
    · rw [f8 _ _ _ (by omega), f7 _ _ _ (by omega), f6 _ _ _ (by omega), f5 _ _ _ (by omega), f4 _ _ _ (by omega), f3 _ _ _ (by omega), f2 _ _ _ (by omega), f1 _ _ _ (by omega), v0]
    · rw [f8 _ _ _ (by omega), f7 _ _ _ (by omega), f6 _ _ _ (by omega), f5 _ _ _ (by omega), f4 _ _ _ (by omega), f3 _ _ _ (by omega), f2 _ _ _ (by omega), v1, f0 _ _ _ (by omega)]
    · rw [f8 _ _ _ (by omega), f7 _ _ _ (by omega), f6 _ _ _ (by omega), f5 _ _ _ (by omega), f4 _ _ _ (by omega), f3 _ _ _ (by omega), v2, f1 _ _ _ (by omega), f0 _ _ _ (by omega)]
    · rw [f8 _ _ _ (by omega), f7 _ _ _ (by omega), f6 _ _ _ (by omega), f5 _ _ _ (by omega), f4 _ _ _ (by omega), v3, f2 _ _ _ (by omega), f1 _ _ _ (by omega), f0 _ _ _ (by omega)]
    · rw [f8 _ _ _ (by omega), f7 _ _ _ (by omega), f6 _ _ _ (by omega), f5 _ _ _ (by omega), v4, f3 _ _ _ (by omega), f2 _ _ _ (by omega), f1 _ _ _ (by omega), f0 _ _ _ (by omega)]
    · rw [f8 _ _ _ (by omega), f7 _ _ _ (by omega), f6 _ _ _ (by omega), v5, f4 _ _ _ (by omega), f3 _ _ _ (by omega), f2 _ _ _ (by omega), f1 _ _ _ (by omega), f0 _ _ _ (by omega)]
    · rw [f8 _ _ _ (by omega), f7 _ _ _ (by omega), v6, f5 _ _ _ (by omega), f4 _ _ _ (by omega), f3 _ _ _ (by omega), f2 _ _ _ (by omega), f1 _ _ _ (by omega), f0 _ _ _ (by omega)]
    · rw [f8 _ _ _ (by omega), v7, f6 _ _ _ (by omega), f5 _ _ _ (by omega), f4 _ _ _ (by omega), f3 _ _ _ (by omega), f2 _ _ _ (by omega), f1 _ _ _ (by omega), f0 _ _ _ (by omega)]
    · rw [v8, f7 _ _ _ (by omega), f6 _ _ _ (by omega), f5 _ _ _ (by omega), f4 _ _ _ (by omega), f3 _ _ _ (by omega), f2 _ _ _ (by omega), f1 _ _ _ (by omega), f0 _ _ _ (by omega)]
/-! WHAT TIES THEM, WHERE ROWS ARE COPIED -/
theorem Rd_copy {G G' : GS} {o p m : Int} {A A' : Int → Int} (h : Rd G p A) (hw : WfH m A) (e : ∀ f, 0 ≤ f → f < 260 → A' f = A f) (k3 : ∀ f, 4 ≤ f → f ≤ 12 → G' 3 o f = G 3 p f) (k5 : ∀ s f : Int, 0 ≤ s → s < 7 → 0 ≤ f → f < 3 → G' 5 (7 * o + s) f = G 5 (7 * p + s) f) (k1 : ∀ s f : Int, 0 ≤ s → s < 8 → 0 ≤ f → f < 3 → G' 1 (8 * o + s) f = G 1 (8 * p + s) f) (k6 : ∀ t f : Int, 0 ≤ t → t < A 7 → 0 ≤ f → f < 12 → G' 6 (10 * o + t) f = G 6 (10 * p + t) f) (k2 : ∀ t f : Int, 0 ≤ t → t < A 8 → 0 ≤ f → f < 8 → G' 2 (12 * o + t) f = G 2 (12 * p + t) f) : Rd G' o A' := by
  obtain ⟨r1, r2, r3, r4, r5, r6, r7⟩ := h
  unfold WfH at hw
  have e0 := e 0 (by decide) (by decide)
  have e7 := e 7 (by decide) (by decide)
  have e8 := e 8 (by decide) (by decide)
  refine ⟨?_, fun s h1 h2 => ?_, fun s h1 h2 => ?_, fun s h1 h2 => ?_, fun s h1 h2 => ?_, fun s h1 h2 => ?_, fun s h1 h2 => ?_⟩
  · unfold RdH at r1 ⊢
    rw [k3 4 (by decide) (by decide), k3 5 (by decide) (by decide), k3 6 (by decide) (by decide), k3 7 (by decide) (by decide), k3 8 (by decide) (by decide), k3 9 (by decide) (by decide), k3 10 (by decide) (by decide), k3 11 (by decide) (by decide), k3 12 (by decide) (by decide), e 0 (by decide) (by decide), e 7 (by decide) (by decide), e 8 (by decide) (by decide), e 1 (by decide) (by decide), e 2 (by decide) (by decide), e 3 (by decide) (by decide), e 4 (by decide) (by decide), e 5 (by decide) (by decide), e 6 (by decide) (by decide)]
    exact r1
  · have r := r2 s h1 (by omega)
    unfold RdS at r ⊢
    rw [k5 s 0 h1 (by omega) (by decide) (by decide), k5 s 1 h1 (by omega) (by decide) (by decide), k5 s 2 h1 (by omega) (by decide) (by decide), e (9 + 3 * s) (by omega) (by omega), e (9 + 3 * s + 1) (by omega) (by omega), e (9 + 3 * s + 2) (by omega) (by omega)]
    exact r
  · have r := r3 s h1 (by omega)
    unfold RdN at r ⊢
    rw [k1 s 0 h1 (by omega) (by decide) (by decide), k1 s 1 h1 (by omega) (by decide) (by decide), k1 s 2 h1 (by omega) (by decide) (by decide), e (30 + 3 * s) (by omega) (by omega), e (30 + 3 * s + 1) (by omega) (by omega), e (30 + 3 * s + 2) (by omega) (by omega)]
    exact r
  · have r := r4 s h1 (by omega)
    unfold RdT at r ⊢
    rw [k6 s 0 h1 (by omega) (by decide) (by decide), k6 s 1 h1 (by omega) (by decide) (by decide), k6 s 2 h1 (by omega) (by decide) (by decide), k6 s 5 h1 (by omega) (by decide) (by decide), k6 s 6 h1 (by omega) (by decide) (by decide), k6 s 7 h1 (by omega) (by decide) (by decide), k6 s 8 h1 (by omega) (by decide) (by decide), k6 s 9 h1 (by omega) (by decide) (by decide), k6 s 10 h1 (by omega) (by decide) (by decide), k6 s 11 h1 (by omega) (by decide) (by decide), k6 s 4 h1 (by omega) (by decide) (by decide), k6 s 3 h1 (by omega) (by decide) (by decide), e (54 + 11 * s + 0) (by omega) (by omega), e (54 + 11 * s + 1) (by omega) (by omega), e (54 + 11 * s + 2) (by omega) (by omega), e (54 + 11 * s + 3) (by omega) (by omega), e (54 + 11 * s + 4) (by omega) (by omega), e (54 + 11 * s + 5) (by omega) (by omega), e (54 + 11 * s + 6) (by omega) (by omega), e (54 + 11 * s + 7) (by omega) (by omega), e (54 + 11 * s + 8) (by omega) (by omega), e (54 + 11 * s + 9) (by omega) (by omega), e (54 + 11 * s + 10) (by omega) (by omega)]
    exact r
  · have r := r5 s h1 (by omega)
    unfold RdL at r ⊢
    rw [k2 s 0 h1 (by omega) (by decide) (by decide), k2 s 1 h1 (by omega) (by decide) (by decide), k2 s 2 h1 (by omega) (by decide) (by decide), k2 s 3 h1 (by omega) (by decide) (by decide), k2 s 4 h1 (by omega) (by decide) (by decide), k2 s 5 h1 (by omega) (by decide) (by decide), k2 s 6 h1 (by omega) (by decide) (by decide), k2 s 7 h1 (by omega) (by decide) (by decide), e (164 + 8 * s + 0) (by omega) (by omega), e (164 + 8 * s + 1) (by omega) (by omega), e (164 + 8 * s + 2) (by omega) (by omega), e (164 + 8 * s + 3) (by omega) (by omega), e (164 + 8 * s + 4) (by omega) (by omega), e (164 + 8 * s + 5) (by omega) (by omega), e (164 + 8 * s + 6) (by omega) (by omega), e (164 + 8 * s + 7) (by omega) (by omega)]
    exact r
  · rw [k5 s 2 h1 h2 (by decide) (by decide)]
    exact r6 s h1 h2
  · rw [k1 s 2 h1 h2 (by decide) (by decide)]
    exact r7 s h1 h2
theorem Rd_fr {G G' : GS} {o m : Int} {A A' : Int → Int} (h : Rd G o A) (hw : WfH m A) (e : ∀ f, 0 ≤ f → f < 260 → A' f = A f) (hG : ∀ k x f, ofR o k x → G' k x f = G k x f) : Rd G' o A' := by
  unfold ofR at hG
  exact Rd_copy h hw e (fun f _ _ => hG _ _ _ (by omega)) (fun s f h1 h2 _ _ => hG _ _ _ (by omega)) (fun s f h1 h2 _ _ => hG _ _ _ (by omega)) (fun s f h1 h2 _ _ => hG _ _ _ (by unfold WfH at hw; omega)) (fun s f h1 h2 _ _ => hG _ _ _ (by unfold WfH at hw; omega))
theorem Wf_ext {m : Int} {A A' : Int → Int} (h : Wf m A) (e : ∀ f, 0 ≤ f → f < 260 → A' f = A f) : Wf m A' := by
  obtain ⟨w1, w2, w3, w4, w5, w6, w7, w8⟩ := h
  have wh := w1
  unfold WfH at wh
  have e0 := e 0 (by decide) (by decide)
  have e1 := e 1 (by decide) (by decide)
  have e7 := e 7 (by decide) (by decide)
  have e8 := e 8 (by decide) (by decide)
  refine ⟨?_, fun s h1 h2 => ?_, fun s h1 h2 => ?_, fun s h1 h2 => ?_, fun s h1 h2 => ?_, fun s h1 h2 => ?_, fun s h1 h2 => ?_, fun l l' h1 h2 h3 => ?_⟩
  · unfold WfH at w1 ⊢
    rw [e0, e7, e8, e1]
    exact w1
  · have r := w2 s h1 (by omega)
    unfold WfS at r ⊢
    rw [e (9 + 3 * s) (by omega) (by omega), e (9 + 3 * s + 1) (by omega) (by omega), e (9 + 3 * s + 2) (by omega) (by omega)]
    exact r
  · have r := w3 s h1 (by omega)
    unfold WfN at r ⊢
    rw [e (30 + 3 * s) (by omega) (by omega), e (30 + 3 * s + 1) (by omega) (by omega), e (30 + 3 * s + 2) (by omega) (by omega)]
    exact r
  · exact WfT_c (w4 s h1 (by omega)) e0 e8 (fun f h4 h5 => e _ (by omega) (by omega))
  · exact WfL_c (w5 s h1 (by omega)) e0 e7 e1 (fun f h4 h5 => e _ (by omega) (by omega))
  · have r := w6 s h1 (by omega)
    have w := w5 s h1 (by omega)
    unfold WfL at w
    unfold WfX at r ⊢
    rw [e (164 + 8 * s + 5) (by omega) (by omega)]
    intro hx
    rw [e (54 + 11 * A (164 + 8 * s + 5) + 3) (by omega) (by omega), e (54 + 11 * A (164 + 8 * s + 5) + 5) (by omega) (by omega), e (54 + 11 * A (164 + 8 * s + 5) + 4) (by omega) (by omega)]
    exact r hx
  · have r := w7 s h1 (by omega)
    have w := w4 s h1 (by omega)
    unfold WfT at w
    unfold WfY at r ⊢
    rw [e (54 + 11 * s + 3) (by omega) (by omega), e (54 + 11 * s + 5) (by omega) (by omega), e (54 + 11 * s + 4) (by omega) (by omega), e (54 + 11 * s + 2) (by omega) (by omega)]
    intro hx hy
    rw [e (164 + 8 * A (54 + 11 * s + 4) + 5) (by omega) (by omega), e (164 + 8 * A (54 + 11 * s + 4) + 4) (by omega) (by omega), e (164 + 8 * A (54 + 11 * s + 4) + 6) (by omega) (by omega)]
    exact r hx hy
  · rw [e (164 + 8 * l + 3) (by omega) (by omega), e (164 + 8 * l' + 3) (by omega) (by omega)]
    exact w8 l l' h1 h2 (by omega)
/-! A ROAD COPIED -/
set_option maxHeartbeats 1000000 in
theorem c_copy {G : GS} {o p m : Int} {A : Int → Int} (hop : o ≠ p) (hR : Rd G p A) (hW : Wf m A) : ∃ G', f_X3_copyFrom G o p = some G' ∧ Rd G' o A ∧ frC o G G' := by
  have hWh := hW.1
  unfold WfH at hWh
  obtain ⟨Gh, eh, fh, vh⟩ := c_copyHead (G := G) hop
  have vh5 : Gh 3 o 5 = A 7 := by rw [vh 5 (by decide) (by decide)]; exact hR.1.2.1
  have vh6 : Gh 3 o 6 = A 8 := by rw [vh 6 (by decide) (by decide)]; exact hR.1.2.2.1
  obtain ⟨Ga, ea, fa, va⟩ := rows_loop (α := GS) (f_X3_copyFrom_L74 o p) 7 5 (7 * o) (7 * p) 3 Gh (by omega) (fun H i h0 h1 hH => by
    obtain ⟨G', q1, q2, q3⟩ := c_copy5 (G := H) (o := 7 * o + i) (p := 7 * p + i) (by rw [hH _ _ _ (by omega), fh _ _ _ (by omega)]; exact hR.2.2.2.2.2.1 i h0 (by omega))
    refine ⟨G', fun n k => ?_, q2, q3⟩
    rw [f_X3_copyFrom_L74, gd_t ⟨by omega, by omega⟩, if_pos (by omega), ga_t ⟨by omega, by omega⟩, q1, bn1_some]) (fun H hH n k => by
    rw [f_X3_copyFrom_L74, gd_t (by decide), if_neg (by decide)])
  obtain ⟨Gb, eb, fb, vb⟩ := rows_loop (α := GS) (f_X3_copyFrom_L103 o p) 8 1 (8 * o) (8 * p) 3 Ga (by omega) (fun H i h0 h1 hH => by
    obtain ⟨G', q1, q2, q3⟩ := c_copy1 (G := H) (o := 8 * o + i) (p := 8 * p + i) (by rw [hH _ _ _ (by omega), fa _ _ _ (by omega), fh _ _ _ (by omega)]; exact hR.2.2.2.2.2.2 i h0 (by omega))
    refine ⟨G', fun n k => ?_, q2, q3⟩
    rw [f_X3_copyFrom_L103, gd_t ⟨by omega, by omega⟩, if_pos (by omega), ga_t ⟨by omega, by omega⟩, q1, bn1_some]) (fun H hH n k => by
    rw [f_X3_copyFrom_L103, gd_t (by decide), if_neg (by decide)])
  obtain ⟨n7, hn7⟩ : ∃ n : Nat, (n : Int) = A 7 := ⟨(A 7).toNat, by omega⟩
  obtain ⟨n8, hn8⟩ : ∃ n : Nat, (n : Int) = A 8 := ⟨(A 8).toNat, by omega⟩
  obtain ⟨Gc, ec, fc, vc⟩ := rows_loop (α := GS) (f_X3_copyFrom_L132 o p) n7 6 (10 * o) (10 * p) 12 Gb (by omega) (fun H i h0 h1 hH => by
    have hT := hR.2.2.2.1 i h0 (by omega)
    have hw := hW.2.2.2.1 i h0 (by omega)
    unfold RdT at hT
    unfold WfT at hw
    have b : ∀ f, H 6 (10 * p + i) f = G 6 (10 * p + i) f := fun f => by rw [hH _ _ _ (by omega), fb _ _ _ (by omega), fa _ _ _ (by omega), fh _ _ _ (by omega)]
    have h5 : H 3 o 5 = A 7 := by rw [hH _ _ _ (by omega), fb _ _ _ (by omega), fa _ _ _ (by omega), vh5]
    obtain ⟨G', q1, q2, q3⟩ := c_copy6 (G := H) (o := 10 * o + i) (p := 10 * p + i) (by omega) (by rw [b]; exact hT.2.2.2.2.2.2.2.2.2.2.1) (by rw [b, hT.2.2.2.2.2.1]; omega)
    refine ⟨G', fun n k => ?_, q2, q3⟩
    rw [f_X3_copyFrom_L132, gd_t ⟨by omega, by omega⟩, gd_t ⟨by omega, by omega⟩, if_pos (by omega), ga_t ⟨by omega, by omega⟩, q1, bn1_some]) (fun H hH n k => by
    have h5 : H 3 o 5 = A 7 := by rw [hH _ _ _ (by omega), fb _ _ _ (by omega), fa _ _ _ (by omega), vh5]
    rw [f_X3_copyFrom_L132, gd_t ⟨by omega, by omega⟩, gd_t ⟨by omega, by omega⟩, if_neg (by omega)])
  obtain ⟨Gd, ed, fd, vd⟩ := rows_loop (α := GS) (f_X3_copyFrom_L161 o p) n8 2 (12 * o) (12 * p) 8 Gc (by omega) (fun H i h0 h1 hH => by
    have hT := hR.2.2.2.2.1 i h0 (by omega)
    have hw := hW.2.2.2.2.1 i h0 (by omega)
    unfold RdL at hT
    unfold WfL at hw
    have b : ∀ f, H 2 (12 * p + i) f = G 2 (12 * p + i) f := fun f => by rw [hH _ _ _ (by omega), fc _ _ _ (by omega), fb _ _ _ (by omega), fa _ _ _ (by omega), fh _ _ _ (by omega)]
    have h5 : H 3 o 6 = A 8 := by rw [hH _ _ _ (by omega), fc _ _ _ (by omega), fb _ _ _ (by omega), fa _ _ _ (by omega), vh6]
    obtain ⟨G', q1, q2, q3⟩ := c_copy2 (G := H) (o := 12 * o + i) (p := 12 * p + i) (by omega) (by rw [b, hT.2.2.1]; exact hw.2.1)
    refine ⟨G', fun n k => ?_, q2, q3⟩
    rw [f_X3_copyFrom_L161, gd_t ⟨by omega, by omega⟩, gd_t ⟨by omega, by omega⟩, if_pos (by omega), ga_t ⟨by omega, by omega⟩, q1, bn1_some]) (fun H hH n k => by
    have h5 : H 3 o 6 = A 8 := by rw [hH _ _ _ (by omega), fc _ _ _ (by omega), fb _ _ _ (by omega), fa _ _ _ (by omega), vh6]
    rw [f_X3_copyFrom_L161, gd_t ⟨by omega, by omega⟩, gd_t ⟨by omega, by omega⟩, if_neg (by omega)])
  refine ⟨Gd, ?_, ?_, fun k x f z => ?_⟩
  · have hg : gFuel = 3000 := rfl
    rw [eh, ea gFuel _ (by omega), eb gFuel _ (by omega), ec gFuel _ (by omega), ed gFuel _ (by omega)]
  · refine Rd_copy hR hW.1 (fun _ _ _ => rfl) (fun f z1 z2 => ?_) (fun s f z1 z2 z3 z4 => ?_) (fun s f z1 z2 z3 z4 => ?_) (fun s f z1 z2 z3 z4 => ?_) (fun s f z1 z2 z3 z4 => ?_)
    · rw [fd _ _ _ (by omega), fc _ _ _ (by omega), fb _ _ _ (by omega), fa _ _ _ (by omega), vh f z1 z2]
    · rw [fd _ _ _ (by omega), fc _ _ _ (by omega), fb _ _ _ (by omega), va s f z1 (by omega) z3 z4, fh _ _ _ (by omega)]
    · rw [fd _ _ _ (by omega), fc _ _ _ (by omega), vb s f z1 (by omega) z3 z4, fa _ _ _ (by omega), fh _ _ _ (by omega)]
    · rw [fd _ _ _ (by omega), vc s f z1 (by omega) z3 z4, fb _ _ _ (by omega), fa _ _ _ (by omega), fh _ _ _ (by omega)]
    · rw [vd s f z1 (by omega) z3 z4, fc _ _ _ (by omega), fb _ _ _ (by omega), fa _ _ _ (by omega), fh _ _ _ (by omega)]
  · unfold ofR at z
    rw [fd _ _ _ (by omega), fc _ _ _ (by omega), fb _ _ _ (by omega), fa _ _ _ (by omega), fh _ _ _ (by omega)]

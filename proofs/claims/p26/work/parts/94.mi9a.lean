/-! BOTH ROADS ANSWER ALIKE -/
theorem lp {κ α : Type} (L : Nat → Int → κ → Option α) (N : Nat) (fin : κ → Option α) (step : ∀ (q : Nat) (i : Int) (k : κ), 0 ≤ i → i < N → L (q + 1) i k = L q (i + 1) k) (stop : ∀ (q : Nat) (k : κ), L (q + 1) N k = fin k) : ∀ (q : Nat) (k : κ), N < q → L q 0 k = fin k := by
  have main : ∀ (d : Nat) (i : Int), i + d = N → 0 ≤ i → ∀ (q : Nat) (k : κ), d < q → L q i k = fin k := by
    intro d
    induction d with
    | zero =>
      intro i h1 h0 q k hq
      obtain ⟨q, rfl⟩ : ∃ z, q = z + 1 := ⟨q - 1, by omega⟩
      have e : i = N := by omega
      rw [e]
      exact stop q k
    | succ d ih =>
      intro i h1 h0 q k hq
      obtain ⟨q, rfl⟩ : ∃ z, q = z + 1 := ⟨q - 1, by omega⟩
      rw [step q i k h0 (by omega)]
      exact ih (i + 1) (by omega) (by omega) q k (by omega)
  intro q k hq
  exact main N 0 (by omega) (by decide) q k hq
/-- what is known of the two roads at a look -/
def Lk (n : Int) (A B : Int → Int) : Prop := (2 ≤ n ∧ n ≤ 8) ∧ Mi n A B ∧ Wf 10000 A ∧ Bnd 20000000 A
theorem va_1 (A : Int → Int) : vaV A 1 = A 7 := by
  unfold vaV
  rw [if_neg (by decide), if_pos rfl]
theorem va_2 (A : Int → Int) : vaV A 2 = A 8 := by
  unfold vaV
  rw [if_neg (by decide), if_neg (by decide), if_pos rfl]
theorem mi_va {n w : Int} {A B : Int → Int} (h : Lk n A B) (hw : 0 ≤ w ∧ w ≤ 10) : vaV B w = vaV A w ∧ inR (vaV A w) := by
  obtain ⟨hn, hM, hW, hB⟩ := h
  have ly := mi_ly hM
  have wi := mi_wi hM
  have cy := cnt_le (pLy A) (A 8).toNat
  have cw := cnt_le (pWi A) (A 8).toNat
  obtain ⟨e0, e1, k1, k2, k3, k4, k5, k6, k7, k8⟩ := hM.1
  obtain ⟨b2, b3, b4, b5, b6, -, -⟩ := hB
  have hWh := hW.1
  unfold WfH at hWh
  unfold vaV
  by_cases c0 : w = 0
  · rw [if_pos c0, if_pos c0]
    exact ⟨by omega, by omega⟩
  rw [if_neg c0, if_neg c0]
  by_cases c1 : w = 1
  · rw [if_pos c1, if_pos c1]
    exact ⟨k7, by omega⟩
  rw [if_neg c1, if_neg c1]
  by_cases c2 : w = 2
  · rw [if_pos c2, if_pos c2]
    exact ⟨k8, by omega⟩
  rw [if_neg c2, if_neg c2]
  by_cases c3 : w = 3
  · rw [if_pos c3, if_pos c3]
    exact ⟨k1, by omega⟩
  rw [if_neg c3, if_neg c3]
  by_cases c9 : w = 9
  · rw [if_pos c9, if_pos c9]
    exact ⟨ly, by omega⟩
  rw [if_neg c9, if_neg c9]
  by_cases c10 : w = 10
  · rw [if_pos c10, if_pos c10]
    exact ⟨wi, by omega⟩
  rw [if_neg c10, if_neg c10]
  rcases (show w = 4 ∨ w = 5 ∨ w = 6 ∨ w = 7 ∨ w = 8 by omega) with rfl | rfl | rfl | rfl | rfl
  · exact ⟨k2, show inR (A 2) by omega⟩
  · exact ⟨k3, show inR (A 3) by omega⟩
  · exact ⟨k4, show inR (A 4) by omega⟩
  · exact ⟨k5, show inR (A 5) by omega⟩
  · exact ⟨k6, show inR (A 6) by omega⟩
theorem mi_te {n t w : Int} {A B : Int → Int} (h : Lk n A B) (t0 : 0 ≤ t) (t1 : t < A 7) (hw : 0 ≤ w ∧ w ≤ 9) : (w = 0 ∨ w = 2 → A (54 + 11 * t + w) + B (54 + 11 * t + w) = n - 1) ∧ (w ≠ 0 → w ≠ 2 → B (54 + 11 * t + w) = A (54 + 11 * t + w) ∧ inR (A (54 + 11 * t + w))) := by
  obtain ⟨hn, hM, hW, hB⟩ := h
  obtain ⟨q0, q1, q2, q3, q4, q5, q6, q7, q8, q9, -⟩ := hM.2.2.2.1 t t0 t1
  obtain ⟨g6, g7, g8, g9⟩ := hB.2.2.2.2.2.1 t t0 t1
  have wT := hW.2.2.2.1 t t0 t1
  have hWh := hW.1
  unfold WfH at hWh
  unfold WfT at wT
  have r1 : 0 ≤ A (54 + 11 * t + 1) ∧ A (54 + 11 * t + 1) ≤ 100 := wT.2.1
  have r3 : 0 ≤ A (54 + 11 * t + 3) ∧ A (54 + 11 * t + 3) ≤ 18 := wT.2.2.2.1
  have r45 : (-1 ≤ A (54 + 11 * t + 4) ∧ A (54 + 11 * t + 4) ≤ 12) ∧ (0 ≤ A (54 + 11 * t + 5) ∧ A (54 + 11 * t + 5) ≤ 1) := by
    obtain ⟨-, -, -, -, w4, w5⟩ := wT
    by_cases c : A (54 + 11 * t + 3) = 0
    · have := w4 c
      omega
    · have := (w5 (by omega)).2.2
      omega
  refine ⟨fun z => ?_, fun z z2 => ?_⟩
  · rcases z with rfl | rfl
    · rw [q0]; omega
    · rw [q2]; omega
  · rcases (show w = 1 ∨ w = 3 ∨ w = 4 ∨ w = 5 ∨ w = 6 ∨ w = 7 ∨ w = 8 ∨ w = 9 by omega) with rfl | rfl | rfl | rfl | rfl | rfl | rfl | rfl
    · exact ⟨q1, by omega⟩
    · exact ⟨q3, by omega⟩
    · exact ⟨q4, by omega⟩
    · exact ⟨q5, by omega⟩
    · exact ⟨q6, by omega⟩
    · exact ⟨q7, by omega⟩
    · exact ⟨q8, by omega⟩
    · exact ⟨q9, by omega⟩
theorem mi_le {n l w : Int} {A B : Int → Int} (h : Lk n A B) (l0 : 0 ≤ l) (l1 : l < A 8) (hw : 0 ≤ w ∧ w ≤ 7) : (w < 2 ∨ w = 4 → A (164 + 8 * l + w) + B (164 + 8 * l + w) = n - 1) ∧ (¬ w < 2 → w ≠ 4 → B (164 + 8 * l + w) = A (164 + 8 * l + w) ∧ inR (A (164 + 8 * l + w))) := by
  obtain ⟨hn, hM, hW, hB⟩ := h
  obtain ⟨q0, q1, q2, q3, q4, q5, q6, q7⟩ := hM.2.2.2.2 l l0 l1
  have g7 := hB.2.2.2.2.2.2 l l0 l1
  have wL := hW.2.2.2.2.1 l l0 l1
  have hWh := hW.1
  unfold WfH at hWh
  unfold WfL at wL
  obtain ⟨-, w2, w3, -, w5, w6, -, -⟩ := wL
  refine ⟨fun z => ?_, fun z z2 => ?_⟩
  · rcases (show w = 0 ∨ w = 1 ∨ w = 4 by omega) with rfl | rfl | rfl
    · rw [q0]; omega
    · rw [q1]; omega
    · rw [q4]; omega
  · rcases (show w = 2 ∨ w = 3 ∨ w = 5 ∨ w = 6 ∨ w = 7 by omega) with rfl | rfl | rfl | rfl | rfl
    · exact ⟨q2, by omega⟩
    · exact ⟨q3, by omega⟩
    · exact ⟨q5, by omega⟩
    · exact ⟨q6, by omega⟩
    · exact ⟨q7, by omega⟩
theorem fb_in {A : Int → Int} {m i : Int} (hW : Wf m A) (i0 : 0 ≤ i) (i1 : i < A 0) : 0 ≤ fb A i ∧ fb A i ≤ 6 := by
  have wN := hW.2.2.1 i i0 i1
  have hc := cnt_le (pAt A i) (A 7).toNat
  unfold WfN at wN
  unfold fb
  split <;> omega
theorem mi_in {n i w : Int} {A B : Int → Int} (h : Lk n A B) (i0 : 0 ≤ i) (i1 : i < n) (hw : 0 ≤ w ∧ w ≤ 6) : inV B (n - 1 - i) w = inV A i w ∧ inR (inV A i w) := by
  obtain ⟨hn, hM, hW, hB⟩ := h
  obtain ⟨q0, q1, q2⟩ := hM.2.2.1 i i0 i1
  have e0 : A 0 = n := hM.1.1
  have wN := hW.2.2.1 i i0 (by omega)
  have hWh := hW.1
  unfold WfH at hWh
  unfold WfN at wN
  have c3 := cnt_le (pSt A i) (A 7).toNat
  have c4 := cnt_le (pOn A i) (A 7).toNat
  have c5 := cnt_le (pLa A i) (A 8).toNat
  have c6 := fb_in hW i0 (by omega)
  unfold inV
  by_cases d : w < 3
  · rw [if_pos d, if_pos d]
    rcases (show w = 0 ∨ w = 1 ∨ w = 2 by omega) with rfl | rfl | rfl
    · rw [Int.add_zero, Int.add_zero]
      exact ⟨q0, by omega⟩
    · exact ⟨q1, by omega⟩
    · exact ⟨q2, by omega⟩
  rw [if_neg d, if_neg d]
  by_cases d3 : w = 3
  · rw [if_pos d3, if_pos d3, mi_st hM]
    exact ⟨rfl, by omega⟩
  rw [if_neg d3, if_neg d3]
  by_cases d4 : w = 4
  · rw [if_pos d4, if_pos d4, mi_on hM]
    exact ⟨rfl, by omega⟩
  rw [if_neg d4, if_neg d4]
  by_cases d5 : w = 5
  · rw [if_pos d5, if_pos d5, mi_la hM]
    exact ⟨rfl, by omega⟩
  rw [if_neg d5, if_neg d5, mi_fb hM i0 i1]
  exact ⟨rfl, by omega⟩
theorem st_w (A : Int → Int) (s : Int) : stV A s 0 = A (9 + 3 * s) ∧ stV A s 1 = A (9 + 3 * s + 1) ∧ stV A s 3 = ef A s 1 ∧ stV A s 4 = ef A s 0 ∧ stV A s 5 = cnt (pSg A s) (A 7).toNat := by
  unfold stV
  refine ⟨?_, ?_, ?_, ?_, ?_⟩
  · rw [if_pos (by decide), Int.add_zero]
  · rw [if_pos (by decide)]
  · rw [if_neg (by decide), if_pos rfl]
  · rw [if_neg (by decide), if_neg (by decide), if_pos rfl]
  · rw [if_neg (by decide), if_neg (by decide), if_neg (by decide)]
theorem sm_rev {f g : Int → Int} {c : Int} : ∀ (k : Nat) (l : Int), (∀ j, l ≤ j → j < l + k → g (c - j) = f j) → sm g (c - l - k + 1) k = sm f l k := by
  intro k
  induction k with
  | zero =>
    intro l _
    rw [sm, sm]
  | succ k ih =>
    intro l h
    have e := ih l (fun j z0 z1 => h j z0 (by omega))
    have hk := h (l + k) (by omega) (by omega)
    rw [sm_first, sm]
    have e1 : c - l - ((k + 1 : Nat) : Int) + 1 = c - (l + k) := by omega
    have e2 : c - l - ((k + 1 : Nat) : Int) + 1 + 1 = c - l - k + 1 := by omega
    rw [e2, e, e1, hk]
    omega
theorem mi_efH {n t : Int} {A B : Int → Int} (h : Lk n A B) (t0 : 0 ≤ t) (t1 : t < A 7) : efH B t = efH A t ∧ inR (efH A t) := by
  obtain ⟨hn, hM, hW, hB⟩ := h
  have e0 : A 0 = n := hM.1.1
  obtain ⟨q0, q1, q2, -⟩ := hM.2.2.2.1 t t0 t1
  have wT := hW.2.2.2.1 t t0 t1
  unfold WfT at wT
  obtain ⟨w0, -, w2, -⟩ := wT
  unfold efH
  rw [q0, q2]
  generalize A (54 + 11 * t + 0) = b at w0 ⊢
  generalize A (54 + 11 * t + 2) = a at w2 ⊢
  have hl : lo (n - 1 - a) (n - 1 - b) = n - 1 - hi a b ∧ hi (n - 1 - a) (n - 1 - b) = n - 1 - lo a b := by
    unfold lo hi
    constructor
    · split <;> split <;> omega
    · split <;> split <;> omega
  have hr : 0 ≤ lo a b ∧ lo a b ≤ hi a b ∧ hi a b < n := by
    rcases lohi a b with ⟨z1, z2, z3⟩ | ⟨z1, z2, z3⟩
    · rw [z2, z3]; omega
    · rw [z2, z3]; omega
  obtain ⟨k, hk⟩ : ∃ k : Nat, (k : Int) = hi a b - lo a b := ⟨(hi a b - lo a b).toNat, by omega⟩
  have k1 : (hi a b - lo a b).toNat = k := by omega
  have k2 : (n - 1 - lo a b - (n - 1 - hi a b)).toNat = k := by omega
  have bd : ∀ (f : Int → Int) (l : Int), (∀ j, l ≤ j → j < l + k → 5 ≤ f j ∧ f j ≤ 65) → 0 ≤ sm f l k ∧ sm f l k ≤ 65 * k := by
    have main : ∀ (k : Nat) (f : Int → Int) (l : Int), (∀ j, l ≤ j → j < l + k → 5 ≤ f j ∧ f j ≤ 65) → 0 ≤ sm f l k ∧ sm f l k ≤ 65 * k := by
      intro k
      induction k with
      | zero =>
        intro f l _
        rw [sm]
        omega
      | succ k ih =>
        intro f l hf
        have y1 := ih f l (fun j z0 z1 => hf j z0 (by omega))
        have y2 := hf (l + k) (by omega) (by omega)
        rw [sm]
        omega
    exact main k
  have hb := bd (fun s => ef A s (up a b)) (lo a b) (fun j z0 z1 => ef_le (hW.2.1 j (by omega) (by omega)))
  rw [hl.1, hl.2, k1, k2]
  refine ⟨?_, by omega⟩
  by_cases c : a = b
  · have e : k = 0 := by
      rcases lohi a b with ⟨z1, z2, z3⟩ | ⟨z1, z2, z3⟩
      · omega
      · omega
    rw [e, sm, sm]
  · have eu : up (n - 1 - a) (n - 1 - b) = 1 - up a b := by
      unfold up
      split <;> split <;> omega
    have z := sm_rev (f := fun s => ef A s (up a b)) (g := fun s => ef B s (1 - up a b)) (c := n - 2) k (lo a b) (fun j z0 z1 => mi_ef (hM.2.1 j (by omega) (by omega)) (up_r a b))
    rw [eu, ← z, show n - 2 - lo a b - (k : Int) + 1 = n - 1 - hi a b by omega]

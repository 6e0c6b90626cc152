/-! THE MIRROR: the same road from its other end -/
def MiH (n : Int) (A B : Int → Int) : Prop := A 0 = n ∧ B 0 = n ∧ B 1 = A 1 ∧ B 2 = A 2 ∧ B 3 = A 3 ∧ B 4 = A 4 ∧ B 5 = A 5 ∧ B 6 = A 6 ∧ B 7 = A 7 ∧ B 8 = A 8
def MiS (n : Int) (A B : Int → Int) (s : Int) : Prop := B (9 + 3 * (n - 2 - s)) = A (9 + 3 * s) ∧ B (9 + 3 * (n - 2 - s) + 1) = -A (9 + 3 * s + 1) ∧ B (9 + 3 * (n - 2 - s) + 2) = A (9 + 3 * s + 2)
def MiN (n : Int) (A B : Int → Int) (i : Int) : Prop := B (30 + 3 * (n - 1 - i)) = A (30 + 3 * i) ∧ B (30 + 3 * (n - 1 - i) + 1) = A (30 + 3 * i + 1) ∧ B (30 + 3 * (n - 1 - i) + 2) = A (30 + 3 * i + 2)
def MiT (n : Int) (A B : Int → Int) (t : Int) : Prop := B (54 + 11 * t + 0) = n - 1 - A (54 + 11 * t + 0) ∧ B (54 + 11 * t + 1) = A (54 + 11 * t + 1) ∧ B (54 + 11 * t + 2) = n - 1 - A (54 + 11 * t + 2) ∧ B (54 + 11 * t + 3) = A (54 + 11 * t + 3) ∧ B (54 + 11 * t + 4) = A (54 + 11 * t + 4) ∧ B (54 + 11 * t + 5) = A (54 + 11 * t + 5) ∧ B (54 + 11 * t + 6) = A (54 + 11 * t + 6) ∧ B (54 + 11 * t + 7) = A (54 + 11 * t + 7) ∧ B (54 + 11 * t + 8) = A (54 + 11 * t + 8) ∧ B (54 + 11 * t + 9) = A (54 + 11 * t + 9) ∧ (0 < A (54 + 11 * t + 3) → B (54 + 11 * t + 10) = n - 1 - A (54 + 11 * t + 10))
def MiL (n : Int) (A B : Int → Int) (l : Int) : Prop := B (164 + 8 * l + 0) = n - 1 - A (164 + 8 * l + 0) ∧ B (164 + 8 * l + 1) = n - 1 - A (164 + 8 * l + 1) ∧ B (164 + 8 * l + 2) = A (164 + 8 * l + 2) ∧ B (164 + 8 * l + 3) = A (164 + 8 * l + 3) ∧ B (164 + 8 * l + 4) = n - 1 - A (164 + 8 * l + 4) ∧ B (164 + 8 * l + 5) = A (164 + 8 * l + 5) ∧ B (164 + 8 * l + 6) = A (164 + 8 * l + 6) ∧ B (164 + 8 * l + 7) = A (164 + 8 * l + 7)
def Mi (n : Int) (A B : Int → Int) : Prop := MiH n A B ∧ (∀ s, 0 ≤ s → s < n - 1 → MiS n A B s) ∧ (∀ i, 0 ≤ i → i < n → MiN n A B i) ∧ (∀ t, 0 ≤ t → t < A 7 → MiT n A B t) ∧ (∀ l, 0 ≤ l → l < A 8 → MiL n A B l)
theorem mi_cT {n : Int} {A B : Int → Int} {p q : Int → Bool} (hM : Mi n A B) (h : ∀ t, 0 ≤ t → t < A 7 → MiT n A B t → p t = q t) : cnt p (B 7).toNat = cnt q (A 7).toNat := by
  obtain ⟨h0, h1, k1, k2, k3, k4, k5, k6, k7, k8⟩ := hM.1
  rw [k7]
  exact cnt_congr fun t z0 z1 => h t z0 (by omega) (hM.2.2.2.1 t z0 (by omega))
theorem mi_cL {n : Int} {A B : Int → Int} {p q : Int → Bool} (hM : Mi n A B) (h : ∀ l, 0 ≤ l → l < A 8 → MiL n A B l → p l = q l) : cnt p (B 8).toNat = cnt q (A 8).toNat := by
  obtain ⟨h0, h1, k1, k2, k3, k4, k5, k6, k7, k8⟩ := hM.1
  rw [k8]
  exact cnt_congr fun t z0 z1 => h t z0 (by omega) (hM.2.2.2.2 t z0 (by omega))
theorem mi_at {n i : Int} {A B : Int → Int} (hM : Mi n A B) : cnt (pAt B (n - 1 - i)) (B 7).toNat = cnt (pAt A i) (A 7).toNat := mi_cT hM fun t _ _ h => by
  unfold MiT at h
  unfold pAt
  rw [h.2.2.1]
  exact decide_eq_decide.mpr (by omega)
theorem mi_st {n i : Int} {A B : Int → Int} (hM : Mi n A B) : cnt (pSt B (n - 1 - i)) (B 7).toNat = cnt (pSt A i) (A 7).toNat := mi_cT hM fun t _ _ h => by
  unfold MiT at h
  unfold pSt
  rw [h.2.2.1, h.2.2.2.1]
  exact decide_eq_decide.mpr (by omega)
theorem mi_on {n i : Int} {A B : Int → Int} (hM : Mi n A B) : cnt (pOn B (n - 1 - i)) (B 7).toNat = cnt (pOn A i) (A 7).toNat := mi_cT hM fun t _ _ h => by
  unfold MiT at h
  unfold pOn
  rw [h.2.2.1, h.2.2.2.1]
  exact decide_eq_decide.mpr (by omega)
theorem mi_sg {n s m : Int} {A B : Int → Int} (hM : Mi n A B) (hW : Wf m A) : cnt (pSg B (n - 2 - s)) (B 7).toNat = cnt (pSg A s) (A 7).toNat := mi_cT hM fun t z0 z1 h => by
  have w := hW.2.2.2.1 t z0 z1
  unfold WfT at w
  unfold MiT at h
  unfold pSg
  rw [h.2.2.1, h.2.2.2.1]
  refine decide_eq_decide.mpr ?_
  by_cases c : 0 < A (54 + 11 * t + 3)
  · rw [h.2.2.2.2.2.2.2.2.2.2 c]
    have w2 := (w.2.2.2.2.2 c).2.1
    constructor
    · intro ⟨z, y⟩
      refine ⟨z, ?_⟩
      split at y <;> split <;> omega
    · intro ⟨z, y⟩
      refine ⟨z, ?_⟩
      split at y <;> split <;> omega
  · exact ⟨fun z => absurd z.1 c, fun z => absurd z.1 c⟩
theorem mi_ly {n : Int} {A B : Int → Int} (hM : Mi n A B) : cnt (pLy B) (B 8).toNat = cnt (pLy A) (A 8).toNat := mi_cL hM fun l _ _ h => by
  unfold MiL at h
  unfold pLy
  rw [h.2.2.2.2.2.1, h.2.2.2.2.2.2.1]
theorem mi_wi {n : Int} {A B : Int → Int} (hM : Mi n A B) : cnt (pWi B) (B 8).toNat = cnt (pWi A) (A 8).toNat := mi_cL hM fun l _ _ h => by
  unfold MiL at h
  unfold pWi
  rw [h.2.2.2.2.2.1]
theorem mi_la {n i : Int} {A B : Int → Int} (hM : Mi n A B) : cnt (pLa B (n - 1 - i)) (B 8).toNat = cnt (pLa A i) (A 8).toNat := mi_cL hM fun l _ _ h => by
  unfold MiL at h
  unfold pLa
  rw [h.2.2.2.2.1, h.2.2.2.2.2.1, h.2.2.2.2.2.2.1]
  exact decide_eq_decide.mpr (by omega)
theorem mi_fb {n i : Int} {A B : Int → Int} (hM : Mi n A B) (h0 : 0 ≤ i) (h1 : i < n) : fb B (n - 1 - i) = fb A i := by
  have h := hM.2.2.1 i h0 h1
  unfold MiN at h
  unfold fb
  rw [mi_at hM, h.1]
theorem mi_ft {n a : Int} {A B : Int → Int} (hM : Mi n A B) : ∀ k : Nat, (k : Int) ≤ A 7 → ft B (n - 1 - a) k = ft A a k := by
  intro k
  induction k with
  | zero => exact fun _ => rfl
  | succ k ih =>
    intro hk
    have e := ih (by omega)
    have h := hM.2.2.2.1 k (by omega) (by omega)
    have hr := ft_r A a k
    unfold MiT at h
    rw [ft, ft, e, h.2.2.1, h.2.2.2.1, h.2.1]
    have eY : (ft A a k = -1 ∨ A (54 + 11 * (k : Int) + 1) < B (54 + 11 * ft A a k + 1)) ↔ (ft A a k = -1 ∨ A (54 + 11 * (k : Int) + 1) < A (54 + 11 * ft A a k + 1)) := by
      by_cases c : ft A a k = -1
      · exact ⟨fun _ => Or.inl c, fun _ => Or.inl c⟩
      · have h2 := hM.2.2.2.1 (ft A a k) (by omega) (by omega)
        unfold MiT at h2
        rw [h2.2.1]
    by_cases d : A (54 + 11 * (k : Int) + 2) = a ∧ A (54 + 11 * (k : Int) + 3) = 0 ∧ (ft A a k = -1 ∨ A (54 + 11 * (k : Int) + 1) < A (54 + 11 * ft A a k + 1))
    · rw [if_pos d, if_pos ⟨by omega, d.2.1, eY.mpr d.2.2⟩]
    · rw [if_neg d, if_neg (fun z => d ⟨by omega, z.2.1, eY.mp z.2.2⟩)]
theorem mi_nx {n a c : Int} (h : a ≠ c) : nx (n - 1 - a) (n - 1 - c) = n - 1 - nx a c := by
  unfold nx
  by_cases z : a < c
  · rw [if_pos z, if_neg (by omega)]
    omega
  · rw [if_neg z, if_pos (by omega)]
    omega
theorem mi_sgn {n a b : Int} (h : b = a + 1 ∨ b = a - 1) : sg (n - 1 - a) (n - 1 - b) = n - 2 - sg a b := by
  unfold sg
  by_cases z : a < b
  · rw [if_pos z, if_neg (by omega)]
    omega
  · rw [if_neg z, if_pos (by omega)]
    omega
theorem mi_up {n a b : Int} (h : b = a + 1 ∨ b = a - 1) : up (n - 1 - a) (n - 1 - b) = 1 - up a b := by
  unfold up
  by_cases z : a < b
  · rw [if_pos z, if_neg (by omega)]
    omega
  · rw [if_neg z, if_pos (by omega)]
    omega
theorem mi_ef {n s u : Int} {A B : Int → Int} (h : MiS n A B s) (hu : u = 0 ∨ u = 1) : ef B (n - 2 - s) (1 - u) = ef A s u := by
  unfold MiS at h
  have e : efX B (n - 2 - s) (1 - u) = efX A s u := by
    unfold efX
    rw [h.1, h.2.1]
    rcases hu with rfl | rfl
    · rw [if_neg (by decide), if_pos rfl]
      omega
    · rw [if_pos (by decide), if_neg (by decide)]
      omega
  unfold ef
  rw [e]
theorem up_r (a b : Int) : up a b = 0 ∨ up a b = 1 := by
  unfold up
  split
  · exact Or.inr rfl
  · exact Or.inl rfl
/-- a letter's or a team's way on, seen from both ends -/
theorem mi_way {n a c : Int} {A B : Int → Int} (hM : Mi n A B) (ha : 0 ≤ a ∧ a < n) (hc : 0 ≤ c ∧ c < n) (h : a ≠ c) : nx (n - 1 - a) (n - 1 - c) = n - 1 - nx a c ∧ sg (n - 1 - a) (n - 1 - nx a c) = n - 2 - sg a (nx a c) ∧ up (n - 1 - a) (n - 1 - nx a c) = 1 - up a (nx a c) ∧ (0 ≤ nx a c ∧ nx a c < n) ∧ (0 ≤ sg a (nx a c) ∧ sg a (nx a c) < n - 1) ∧ (nx a c = a + 1 ∨ nx a c = a - 1) := by
  have e0 : A 0 = n := hM.1.1
  have w := way_r (A := A) (a := a) (b := c) (by omega) (by omega) h
  have hb : nx a c = a + 1 ∨ nx a c = a - 1 := by omega
  exact ⟨mi_nx h, mi_sgn hb, mi_up hb, by omega, by omega, hb⟩
theorem mi_wn {n m l : Int} {A B : Int → Int} (hM : Mi n A B) (hW : Wf m A) (h0 : 0 ≤ l) (h1 : l < A 8) : wn B l = wn A l := by
  have hL := hM.2.2.2.2 l h0 h1
  have w := hW.2.2.2.2.1 l h0 h1
  have hWh := hW.1
  unfold WfH at hWh
  unfold MiL at hL
  unfold WfL at w
  obtain ⟨l0, l1, l2, l3, l4, l5, l6, l7⟩ := hL
  have e0 : A 0 = n := hM.1.1
  have e7 : B 7 = A 7 := hM.1.2.2.2.2.2.2.2.2.1
  unfold wn
  rw [l6, l5, l4, l1]
  by_cases c6 : A (164 + 8 * l + 6) = -1
  · rw [if_neg (show ¬ ¬ A (164 + 8 * l + 6) = -1 from fun z => z c6), if_neg (show ¬ ¬ A (164 + 8 * l + 6) = -1 from fun z => z c6)]
    by_cases c5 : A (164 + 8 * l + 5) = -1
    · rw [if_neg (show ¬ ¬ A (164 + 8 * l + 5) = -1 from fun z => z c5), if_neg (show ¬ ¬ A (164 + 8 * l + 5) = -1 from fun z => z c5)]
      have hne := w.2.2.2.2.2.2.2 c6 c5
      generalize A (164 + 8 * l + 4) = a at w hne ⊢
      generalize A (164 + 8 * l + 1) = c at w hne ⊢
      obtain ⟨x1, x2, x3, x4, x5, x6⟩ := mi_way hM (a := a) (c := c) (by omega) (by omega) hne
      rw [x1, x2, x3]
      have xu := up_r a (nx a c)
      generalize up a (nx a c) = u at xu ⊢
      generalize sg a (nx a c) = s at x5 ⊢
      generalize nx a c = b at x4 ⊢
      have hS := hM.2.1 s x5.1 x5.2
      have hA := hM.2.2.1 a (by omega) (by omega)
      have hB := hM.2.2.1 b x4.1 x4.2
      have he := mi_ef hS xu
      unfold MiS at hS
      unfold MiN at hA hB
      rw [hS.2.2, hA.2.2, hB.2.2, mi_fb hM x4.1 x4.2, e7, mi_ft hM _ (by omega), he]
      by_cases cf : ft A a (A 7).toNat = -1
      · rw [if_pos cf, if_pos cf]
      · have hr := ft_r A a (A 7).toNat
        have h2 := hM.2.2.2.1 (ft A a (A 7).toNat) (by omega) (by omega)
        unfold MiT at h2
        rw [if_neg cf, if_neg cf, h2.2.1]
    · rw [if_pos c5, if_pos c5]
  · rw [if_pos c6, if_pos c6]
theorem mi_wk {n m t : Int} {A B : Int → Int} (hM : Mi n A B) (hW : Wf m A) (h0 : 0 ≤ t) (h1 : t < A 7) : wk B t ↔ wk A t := by
  have hT := hM.2.2.2.1 t h0 h1
  have w := hW.2.2.2.1 t h0 h1
  unfold MiT at hT
  unfold WfT at w
  have e0 : A 0 = n := hM.1.1
  unfold wk
  rw [hT.2.2.2.1, hT.2.2.1, hT.1, hT.2.1]
  generalize A (54 + 11 * t + 2) = a at w ⊢
  generalize A (54 + 11 * t + 0) = c at w ⊢
  by_cases h : a = c
  · exact ⟨fun z => absurd (by rw [h]) z.2.1, fun z => absurd h z.2.1⟩
  · obtain ⟨x1, x2, x3, x4, x5, x6⟩ := mi_way hM (a := a) (c := c) (by omega) (by omega) h
    rw [x1, x2, mi_la hM, mi_fb hM x4.1 x4.2]
    have hS := hM.2.1 _ x5.1 x5.2
    unfold MiS at hS
    rw [hS.2.2]
    have e : (n - 1 - a ≠ n - 1 - c) = (a ≠ c) := propext (by omega)
    rw [e]

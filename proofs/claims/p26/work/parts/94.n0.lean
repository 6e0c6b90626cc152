/-! COUNTS ADD UP -/
theorem tot_add {f g h : Int → Int} {n : Nat} (e : ∀ i : Int, 0 ≤ i → i < n → h i = f i + g i) : tot h n = tot f n + tot g n := by
  induction n with
  | zero => rfl
  | succ n ih =>
    rw [tot, tot, tot, ih (fun i z0 z1 => e i z0 (by omega)), e n (by omega) (by omega)]
    omega
theorem tot_zero {f : Int → Int} {n : Nat} (e : ∀ i : Int, 0 ≤ i → i < n → f i = 0) : tot f n = 0 := by
  induction n with
  | zero => rfl
  | succ n ih =>
    rw [tot, ih (fun i z0 z1 => e i z0 (by omega)), e n (by omega) (by omega)]
    rfl
theorem tot_one {f : Int → Int} {c v : Int} {n : Nat} (h0 : 0 ≤ c) (h1 : c < n) (hc : f c = v) (e : ∀ i : Int, 0 ≤ i → i < n → i ≠ c → f i = 0) : tot f n = v := by
  have h := tot_upd (f := fun _ => 0) (g := f) (t := c) (e := v) (n := n) h0 h1 (by rw [hc]; omega) (fun i z0 z1 z2 => e i z0 z1 z2)
  rw [h, tot_zero (fun _ _ _ => rfl)]
  omega
theorem tot_cnt {g : Int → Int} {P : Int → Bool} {p : Int → Int → Bool} {N : Nat} : ∀ (T : Nat), (∀ i t : Int, 0 ≤ t → t < T → (p i t = true ↔ (g t = i ∧ P t = true))) → (∀ t : Int, 0 ≤ t → t < T → P t = true → 0 ≤ g t ∧ g t < N) → tot (fun i => cnt (p i) T) N = cnt P T := by
  intro T
  induction T with
  | zero =>
    intro _ _
    exact tot_zero (fun _ _ _ => rfl)
  | succ T ih =>
    intro hp hg
    have e := ih (fun i t z0 z1 => hp i t z0 (by omega)) (fun t z0 z1 => hg t z0 (by omega))
    have hT := fun i => hp i T (by omega) (by omega)
    rw [cnt, ← e, tot_add (f := fun i => cnt (p i) T) (g := fun i => if p i T = true then 1 else 0) (h := fun i => cnt (p i) (T + 1)) (fun i _ _ => rfl)]
    refine congrArg (tot (fun i => cnt (p i) T) N + ·) ?_
    by_cases c : P T = true
    · have r := hg T (by omega) (by omega) c
      rw [if_pos c]
      refine tot_one (c := g T) r.1 r.2 ?_ (fun i z0 z1 z2 => ?_)
      · exact if_pos ((hT (g T)).mpr ⟨rfl, c⟩)
      · exact if_neg (fun z => z2 ((hT i).mp z).1.symm)
    · rw [if_neg c]
      exact tot_zero (fun i _ _ => if_neg (fun z => c ((hT i).mp z).2))
theorem cnt_true {n : Nat} : cnt (fun _ => true) n = n := by
  induction n with
  | zero => rfl
  | succ n ih =>
    rw [cnt, ih, if_pos rfl]
    omega
theorem cnt_one {p : Int → Bool} {c : Int} {n : Nat} (h0 : 0 ≤ c) (h1 : c < n) (hc : p c = true) (e : ∀ i : Int, 0 ≤ i → i < n → i ≠ c → p i = false) : cnt p n = 1 := by
  have h := cnt_upd (p := p) (q := fun _ => false) h0 h1 hc rfl (fun i z0 z1 z2 => (e i z0 z1 z2).symm)
  have z : cnt (fun _ : Int => false) n = 0 := cnt_zero.mpr (fun _ _ _ => rfl)
  omega
def pRn (A : Int → Int) (t : Int) : Bool := decide (0 < A (54 + 11 * t + 3))
def pSd (A : Int → Int) (t : Int) : Bool := decide (A (54 + 11 * t + 3) = 0)
def car (A : Int → Int) (t : Int) : Int := if A (54 + 11 * t + 4) < 0 then 0 else 1
theorem s_there {m : Int} {A : Int → Int} (hW : Wf m A) : tot (fun i => cnt (pSt A i) (A 7).toNat) (A 0).toNat = cnt (pSd A) (A 7).toNat := by
  have hWh := hW.1
  unfold WfH at hWh
  refine tot_cnt (g := fun t => A (54 + 11 * t + 2)) _ (fun i t z0 z1 => ?_) (fun t z0 z1 _ => ?_)
  · unfold pSt pSd
    rw [decide_eq_true_eq, decide_eq_true_eq]
  · have w := hW.2.2.2.1 t z0 (by omega)
    unfold WfT at w
    exact ⟨w.2.2.1.1, by have := w.2.2.1.2; show A (54 + 11 * t + 2) < _; omega⟩
theorem s_on {m : Int} {A : Int → Int} (hW : Wf m A) : tot (fun i => cnt (pOn A i) (A 7).toNat) (A 0).toNat = cnt (pRn A) (A 7).toNat := by
  have hWh := hW.1
  unfold WfH at hWh
  refine tot_cnt (g := fun t => A (54 + 11 * t + 2)) _ (fun i t z0 z1 => ?_) (fun t z0 z1 _ => ?_)
  · unfold pOn pRn
    rw [decide_eq_true_eq, decide_eq_true_eq]
  · have w := hW.2.2.2.1 t z0 (by omega)
    unfold WfT at w
    exact ⟨w.2.2.1.1, by have := w.2.2.1.2; show A (54 + 11 * t + 2) < _; omega⟩
theorem s_all {m : Int} {A : Int → Int} (hW : Wf m A) : cnt (pSd A) (A 7).toNat + cnt (pRn A) (A 7).toNat = A 7 := by
  have hWh := hW.1
  unfold WfH at hWh
  have h := cnt_add (p := fun _ => true) (q := pSd A) (r := pRn A) (n := (A 7).toNat) (fun t z0 z1 => by
    have w := hW.2.2.2.1 t z0 (by omega)
    unfold WfT at w
    have w3 := w.2.2.2.1
    unfold pSd pRn
    by_cases c : A (54 + 11 * t + 3) = 0
    · rw [c]
      decide
    · rw [decide_eq_false c, decide_eq_true (show 0 < A (54 + 11 * t + 3) by omega)]
      decide)
  rw [cnt_true] at h
  omega
theorem s_lies {m : Int} {A : Int → Int} (hW : Wf m A) : tot (fun i => cnt (pLa A i) (A 8).toNat) (A 0).toNat = cnt (pLy A) (A 8).toNat := by
  have hWh := hW.1
  unfold WfH at hWh
  refine tot_cnt (g := fun l => A (164 + 8 * l + 4)) _ (fun i l z0 z1 => ?_) (fun l z0 z1 _ => ?_)
  · unfold pLa pLy
    rw [decide_eq_true_eq, decide_eq_true_eq]
    exact ⟨fun z => ⟨z.2, z.1⟩, fun z => ⟨z.2, z.1⟩⟩
  · have w := hW.2.2.2.2.1 l z0 (by omega)
    unfold WfL at w
    exact ⟨w.2.2.2.1.1, by have := w.2.2.2.1.2; show A (164 + 8 * l + 4) < _; omega⟩
theorem s_sg {m : Int} {A : Int → Int} (hW : Wf m A) : tot (fun s => cnt (pSg A s) (A 7).toNat) (A 0 - 1).toNat = cnt (pRn A) (A 7).toNat := by
  have hWh := hW.1
  unfold WfH at hWh
  refine tot_cnt (g := fun t => if A (54 + 11 * t + 2) < A (54 + 11 * t + 10) then A (54 + 11 * t + 2) else A (54 + 11 * t + 10)) _ (fun i t z0 z1 => ?_) (fun t z0 z1 hP => ?_)
  · unfold pSg pRn
    rw [decide_eq_true_eq, decide_eq_true_eq]
    exact ⟨fun z => ⟨z.2, z.1⟩, fun z => ⟨z.2, z.1⟩⟩
  · unfold pRn at hP
    rw [decide_eq_true_eq] at hP
    have w := hW.2.2.2.1 t z0 (by omega)
    unfold WfT at w
    have w2 := w.2.2.1
    obtain ⟨w10, wn, -⟩ := w.2.2.2.2.2 hP
    split <;> omega
theorem s_car {m : Int} {A : Int → Int} (hW : Wf m A) : tot (car A) (A 7).toNat = cnt (pWi A) (A 8).toNat := by
  have hWh := hW.1
  unfold WfH at hWh
  have e : tot (fun t => cnt (fun l => decide (A (164 + 8 * l + 5) = t ∧ ¬ A (164 + 8 * l + 5) = -1)) (A 8).toNat) (A 7).toNat = cnt (pWi A) (A 8).toNat := by
    refine tot_cnt (g := fun l => A (164 + 8 * l + 5)) (p := fun t l => decide (A (164 + 8 * l + 5) = t ∧ ¬ A (164 + 8 * l + 5) = -1)) _ (fun i l z0 z1 => ?_) (fun l z0 z1 hP => ?_)
    · unfold pWi
      rw [decide_eq_true_eq, decide_eq_true_eq]
    · unfold pWi at hP
      rw [decide_eq_true_eq] at hP
      have w := hW.2.2.2.2.1 l z0 (by omega)
      unfold WfL at w
      have w5 := w.2.2.2.2.1
      omega
  rw [← e]
  refine tot_congr (fun t z0 z1 => ?_)
  have w := hW.2.2.2.1 t z0 (by omega)
  have wY := hW.2.2.2.2.2.2.1 t z0 (by omega)
  unfold WfT at w
  unfold WfY at wY
  obtain ⟨-, -, -, w3, wz, wr⟩ := w
  unfold car
  have one : ∀ l : Int, 0 ≤ l → l < ((A 8).toNat : Int) → A (164 + 8 * l + 5) = t → A (54 + 11 * t + 4) = l := fun l y0 y1 y2 => by
    have wX := hW.2.2.2.2.2.1 l y0 (by omega)
    unfold WfX at wX
    rw [y2] at wX
    exact (wX (by omega)).2.2
  by_cases c : A (54 + 11 * t + 4) < 0
  · rw [if_pos c]
    refine (cnt_zero.mpr (fun l y0 y1 => decide_eq_false (fun z => ?_))).symm
    have := one l y0 y1 z.1
    omega
  · rw [if_neg c]
    have r3 : 0 < A (54 + 11 * t + 3) := by
      by_cases q : A (54 + 11 * t + 3) = 0
      · have := (wz q).1
        omega
      · omega
    have r4 : A (54 + 11 * t + 5) = 0 ∧ A (54 + 11 * t + 4) < A 8 := by
      have := (wr r3).2.2
      omega
    have y := (wY r3 r4.1).1
    refine (cnt_one (c := A (54 + 11 * t + 4)) (by omega) (by omega) (decide_eq_true ⟨y, by omega⟩) (fun l y0 y1 y2 => decide_eq_false (fun z => y2 (one l y0 y1 z.1).symm))).symm
theorem s_un {m : Int} {A : Int → Int} (hW : Wf m A) : cnt (pUn A) (A 8).toNat = cnt (pLy A) (A 8).toNat + cnt (pWi A) (A 8).toNat := by
  have hWh := hW.1
  unfold WfH at hWh
  refine cnt_add (fun l z0 z1 => ?_)
  have w := hW.2.2.2.2.1 l z0 (by omega)
  unfold WfL at w
  have w7 := w.2.2.2.2.2.2.1
  unfold pUn pLy pWi
  by_cases c6 : A (164 + 8 * l + 6) = -1
  · by_cases c5 : A (164 + 8 * l + 5) = -1
    · rw [decide_eq_true c6, decide_eq_true ⟨c6, c5⟩, decide_eq_false (fun z => z c5)]
      decide
    · rw [decide_eq_true c6, decide_eq_false (fun z => c5 z.2), decide_eq_true c5]
      decide
  · have c5 := w7 c6
    rw [decide_eq_false c6, decide_eq_false (fun z => c6 z.1), decide_eq_false (fun z => z c5)]
    decide

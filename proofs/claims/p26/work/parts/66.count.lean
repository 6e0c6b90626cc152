/-! COUNTS -/
def cnt (p : Int → Bool) : Nat → Int
  | 0 => 0
  | n + 1 => cnt p n + (if p n then 1 else 0)
theorem cnt_le (p : Int → Bool) (n : Nat) : 0 ≤ cnt p n ∧ cnt p n ≤ n := by
  induction n with
  | zero => exact ⟨Int.le_refl 0, Int.le_refl 0⟩
  | succ n ih =>
    rw [cnt]
    split <;> omega
theorem cnt_congr {p q : Int → Bool} {n : Nat} (h : ∀ i : Int, 0 ≤ i → i < n → p i = q i) : cnt p n = cnt q n := by
  induction n with
  | zero => rfl
  | succ n ih =>
    rw [cnt, cnt, ih (fun i h0 h1 => h i h0 (by omega)), h n (by omega) (by omega)]
theorem cnt_zero {p : Int → Bool} {n : Nat} : cnt p n = 0 ↔ ∀ i : Int, 0 ≤ i → i < n → p i = false := by
  induction n with
  | zero => exact ⟨fun _ i h0 h1 => by omega, fun _ => rfl⟩
  | succ n ih =>
    have hl := cnt_le p n
    rw [cnt]
    constructor
    · intro h i h0 h1
      by_cases hp : p n = true
      · rw [if_pos hp] at h
        omega
      · rw [if_neg hp] at h
        by_cases hi : i = n
        · rw [hi]; simpa using hp
        · exact ih.mp (by omega) i h0 (by omega)
    · intro h
      rw [ih.mpr (fun i h0 h1 => h i h0 (by omega)), h n (by omega) (by omega)]
      rfl
theorem cnt_add {p q r : Int → Bool} {n : Nat} (h : ∀ i : Int, 0 ≤ i → i < n → (if p i then (1 : Int) else 0) = (if q i then 1 else 0) + (if r i then 1 else 0)) : cnt p n = cnt q n + cnt r n := by
  induction n with
  | zero => rfl
  | succ n ih =>
    rw [cnt, cnt, cnt, ih (fun i h0 h1 => h i h0 (by omega)), h n (by omega) (by omega)]
    omega
theorem cnt_loop {α : Type} (L : Nat → Int × Int → (Int × Int → Option α) → Option α) (N : Nat) (p : Int → Bool) (step : ∀ (n : Nat) (x i : Int) (k : Int × Int → Option α), 0 ≤ i → i < (N : Int) → L (n + 1) (x, i) k = L n (x + (if p i then 1 else 0), i + 1) k) (fin : ∀ n x k, L (n + 1) (x, (N : Int)) k = k (x, (N : Int))) : ∀ n k, N < n → L n (0, 0) k = k (cnt p N, (N : Int)) := by
  have main : ∀ (d : Nat) (i : Nat), i + d = N → ∀ n k, d < n → L n (cnt p i, (i : Int)) k = k (cnt p N, (N : Int)) := by
    intro d
    induction d with
    | zero =>
      intro i hi n k hn
      obtain ⟨n, rfl⟩ : ∃ m, n = m + 1 := ⟨n - 1, by omega⟩
      have : i = N := by omega
      subst this
      exact fin n _ k
    | succ d ih =>
      intro i hi n k hn
      obtain ⟨n, rfl⟩ : ∃ m, n = m + 1 := ⟨n - 1, by omega⟩
      rw [step n _ _ k (by omega) (by omega)]
      exact ih (i + 1) (by omega) n k (by omega)
  intro n k hn
  exact main N 0 (by omega) n k hn
def pAt (A : Int → Int) (n t : Int) : Bool := decide (A (54 + 11 * t + 2) = n)
def pSt (A : Int → Int) (n t : Int) : Bool := decide (A (54 + 11 * t + 2) = n ∧ A (54 + 11 * t + 3) = 0)
def pOn (A : Int → Int) (n t : Int) : Bool := decide (A (54 + 11 * t + 2) = n ∧ 0 < A (54 + 11 * t + 3))
def pLy (A : Int → Int) (l : Int) : Bool := decide (A (164 + 8 * l + 6) = -1 ∧ A (164 + 8 * l + 5) = -1)
def pLa (A : Int → Int) (n l : Int) : Bool := decide ((A (164 + 8 * l + 6) = -1 ∧ A (164 + 8 * l + 5) = -1) ∧ A (164 + 8 * l + 4) = n)
def pWi (A : Int → Int) (l : Int) : Bool := decide (¬ A (164 + 8 * l + 5) = -1)
def pSg (A : Int → Int) (s t : Int) : Bool := decide (0 < A (54 + 11 * t + 3) ∧ (if A (54 + 11 * t + 2) < A (54 + 11 * t + 10) then A (54 + 11 * t + 2) else A (54 + 11 * t + 10)) = s)
theorem nT {m : Int} {A : Int → Int} (h : Wf m A) : ((A 7).toNat : Int) = A 7 ∧ (A 7).toNat < gFuel := by
  have := h.1
  unfold WfH at this
  unfold gFuel
  omega
theorem nL' {m : Int} {A : Int → Int} (h : Wf m A) : ((A 8).toNat : Int) = A 8 ∧ (A 8).toNat < gFuel := by
  have := h.1
  unfold WfH at this
  unfold gFuel
  omega
theorem c_bedsTaken {G : GS} {o m n : Int} {A : Int → Int} (hR : Rd G o A) (hW : Wf m A) (hn : inR n) : f_X3_bedsTaken G o n = some (cnt (pAt A n) (A 7).toNat) := by
  have hWh := hW.1
  unfold WfH at hWh
  have r5 : G 3 o 5 = A 7 := hR.1.2.1
  obtain ⟨e1, e2⟩ := nT hW
  refine cnt_loop (fun k (s : Int × Int) c => f_X3_bedsTaken_L4 G o n k s.1 s.2 (fun a b => c (a, b))) (A 7).toNat (pAt A n) (fun k x i c h0 h1 => ?_) (fun k x c => ?_) gFuel (fun s => some s.1) e2
  · have hT := hR.2.2.2.1 i h0 (by omega)
    have hw := hW.2.2.2.1 i h0 (by omega)
    unfold RdT at hT
    unfold WfT at hw
    show f_X3_bedsTaken_L4 G o n (k + 1) x i _ = f_X3_bedsTaken_L4 G o n k _ _ _
    rw [f_X3_bedsTaken_L4, gd_t ⟨by omega, by omega⟩, gd_t ⟨by omega, by omega⟩, if_pos (by omega), ga_t ⟨by omega, by omega⟩, gd_t ⟨by omega, by omega⟩, gd_t hn, hT.2.2.1]
    unfold pAt
    by_cases c : A (54 + 11 * i + 2) = n
    · rw [if_pos c, if_pos (by simpa using c)]
    · rw [if_neg c, if_neg (by simpa using c), Int.add_zero]
  · show f_X3_bedsTaken_L4 G o n (k + 1) x _ _ = _
    rw [f_X3_bedsTaken_L4, gd_t ⟨by omega, by omega⟩, gd_t ⟨by omega, by omega⟩, if_neg (by omega)]
theorem c_teamsAt {G : GS} {o m n : Int} {A : Int → Int} (hR : Rd G o A) (hW : Wf m A) (hn : inR n) : f_X3_teamsAt G o n = some (cnt (pSt A n) (A 7).toNat) := by
  have hWh := hW.1
  unfold WfH at hWh
  have r5 : G 3 o 5 = A 7 := hR.1.2.1
  obtain ⟨e1, e2⟩ := nT hW
  refine cnt_loop (fun k (s : Int × Int) c => f_X3_teamsAt_L4 G o n k s.1 s.2 (fun a b => c (a, b))) (A 7).toNat (pSt A n) (fun k x i c h0 h1 => ?_) (fun k x c => ?_) gFuel (fun s => some s.1) e2
  · have hT := hR.2.2.2.1 i h0 (by omega)
    have hw := hW.2.2.2.1 i h0 (by omega)
    unfold RdT at hT
    unfold WfT at hw
    show f_X3_teamsAt_L4 G o n (k + 1) x i _ = f_X3_teamsAt_L4 G o n k _ _ _
    have hs : f_X6_standsAt G (10 * o + i) n = some (if pSt A n i then 1 else 0) := by
      unfold f_X6_standsAt pSt
      rw [gd_t ⟨by omega, by omega⟩]
      by_cases c3 : A (54 + 11 * i + 3) = 0
      · rw [if_pos (hT.2.2.2.2.2.2.2.2.2.2.2.1 c3), gd_t ⟨by omega, by omega⟩, gd_t hn, hT.2.2.1]
        by_cases c : A (54 + 11 * i + 2) = n
        · rw [if_pos c, if_pos (by simpa using ⟨c, c3⟩)]
        · rw [if_neg c, if_neg (by simp [c])]
      · rw [if_neg (by omega), if_neg (by simp [c3])]
    rw [f_X3_teamsAt_L4, gd_t ⟨by omega, by omega⟩, gd_t ⟨by omega, by omega⟩, if_pos (by omega), ga_t ⟨by omega, by omega⟩, hs, bn1_some]
    by_cases c : pSt A n i = true
    · rw [if_pos c, gd_t (by decide), if_neg (by decide)]
    · rw [if_neg c, gd_t (by decide), if_pos rfl, Int.add_zero]
  · show f_X3_teamsAt_L4 G o n (k + 1) x _ _ = _
    rw [f_X3_teamsAt_L4, gd_t ⟨by omega, by omega⟩, gd_t ⟨by omega, by omega⟩, if_neg (by omega)]
theorem c_lies {G : GS} {o m l : Int} {A : Int → Int} (hR : Rd G o A) (hW : Wf m A) (h0 : 0 ≤ l) (h1 : l < A 8) : f_X2_liesAtAnInn G (12 * o + l) = some (if pLy A l then 1 else 0) := by
  have hT := hR.2.2.2.2.1 l h0 h1
  have hw := hW.2.2.2.2.1 l h0 h1
  unfold RdL at hT
  unfold WfL at hw
  have hWh := hW.1
  unfold WfH at hWh
  unfold f_X2_liesAtAnInn f_X2_isDelivered f_X2_isOnStage pLy
  rw [hT.2.2.2.2.2.2.1, hT.2.2.2.2.2.1, gd_t ⟨by omega, by omega⟩]
  by_cases c : A (164 + 8 * l + 6) = -1
  · rw [if_pos c, bn1_some, gd_t (by decide), if_pos rfl, gd_t ⟨by omega, by omega⟩]
    by_cases c2 : A (164 + 8 * l + 5) = -1
    · rw [if_pos c2, bn1_some, gd_t (by decide), if_pos rfl, if_pos (by simpa using ⟨c, c2⟩)]
    · rw [if_neg c2, bn1_some, gd_t (by decide), if_neg (by decide), if_neg (by simp [c2])]
  · rw [if_neg c, bn1_some, gd_t (by decide), if_neg (by decide), if_neg (by simp [c])]
theorem c_lettersAt {G : GS} {o m n : Int} {A : Int → Int} (hR : Rd G o A) (hW : Wf m A) (hn : inR n) : f_X3_lettersAt G o n = some (cnt (pLa A n) (A 8).toNat) := by
  have hWh := hW.1
  unfold WfH at hWh
  have r6 : G 3 o 6 = A 8 := hR.1.2.2.1
  obtain ⟨e1, e2⟩ := nL' hW
  refine cnt_loop (fun k (s : Int × Int) c => f_X3_lettersAt_L4 G o n k s.1 s.2 (fun a b => c (a, b))) (A 8).toNat (pLa A n) (fun k x i c h0 h1 => ?_) (fun k x c => ?_) gFuel (fun s => some s.1) e2
  · have hT := hR.2.2.2.2.1 i h0 (by omega)
    have hw := hW.2.2.2.2.1 i h0 (by omega)
    unfold RdL at hT
    unfold WfL at hw
    show f_X3_lettersAt_L4 G o n (k + 1) x i _ = f_X3_lettersAt_L4 G o n k _ _ _
    rw [f_X3_lettersAt_L4, gd_t ⟨by omega, by omega⟩, gd_t ⟨by omega, by omega⟩, if_pos (by omega), ga_t ⟨by omega, by omega⟩, c_lies hR hW h0 (by omega), bn1_some, hT.2.2.2.2.1]
    unfold pLa pLy
    by_cases c1 : A (164 + 8 * i + 6) = -1 ∧ A (164 + 8 * i + 5) = -1
    · rw [if_pos (show decide (A (164 + 8 * i + 6) = -1 ∧ A (164 + 8 * i + 5) = -1) = true by simpa using c1), gd_t (by decide), if_neg (by decide), gd_t ⟨by omega, by omega⟩, gd_t hn]
      by_cases c : A (164 + 8 * i + 4) = n
      · rw [if_pos c, if_pos (by simp [c1, c])]
      · rw [if_neg c, if_neg (by simp [c]), Int.add_zero]
    · rw [if_neg (show ¬ decide (A (164 + 8 * i + 6) = -1 ∧ A (164 + 8 * i + 5) = -1) = true by simpa using c1), gd_t (by decide), if_pos rfl, if_neg (by simp only [decide_eq_true_eq]; exact fun z => c1 z.1), Int.add_zero]
  · show f_X3_lettersAt_L4 G o n (k + 1) x _ _ = _
    rw [f_X3_lettersAt_L4, gd_t ⟨by omega, by omega⟩, gd_t ⟨by omega, by omega⟩, if_neg (by omega)]
theorem c_lettersLying {G : GS} {o m : Int} {A : Int → Int} (hR : Rd G o A) (hW : Wf m A) : f_X3_lettersLying G o = some (cnt (pLy A) (A 8).toNat) := by
  have hWh := hW.1
  unfold WfH at hWh
  have r6 : G 3 o 6 = A 8 := hR.1.2.2.1
  obtain ⟨e1, e2⟩ := nL' hW
  refine cnt_loop (fun k (s : Int × Int) c => f_X3_lettersLying_L4 G o k s.1 s.2 (fun a b => c (a, b))) (A 8).toNat (pLy A) (fun k x i c h0 h1 => ?_) (fun k x c => ?_) gFuel (fun s => some s.1) e2
  · show f_X3_lettersLying_L4 G o (k + 1) x i _ = f_X3_lettersLying_L4 G o k _ _ _
    rw [f_X3_lettersLying_L4, gd_t ⟨by omega, by omega⟩, gd_t ⟨by omega, by omega⟩, if_pos (by omega), ga_t ⟨by omega, by omega⟩, c_lies hR hW h0 (by omega), bn1_some]
    by_cases c : pLy A i = true
    · rw [if_pos c, gd_t (by decide), if_neg (by decide)]
    · rw [if_neg c, gd_t (by decide), if_pos rfl, Int.add_zero]
  · show f_X3_lettersLying_L4 G o (k + 1) x _ _ = _
    rw [f_X3_lettersLying_L4, gd_t ⟨by omega, by omega⟩, gd_t ⟨by omega, by omega⟩, if_neg (by omega)]
theorem c_lettersOnStages {G : GS} {o m : Int} {A : Int → Int} (hR : Rd G o A) (hW : Wf m A) : f_X3_lettersOnStages G o = some (cnt (pWi A) (A 8).toNat) := by
  have hWh := hW.1
  unfold WfH at hWh
  have r6 : G 3 o 6 = A 8 := hR.1.2.2.1
  obtain ⟨e1, e2⟩ := nL' hW
  refine cnt_loop (fun k (s : Int × Int) c => f_X3_lettersOnStages_L4 G o k s.1 s.2 (fun a b => c (a, b))) (A 8).toNat (pWi A) (fun k x i c h0 h1 => ?_) (fun k x c => ?_) gFuel (fun s => some s.1) e2
  · have hT := hR.2.2.2.2.1 i h0 (by omega)
    have hw := hW.2.2.2.2.1 i h0 (by omega)
    unfold RdL at hT
    unfold WfL at hw
    show f_X3_lettersOnStages_L4 G o (k + 1) x i _ = f_X3_lettersOnStages_L4 G o k _ _ _
    rw [f_X3_lettersOnStages_L4, gd_t ⟨by omega, by omega⟩, gd_t ⟨by omega, by omega⟩, if_pos (by omega), ga_t ⟨by omega, by omega⟩]
    unfold f_X2_isOnStage pWi
    rw [hT.2.2.2.2.2.1, gd_t ⟨by omega, by omega⟩]
    by_cases c : A (164 + 8 * i + 5) = -1
    · rw [if_pos c, bn1_some, gd_t (by decide), if_pos rfl, if_neg (by simpa using c), Int.add_zero]
    · rw [if_neg c, bn1_some, gd_t (by decide), if_neg (by decide), if_pos (by simpa using c)]
  · show f_X3_lettersOnStages_L4 G o (k + 1) x _ _ = _
    rw [f_X3_lettersOnStages_L4, gd_t ⟨by omega, by omega⟩, gd_t ⟨by omega, by omega⟩, if_neg (by omega)]
theorem c_teamsOn {G : GS} {o m n : Int} {A : Int → Int} (hR : Rd G o A) (hW : Wf m A) (hn : 0 ≤ n ∧ n < 7) : f_X3_teamsOn G o n = some (cnt (pSg A n) (A 7).toNat) := by
  have hWh := hW.1
  unfold WfH at hWh
  have r5 : G 3 o 5 = A 7 := hR.1.2.1
  obtain ⟨e1, e2⟩ := nT hW
  refine cnt_loop (fun k (s : Int × Int) c => f_X3_teamsOn_L4 G o n k s.1 s.2 (fun a b => c (a, b))) (A 7).toNat (pSg A n) (fun k x i c h0 h1 => ?_) (fun k x c => ?_) gFuel (fun s => some s.1) e2
  · have hT := hR.2.2.2.1 i h0 (by omega)
    have hw := hW.2.2.2.1 i h0 (by omega)
    unfold RdT at hT
    unfold WfT at hw
    obtain ⟨-, -, -, -, -, -, -, -, -, -, -, t3a, t3b⟩ := hT
    show f_X3_teamsOn_L4 G o n (k + 1) x i _ = f_X3_teamsOn_L4 G o n k _ _ _
    have hs : (G 6 (10 * o + i) 3 = n) ↔ (0 < A (54 + 11 * i + 3) ∧ (if A (54 + 11 * i + 2) < A (54 + 11 * i + 10) then A (54 + 11 * i + 2) else A (54 + 11 * i + 10)) = n) := by
      split <;> omega
    have hr : inR (G 6 (10 * o + i) 3) := ⟨by omega, by omega⟩
    rw [f_X3_teamsOn_L4, gd_t ⟨by omega, by omega⟩, gd_t ⟨by omega, by omega⟩, if_pos (by omega), ga_t ⟨by omega, by omega⟩, gd_t hr, gd_t ⟨by omega, by omega⟩]
    unfold pSg
    by_cases c : G 6 (10 * o + i) 3 = n
    · rw [if_pos c, if_pos (by simpa using hs.mp c)]
    · rw [if_neg c, if_neg (by simp only [decide_eq_true_eq]; exact fun z => c (hs.mpr z)), Int.add_zero]
  · show f_X3_teamsOn_L4 G o n (k + 1) x _ _ = _
    rw [f_X3_teamsOn_L4, gd_t ⟨by omega, by omega⟩, gd_t ⟨by omega, by omega⟩, if_neg (by omega)]

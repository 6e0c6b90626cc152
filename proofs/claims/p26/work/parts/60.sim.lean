/-! THE TWO SIDES: what ties a road of the class to the model's array -/
theorem lock {σ τ α β : Type} (L : Nat → σ → (σ → Option α) → Option α) (M : Nat → τ → (τ → Option β) → Option β) (P : Nat → σ → τ → Prop)
    (step : ∀ d s t, P (d + 1) s t → ∃ s' t', (∀ n k, L (n + 1) s k = L n s' k) ∧ (∀ n k, M (n + 1) t k = M n t' k) ∧ P d s' t')
    (fin : ∀ s t, P 0 s t → (∀ n k, L (n + 1) s k = k s) ∧ (∀ n k, M (n + 1) t k = k t)) :
    ∀ d s t, P d s t → ∃ s' t', (∀ n k, d < n → L n s k = k s') ∧ (∀ n k, d < n → M n t k = k t') ∧ P 0 s' t' := by
  intro d
  induction d with
  | zero =>
    intro s t h
    obtain ⟨h1, h2⟩ := fin s t h
    refine ⟨s, t, fun n k hn => ?_, fun n k hn => ?_, h⟩
    · obtain ⟨n, rfl⟩ : ∃ m, n = m + 1 := ⟨n - 1, by omega⟩
      exact h1 n k
    · obtain ⟨n, rfl⟩ : ∃ m, n = m + 1 := ⟨n - 1, by omega⟩
      exact h2 n k
  | succ d ih =>
    intro s t h
    obtain ⟨s', t', h1, h2, h3⟩ := step d s t h
    obtain ⟨s2, t2, h4, h5, h6⟩ := ih s' t' h3
    refine ⟨s2, t2, fun n k hn => ?_, fun n k hn => ?_, h6⟩
    · obtain ⟨n, rfl⟩ : ∃ m, n = m + 1 := ⟨n - 1, by omega⟩
      rw [h1, h4 n k (by omega)]
    · obtain ⟨n, rfl⟩ : ∃ m, n = m + 1 := ⟨n - 1, by omega⟩
      rw [h2, h5 n k (by omega)]
theorem run1 {σ α : Type} (L : Nat → σ → (σ → Option α) → Option α) (P : Nat → σ → Prop)
    (step : ∀ d s, P (d + 1) s → ∃ s', (∀ n k, L (n + 1) s k = L n s' k) ∧ P d s')
    (fin : ∀ s, P 0 s → ∀ n k, L (n + 1) s k = k s) :
    ∀ d s, P d s → ∃ s', (∀ n k, d < n → L n s k = k s') ∧ P 0 s' := by
  intro d
  induction d with
  | zero =>
    intro s h
    refine ⟨s, fun n k hn => ?_, h⟩
    obtain ⟨n, rfl⟩ : ∃ m, n = m + 1 := ⟨n - 1, by omega⟩
    exact fin s h n k
  | succ d ih =>
    intro s h
    obtain ⟨s', h1, h3⟩ := step d s h
    obtain ⟨s2, h4, h6⟩ := ih s' h3
    refine ⟨s2, fun n k hn => ?_, h6⟩
    obtain ⟨n, rfl⟩ : ∃ m, n = m + 1 := ⟨n - 1, by omega⟩
    rw [h1, h4 n k (by omega)]
theorem gj_t {α : Type} {z : Int} {k : Option α} (h : inJ z) : gj z k = k := if_pos h
theorem gy_t {α : Type} {z : Int} {k : Option α} (h : -128 ≤ z ∧ z ≤ 127) : gy z k = k := if_pos h
theorem bn1_some {α β : Type} (v : α) (k : α → Option β) : bn1 (some v) k = k v := rfl
theorem bnd_some {α β : Type} (g : GS) (v : α) (k : GS → α → Option β) : bnd (some (g, v)) k = k g v := rfl
theorem nm_eq {α : Type} (g : GS) (k : GS → Option α) : nm g k = k g := rfl
def uA (A : Int → Int) (i v : Int) : Int → Int := fun j => if j = i then v else A j
theorem gup_A (G : GS) (i v : Int) : (gup G 10 0 i v) 10 0 = uA (G 10 0) i v := by
  funext j
  unfold gup uA
  simp
def RdH (G : GS) (o : Int) (A : Int → Int) : Prop := G 3 o 4 = A 0 ∧ G 3 o 5 = A 7 ∧ G 3 o 6 = A 8 ∧ G 3 o 7 = A 1 ∧ G 3 o 8 = A 2 ∧ G 3 o 9 = A 3 ∧ G 3 o 10 = A 4 ∧ G 3 o 11 = A 5 ∧ G 3 o 12 = A 6
def RdS (G : GS) (o : Int) (A : Int → Int) (s : Int) : Prop := G 5 (7 * o + s) 0 = A (9 + 3 * s) ∧ G 5 (7 * o + s) 1 = A (9 + 3 * s + 1) ∧ G 5 (7 * o + s) 2 = A (9 + 3 * s + 2)
def RdN (G : GS) (o : Int) (A : Int → Int) (n : Int) : Prop := G 1 (8 * o + n) 0 = A (30 + 3 * n) ∧ G 1 (8 * o + n) 1 = A (30 + 3 * n + 1) ∧ G 1 (8 * o + n) 2 = A (30 + 3 * n + 2)
def RdT (G : GS) (o : Int) (A : Int → Int) (t : Int) : Prop := G 6 (10 * o + t) 0 = A (54 + 11 * t + 0) ∧ G 6 (10 * o + t) 1 = A (54 + 11 * t + 1) ∧ G 6 (10 * o + t) 2 = A (54 + 11 * t + 2) ∧ G 6 (10 * o + t) 5 = A (54 + 11 * t + 3) ∧ G 6 (10 * o + t) 6 = A (54 + 11 * t + 4) ∧ G 6 (10 * o + t) 7 = A (54 + 11 * t + 5) ∧ G 6 (10 * o + t) 8 = A (54 + 11 * t + 6) ∧ G 6 (10 * o + t) 9 = A (54 + 11 * t + 7) ∧ G 6 (10 * o + t) 10 = A (54 + 11 * t + 8) ∧ G 6 (10 * o + t) 11 = A (54 + 11 * t + 9) ∧ (G 6 (10 * o + t) 4 = 0 ∨ G 6 (10 * o + t) 4 = 1) ∧ (A (54 + 11 * t + 3) = 0 → G 6 (10 * o + t) 3 = -1) ∧ (0 < A (54 + 11 * t + 3) → (A (54 + 11 * t + 2) < A (54 + 11 * t + 10) → G 6 (10 * o + t) 3 = A (54 + 11 * t + 2) ∧ G 6 (10 * o + t) 4 = 0) ∧ (A (54 + 11 * t + 10) < A (54 + 11 * t + 2) → G 6 (10 * o + t) 3 = A (54 + 11 * t + 10) ∧ G 6 (10 * o + t) 4 = 1))
def RdL (G : GS) (o : Int) (A : Int → Int) (l : Int) : Prop := G 2 (12 * o + l) 0 = A (164 + 8 * l + 0) ∧ G 2 (12 * o + l) 1 = A (164 + 8 * l + 1) ∧ G 2 (12 * o + l) 2 = A (164 + 8 * l + 2) ∧ G 2 (12 * o + l) 3 = A (164 + 8 * l + 3) ∧ G 2 (12 * o + l) 4 = A (164 + 8 * l + 4) ∧ G 2 (12 * o + l) 5 = A (164 + 8 * l + 5) ∧ G 2 (12 * o + l) 6 = A (164 + 8 * l + 6) ∧ G 2 (12 * o + l) 7 = A (164 + 8 * l + 7)
def Rd (G : GS) (o : Int) (A : Int → Int) : Prop := RdH G o A ∧ (∀ s, 0 ≤ s → s < A 0 - 1 → RdS G o A s) ∧ (∀ n, 0 ≤ n → n < A 0 → RdN G o A n) ∧ (∀ t, 0 ≤ t → t < A 7 → RdT G o A t) ∧ (∀ l, 0 ≤ l → l < A 8 → RdL G o A l) ∧ (∀ s, 0 ≤ s → s < 7 → G 5 (7 * o + s) 2 = 0 ∨ G 5 (7 * o + s) 2 = 1) ∧ (∀ n, 0 ≤ n → n < 8 → G 1 (8 * o + n) 2 = 0 ∨ G 1 (8 * o + n) 2 = 1)
def WfH (m : Int) (A : Int → Int) : Prop := 2 ≤ A 0 ∧ A 0 ≤ 8 ∧ 0 ≤ A 7 ∧ A 7 ≤ 10 ∧ 0 ≤ A 8 ∧ A 8 ≤ 12 ∧ 0 ≤ A 1 ∧ A 1 ≤ m
def WfS (A : Int → Int) (s : Int) : Prop := (1 ≤ A (9 + 3 * s) ∧ A (9 + 3 * s) ≤ 9) ∧ (-5 ≤ A (9 + 3 * s + 1) ∧ A (9 + 3 * s + 1) ≤ 5) ∧ (A (9 + 3 * s + 2) = 0 ∨ A (9 + 3 * s + 2) = 1)
def WfN (A : Int → Int) (n : Int) : Prop := (0 ≤ A (30 + 3 * n) ∧ A (30 + 3 * n) ≤ 6) ∧ (0 ≤ A (30 + 3 * n + 1) ∧ A (30 + 3 * n + 1) ≤ 999) ∧ (A (30 + 3 * n + 2) = 0 ∨ A (30 + 3 * n + 2) = 1)
def WfT (A : Int → Int) (t : Int) : Prop := (0 ≤ A (54 + 11 * t + 0) ∧ A (54 + 11 * t + 0) < A 0) ∧ (0 ≤ A (54 + 11 * t + 1) ∧ A (54 + 11 * t + 1) ≤ 100) ∧ (0 ≤ A (54 + 11 * t + 2) ∧ A (54 + 11 * t + 2) < A 0) ∧ (0 ≤ A (54 + 11 * t + 3) ∧ A (54 + 11 * t + 3) ≤ 18) ∧ (A (54 + 11 * t + 3) = 0 → A (54 + 11 * t + 4) = -1 ∧ A (54 + 11 * t + 5) = 0) ∧ (0 < A (54 + 11 * t + 3) → (0 ≤ A (54 + 11 * t + 10) ∧ A (54 + 11 * t + 10) < A 0) ∧ (A (54 + 11 * t + 10) = A (54 + 11 * t + 2) + 1 ∨ A (54 + 11 * t + 10) = A (54 + 11 * t + 2) - 1) ∧ ((A (54 + 11 * t + 5) = 0 ∧ 0 ≤ A (54 + 11 * t + 4) ∧ A (54 + 11 * t + 4) < A 8) ∨ (A (54 + 11 * t + 5) = 1 ∧ A (54 + 11 * t + 4) = -1)))
def WfL (A : Int → Int) (l : Int) : Prop := (0 ≤ A (164 + 8 * l + 1) ∧ A (164 + 8 * l + 1) < A 0) ∧ (A (164 + 8 * l + 2) = 0 ∨ A (164 + 8 * l + 2) = 1) ∧ (0 ≤ A (164 + 8 * l + 3) ∧ A (164 + 8 * l + 3) ≤ A 1) ∧ (0 ≤ A (164 + 8 * l + 4) ∧ A (164 + 8 * l + 4) < A 0) ∧ (A (164 + 8 * l + 5) = -1 ∨ (0 ≤ A (164 + 8 * l + 5) ∧ A (164 + 8 * l + 5) < A 7)) ∧ (A (164 + 8 * l + 6) = -1 ∨ (0 ≤ A (164 + 8 * l + 6) ∧ A (164 + 8 * l + 6) ≤ 100000)) ∧ (A (164 + 8 * l + 6) ≠ -1 → A (164 + 8 * l + 5) = -1) ∧ (A (164 + 8 * l + 6) = -1 → A (164 + 8 * l + 5) = -1 → A (164 + 8 * l + 4) ≠ A (164 + 8 * l + 1))
/-- a letter and its team -/
def WfX (A : Int → Int) (l : Int) : Prop := A (164 + 8 * l + 5) ≠ -1 → 0 < A (54 + 11 * A (164 + 8 * l + 5) + 3) ∧ A (54 + 11 * A (164 + 8 * l + 5) + 5) = 0 ∧ A (54 + 11 * A (164 + 8 * l + 5) + 4) = l
def WfY (A : Int → Int) (t : Int) : Prop := 0 < A (54 + 11 * t + 3) → A (54 + 11 * t + 5) = 0 → A (164 + 8 * A (54 + 11 * t + 4) + 5) = t ∧ A (164 + 8 * A (54 + 11 * t + 4) + 4) = A (54 + 11 * t + 2) ∧ A (164 + 8 * A (54 + 11 * t + 4) + 6) = -1
def Wf (m : Int) (A : Int → Int) : Prop := WfH m A ∧ (∀ s, 0 ≤ s → s < A 0 - 1 → WfS A s) ∧ (∀ n, 0 ≤ n → n < A 0 → WfN A n) ∧ (∀ t, 0 ≤ t → t < A 7 → WfT A t) ∧ (∀ l, 0 ≤ l → l < A 8 → WfL A l) ∧ (∀ l, 0 ≤ l → l < A 8 → WfX A l) ∧ (∀ t, 0 ≤ t → t < A 7 → WfY A t) ∧ (∀ l l', 0 ≤ l → l ≤ l' → l' < A 8 → A (164 + 8 * l + 3) ≤ A (164 + 8 * l' + 3))
/-- the road o's own cells -/
def ofR (o : Int) (k : Nat) (x : Int) : Prop := (k = 3 ∧ x = o) ∨ (k = 5 ∧ 7 * o ≤ x ∧ x < 7 * o + 7) ∨ (k = 1 ∧ 8 * o ≤ x ∧ x < 8 * o + 8) ∨ (k = 6 ∧ 10 * o ≤ x ∧ x < 10 * o + 10) ∨ (k = 2 ∧ 12 * o ≤ x ∧ x < 12 * o + 12)
def frC (o : Int) (G G1 : GS) : Prop := ∀ k x f, ¬ ofR o k x → G1 k x f = G k x f
/-- the model's own cells that an hour changes -/
def frM (G G1 : GS) : Prop := ∀ k x f, ¬ (k = 10 ∧ x = 0) → ¬ k = 11 → G1 k x f = G k x f
theorem frC_rf {o : Int} {G : GS} : frC o G G := fun _ _ _ _ => rfl
theorem frC_tr {o : Int} {G G1 G2 : GS} (h : frC o G G1) (h2 : frC o G1 G2) : frC o G G2 := fun k x f hn => (h2 k x f hn).trans (h k x f hn)
theorem frC_up {o : Int} {G G1 : GS} {k : Nat} {x f v : Int} (h : frC o G G1) (hk : ofR o k x) : frC o G (gup G1 k x f v) := fun k' x' f' hn => by
  have : ¬ (k' = k ∧ x' = x ∧ f' = f) := fun z => hn (by rw [z.1, z.2.1]; exact hk)
  unfold gup
  rw [if_neg this]
  exact h k' x' f' hn
theorem frM_rf {G : GS} : frM G G := fun _ _ _ _ _ => rfl
theorem frM_tr {G G1 G2 : GS} (h : frM G G1) (h2 : frM G1 G2) : frM G G2 := fun k x f hn hm => (h2 k x f hn hm).trans (h k x f hn hm)
theorem frM_up {G G1 : GS} {f v : Int} (h : frM G G1) : frM G (gup G1 10 0 f v) := fun k' x' f' hn hm => by
  have : ¬ (k' = 10 ∧ x' = 0 ∧ f' = f) := fun z => hn ⟨z.1, z.2.1⟩
  unfold gup
  rw [if_neg this]
  exact h k' x' f' hn hm
theorem frM_up11 {G G1 : GS} {x f v : Int} (h : frM G G1) : frM G (gup G1 11 x f v) := fun k' x' f' hn hm => by
  have : ¬ (k' = 11 ∧ x' = x ∧ f' = f) := fun z => hm z.1
  unfold gup
  rw [if_neg this]
  exact h k' x' f' hn hm
/-! closed forms -/
theorem m_of {G : GS} {t f : Int} (h : 0 ≤ 54 + 11 * t + f ∧ 54 + 11 * t + f < 260) : f_X8_of G t f = some (G 10 0 (54 + 11 * t + f)) := by
  unfold f_X8_of f_X8_teamAt
  rw [bn1_some, ga_t h]
theorem m_ofL {G : GS} {l f : Int} (h : 0 ≤ 164 + 8 * l + f ∧ 164 + 8 * l + f < 260) : f_X8_ofLetter G l f = some (G 10 0 (164 + 8 * l + f)) := by
  unfold f_X8_ofLetter f_X8_letterAt
  rw [bn1_some, ga_t h]
theorem m_teamAt {G : GS} {t f : Int} : f_X8_teamAt G t f = some (54 + 11 * t + f) := rfl
theorem m_letterAt {G : GS} {l f : Int} : f_X8_letterAt G l f = some (164 + 8 * l + f) := rfl
theorem gup_k {G : GS} {k k' : Nat} {o f v o' f' : Int} (h : k' ≠ k) : gup G k o f v k' o' f' = G k' o' f' := if_neg fun z => h z.1
theorem gup_o {G : GS} {k k' : Nat} {o f v o' f' : Int} (h : o' ≠ o) : gup G k o f v k' o' f' = G k' o' f' := if_neg fun z => h z.2.1
theorem gup_f {G : GS} {k k' : Nat} {o f v o' f' : Int} (h : f' ≠ f) : gup G k o f v k' o' f' = G k' o' f' := if_neg fun z => h z.2.2
theorem gup_s {G : GS} {k : Nat} {o f v : Int} : gup G k o f v k o f = v := if_pos ⟨rfl, rfl, rfl⟩
theorem gup_n {G : GS} {k k' : Nat} {o f v o' f' : Int} (h : ¬ (k' = k ∧ o' = o ∧ f' = f)) : gup G k o f v k' o' f' = G k' o' f' := if_neg h
theorem RdT_c {G G' : GS} {o t : Int} {A A' : Int → Int} (h : RdT G o A t) (h1 : ∀ f, G' 6 (10 * o + t) f = G 6 (10 * o + t) f) (h2 : ∀ f, 0 ≤ f → f < 11 → A' (54 + 11 * t + f) = A (54 + 11 * t + f)) : RdT G' o A' t := by
  unfold RdT at h ⊢
  simp only [h1, h2 0 (by decide) (by decide), h2 1 (by decide) (by decide), h2 2 (by decide) (by decide), h2 3 (by decide) (by decide), h2 4 (by decide) (by decide), h2 5 (by decide) (by decide), h2 6 (by decide) (by decide), h2 7 (by decide) (by decide), h2 8 (by decide) (by decide), h2 9 (by decide) (by decide), h2 10 (by decide) (by decide)]
  exact h
theorem RdL_c {G G' : GS} {o l : Int} {A A' : Int → Int} (h : RdL G o A l) (h1 : ∀ f, G' 2 (12 * o + l) f = G 2 (12 * o + l) f) (h2 : ∀ f, 0 ≤ f → f < 8 → A' (164 + 8 * l + f) = A (164 + 8 * l + f)) : RdL G' o A' l := by
  unfold RdL at h ⊢
  simp only [h1, h2 0 (by decide) (by decide), h2 1 (by decide) (by decide), h2 2 (by decide) (by decide), h2 3 (by decide) (by decide), h2 4 (by decide) (by decide), h2 5 (by decide) (by decide), h2 6 (by decide) (by decide), h2 7 (by decide) (by decide)]
  exact h
theorem RdN_c {G G' : GS} {o n : Int} {A A' : Int → Int} (h : RdN G o A n) (h1 : ∀ f, G' 1 (8 * o + n) f = G 1 (8 * o + n) f) (h2 : A' (30 + 3 * n) = A (30 + 3 * n) ∧ A' (30 + 3 * n + 1) = A (30 + 3 * n + 1) ∧ A' (30 + 3 * n + 2) = A (30 + 3 * n + 2)) : RdN G' o A' n := by
  unfold RdN at h ⊢
  simp only [h1, h2.1, h2.2.1, h2.2.2]
  exact h
theorem RdS_c {G G' : GS} {o s : Int} {A A' : Int → Int} (h : RdS G o A s) (h1 : ∀ f, G' 5 (7 * o + s) f = G 5 (7 * o + s) f) (h2 : A' (9 + 3 * s) = A (9 + 3 * s) ∧ A' (9 + 3 * s + 1) = A (9 + 3 * s + 1) ∧ A' (9 + 3 * s + 2) = A (9 + 3 * s + 2)) : RdS G' o A' s := by
  unfold RdS at h ⊢
  simp only [h1, h2.1, h2.2.1, h2.2.2]
  exact h
theorem WfT_c {t : Int} {A A' : Int → Int} (h : WfT A t) (e0 : A' 0 = A 0) (e8 : A' 8 = A 8) (h2 : ∀ f, 0 ≤ f → f < 11 → A' (54 + 11 * t + f) = A (54 + 11 * t + f)) : WfT A' t := by
  unfold WfT at h ⊢
  simp only [e0, e8, h2 0 (by decide) (by decide), h2 1 (by decide) (by decide), h2 2 (by decide) (by decide), h2 3 (by decide) (by decide), h2 4 (by decide) (by decide), h2 5 (by decide) (by decide), h2 10 (by decide) (by decide)]
  exact h
theorem WfL_c {l : Int} {A A' : Int → Int} (h : WfL A l) (e0 : A' 0 = A 0) (e7 : A' 7 = A 7) (e1 : A' 1 = A 1) (h2 : ∀ f, 0 ≤ f → f < 8 → A' (164 + 8 * l + f) = A (164 + 8 * l + f)) : WfL A' l := by
  unfold WfL at h ⊢
  simp only [e0, e7, e1, h2 1 (by decide) (by decide), h2 2 (by decide) (by decide), h2 3 (by decide) (by decide), h2 4 (by decide) (by decide), h2 5 (by decide) (by decide), h2 6 (by decide) (by decide)]
  exact h
/-- the road's rows where nothing but teams, letters, fodder and numbers change -/
theorem Rd_hour {G G' : GS} {o : Int} {A A' : Int → Int} (h : Rd G o A) (e0 : A' 0 = A 0) (e7 : A' 7 = A 7) (e8 : A' 8 = A 8) (g5 : ∀ x f, G' 5 x f = G 5 x f) (a5 : ∀ j, 9 ≤ j → j < 30 → A' j = A j) (g1 : ∀ x, G' 1 x 2 = G 1 x 2) (hH : RdH G' o A') (hN : ∀ n, 0 ≤ n → n < A 0 → RdN G' o A' n) (hT : ∀ t, 0 ≤ t → t < A 7 → RdT G' o A' t) (hL : ∀ l, 0 ≤ l → l < A 8 → RdL G' o A' l) (h0 : A 0 ≤ 8) : Rd G' o A' := by
  obtain ⟨r1, r2, r3, r4, r5, r6, r7⟩ := h
  refine ⟨hH, fun s h1 h2 => ?_, fun n h1 h2 => hN n h1 (by omega), fun t h1 h2 => hT t h1 (by omega), fun l h1 h2 => hL l h1 (by omega), fun s h1 h2 => ?_, fun n h1 h2 => ?_⟩
  · rw [e0] at h2
    exact RdS_c (r2 s h1 h2) (fun f => g5 _ f) ⟨a5 _ (by omega) (by omega), a5 _ (by omega) (by omega), a5 _ (by omega) (by omega)⟩
  · rw [g5]; exact r6 s h1 h2
  · rw [g1]; exact r7 n h1 h2
theorem Wf_hour {m : Int} {A A' : Int → Int} (h : Wf m A) (e0 : A' 0 = A 0) (e7 : A' 7 = A 7) (e8 : A' 8 = A 8) (e1 : A' 1 = A 1) (a5 : ∀ j, 9 ≤ j → j < 30 → A' j = A j) (hN : ∀ n, 0 ≤ n → n < A 0 → WfN A' n) (hT : ∀ t, 0 ≤ t → t < A 7 → WfT A' t) (hL : ∀ l, 0 ≤ l → l < A 8 → WfL A' l) (hX : ∀ l, 0 ≤ l → l < A 8 → WfX A' l) (hY : ∀ t, 0 ≤ t → t < A 7 → WfY A' t) (hG : ∀ l, 0 ≤ l → l < A 8 → A' (164 + 8 * l + 3) = A (164 + 8 * l + 3)) : Wf m A' := by
  obtain ⟨w1, w2, w3, w4, w5, w6, w7, w8⟩ := h
  unfold WfH at w1
  refine ⟨?_, fun s h1 h2 => ?_, fun n h1 h2 => hN n h1 (by omega), fun t h1 h2 => hT t h1 (by omega), fun l h1 h2 => hL l h1 (by omega), fun l h1 h2 => hX l h1 (by omega), fun t h1 h2 => hY t h1 (by omega), fun l l' h1 h2 h3 => ?_⟩
  · unfold WfH
    rw [e0, e7, e8, e1]
    exact w1
  · rw [e0] at h2
    have := w2 s h1 h2
    unfold WfS at this ⊢
    rw [a5 _ (by omega) (by omega), a5 _ (by omega) (by omega), a5 _ (by omega) (by omega)]
    exact this
  · rw [e8] at h3
    rw [hG l h1 (by omega), hG l' (by omega) h3]
    exact w8 l l' h1 h2 h3
theorem gup_eq {G : GS} {k k' : Nat} {o f v o' f' : Int} : gup G k o f v k' o' f' = if k' = k ∧ o' = o ∧ f' = f then v else G k' o' f' := rfl

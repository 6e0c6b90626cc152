/-! SUMS, and what each turn does to them -/
def tot (f : Int → Int) : Nat → Int
  | 0 => 0
  | k + 1 => tot f k + f k
theorem tot_congr {f g : Int → Int} {n : Nat} (h : ∀ i : Int, 0 ≤ i → i < n → f i = g i) : tot f n = tot g n := by
  induction n with
  | zero => rfl
  | succ n ih => rw [tot, tot, ih (fun i h0 h1 => h i h0 (by omega)), h n (by omega) (by omega)]
theorem tot_upd {f g : Int → Int} {t e : Int} {n : Nat} (h0 : 0 ≤ t) (h1 : t < n) (ht : g t = f t + e) (h : ∀ i : Int, 0 ≤ i → i < n → i ≠ t → g i = f i) : tot g n = tot f n + e := by
  induction n with
  | zero => omega
  | succ n ih =>
    rw [tot, tot]
    by_cases c : t = n
    · rw [← c, ht, tot_congr (g := f) (fun i z0 z1 => h i z0 (by omega) (by omega))]
      omega
    · rw [ih (by omega) (fun i z0 z1 z2 => h i z0 (by omega) z2), h n (by omega) (by omega) (by omega)]
      omega
theorem cnt_upd {p q : Int → Bool} {t : Int} {n : Nat} (h0 : 0 ≤ t) (h1 : t < n) (hp : p t = true) (hq : q t = false) (h : ∀ i : Int, 0 ≤ i → i < n → i ≠ t → q i = p i) : cnt q n = cnt p n - 1 := by
  induction n with
  | zero => omega
  | succ n ih =>
    rw [cnt, cnt]
    by_cases c : t = n
    · rw [← c, hp, hq, cnt_congr (q := p) (fun i z0 z1 => h i z0 (by omega) (by omega))]
      simp
    · rw [ih (by omega) (fun i z0 z1 z2 => h i z0 (by omega) z2), h n (by omega) (by omega) (by omega)]
      omega
def pUn (A : Int → Int) (l : Int) : Bool := decide (A (164 + 8 * l + 6) = -1)
def ate (A : Int → Int) (t : Int) : Int := A (54 + 11 * t + 9)
def Jv (A : Int → Int) : Prop := tot (ate A) (A 7).toNat = A 6 ∧ A 4 ≤ A 2 ∧ A 5 ≤ A 3
def Qv (A : Int → Int) : Int := A 2 + cnt (pUn A) (A 8).toNat
/-- what an hour may do to the sums -/
def JP (A A' : Int → Int) : Prop := (Jv A → Jv A') ∧ Qv A' = Qv A ∧ A' 0 = A 0 ∧ A' 7 = A 7 ∧ A' 8 = A 8 ∧ A 2 ≤ A' 2
theorem JP_rf {A : Int → Int} : JP A A := ⟨id, rfl, rfl, rfl, rfl, Int.le_refl _⟩
theorem JP_tr {A B C : Int → Int} (h : JP A B) (g : JP B C) : JP A C := ⟨fun z => g.1 (h.1 z), g.2.1.trans h.2.1, g.2.2.1.trans h.2.2.1, g.2.2.2.1.trans h.2.2.2.1, g.2.2.2.2.1.trans h.2.2.2.2.1, Int.le_trans h.2.2.2.2.2 g.2.2.2.2.2⟩
theorem JP_same {A A' : Int → Int} (h0 : A' 0 = A 0) (h2 : A' 2 = A 2) (h3 : A' 3 = A 3) (h4 : A' 4 = A 4) (h5 : A' 5 = A 5) (h6 : A' 6 = A 6) (h7 : A' 7 = A 7) (h8 : A' 8 = A 8) (ht : ∀ t, 0 ≤ t → t < A 7 → A' (54 + 11 * t + 9) = A (54 + 11 * t + 9)) (hl : ∀ l, 0 ≤ l → l < A 8 → A' (164 + 8 * l + 6) = A (164 + 8 * l + 6)) : JP A A' := by
  refine ⟨fun z => ?_, ?_, h0, h7, h8, by rw [h2]; exact Int.le_refl _⟩
  · unfold Jv at z ⊢
    rw [h2, h3, h4, h5, h6, h7, tot_congr (f := ate A') (g := ate A) (fun t z0 z1 => ht t z0 (by omega))]
    exact z
  · unfold Qv
    rw [h2, h8, cnt_congr (q := pUn A) (fun l z0 z1 => by unfold pUn; rw [hl l z0 (by omega)])]
theorem JP_eq {A A' : Int → Int} (h : ∀ f, A' f = A f) : JP A A' := by
  have e : A' = A := funext h
  rw [e]
  exact JP_rf
/-- how far the numbers that only grow may have come -/
def Bnd (c : Int) (A : Int → Int) : Prop := (0 ≤ A 2 ∧ A 2 ≤ c) ∧ (0 ≤ A 3 ∧ A 3 ≤ c) ∧ (0 ≤ A 4 ∧ A 4 ≤ c) ∧ (0 ≤ A 5 ∧ A 5 ≤ c) ∧ (0 ≤ A 6 ∧ A 6 ≤ c) ∧ (∀ t, 0 ≤ t → t < A 7 → (0 ≤ A (54 + 11 * t + 6) ∧ A (54 + 11 * t + 6) ≤ c) ∧ (0 ≤ A (54 + 11 * t + 7) ∧ A (54 + 11 * t + 7) ≤ c) ∧ (0 ≤ A (54 + 11 * t + 8) ∧ A (54 + 11 * t + 8) ≤ c) ∧ (0 ≤ A (54 + 11 * t + 9) ∧ A (54 + 11 * t + 9) ≤ c)) ∧ (∀ l, 0 ≤ l → l < A 8 → 0 ≤ A (164 + 8 * l + 7) ∧ A (164 + 8 * l + 7) ≤ c)
theorem Bnd_up {c c' : Int} {A : Int → Int} (h : Bnd c A) (hc : c ≤ c') : Bnd c' A := by
  obtain ⟨h2, h3, h4, h5, h6, hT, hL⟩ := h
  refine ⟨by omega, by omega, by omega, by omega, by omega, fun t z0 z1 => ?_, fun l z0 z1 => ?_⟩
  · have := hT t z0 z1
    omega
  · have := hL l z0 z1
    omega
def BJ (k : Int) (A A' : Int → Int) : Prop := A' 1 = A 1 ∧ (A 1 ≤ 600 → ∀ c, Bnd c A → Bnd (c + k) A')
theorem BJ_rf {k : Int} {A : Int → Int} (hk : 0 ≤ k) : BJ k A A := ⟨rfl, fun _ c h => Bnd_up h (by omega)⟩
theorem BJ_tr {j k i : Int} {A B C : Int → Int} (h : BJ j A B) (g : BJ k B C) (hi : i = j + k) : BJ i A C := ⟨g.1.trans h.1, fun z c y => by
  have := g.2 (by rw [h.1]; exact z) _ (h.2 z c y)
  rw [hi, ← Int.add_assoc]
  exact this⟩
theorem BJ_eq {k : Int} {A A' : Int → Int} (hk : 0 ≤ k) (h : ∀ f, A' f = A f) : BJ k A A' := by
  have e : A' = A := funext h
  rw [e]
  exact BJ_rf hk
theorem BJ_le {j k : Int} {A B : Int → Int} (h : BJ j A B) (hk : j ≤ k) : BJ k A B := ⟨h.1, fun z c y => Bnd_up (h.2 z c y) (by omega)⟩
theorem BJ_same {k : Int} {A A' : Int → Int} (hk : 0 ≤ k) (h0 : ∀ f, f < 9 → A' f = A f) (hT : ∀ t f, 0 ≤ t → t < A 7 → 6 ≤ f → f ≤ 9 → A' (54 + 11 * t + f) = A (54 + 11 * t + f)) (hL : ∀ l, 0 ≤ l → l < A 8 → A' (164 + 8 * l + 7) = A (164 + 8 * l + 7)) : BJ k A A' := by
  refine ⟨h0 1 (by decide), fun _ c h => Bnd_up ?_ (show c ≤ c + k by omega)⟩
  obtain ⟨b2, b3, b4, b5, b6, bT, bL⟩ := h
  have e7 := h0 7 (by decide)
  have e8 := h0 8 (by decide)
  refine ⟨by rw [h0 2 (by decide)]; exact b2, by rw [h0 3 (by decide)]; exact b3, by rw [h0 4 (by decide)]; exact b4, by rw [h0 5 (by decide)]; exact b5, by rw [h0 6 (by decide)]; exact b6, fun t z0 z1 => ?_, fun l z0 z1 => ?_⟩
  · rw [hT t 6 z0 (by omega) (by decide) (by decide), hT t 7 z0 (by omega) (by decide) (by decide), hT t 8 z0 (by omega) (by decide) (by decide), hT t 9 z0 (by omega) (by decide) (by decide)]
    exact bT t z0 (by omega)
  · rw [hL l z0 (by omega)]
    exact bL l z0 (by omega)
theorem jp_rest {m t : Int} {A A' : Int → Int} (hW : Wf m A) (t0 : 0 ≤ t) (t1 : t < A 7) (hA : RsP A t A') : JP A A' ∧ BJ 700 A A' := by
  have hWh := hW.1
  have wT := hW.2.2.2.1 t t0 t1
  unfold WfH at hWh
  unfold WfT at wT
  unfold RsP at hA
  by_cases c : A (54 + 11 * t + 3) = 0
  · obtain ⟨inn, hi⟩ : ∃ inn, inn = A (54 + 11 * t + 2) := ⟨_, rfl⟩
    obtain ⟨aF, a1, a2, a3, a4⟩ := hA.2 c inn hi
    have he : 0 ≤ rsE A t inn ∧ rsE A t inn ≤ 1 := by
      unfold rsE
      split <;> omega
    generalize rsE A t inn = e at a1 a2 a3 he
    have z0 : A' 0 = A 0 := aF 0 (by omega) (by omega) (by omega) (by omega)
    have z1 : A' 1 = A 1 := aF 1 (by omega) (by omega) (by omega) (by omega)
    have z2 : A' 2 = A 2 := aF 2 (by omega) (by omega) (by omega) (by omega)
    have z3 : A' 3 = A 3 := aF 3 (by omega) (by omega) (by omega) (by omega)
    have z4 : A' 4 = A 4 := aF 4 (by omega) (by omega) (by omega) (by omega)
    have z5 : A' 5 = A 5 := aF 5 (by omega) (by omega) (by omega) (by omega)
    have z7 : A' 7 = A 7 := aF 7 (by omega) (by omega) (by omega) (by omega)
    have z8 : A' 8 = A 8 := aF 8 (by omega) (by omega) (by omega) (by omega)
    refine ⟨⟨fun z => ?_, ?_, z0, z7, z8, by rw [z2]; exact Int.le_refl _⟩, z1, fun _ c h => ?_⟩
    · unfold Jv at z ⊢
      rw [z2, z3, z4, z5, z7, a3, tot_upd (f := ate A) (g := ate A') t0 (by omega) (e := e) a2 (fun i y0 y1 y2 => aF _ (by omega) (by omega) (by omega) (by omega)), z.1]
      exact ⟨rfl, z.2⟩
    · unfold Qv
      rw [z2, z8, cnt_congr (q := pUn A) (fun l y0 y1 => by unfold pUn; rw [aF _ (by omega) (by omega) (by omega) (by omega)])]
    · obtain ⟨h2, h3, h4, h5, h6, hT, hL⟩ := h
      refine ⟨by omega, by omega, by omega, by omega, by omega, fun u y0 y1 => ?_, fun l y0 y1 => ?_⟩
      · have hu := hT u y0 (by omega)
        by_cases cu : u = t
        · subst cu
          rw [aF (54 + 11 * u + 6) (by omega) (by omega) (by omega) (by omega), aF (54 + 11 * u + 7) (by omega) (by omega) (by omega) (by omega), aF (54 + 11 * u + 8) (by omega) (by omega) (by omega) (by omega), a2]
          omega
        · rw [aF (54 + 11 * u + 6) (by omega) (by omega) (by omega) (by omega), aF (54 + 11 * u + 7) (by omega) (by omega) (by omega) (by omega), aF (54 + 11 * u + 8) (by omega) (by omega) (by omega) (by omega), aF (54 + 11 * u + 9) (by omega) (by omega) (by omega) (by omega)]
          omega
      · have hl := hL l y0 (by omega)
        rw [aF _ (by omega) (by omega) (by omega) (by omega)]
        omega
  · exact ⟨JP_eq (hA.1 c), BJ_eq (by decide) (hA.1 c)⟩
theorem jp_road {m t : Int} {A A' : Int → Int} (hW : Wf m A) (t0 : 0 ≤ t) (t1 : t < A 7) (hA : RdP A t A') : JP A A' ∧ BJ 700 A A' := by
  have hWh := hW.1
  unfold WfH at hWh
  unfold RdP at hA
  rcases hA with ⟨c, h⟩ | ⟨c, h, h2⟩ | ⟨c, c2, h, h2, h3, h4⟩ | ⟨c, c2, l, s, u, r, v1, v6, k8, k9, k10, k11, hl, hlr, hs, hsu, hr, hv1, hC, hl6, hl5, hR⟩
  · exact ⟨JP_eq h, BJ_eq (by decide) h⟩
  · exact ⟨JP_same (h _ (by omega)) (h _ (by omega)) (h _ (by omega)) (h _ (by omega)) (h _ (by omega)) (h _ (by omega)) (h _ (by omega)) (h _ (by omega)) (fun t z0 z1 => h _ (by omega)) (fun l z0 z1 => h _ (by omega)), BJ_same (by decide) (fun f z => h f (by omega)) (fun t f z0 z1 z2 z3 => h _ (by omega)) (fun l z0 z1 => h _ (by omega))⟩
  · refine ⟨JP_same (h _ (by omega) (by omega) (by omega)) (h _ (by omega) (by omega) (by omega)) (h _ (by omega) (by omega) (by omega)) (h _ (by omega) (by omega) (by omega)) (h _ (by omega) (by omega) (by omega)) (h _ (by omega) (by omega) (by omega)) (h _ (by omega) (by omega) (by omega)) (h _ (by omega) (by omega) (by omega)) (fun t z0 z1 => h _ (by omega) (by omega) (by omega)) (fun l z0 z1 => h _ (by omega) (by omega) (by omega)), h 1 (by omega) (by omega) (by omega), fun _ c hB => ?_⟩
    obtain ⟨b2, b3, b4, b5, b6, hT, hL⟩ := hB
    have y7 := h 7 (by omega) (by omega) (by omega)
    have y8 := h 8 (by omega) (by omega) (by omega)
    have y2 := h 2 (by omega) (by omega) (by omega)
    have y3 := h 3 (by omega) (by omega) (by omega)
    have y4 := h 4 (by omega) (by omega) (by omega)
    have y5 := h 5 (by omega) (by omega) (by omega)
    have y6 := h 6 (by omega) (by omega) (by omega)
    refine ⟨by omega, by omega, by omega, by omega, by omega, fun u y0 y1 => ?_, fun l y0 y1 => ?_⟩
    · have hu := hT u y0 (by omega)
      by_cases cu : u = t
      · subst cu
        rw [h (54 + 11 * u + 6) (by omega) (by omega) (by omega), h (54 + 11 * u + 7) (by omega) (by omega) (by omega), h (54 + 11 * u + 9) (by omega) (by omega) (by omega), h4]
        omega
      · rw [h (54 + 11 * u + 6) (by omega) (by omega) (by omega), h (54 + 11 * u + 7) (by omega) (by omega) (by omega), h (54 + 11 * u + 8) (by omega) (by omega) (by omega), h (54 + 11 * u + 9) (by omega) (by omega) (by omega)]
        omega
    · have hl := hL l y0 (by omega)
      rw [h _ (by omega) (by omega) (by omega)]
      omega
  · unfold RuP at hR
    obtain ⟨aF, a1, a3, a4, a6, a7, a15, a16, x2, x3, x4, x5⟩ := hR
    have wL := hW.2.2.2.2.1 l hlr.1 hlr.2
    unfold WfL at wL
    have fr : ∀ f, f < 2 ∨ (5 < f ∧ f < 9) → A' f = A f := fun f z => aF f (by omega) (by omega) (by omega) (by omega) (by omega) (by omega) (by omega) (by omega)
    have z7 := fr 7 (by omega)
    have z8 := fr 8 (by omega)
    have wS := hW.2.1 s hs.1 hs.2
    have hrr := ef_le (u := u) wS
    rw [← hr] at hrr
    refine ⟨⟨fun z => ?_, ?_, fr 0 (by omega), z7, z8, by unfold ComP at hC; omega⟩, fr 1 (by omega), fun h6 c hB => ?_⟩
    · unfold Jv at z ⊢
      rw [x2, x3, x4, x5, z7, fr 6 (by omega), tot_congr (f := ate A') (g := ate A) (fun t y0 y1 => aF _ (by omega) (by omega) (by omega) (by omega) (by omega) (by omega) (by omega) (by omega))]
      refine ⟨z.1, ?_⟩
      have z2 := z.2
      unfold ComP at hC
      omega
    · unfold Qv
      rw [x2, z8]
      unfold ComP at hC
      by_cases cc : A (164 + 8 * l + 4) = A (164 + 8 * l + 1)
      · have e : v6 = A 1 + 1 ∧ k8 = 1 := by omega
        rw [cnt_upd (p := pUn A) (q := pUn A') hlr.1 (by omega) (by unfold pUn; rw [hl6]; rfl) (by unfold pUn; rw [a16]; exact decide_eq_false (by omega)) (fun i y0 y1 y2 => by unfold pUn; rw [aF _ (by omega) (by omega) (by omega) (by omega) (by omega) (by omega) (by omega) (by omega)]), e.2]
        omega
      · have e : v6 = A (164 + 8 * l + 6) ∧ k8 = 0 := by omega
        rw [cnt_congr (q := pUn A) (fun i y0 y1 => by
          unfold pUn
          by_cases ci : i = l
          · rw [ci, a16, e.1]
          · rw [aF _ (by omega) (by omega) (by omega) (by omega) (by omega) (by omega) (by omega) (by omega)]), e.2]
        omega
    · obtain ⟨b2, b3, b4, b5, b6, hT, hL⟩ := hB
      unfold ComP at hC
      have y6 := fr 6 (by omega)
      refine ⟨by omega, by omega, by omega, by omega, by omega, fun u y0 y1 => ?_, fun l y0 y1 => ?_⟩
      · have hu := hT u y0 (by omega)
        have q8 := aF (54 + 11 * u + 8) (by omega) (by omega) (by omega) (by omega) (by omega) (by omega) (by omega) (by omega)
        have q9 := aF (54 + 11 * u + 9) (by omega) (by omega) (by omega) (by omega) (by omega) (by omega) (by omega) (by omega)
        by_cases cu : u = t
        · subst cu
          rw [q8, q9, a6, a7]
          omega
        · rw [q8, q9, aF (54 + 11 * u + 6) (by omega) (by omega) (by omega) (by omega) (by omega) (by omega) (by omega) (by omega), aF (54 + 11 * u + 7) (by omega) (by omega) (by omega) (by omega) (by omega) (by omega) (by omega) (by omega)]
          omega
      · have hl := hL l y0 (by omega)
        rw [aF _ (by omega) (by omega) (by omega) (by omega) (by omega) (by omega) (by omega) (by omega)]
        omega
theorem jp_send {m l : Int} {A A' : Int → Int} (hW : Wf m A) (l0 : 0 ≤ l) (l1 : l < A 8) (hA : SdP A l A') : JP A A' ∧ BJ 700 A A' := by
  have hWh := hW.1
  unfold WfH at hWh
  unfold SdP at hA
  by_cases c : wn A l = 0
  · obtain ⟨tr, -, -, h, -, -, -, -, -, -, h7⟩ := hA.2 c _ _ _ _ rfl rfl rfl rfl
    generalize ft A (A (164 + 8 * l + 4)) (A 7).toNat = t at tr h
    have fr : ∀ f, f < 9 → A' f = A f := fun f z => h f (by omega) (by omega) (by omega) (by omega) (by omega) (by omega) (by omega)
    refine ⟨JP_same (fr _ (by decide)) (fr _ (by decide)) (fr _ (by decide)) (fr _ (by decide)) (fr _ (by decide)) (fr _ (by decide)) (fr _ (by decide)) (fr _ (by decide)) (fun t z0 z1 => h _ (by omega) (by omega) (by omega) (by omega) (by omega) (by omega) (by omega)) (fun l z0 z1 => h _ (by omega) (by omega) (by omega) (by omega) (by omega) (by omega) (by omega)), fr 1 (by decide), fun _ c hB => ?_⟩
    obtain ⟨b2, b3, b4, b5, b6, hT, hL⟩ := hB
    have e7 := fr 7 (by decide)
    have e8 := fr 8 (by decide)
    refine ⟨by rw [fr 2 (by decide)]; omega, by rw [fr 3 (by decide)]; omega, by rw [fr 4 (by decide)]; omega, by rw [fr 5 (by decide)]; omega, by rw [fr 6 (by decide)]; omega, fun u y0 y1 => ?_, fun q y0 y1 => ?_⟩
    · have hu := hT u y0 (by omega)
      rw [h (54 + 11 * u + 6) (by omega) (by omega) (by omega) (by omega) (by omega) (by omega) (by omega), h (54 + 11 * u + 7) (by omega) (by omega) (by omega) (by omega) (by omega) (by omega) (by omega), h (54 + 11 * u + 8) (by omega) (by omega) (by omega) (by omega) (by omega) (by omega) (by omega), h (54 + 11 * u + 9) (by omega) (by omega) (by omega) (by omega) (by omega) (by omega) (by omega)]
      omega
    · have hq := hL q y0 (by omega)
      by_cases cq : q = l
      · rw [cq, h7]
        rw [cq] at hq
        omega
      · rw [h _ (by omega) (by omega) (by omega) (by omega) (by omega) (by omega) (by omega)]
        omega
  · exact ⟨JP_eq (hA.1 c), BJ_eq (by decide) (hA.1 c)⟩
theorem jp_back {m t : Int} {A A' : Int → Int} (hW : Wf m A) (t0 : 0 ≤ t) (t1 : t < A 7) (hA0 : ¬ wk A t → ∀ f, A' f = A f) (hA : wk A t → BkP A t A') : JP A A' ∧ BJ 700 A A' := by
  have hWh := hW.1
  unfold WfH at hWh
  by_cases c : wk A t
  · obtain ⟨h, -⟩ := hA c _ _ _ rfl rfl rfl
    have fr : ∀ f, f < 9 → A' f = A f := fun f z => h f (by omega) (by omega) (by omega) (by omega)
    exact ⟨JP_same (fr _ (by decide)) (fr _ (by decide)) (fr _ (by decide)) (fr _ (by decide)) (fr _ (by decide)) (fr _ (by decide)) (fr _ (by decide)) (fr _ (by decide)) (fun t z0 z1 => h _ (by omega) (by omega) (by omega) (by omega)) (fun l z0 z1 => h _ (by omega) (by omega) (by omega) (by omega)), BJ_same (by decide) fr (fun t f z0 z1 z2 z3 => h _ (by omega) (by omega) (by omega) (by omega)) (fun l z0 z1 => h _ (by omega) (by omega) (by omega) (by omega))⟩
  · exact ⟨JP_eq (hA0 c), BJ_eq (by decide) (hA0 c)⟩

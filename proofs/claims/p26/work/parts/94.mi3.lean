/-! EACH TURN KEEPS THE MIRROR -/
theorem Mi_eq {n : Int} {A B A' B' : Int → Int} (hM : Mi n A B) (h1 : ∀ f, A' f = A f) (h2 : ∀ f, B' f = B f) : Mi n A' B' := by
  have e1 : A' = A := funext h1
  have e2 : B' = B := funext h2
  rw [e1, e2]
  exact hM
theorem MiH_fr {n : Int} {A B A' B' : Int → Int} (h : MiH n A B) (hA : ∀ f, 0 ≤ f → f ≤ 8 → A' f = A f) (hB : ∀ f, 0 ≤ f → f ≤ 8 → B' f = B f) : MiH n A' B' := by
  obtain ⟨e0, e1, k1, k2, k3, k4, k5, k6, k7, k8⟩ := h
  exact ⟨by rw [hA 0 (by decide) (by decide)]; exact e0, by rw [hB 0 (by decide) (by decide)]; exact e1, by rw [hB 1 (by decide) (by decide), hA 1 (by decide) (by decide)]; exact k1, by rw [hB 2 (by decide) (by decide), hA 2 (by decide) (by decide)]; exact k2, by rw [hB 3 (by decide) (by decide), hA 3 (by decide) (by decide)]; exact k3, by rw [hB 4 (by decide) (by decide), hA 4 (by decide) (by decide)]; exact k4, by rw [hB 5 (by decide) (by decide), hA 5 (by decide) (by decide)]; exact k5, by rw [hB 6 (by decide) (by decide), hA 6 (by decide) (by decide)]; exact k6, by rw [hB 7 (by decide) (by decide), hA 7 (by decide) (by decide)]; exact k7, by rw [hB 8 (by decide) (by decide), hA 8 (by decide) (by decide)]; exact k8⟩
theorem MiS_fr {n s : Int} {A B A' B' : Int → Int} (h : MiS n A B s) (s0 : 0 ≤ s) (s1 : s < n - 1) (hn : n ≤ 8) (hA : ∀ f, 9 ≤ f → f < 30 → A' f = A f) (hB : ∀ f, 9 ≤ f → f < 30 → B' f = B f) : MiS n A' B' s := by
  obtain ⟨q0, q1, q2⟩ := h
  exact ⟨by rw [hB _ (by omega) (by omega), hA _ (by omega) (by omega)]; exact q0, by rw [hB _ (by omega) (by omega), hA _ (by omega) (by omega)]; exact q1, by rw [hB _ (by omega) (by omega), hA _ (by omega) (by omega)]; exact q2⟩
theorem MiN_fr {n i : Int} {A B A' B' : Int → Int} (h : MiN n A B i) (hA : ∀ f, 30 + 3 * i ≤ f → f < 30 + 3 * i + 3 → A' f = A f) (hB : ∀ f, 30 + 3 * (n - 1 - i) ≤ f → f < 30 + 3 * (n - 1 - i) + 3 → B' f = B f) : MiN n A' B' i := by
  obtain ⟨q0, q1, q2⟩ := h
  exact ⟨by rw [hB _ (by omega) (by omega), hA _ (by omega) (by omega)]; exact q0, by rw [hB _ (by omega) (by omega), hA _ (by omega) (by omega)]; exact q1, by rw [hB _ (by omega) (by omega), hA _ (by omega) (by omega)]; exact q2⟩
theorem MiT_fr {n t : Int} {A B A' B' : Int → Int} (h : MiT n A B t) (hA : ∀ f, 54 + 11 * t ≤ f → f < 54 + 11 * t + 11 → A' f = A f) (hB : ∀ f, 54 + 11 * t ≤ f → f < 54 + 11 * t + 11 → B' f = B f) : MiT n A' B' t := by
  obtain ⟨q0, q1, q2, q3, q4, q5, q6, q7, q8, q9, q10⟩ := h
  refine ⟨by rw [hB _ (by omega) (by omega), hA _ (by omega) (by omega)]; exact q0, by rw [hB _ (by omega) (by omega), hA _ (by omega) (by omega)]; exact q1, by rw [hB _ (by omega) (by omega), hA _ (by omega) (by omega)]; exact q2, by rw [hB _ (by omega) (by omega), hA _ (by omega) (by omega)]; exact q3, by rw [hB _ (by omega) (by omega), hA _ (by omega) (by omega)]; exact q4, by rw [hB _ (by omega) (by omega), hA _ (by omega) (by omega)]; exact q5, by rw [hB _ (by omega) (by omega), hA _ (by omega) (by omega)]; exact q6, by rw [hB _ (by omega) (by omega), hA _ (by omega) (by omega)]; exact q7, by rw [hB _ (by omega) (by omega), hA _ (by omega) (by omega)]; exact q8, by rw [hB _ (by omega) (by omega), hA _ (by omega) (by omega)]; exact q9, fun z => by rw [hB _ (by omega) (by omega), hA _ (by omega) (by omega)]; rw [hA _ (by omega) (by omega)] at z; exact q10 z⟩
theorem MiL_fr {n l : Int} {A B A' B' : Int → Int} (h : MiL n A B l) (hA : ∀ f, 164 + 8 * l ≤ f → f < 164 + 8 * l + 8 → A' f = A f) (hB : ∀ f, 164 + 8 * l ≤ f → f < 164 + 8 * l + 8 → B' f = B f) : MiL n A' B' l := by
  obtain ⟨q0, q1, q2, q3, q4, q5, q6, q7⟩ := h
  exact ⟨by rw [hB _ (by omega) (by omega), hA _ (by omega) (by omega)]; exact q0, by rw [hB _ (by omega) (by omega), hA _ (by omega) (by omega)]; exact q1, by rw [hB _ (by omega) (by omega), hA _ (by omega) (by omega)]; exact q2, by rw [hB _ (by omega) (by omega), hA _ (by omega) (by omega)]; exact q3, by rw [hB _ (by omega) (by omega), hA _ (by omega) (by omega)]; exact q4, by rw [hB _ (by omega) (by omega), hA _ (by omega) (by omega)]; exact q5, by rw [hB _ (by omega) (by omega), hA _ (by omega) (by omega)]; exact q6, by rw [hB _ (by omega) (by omega), hA _ (by omega) (by omega)]; exact q7⟩
theorem Mi_fr {n : Int} {A B A' B' : Int → Int} (hM : Mi n A B) (hn : n ≤ 8) (hH : MiH n A' B') (sA : ∀ f, 9 ≤ f → f < 30 → A' f = A f) (sB : ∀ f, 9 ≤ f → f < 30 → B' f = B f) (hN : ∀ i, 0 ≤ i → i < n → MiN n A' B' i) (hT : ∀ t, 0 ≤ t → t < A' 7 → MiT n A' B' t) (hL : ∀ l, 0 ≤ l → l < A' 8 → MiL n A' B' l) : Mi n A' B' := ⟨hH, fun s h0 h1 => MiS_fr (hM.2.1 s h0 h1) h0 h1 hn sA sB, hN, hT, hL⟩
theorem row_rest {n t e v : Int} {A B A' B' : Int → Int} (h : MiT n A B t) (gA : ∀ f, 0 ≤ f → f ≤ 10 → f ≠ 1 → f ≠ 9 → A' (54 + 11 * t + f) = A (54 + 11 * t + f)) (gB : ∀ f, 0 ≤ f → f ≤ 10 → f ≠ 1 → f ≠ 9 → B' (54 + 11 * t + f) = B (54 + 11 * t + f)) (a1 : A' (54 + 11 * t + 1) = v) (b1 : B' (54 + 11 * t + 1) = v) (a9 : A' (54 + 11 * t + 9) = A (54 + 11 * t + 9) + e) (b9 : B' (54 + 11 * t + 9) = B (54 + 11 * t + 9) + e) : MiT n A' B' t := by
  obtain ⟨q0, q1, q2, q3, q4, q5, q6, q7, q8, q9, q10⟩ := h
  exact ⟨by rw [gB 0 (by decide) (by decide) (by decide) (by decide), gA 0 (by decide) (by decide) (by decide) (by decide)]; exact q0, by rw [b1, a1], by rw [gB 2 (by decide) (by decide) (by decide) (by decide), gA 2 (by decide) (by decide) (by decide) (by decide)]; exact q2, by rw [gB 3 (by decide) (by decide) (by decide) (by decide), gA 3 (by decide) (by decide) (by decide) (by decide)]; exact q3, by rw [gB 4 (by decide) (by decide) (by decide) (by decide), gA 4 (by decide) (by decide) (by decide) (by decide)]; exact q4, by rw [gB 5 (by decide) (by decide) (by decide) (by decide), gA 5 (by decide) (by decide) (by decide) (by decide)]; exact q5, by rw [gB 6 (by decide) (by decide) (by decide) (by decide), gA 6 (by decide) (by decide) (by decide) (by decide)]; exact q6, by rw [gB 7 (by decide) (by decide) (by decide) (by decide), gA 7 (by decide) (by decide) (by decide) (by decide)]; exact q7, by rw [gB 8 (by decide) (by decide) (by decide) (by decide), gA 8 (by decide) (by decide) (by decide) (by decide)]; exact q8, by rw [b9, a9, q9], fun z => by rw [gB 10 (by decide) (by decide) (by decide) (by decide), gA 10 (by decide) (by decide) (by decide) (by decide)]; rw [gA 3 (by decide) (by decide) (by decide) (by decide)] at z; exact q10 z⟩
theorem row_run {n t v1 r : Int} {A B A' B' : Int → Int} (h : MiT n A B t) (gA : ∀ f, 0 ≤ f → f ≤ 10 → f ≠ 1 → f ≠ 3 → f ≠ 4 → f ≠ 6 → f ≠ 7 → A' (54 + 11 * t + f) = A (54 + 11 * t + f)) (gB : ∀ f, 0 ≤ f → f ≤ 10 → f ≠ 1 → f ≠ 3 → f ≠ 4 → f ≠ 6 → f ≠ 7 → B' (54 + 11 * t + f) = B (54 + 11 * t + f)) (a1 : A' (54 + 11 * t + 1) = v1) (b1 : B' (54 + 11 * t + 1) = v1) (a3 : A' (54 + 11 * t + 3) = 0) (b3 : B' (54 + 11 * t + 3) = 0) (a4 : A' (54 + 11 * t + 4) = -1) (b4 : B' (54 + 11 * t + 4) = -1) (a6 : A' (54 + 11 * t + 6) = A (54 + 11 * t + 6) + 1) (b6 : B' (54 + 11 * t + 6) = B (54 + 11 * t + 6) + 1) (a7 : A' (54 + 11 * t + 7) = A (54 + 11 * t + 7) + r) (b7 : B' (54 + 11 * t + 7) = B (54 + 11 * t + 7) + r) : MiT n A' B' t := by
  obtain ⟨q0, q1, q2, q3, q4, q5, q6, q7, q8, q9, q10⟩ := h
  exact ⟨by rw [gB 0 (by decide) (by decide) (by decide) (by decide) (by decide) (by decide) (by decide), gA 0 (by decide) (by decide) (by decide) (by decide) (by decide) (by decide) (by decide)]; exact q0, by rw [b1, a1], by rw [gB 2 (by decide) (by decide) (by decide) (by decide) (by decide) (by decide) (by decide), gA 2 (by decide) (by decide) (by decide) (by decide) (by decide) (by decide) (by decide)]; exact q2, by rw [b3, a3], by rw [b4, a4], by rw [gB 5 (by decide) (by decide) (by decide) (by decide) (by decide) (by decide) (by decide), gA 5 (by decide) (by decide) (by decide) (by decide) (by decide) (by decide) (by decide)]; exact q5, by rw [b6, a6, q6], by rw [b7, a7, q7], by rw [gB 8 (by decide) (by decide) (by decide) (by decide) (by decide) (by decide) (by decide), gA 8 (by decide) (by decide) (by decide) (by decide) (by decide) (by decide) (by decide)]; exact q8, by rw [gB 9 (by decide) (by decide) (by decide) (by decide) (by decide) (by decide) (by decide), gA 9 (by decide) (by decide) (by decide) (by decide) (by decide) (by decide) (by decide)]; exact q9, fun z => by rw [a3] at z; exact absurd z (by decide)⟩
theorem row_three {n t : Int} {A B A' B' : Int → Int} (h : MiT n A B t) (gA : ∀ f, 0 ≤ f → f ≤ 10 → f ≠ 3 → f ≠ 5 → f ≠ 8 → A' (54 + 11 * t + f) = A (54 + 11 * t + f)) (gB : ∀ f, 0 ≤ f → f ≤ 10 → f ≠ 3 → f ≠ 5 → f ≠ 8 → B' (54 + 11 * t + f) = B (54 + 11 * t + f)) (h3 : B' (54 + 11 * t + 3) = A' (54 + 11 * t + 3)) (h5 : B' (54 + 11 * t + 5) = A' (54 + 11 * t + 5)) (h8 : B' (54 + 11 * t + 8) = A' (54 + 11 * t + 8)) (hr : 0 < A' (54 + 11 * t + 3) → 0 < A (54 + 11 * t + 3)) : MiT n A' B' t := by
  obtain ⟨q0, q1, q2, q3, q4, q5, q6, q7, q8, q9, q10⟩ := h
  exact ⟨by rw [gB 0 (by decide) (by decide) (by decide) (by decide) (by decide), gA 0 (by decide) (by decide) (by decide) (by decide) (by decide)]; exact q0, by rw [gB 1 (by decide) (by decide) (by decide) (by decide) (by decide), gA 1 (by decide) (by decide) (by decide) (by decide) (by decide)]; exact q1, by rw [gB 2 (by decide) (by decide) (by decide) (by decide) (by decide), gA 2 (by decide) (by decide) (by decide) (by decide) (by decide)]; exact q2, by exact h3, by rw [gB 4 (by decide) (by decide) (by decide) (by decide) (by decide), gA 4 (by decide) (by decide) (by decide) (by decide) (by decide)]; exact q4, by exact h5, by rw [gB 6 (by decide) (by decide) (by decide) (by decide) (by decide), gA 6 (by decide) (by decide) (by decide) (by decide) (by decide)]; exact q6, by rw [gB 7 (by decide) (by decide) (by decide) (by decide) (by decide), gA 7 (by decide) (by decide) (by decide) (by decide) (by decide)]; exact q7, by exact h8, by rw [gB 9 (by decide) (by decide) (by decide) (by decide) (by decide), gA 9 (by decide) (by decide) (by decide) (by decide) (by decide)]; exact q9, fun z => by rw [gB 10 (by decide) (by decide) (by decide) (by decide) (by decide), gA 10 (by decide) (by decide) (by decide) (by decide) (by decide)]; exact q10 (hr z)⟩
theorem row_send {n t a b w l : Int} {A B A' B' : Int → Int} (h : MiT n A B t) (gA : ∀ f, 0 ≤ f → f ≤ 10 → f ≠ 2 → f ≠ 3 → f ≠ 4 → f ≠ 10 → A' (54 + 11 * t + f) = A (54 + 11 * t + f)) (gB : ∀ f, 0 ≤ f → f ≤ 10 → f ≠ 2 → f ≠ 3 → f ≠ 4 → f ≠ 10 → B' (54 + 11 * t + f) = B (54 + 11 * t + f)) (a2 : A' (54 + 11 * t + 2) = b) (b2 : B' (54 + 11 * t + 2) = n - 1 - b) (a3 : A' (54 + 11 * t + 3) = w) (b3 : B' (54 + 11 * t + 3) = w) (a4 : A' (54 + 11 * t + 4) = l) (b4 : B' (54 + 11 * t + 4) = l) (a10 : A' (54 + 11 * t + 10) = a) (b10 : B' (54 + 11 * t + 10) = n - 1 - a) : MiT n A' B' t := by
  obtain ⟨q0, q1, q2, q3, q4, q5, q6, q7, q8, q9, q10⟩ := h
  exact ⟨by rw [gB 0 (by decide) (by decide) (by decide) (by decide) (by decide) (by decide), gA 0 (by decide) (by decide) (by decide) (by decide) (by decide) (by decide)]; exact q0, by rw [gB 1 (by decide) (by decide) (by decide) (by decide) (by decide) (by decide), gA 1 (by decide) (by decide) (by decide) (by decide) (by decide) (by decide)]; exact q1, by rw [b2, a2], by rw [b3, a3], by rw [b4, a4], by rw [gB 5 (by decide) (by decide) (by decide) (by decide) (by decide) (by decide), gA 5 (by decide) (by decide) (by decide) (by decide) (by decide) (by decide)]; exact q5, by rw [gB 6 (by decide) (by decide) (by decide) (by decide) (by decide) (by decide), gA 6 (by decide) (by decide) (by decide) (by decide) (by decide) (by decide)]; exact q6, by rw [gB 7 (by decide) (by decide) (by decide) (by decide) (by decide) (by decide), gA 7 (by decide) (by decide) (by decide) (by decide) (by decide) (by decide)]; exact q7, by rw [gB 8 (by decide) (by decide) (by decide) (by decide) (by decide) (by decide), gA 8 (by decide) (by decide) (by decide) (by decide) (by decide) (by decide)]; exact q8, by rw [gB 9 (by decide) (by decide) (by decide) (by decide) (by decide) (by decide), gA 9 (by decide) (by decide) (by decide) (by decide) (by decide) (by decide)]; exact q9, fun _ => by rw [b10, a10]⟩
theorem row_back {n t a b w : Int} {A B A' B' : Int → Int} (h : MiT n A B t) (gA : ∀ f, 0 ≤ f → f ≤ 10 → f ≠ 2 → f ≠ 3 → f ≠ 5 → f ≠ 10 → A' (54 + 11 * t + f) = A (54 + 11 * t + f)) (gB : ∀ f, 0 ≤ f → f ≤ 10 → f ≠ 2 → f ≠ 3 → f ≠ 5 → f ≠ 10 → B' (54 + 11 * t + f) = B (54 + 11 * t + f)) (a2 : A' (54 + 11 * t + 2) = b) (b2 : B' (54 + 11 * t + 2) = n - 1 - b) (a3 : A' (54 + 11 * t + 3) = w) (b3 : B' (54 + 11 * t + 3) = w) (a5 : A' (54 + 11 * t + 5) = 1) (b5 : B' (54 + 11 * t + 5) = 1) (a10 : A' (54 + 11 * t + 10) = a) (b10 : B' (54 + 11 * t + 10) = n - 1 - a) : MiT n A' B' t := by
  obtain ⟨q0, q1, q2, q3, q4, q5, q6, q7, q8, q9, q10⟩ := h
  exact ⟨by rw [gB 0 (by decide) (by decide) (by decide) (by decide) (by decide) (by decide), gA 0 (by decide) (by decide) (by decide) (by decide) (by decide) (by decide)]; exact q0, by rw [gB 1 (by decide) (by decide) (by decide) (by decide) (by decide) (by decide), gA 1 (by decide) (by decide) (by decide) (by decide) (by decide) (by decide)]; exact q1, by rw [b2, a2], by rw [b3, a3], by rw [gB 4 (by decide) (by decide) (by decide) (by decide) (by decide) (by decide), gA 4 (by decide) (by decide) (by decide) (by decide) (by decide) (by decide)]; exact q4, by rw [b5, a5], by rw [gB 6 (by decide) (by decide) (by decide) (by decide) (by decide) (by decide), gA 6 (by decide) (by decide) (by decide) (by decide) (by decide) (by decide)]; exact q6, by rw [gB 7 (by decide) (by decide) (by decide) (by decide) (by decide) (by decide), gA 7 (by decide) (by decide) (by decide) (by decide) (by decide) (by decide)]; exact q7, by rw [gB 8 (by decide) (by decide) (by decide) (by decide) (by decide) (by decide), gA 8 (by decide) (by decide) (by decide) (by decide) (by decide) (by decide)]; exact q8, by rw [gB 9 (by decide) (by decide) (by decide) (by decide) (by decide) (by decide), gA 9 (by decide) (by decide) (by decide) (by decide) (by decide) (by decide)]; exact q9, fun _ => by rw [b10, a10]⟩
theorem row_t4 {n t v : Int} {A B A' B' : Int → Int} (h : MiT n A B t) (gA : ∀ f, 0 ≤ f → f ≤ 10 → f ≠ 4 → A' (54 + 11 * t + f) = A (54 + 11 * t + f)) (gB : ∀ f, 0 ≤ f → f ≤ 10 → f ≠ 4 → B' (54 + 11 * t + f) = B (54 + 11 * t + f)) (a4 : A' (54 + 11 * t + 4) = v) (b4 : B' (54 + 11 * t + 4) = v) : MiT n A' B' t := by
  obtain ⟨q0, q1, q2, q3, q4, q5, q6, q7, q8, q9, q10⟩ := h
  exact ⟨by rw [gB 0 (by decide) (by decide) (by decide), gA 0 (by decide) (by decide) (by decide)]; exact q0, by rw [gB 1 (by decide) (by decide) (by decide), gA 1 (by decide) (by decide) (by decide)]; exact q1, by rw [gB 2 (by decide) (by decide) (by decide), gA 2 (by decide) (by decide) (by decide)]; exact q2, by rw [gB 3 (by decide) (by decide) (by decide), gA 3 (by decide) (by decide) (by decide)]; exact q3, by rw [b4, a4], by rw [gB 5 (by decide) (by decide) (by decide), gA 5 (by decide) (by decide) (by decide)]; exact q5, by rw [gB 6 (by decide) (by decide) (by decide), gA 6 (by decide) (by decide) (by decide)]; exact q6, by rw [gB 7 (by decide) (by decide) (by decide), gA 7 (by decide) (by decide) (by decide)]; exact q7, by rw [gB 8 (by decide) (by decide) (by decide), gA 8 (by decide) (by decide) (by decide)]; exact q8, by rw [gB 9 (by decide) (by decide) (by decide), gA 9 (by decide) (by decide) (by decide)]; exact q9, fun z => by rw [gB 10 (by decide) (by decide) (by decide), gA 10 (by decide) (by decide) (by decide)]; rw [gA 3 (by decide) (by decide) (by decide)] at z; exact q10 z⟩
theorem row_lrun {n q v6 : Int} {A B A' B' : Int → Int} (h : MiL n A B q) (gA : ∀ f, 0 ≤ f → f < 8 → f ≠ 5 → f ≠ 6 → A' (164 + 8 * q + f) = A (164 + 8 * q + f)) (gB : ∀ f, 0 ≤ f → f < 8 → f ≠ 5 → f ≠ 6 → B' (164 + 8 * q + f) = B (164 + 8 * q + f)) (a5 : A' (164 + 8 * q + 5) = -1) (b5 : B' (164 + 8 * q + 5) = -1) (a6 : A' (164 + 8 * q + 6) = v6) (b6 : B' (164 + 8 * q + 6) = v6) : MiL n A' B' q := by
  obtain ⟨q0, q1, q2, q3, q4, q5, q6, q7⟩ := h
  exact ⟨by rw [gB 0 (by decide) (by decide) (by decide) (by decide), gA 0 (by decide) (by decide) (by decide) (by decide)]; exact q0, by rw [gB 1 (by decide) (by decide) (by decide) (by decide), gA 1 (by decide) (by decide) (by decide) (by decide)]; exact q1, by rw [gB 2 (by decide) (by decide) (by decide) (by decide), gA 2 (by decide) (by decide) (by decide) (by decide)]; exact q2, by rw [gB 3 (by decide) (by decide) (by decide) (by decide), gA 3 (by decide) (by decide) (by decide) (by decide)]; exact q3, by rw [gB 4 (by decide) (by decide) (by decide) (by decide), gA 4 (by decide) (by decide) (by decide) (by decide)]; exact q4, by rw [b5, a5], by rw [b6, a6], by rw [gB 7 (by decide) (by decide) (by decide) (by decide), gA 7 (by decide) (by decide) (by decide) (by decide)]; exact q7⟩
theorem row_lsend {n q b t : Int} {A B A' B' : Int → Int} (h : MiL n A B q) (gA : ∀ f, 0 ≤ f → f < 8 → f ≠ 4 → f ≠ 5 → f ≠ 7 → A' (164 + 8 * q + f) = A (164 + 8 * q + f)) (gB : ∀ f, 0 ≤ f → f < 8 → f ≠ 4 → f ≠ 5 → f ≠ 7 → B' (164 + 8 * q + f) = B (164 + 8 * q + f)) (a4 : A' (164 + 8 * q + 4) = b) (b4 : B' (164 + 8 * q + 4) = n - 1 - b) (a5 : A' (164 + 8 * q + 5) = t) (b5 : B' (164 + 8 * q + 5) = t) (a7 : A' (164 + 8 * q + 7) = A (164 + 8 * q + 7) + 1) (b7 : B' (164 + 8 * q + 7) = B (164 + 8 * q + 7) + 1) : MiL n A' B' q := by
  obtain ⟨q0, q1, q2, q3, q4, q5, q6, q7⟩ := h
  exact ⟨by rw [gB 0 (by decide) (by decide) (by decide) (by decide) (by decide), gA 0 (by decide) (by decide) (by decide) (by decide) (by decide)]; exact q0, by rw [gB 1 (by decide) (by decide) (by decide) (by decide) (by decide), gA 1 (by decide) (by decide) (by decide) (by decide) (by decide)]; exact q1, by rw [gB 2 (by decide) (by decide) (by decide) (by decide) (by decide), gA 2 (by decide) (by decide) (by decide) (by decide) (by decide)]; exact q2, by rw [gB 3 (by decide) (by decide) (by decide) (by decide) (by decide), gA 3 (by decide) (by decide) (by decide) (by decide) (by decide)]; exact q3, by rw [b4, a4], by rw [b5, a5], by rw [gB 6 (by decide) (by decide) (by decide) (by decide) (by decide), gA 6 (by decide) (by decide) (by decide) (by decide) (by decide)]; exact q6, by rw [b7, a7, q7]⟩
theorem mi_rest {n m t : Int} {A B A' B' : Int → Int} (hM : Mi n A B) (hW : Wf m A) (t0 : 0 ≤ t) (t1 : t < A 7) (hA : RsP A t A') (hB : RsP B t B') : Mi n A' B' := by
  have hWh := hW.1
  have wT := hW.2.2.2.1 t t0 t1
  have hT := hM.2.2.2.1 t t0 t1
  have e0 : A 0 = n := hM.1.1
  unfold WfH at hWh
  unfold WfT at wT
  have tA2 : 0 ≤ A (54 + 11 * t + 2) ∧ A (54 + 11 * t + 2) < n := by omega
  have hn : n ≤ 8 := by omega
  have h7 : A 7 ≤ 10 := by omega
  have h8 : A 8 ≤ 12 := by omega
  clear hWh wT
  unfold RsP at hA hB
  by_cases c : A (54 + 11 * t + 3) = 0
  · obtain ⟨inn, hi⟩ : ∃ inn, inn = A (54 + 11 * t + 2) := ⟨_, rfl⟩
    obtain ⟨aF, a1, a2, a3, a4⟩ := hA.2 c inn hi
    obtain ⟨bF, b1, b2, b3, b4⟩ := hB.2 (by rw [hT.2.2.2.1]; exact c) (n - 1 - inn) (by rw [hi]; exact hT.2.2.1.symm)
    rw [← hi] at tA2
    have hN := hM.2.2.1 inn tA2.1 tA2.2
    have ee : rsE B t (n - 1 - inn) = rsE A t inn := by
      unfold rsE
      rw [hT.2.1, hN.2.1]
    have ev : rsV B t (n - 1 - inn) = rsV A t inn := by
      unfold rsV
      rw [hT.2.1, hN.2.1]
    rw [ee] at b1 b2 b3
    rw [ev] at b4
    generalize rsE A t inn = e at a1 a2 a3 b1 b2 b3
    generalize rsV A t inn = v at a4 b4
    clear hA hB ee ev hi
    have z7 : A' 7 = A 7 := aF 7 (by omega) (by omega) (by omega) (by omega)
    have z8 : A' 8 = A 8 := aF 8 (by omega) (by omega) (by omega) (by omega)
    refine Mi_fr hM hn ?_ (fun f y0 y1 => aF f (by omega) (by omega) (by omega) (by omega)) (fun f y0 y1 => bF f (by omega) (by omega) (by omega) (by omega)) (fun i h0 h1 => ?_) (fun u h0 h1 => ?_) (fun l h0 h1 => ?_)
    · obtain ⟨e0, e1, k1, k2, k3, k4, k5, k6, k7, k8⟩ := hM.1
      have lA : ∀ f, 0 ≤ f → f ≤ 8 → f ≠ 6 → A' f = A f := fun f y0 y1 y2 => aF f (by omega) (by omega) (by omega) (by omega)
      have lB : ∀ f, 0 ≤ f → f ≤ 8 → f ≠ 6 → B' f = B f := fun f y0 y1 y2 => bF f (by omega) (by omega) (by omega) (by omega)
      exact ⟨by rw [lA 0 (by decide) (by decide) (by decide)]; exact e0, by rw [lB 0 (by decide) (by decide) (by decide)]; exact e1, by rw [lB 1 (by decide) (by decide) (by decide), lA 1 (by decide) (by decide) (by decide)]; exact k1, by rw [lB 2 (by decide) (by decide) (by decide), lA 2 (by decide) (by decide) (by decide)]; exact k2, by rw [lB 3 (by decide) (by decide) (by decide), lA 3 (by decide) (by decide) (by decide)]; exact k3, by rw [lB 4 (by decide) (by decide) (by decide), lA 4 (by decide) (by decide) (by decide)]; exact k4, by rw [lB 5 (by decide) (by decide) (by decide), lA 5 (by decide) (by decide) (by decide)]; exact k5, by rw [b3, a3, k6], by rw [lB 7 (by decide) (by decide) (by decide), lA 7 (by decide) (by decide) (by decide)]; exact k7, by rw [lB 8 (by decide) (by decide) (by decide), lA 8 (by decide) (by decide) (by decide)]; exact k8⟩
    · have h := hM.2.2.1 i h0 h1
      by_cases ci : i = inn
      · subst ci
        refine ⟨by rw [bF _ (by omega) (by omega) (by omega) (by omega), aF _ (by omega) (by omega) (by omega) (by omega)]; exact h.1, by rw [b1, a1, h.2.1], by rw [bF _ (by omega) (by omega) (by omega) (by omega), aF _ (by omega) (by omega) (by omega) (by omega)]; exact h.2.2⟩
      · exact MiN_fr h (fun f y0 y1 => aF f (by omega) (by omega) (by omega) (by omega)) (fun f y0 y1 => bF f (by omega) (by omega) (by omega) (by omega))
    · have h := hM.2.2.2.1 u h0 (by omega)
      by_cases cu : u = t
      · subst cu
        exact row_rest h (fun f y0 y1 y2 y3 => aF _ (by omega) (by omega) (by omega) (by omega)) (fun f y0 y1 y2 y3 => bF _ (by omega) (by omega) (by omega) (by omega)) a4 b4 a2 b2
      · exact MiT_fr h (fun f y0 y1 => aF f (by omega) (by omega) (by omega) (by omega)) (fun f y0 y1 => bF f (by omega) (by omega) (by omega) (by omega))
    · exact MiL_fr (hM.2.2.2.2 l h0 (by omega)) (fun f y0 y1 => aF f (by omega) (by omega) (by omega) (by omega)) (fun f y0 y1 => bF f (by omega) (by omega) (by omega) (by omega))
  · exact Mi_eq hM (hA.1 c) (hB.1 (by rw [hT.2.2.2.1]; exact c))
theorem mi_run {n t l r v1 v6 k8 k9 k10 k11 : Int} {A B A' B' : Int → Int} (hM : Mi n A B) (hn : n ≤ 8) (h7 : A 7 ≤ 10) (h8 : A 8 ≤ 12) (t0 : 0 ≤ t) (t1 : t < A 7) (l0 : 0 ≤ l) (l1 : l < A 8) (hA : RuP A t l r v1 v6 k8 k9 k10 k11 A') (hB : RuP B t l r v1 v6 k8 k9 k10 k11 B') : Mi n A' B' := by
  obtain ⟨aF, a1, a3, a4, a6, a7, a15, a16, x2, x3, x4, x5⟩ := hA
  obtain ⟨bF, b1, b3, b4, b6, b7, b15, b16, y2, y3, y4, y5⟩ := hB
  have z7 : A' 7 = A 7 := aF 7 (by omega) (by omega) (by omega) (by omega) (by omega) (by omega) (by omega) (by omega)
  have z8 : A' 8 = A 8 := aF 8 (by omega) (by omega) (by omega) (by omega) (by omega) (by omega) (by omega) (by omega)
  refine Mi_fr hM hn ?_ (fun f y0 y1 => aF f (by omega) (by omega) (by omega) (by omega) (by omega) (by omega) (by omega) (by omega)) (fun f y0 y1 => bF f (by omega) (by omega) (by omega) (by omega) (by omega) (by omega) (by omega) (by omega)) (fun i h0 h1 => ?_) (fun u h0 h1 => ?_) (fun q h0 h1 => ?_)
  · obtain ⟨e0, e1, j1, j2, j3, j4, j5, j6, j7, j8⟩ := hM.1
    exact ⟨by rw [aF 0 (by omega) (by omega) (by omega) (by omega) (by omega) (by omega) (by omega) (by omega)]; exact e0, by rw [bF 0 (by omega) (by omega) (by omega) (by omega) (by omega) (by omega) (by omega) (by omega)]; exact e1, by rw [bF 1 (by omega) (by omega) (by omega) (by omega) (by omega) (by omega) (by omega) (by omega), aF 1 (by omega) (by omega) (by omega) (by omega) (by omega) (by omega) (by omega) (by omega)]; exact j1, by rw [y2, x2, j2], by rw [y3, x3, j3], by rw [y4, x4, j4], by rw [y5, x5, j5], by rw [bF 6 (by omega) (by omega) (by omega) (by omega) (by omega) (by omega) (by omega) (by omega), aF 6 (by omega) (by omega) (by omega) (by omega) (by omega) (by omega) (by omega) (by omega)]; exact j6, by rw [bF 7 (by omega) (by omega) (by omega) (by omega) (by omega) (by omega) (by omega) (by omega), z7]; exact j7, by rw [bF 8 (by omega) (by omega) (by omega) (by omega) (by omega) (by omega) (by omega) (by omega), z8]; exact j8⟩
  · exact MiN_fr (hM.2.2.1 i h0 h1) (fun f y0 y1 => aF f (by omega) (by omega) (by omega) (by omega) (by omega) (by omega) (by omega) (by omega)) (fun f y0 y1 => bF f (by omega) (by omega) (by omega) (by omega) (by omega) (by omega) (by omega) (by omega))
  · have h := hM.2.2.2.1 u h0 (by omega)
    by_cases cu : u = t
    · subst cu
      exact row_run h (fun f y0 y1 y2 y3 y4 y5 y6 => aF _ (by omega) (by omega) (by omega) (by omega) (by omega) (by omega) (by omega) (by omega)) (fun f y0 y1 y2 y3 y4 y5 y6 => bF _ (by omega) (by omega) (by omega) (by omega) (by omega) (by omega) (by omega) (by omega)) a1 b1 a3 b3 a4 b4 a6 b6 a7 b7
    · exact MiT_fr h (fun f y0 y1 => aF f (by omega) (by omega) (by omega) (by omega) (by omega) (by omega) (by omega) (by omega)) (fun f y0 y1 => bF f (by omega) (by omega) (by omega) (by omega) (by omega) (by omega) (by omega) (by omega))
  · have h := hM.2.2.2.2 q h0 (by omega)
    by_cases cq : q = l
    · subst cq
      exact row_lrun h (fun f y0 y1 y2 y3 => aF _ (by omega) (by omega) (by omega) (by omega) (by omega) (by omega) (by omega) (by omega)) (fun f y0 y1 y2 y3 => bF _ (by omega) (by omega) (by omega) (by omega) (by omega) (by omega) (by omega) (by omega)) a15 b15 a16 b16
    · exact MiL_fr h (fun f y0 y1 => aF f (by omega) (by omega) (by omega) (by omega) (by omega) (by omega) (by omega) (by omega)) (fun f y0 y1 => bF f (by omega) (by omega) (by omega) (by omega) (by omega) (by omega) (by omega) (by omega))
theorem mi_three {n t : Int} {A B A' B' : Int → Int} (hM : Mi n A B) (hn : n ≤ 8) (h7 : A 7 ≤ 10) (t0 : 0 ≤ t) (aF : ∀ f, f ≠ 54 + 11 * t + 3 → f ≠ 54 + 11 * t + 5 → f ≠ 54 + 11 * t + 8 → A' f = A f) (bF : ∀ f, f ≠ 54 + 11 * t + 3 → f ≠ 54 + 11 * t + 5 → f ≠ 54 + 11 * t + 8 → B' f = B f) (t1 : t < A 7) (h3 : B' (54 + 11 * t + 3) = A' (54 + 11 * t + 3)) (h5 : B' (54 + 11 * t + 5) = A' (54 + 11 * t + 5)) (h8 : B' (54 + 11 * t + 8) = A' (54 + 11 * t + 8)) (hr : 0 < A' (54 + 11 * t + 3) → 0 < A (54 + 11 * t + 3)) : Mi n A' B' := by
  have z7 : A' 7 = A 7 := aF 7 (by omega) (by omega) (by omega)
  have z8 : A' 8 = A 8 := aF 8 (by omega) (by omega) (by omega)
  refine Mi_fr hM hn (MiH_fr hM.1 (fun f y0 y1 => aF f (by omega) (by omega) (by omega)) (fun f y0 y1 => bF f (by omega) (by omega) (by omega))) (fun f y0 y1 => aF f (by omega) (by omega) (by omega)) (fun f y0 y1 => bF f (by omega) (by omega) (by omega)) (fun i h0 h1 => ?_) (fun u h0 h1 => ?_) (fun q h0 h1 => ?_)
  · exact MiN_fr (hM.2.2.1 i h0 h1) (fun f y0 y1 => aF f (by omega) (by omega) (by omega)) (fun f y0 y1 => bF f (by omega) (by omega) (by omega))
  · have h := hM.2.2.2.1 u h0 (by omega)
    by_cases cu : u = t
    · subst cu
      exact row_three h (fun f y0 y1 y2 y3 y4 => aF _ (by omega) (by omega) (by omega)) (fun f y0 y1 y2 y3 y4 => bF _ (by omega) (by omega) (by omega)) h3 h5 h8 hr
    · exact MiT_fr h (fun f y0 y1 => aF f (by omega) (by omega) (by omega)) (fun f y0 y1 => bF f (by omega) (by omega) (by omega))
  · exact MiL_fr (hM.2.2.2.2 q h0 (by omega)) (fun f y0 y1 => aF f (by omega) (by omega) (by omega)) (fun f y0 y1 => bF f (by omega) (by omega) (by omega))
theorem mi_road {n m t : Int} {A B A' B' : Int → Int} (hM : Mi n A B) (hW : Wf m A) (t0 : 0 ≤ t) (t1 : t < A 7) (hA : RdP A t A') (hB : RdP B t B') : Mi n A' B' := by
  have wT := hW.2.2.2.1 t t0 t1
  have hT := hM.2.2.2.1 t t0 t1
  have e0 : A 0 = n := hM.1.1
  have e1 : B 0 = n := hM.1.2.1
  have hWh := hW.1
  unfold WfH at hWh
  have hn : n ≤ 8 := by omega
  have h7 : A 7 ≤ 10 := by omega
  have h8 : A 8 ≤ 12 := by omega
  clear hWh
  obtain ⟨q0, q1, q2, q3, q4, q5, q6, q7, q8, q9, q10⟩ := hT
  unfold RdP at hA hB
  rw [q3, q5, q4] at hB
  rcases hA with ⟨c, h⟩ | ⟨c, h, h2⟩ | ⟨c, c2, h, h2, h3, h4⟩ | ⟨c, c2, l, s, u, r, v1, v6, k8, k9, k10, k11, hl, hlr, hs, hsu, hr, hv1, hC, hl6, hl5, hR⟩
  · rcases hB with ⟨d, g⟩ | ⟨d, g, g2⟩ | ⟨d, d2, g, g2, g3, g4⟩ | ⟨d, d2, -⟩
    · exact Mi_eq hM h g
    · exfalso; clear wT q0 q1 q2 q4 q5 q6 q7 q8 q9 q10; omega
    · exfalso; clear wT q0 q1 q2 q4 q5 q6 q7 q8 q9 q10; omega
    · exfalso; clear wT q0 q1 q2 q4 q5 q6 q7 q8 q9 q10; omega
  · rcases hB with ⟨d, g⟩ | ⟨d, g, g2⟩ | ⟨d, d2, g, g2, g3, g4⟩ | ⟨d, d2, -⟩
    · exfalso; clear wT q0 q1 q2 q4 q5 q6 q7 q8 q9 q10; omega
    · refine mi_three hM hn h7 t0 (fun f y1 _ _ => h f y1) (fun f y1 _ _ => g f y1) t1 (by rw [g2, h2]) ?_ ?_ (fun _ => by clear wT q10; omega)
      · rw [g _ (by omega), h _ (by omega)]
        exact q5
      · rw [g _ (by omega), h _ (by omega)]
        exact q8
    · exfalso; clear wT q0 q1 q2 q4 q5 q6 q7 q8 q9 q10; omega
    · exfalso; clear wT q0 q1 q2 q4 q5 q6 q7 q8 q9 q10; omega
  · rcases hB with ⟨d, g⟩ | ⟨d, g, g2⟩ | ⟨d, d2, g, g2, g3, g4⟩ | ⟨d, d2, -⟩
    · exfalso; clear wT q0 q1 q2 q4 q5 q6 q7 q8 q9 q10; omega
    · exfalso; clear wT q0 q1 q2 q4 q5 q6 q7 q8 q9 q10; omega
    · exact mi_three hM hn h7 t0 h g t1 (by rw [g2, h2]) (by rw [g3, h3]) (by rw [g4, h4, q8]) (fun _ => by rw [c]; decide)
    · exfalso; clear wT q0 q1 q2 q4 q5 q6 q7 q8 q9 q10; omega
  · rcases hB with ⟨d, g⟩ | ⟨d, g, g2⟩ | ⟨d, d2, g, g2, g3, g4⟩ | ⟨d, d2, l', s', u', r', v1', v6', k8', k9', k10', k11', hl', hlr', hs', hsu', hr', hv1', hC', hl6', hl5', hR'⟩
    · exfalso; clear wT q0 q1 q2 q4 q5 q6 q7 q8 q9 q10; omega
    · exfalso; clear wT q0 q1 q2 q4 q5 q6 q7 q8 q9 q10; omega
    · exfalso; clear wT q0 q1 q2 q4 q5 q6 q7 q8 q9 q10; omega
    · have w5 := (wT.2.2.2.2.2 (by rw [c]; decide)).2.1
      have q10 := q10 (by rw [c]; decide)
      have el : l' = l := by rw [hl', hl]
      rw [q10, q2] at hsu'
      have esu : s' = n - 2 - s ∧ u' = 1 - u := by
        clear wT q0 q1 q3 q4 q5 q6 q7 q8 q9 hC hC' hv1 hv1' hr hr'
        omega
      have hu : u = 0 ∨ u = 1 := by
        rcases hsu with ⟨-, -, z⟩ | ⟨-, -, z⟩
        · exact Or.inr z
        · exact Or.inl z
      have er : r' = r := by
        rw [hr', hr, esu.1, esu.2]
        exact mi_ef (hM.2.1 s hs.1 (by omega)) hu
      have ev : v1' = v1 := by rw [hv1', hv1, er, q1]
      obtain ⟨p0, p1, p2, p3, p4, p5, p6, p7⟩ := hM.2.2.2.2 l hlr.1 hlr.2
      have b1 : B 1 = A 1 := hM.1.2.2.1
      unfold ComP at hC hC'
      rw [el, p4, p1, p2, p3, p6, b1] at hC'
      have ec : v6' = v6 ∧ k8' = k8 ∧ k9' = k9 ∧ k10' = k10 ∧ k11' = k11 := by
        clear wT q0 q1 q2 q3 q4 q5 q6 q7 q8 q9 q10 p0 p1 p2 p3 p4 p5 p6 p7 hs hs' hsu hsu' w5 esu hl6 hl6' hlr hlr'
        omega
      obtain ⟨x1, x2, x3, x4, x5⟩ := ec
      rw [el, er, ev, x1, x2, x3, x4, x5] at hR'
      exact mi_run hM hn h7 h8 t0 t1 hlr.1 hlr.2 hR hR'
def SdP (A : Int → Int) (l : Int) (A' : Int → Int) : Prop := (wn A l ≠ 0 → ∀ f, A' f = A f) ∧ (wn A l = 0 → ∀ a b s t, a = A (164 + 8 * l + 4) → b = nx a (A (164 + 8 * l + 1)) → s = sg a b → t = ft A a (A 7).toNat → (0 ≤ t ∧ t < A 7) ∧ A (54 + 11 * t + 2) = a ∧ A (54 + 11 * t + 3) = 0 ∧ (∀ f, f ≠ 54 + 11 * t + 2 → f ≠ 54 + 11 * t + 3 → f ≠ 54 + 11 * t + 4 → f ≠ 54 + 11 * t + 10 → f ≠ 164 + 8 * l + 4 → f ≠ 164 + 8 * l + 5 → f ≠ 164 + 8 * l + 7 → A' f = A f) ∧ A' (54 + 11 * t + 2) = b ∧ A' (54 + 11 * t + 3) = A (9 + 3 * s) ∧ A' (54 + 11 * t + 4) = l ∧ A' (54 + 11 * t + 10) = a ∧ A' (164 + 8 * l + 4) = b ∧ A' (164 + 8 * l + 5) = t ∧ A' (164 + 8 * l + 7) = A (164 + 8 * l + 7) + 1)
theorem mi_send {n m l : Int} {A B A' B' : Int → Int} (hM : Mi n A B) (hW : Wf m A) (l0 : 0 ≤ l) (l1 : l < A 8) (hA : SdP A l A') (hB : SdP B l B') : Mi n A' B' := by
  have hWh := hW.1
  have wL := hW.2.2.2.2.1 l l0 l1
  obtain ⟨p0, p1, p2, p3, p4, p5, p6, p7⟩ := hM.2.2.2.2 l l0 l1
  have e0 : A 0 = n := hM.1.1
  have f7 : B 7 = A 7 := hM.1.2.2.2.2.2.2.2.2.1
  unfold WfH at hWh
  unfold WfL at wL
  have hn : n ≤ 8 := by omega
  have h7 : 0 ≤ A 7 ∧ A 7 ≤ 10 := by omega
  have h8 : A 8 ≤ 12 := by omega
  have wa : (0 ≤ A (164 + 8 * l + 4) ∧ A (164 + 8 * l + 4) < n) ∧ (0 ≤ A (164 + 8 * l + 1) ∧ A (164 + 8 * l + 1) < n) := by omega
  have wne := wL.2.2.2.2.2.2.2
  clear hWh wL
  have ew := mi_wn hM hW l0 l1
  unfold SdP at hA hB
  by_cases c : wn A l = 0
  · obtain ⟨z6, z5, -, -, -⟩ := wn_zero c rfl rfl rfl rfl
    have hne := wne z6 z5
    clear wne z6 z5
    obtain ⟨a, ha⟩ : ∃ a, a = A (164 + 8 * l + 4) := ⟨_, rfl⟩
    obtain ⟨to, hto⟩ : ∃ to, to = A (164 + 8 * l + 1) := ⟨_, rfl⟩
    rw [← ha, ← hto] at hne wa
    obtain ⟨w1, w2, w3, w4, w5, w6⟩ := mi_way hM (a := a) (c := to) wa.1 wa.2 hne
    obtain ⟨b, hb⟩ : ∃ b, b = nx a to := ⟨_, rfl⟩
    rw [← hb] at w1 w2 w3 w4 w5 w6
    obtain ⟨s, hs⟩ : ∃ s, s = sg a b := ⟨_, rfl⟩
    rw [← hs] at w2 w5
    obtain ⟨t, ht⟩ : ∃ t, t = ft A a (A 7).toNat := ⟨_, rfl⟩
    obtain ⟨tr, ta, ts, aF, a2, a3, a4, a10, m4, m5, m7⟩ := hA.2 c a b s t ha (by rw [hb, hto]) hs ht
    obtain ⟨-, -, -, bF, b2, b3, b4, b10, n4, n5, n7⟩ := hB.2 (by rw [ew]; exact c) (n - 1 - a) (n - 1 - b) (n - 2 - s) t (by rw [p4, ha]) (by rw [p1, ← hto, w1]) w2.symm (by rw [f7, mi_ft hM _ (by omega)]; exact ht)
    have hS := hM.2.1 s w5.1 w5.2
    rw [hS.1] at b3
    clear hA hB ha hto hb hs ht w1 w2 w3 w4 w5 w6 hne wa p0 p1 p2 p3 p4 p5 p6 p7
    have z7 : A' 7 = A 7 := aF 7 (by omega) (by omega) (by omega) (by omega) (by omega) (by omega) (by omega)
    have z8 : A' 8 = A 8 := aF 8 (by omega) (by omega) (by omega) (by omega) (by omega) (by omega) (by omega)
    refine Mi_fr hM hn (MiH_fr hM.1 (fun f y0 y1 => aF f (by omega) (by omega) (by omega) (by omega) (by omega) (by omega) (by omega)) (fun f y0 y1 => bF f (by omega) (by omega) (by omega) (by omega) (by omega) (by omega) (by omega))) (fun f y0 y1 => aF f (by omega) (by omega) (by omega) (by omega) (by omega) (by omega) (by omega)) (fun f y0 y1 => bF f (by omega) (by omega) (by omega) (by omega) (by omega) (by omega) (by omega)) (fun i h0 h1 => ?_) (fun u h0 h1 => ?_) (fun q h0 h1 => ?_)
    · exact MiN_fr (hM.2.2.1 i h0 h1) (fun f y0 y1 => aF f (by omega) (by omega) (by omega) (by omega) (by omega) (by omega) (by omega)) (fun f y0 y1 => bF f (by omega) (by omega) (by omega) (by omega) (by omega) (by omega) (by omega))
    · have h := hM.2.2.2.1 u h0 (by omega)
      by_cases cu : u = t
      · subst cu
        exact row_send h (fun f y0 y1 y2 y3 y4 y5 => aF _ (by omega) (by omega) (by omega) (by omega) (by omega) (by omega) (by omega)) (fun f y0 y1 y2 y3 y4 y5 => bF _ (by omega) (by omega) (by omega) (by omega) (by omega) (by omega) (by omega)) a2 b2 a3 b3 a4 b4 a10 b10
      · exact MiT_fr h (fun f y0 y1 => aF f (by omega) (by omega) (by omega) (by omega) (by omega) (by omega) (by omega)) (fun f y0 y1 => bF f (by omega) (by omega) (by omega) (by omega) (by omega) (by omega) (by omega))
    · have h := hM.2.2.2.2 q h0 (by omega)
      by_cases cq : q = l
      · subst cq
        exact row_lsend h (fun f y0 y1 y2 y3 y4 => aF _ (by omega) (by omega) (by omega) (by omega) (by omega) (by omega) (by omega)) (fun f y0 y1 y2 y3 y4 => bF _ (by omega) (by omega) (by omega) (by omega) (by omega) (by omega) (by omega)) m4 n4 m5 n5 m7 n7
      · exact MiL_fr h (fun f y0 y1 => aF f (by omega) (by omega) (by omega) (by omega) (by omega) (by omega) (by omega)) (fun f y0 y1 => bF f (by omega) (by omega) (by omega) (by omega) (by omega) (by omega) (by omega))
  · exact Mi_eq hM (hA.1 c) (hB.1 (by rw [ew]; exact c))
theorem mi_back {n m t : Int} {A B A' B' : Int → Int} (hM : Mi n A B) (hW : Wf m A) (t0 : 0 ≤ t) (t1 : t < A 7) (hA0 : ¬ wk A t → ∀ f, A' f = A f) (hB0 : ¬ wk B t → ∀ f, B' f = B f) (hA : wk A t → BkP A t A') (hB : wk B t → BkP B t B') : Mi n A' B' := by
  have hWh := hW.1
  have wT := hW.2.2.2.1 t t0 t1
  obtain ⟨q0, -, q2, -⟩ := hM.2.2.2.1 t t0 t1
  have e0 : A 0 = n := hM.1.1
  unfold WfH at hWh
  unfold WfT at wT
  have hn : n ≤ 8 := by omega
  have h7 : A 7 ≤ 10 := by omega
  have h8 : A 8 ≤ 12 := by omega
  have wa : (0 ≤ A (54 + 11 * t + 2) ∧ A (54 + 11 * t + 2) < n) ∧ (0 ≤ A (54 + 11 * t + 0) ∧ A (54 + 11 * t + 0) < n) := by omega
  clear hWh wT
  have ew := mi_wk hM hW t0 t1
  by_cases c : wk A t
  · have cne : A (54 + 11 * t + 2) ≠ A (54 + 11 * t + 0) := c.2.1
    obtain ⟨a, ha⟩ : ∃ a, a = A (54 + 11 * t + 2) := ⟨_, rfl⟩
    obtain ⟨to, hto⟩ : ∃ to, to = A (54 + 11 * t + 0) := ⟨_, rfl⟩
    rw [← ha, ← hto] at cne wa
    obtain ⟨w1, w2, w3, w4, w5, w6⟩ := mi_way hM (a := a) (c := to) wa.1 wa.2 cne
    obtain ⟨b, hb⟩ : ∃ b, b = nx a to := ⟨_, rfl⟩
    rw [← hb] at w1 w2 w3 w4 w5 w6
    obtain ⟨s, hs⟩ : ∃ s, s = sg a b := ⟨_, rfl⟩
    rw [← hs] at w2 w5
    obtain ⟨aF, a2, a3, a5, a10⟩ := hA c a b s ha (by rw [hb, hto]) hs
    obtain ⟨bF, b2, b3, b5, b10⟩ := hB (ew.mpr c) (n - 1 - a) (n - 1 - b) (n - 2 - s) (by rw [q2, ha]) (by rw [q0, ← hto, w1]) w2.symm
    have hS := hM.2.1 s w5.1 w5.2
    rw [hS.1] at b3
    clear hA hB hA0 hB0 ha hto hb hs w1 w2 w3 w4 w5 w6 cne wa q0 q2 ew c
    have z7 : A' 7 = A 7 := aF 7 (by omega) (by omega) (by omega) (by omega)
    have z8 : A' 8 = A 8 := aF 8 (by omega) (by omega) (by omega) (by omega)
    refine Mi_fr hM hn (MiH_fr hM.1 (fun f y0 y1 => aF f (by omega) (by omega) (by omega) (by omega)) (fun f y0 y1 => bF f (by omega) (by omega) (by omega) (by omega))) (fun f y0 y1 => aF f (by omega) (by omega) (by omega) (by omega)) (fun f y0 y1 => bF f (by omega) (by omega) (by omega) (by omega)) (fun i h0 h1 => ?_) (fun u h0 h1 => ?_) (fun q h0 h1 => ?_)
    · exact MiN_fr (hM.2.2.1 i h0 h1) (fun f y0 y1 => aF f (by omega) (by omega) (by omega) (by omega)) (fun f y0 y1 => bF f (by omega) (by omega) (by omega) (by omega))
    · have h := hM.2.2.2.1 u h0 (by omega)
      by_cases cu : u = t
      · subst cu
        exact row_back h (fun f y0 y1 y2 y3 y4 y5 => aF _ (by omega) (by omega) (by omega) (by omega)) (fun f y0 y1 y2 y3 y4 y5 => bF _ (by omega) (by omega) (by omega) (by omega)) a2 b2 a3 b3 a5 b5 a10 b10
      · exact MiT_fr h (fun f y0 y1 => aF f (by omega) (by omega) (by omega) (by omega)) (fun f y0 y1 => bF f (by omega) (by omega) (by omega) (by omega))
    · exact MiL_fr (hM.2.2.2.2 q h0 (by omega)) (fun f y0 y1 => aF f (by omega) (by omega) (by omega) (by omega)) (fun f y0 y1 => bF f (by omega) (by omega) (by omega) (by omega))
  · exact Mi_eq hM (hA0 c) (hB0 (fun z => c (ew.mp z)))

/-! THE DIGEST -/
def fo (g : Int → Int → Int) : Nat → Int → Int
  | 0, h => h
  | n + 1, h => g n (fo g n h)
theorem fo_congr {g g' : Int → Int → Int} {N : Nat} (e : ∀ i h, 0 ≤ i → i < (N : Int) → g i h = g' i h) (h : Int) : fo g N h = fo g' N h := by
  induction N with
  | zero => rfl
  | succ n ih => rw [fo, fo, ih (fun i h z1 z2 => e i h z1 (by omega)), e n _ (by omega) (by omega)]
theorem fo_add (g : Int → Int → Int) (a b : Nat) (h : Int) : fo g (a + b) h = fo (fun i h => g (a + i) h) b (fo g a h) := by
  induction b with
  | zero => rfl
  | succ b ih =>
    have e : a + (b + 1) = (a + b) + 1 := rfl
    have e2 : ((a + b : Nat) : Int) = (a : Int) + (b : Int) := by omega
    rw [e, fo, fo, ih, e2]
theorem fo_flat (g : Int → Int → Int → Int) (w : Nat) (hd : ∀ (n : Nat) (i : Int), 0 ≤ i → i < (w : Int) → (((w * n : Nat) : Int) + i) / (w : Int) = n ∧ (((w * n : Nat) : Int) + i) % (w : Int) = i) (n : Nat) (h : Int) : fo (fun k h => g (k / (w : Int)) (k % (w : Int)) h) (w * n) h = fo (fun i h => fo (g i) w h) n h := by
  induction n with
  | zero => rfl
  | succ n ih =>
    have e : w * (n + 1) = w * n + w := rfl
    rw [e, fo_add, fo, ih]
    exact fo_congr (fun i h z1 z2 => by rw [(hd n i z1 z2).1, (hd n i z1 z2).2]) _
theorem fo_loop {α κ : Type} (ap : κ → Int → Int → Option α) (L : Nat → Int → Int → κ → Option α) (N : Nat) (g : Int → Int → Int) (step : ∀ n h i k, 0 ≤ i → i < (N : Int) → L (n + 1) h i k = L n (g i h) (i + 1) k) (fin : ∀ n h k, L (n + 1) h (N : Int) k = ap k h (N : Int)) : ∀ n h k, N < n → L n h 0 k = ap k (fo g N h) (N : Int) := by
  have main : ∀ (d i : Nat) (h : Int), i + d = N → ∀ n k, d < n → L n (fo g i h) (i : Int) k = ap k (fo g N h) (N : Int) := by
    intro d
    induction d with
    | zero =>
      intro i h hi n k hn
      obtain ⟨n, rfl⟩ : ∃ q, n = q + 1 := ⟨n - 1, by omega⟩
      have e : i = N := by omega
      subst e
      exact fin n _ k
    | succ d ih =>
      intro i h hi n k hn
      obtain ⟨n, rfl⟩ : ∃ q, n = q + 1 := ⟨n - 1, by omega⟩
      have ei : ((i + 1 : Nat) : Int) = (i : Int) + 1 := by omega
      have r := ih (i + 1) h (by omega) n k (by omega)
      rw [fo, ei] at r
      rw [step n _ _ k (by omega) (by omega)]
      exact r
  exact fun n h k hn => main N 0 h (by omega) n k hn
def ho (v : Int → Int) : Int → Int → Int := fun w h => (31 * h) + (bm (v w))
def dV (A : Int → Int) (h : Int) : Int := fo (ho (vaV A)) 11 h
def dS (A : Int → Int) (h : Int) : Int := fo (fun i h => fo (ho (stV A i)) 6 h) (A 0 - 1).toNat h
def dN (A : Int → Int) (h : Int) : Int := fo (fun i h => fo (ho (inV A i)) 7 h) (A 0).toNat h
def dT (A : Int → Int) (h : Int) : Int := fo (fun i h => fo (ho (fun w => A (54 + 11 * i + w))) 10 h) (A 7).toNat h
def dL (A : Int → Int) (h : Int) : Int := fo (fun i h => (31 * fo (ho (fun w => A (164 + 8 * i + w))) 8 h) + (bm (wn A i))) (A 8).toNat h
/-! the class -/
theorem c_dRoad {G : GS} {A : Int → Int} (hR : Rd G 0 A) (hW : Wf 10000 A) (h : Int) : f_X7_digestOfRoad G h = some (dN A (dS A h)) := by
  have hWh := hW.1
  unfold WfH at hWh
  have r4 : G 3 0 4 = A 0 := hR.1.1
  have hg : gFuel = 3000 := rfl
  have stp : ∀ (i x : Int) (k : Int → Int → Int → Option Int), 0 ≤ i → i < A 0 - 1 → f_X7_digestOfRoad_L22 G h gFuel x i 0 k = k (fo (ho (stV A i)) 6 x) i 6 := fun i x k z1 z2 => by
    refine fo_loop (α := Int) (κ := Int → Int → Int → Option Int) (fun k x w => k x i w) (fun n x w k => f_X7_digestOfRoad_L22 G h n x i w k) 6 (ho (stV A i)) (fun n x w k y1 y2 => ?_) (fun n x k => ?_) gFuel x k (by omega)
    · rw [f_X7_digestOfRoad_L22, gd_t ⟨by omega, by omega⟩, if_neg (by omega), c_stV hR hW z1 z2 (by omega), bn1_some]
      rfl
    · rw [f_X7_digestOfRoad_L22, gd_t (by decide), if_pos (by decide)]
  have inn : ∀ (i x : Int) (k : Int → Int → Int → Option Int), 0 ≤ i → i < A 0 → f_X7_digestOfRoad_L77 G h gFuel x i 0 k = k (fo (ho (inV A i)) 7 x) i 7 := fun i x k z1 z2 => by
    refine fo_loop (α := Int) (κ := Int → Int → Int → Option Int) (fun k x w => k x i w) (fun n x w k => f_X7_digestOfRoad_L77 G h n x i w k) 7 (ho (inV A i)) (fun n x w k y1 y2 => ?_) (fun n x k => ?_) gFuel x k (by omega)
    · rw [f_X7_digestOfRoad_L77, gd_t ⟨by omega, by omega⟩, if_neg (by omega), c_inV hR hW z1 z2 (by omega), bn1_some]
      rfl
    · rw [f_X7_digestOfRoad_L77, gd_t (by decide), if_pos (by decide)]
  have o1 := fo_loop (α := Int) (κ := Int → Int → Option Int) (fun k x i => k x i) (fun n x i k => f_X7_digestOfRoad_L5 G h n x i k) (A 0 - 1).toNat (fun i h => fo (ho (stV A i)) 6 h) (fun n x i k y1 y2 => by
    rw [f_X7_digestOfRoad_L5, gd_t ⟨by omega, by omega⟩, gd_t ⟨by omega, by omega⟩, if_pos (by omega), stp i x _ y1 (by omega)]) (fun n x k => by
    rw [f_X7_digestOfRoad_L5, gd_t ⟨by omega, by omega⟩, gd_t ⟨by omega, by omega⟩, if_neg (by omega)])
  have o2 := fo_loop (α := Int) (κ := Int → Int → Option Int) (fun k x i => k x i) (fun n x i k => f_X7_digestOfRoad_L62 G h n x i k) (A 0).toNat (fun i h => fo (ho (inV A i)) 7 h) (fun n x i k y1 y2 => by
    rw [f_X7_digestOfRoad_L62, gd_t ⟨by omega, by omega⟩, gd_t ⟨by omega, by omega⟩, if_pos (by omega), inn i x _ y1 (by omega)]) (fun n x k => by
    rw [f_X7_digestOfRoad_L62, gd_t ⟨by omega, by omega⟩, gd_t ⟨by omega, by omega⟩, if_neg (by omega)])
  unfold f_X7_digestOfRoad
  rw [o1 gFuel h _ (by omega), o2 gFuel _ _ (by omega)]
  rfl
theorem c_dTeams {G : GS} {A : Int → Int} (hR : Rd G 0 A) (hW : Wf 10000 A) (h : Int) : f_X7_digestOfTeams G h = some (dT A h) := by
  have hWh := hW.1
  unfold WfH at hWh
  have r5 : G 3 0 5 = A 7 := hR.1.2.1
  have hg : gFuel = 3000 := rfl
  have stp : ∀ (i x : Int) (k : Int → Int → Int → Option Int), 0 ≤ i → i < A 7 → f_X7_digestOfTeams_L20 G h gFuel x i 0 k = k (fo (ho (fun w => A (54 + 11 * i + w))) 10 x) i 10 := fun i x k z1 z2 => by
    refine fo_loop (α := Int) (κ := Int → Int → Int → Option Int) (fun k x w => k x i w) (fun n x w k => f_X7_digestOfTeams_L20 G h n x i w k) 10 (ho (fun w => A (54 + 11 * i + w))) (fun n x w k y1 y2 => ?_) (fun n x k => ?_) gFuel x k (by omega)
    · rw [f_X7_digestOfTeams_L20, gd_t ⟨by omega, by omega⟩, if_neg (by omega), ga_t ⟨by omega, by omega⟩, c_teV hR hW z1 z2 (by omega), bn1_some]
      rfl
    · rw [f_X7_digestOfTeams_L20, gd_t (by decide), if_pos (by decide)]
  have o1 := fo_loop (α := Int) (κ := Int → Int → Option Int) (fun k x i => k x i) (fun n x i k => f_X7_digestOfTeams_L5 G h n x i k) (A 7).toNat (fun i h => fo (ho (fun w => A (54 + 11 * i + w))) 10 h) (fun n x i k y1 y2 => by
    rw [f_X7_digestOfTeams_L5, gd_t ⟨by omega, by omega⟩, gd_t ⟨by omega, by omega⟩, if_pos (by omega), stp i x _ y1 (by omega)]) (fun n x k => by
    rw [f_X7_digestOfTeams_L5, gd_t ⟨by omega, by omega⟩, gd_t ⟨by omega, by omega⟩, if_neg (by omega)])
  unfold f_X7_digestOfTeams
  rw [o1 gFuel h _ (by omega)]
  rfl
theorem c_dLetters {G : GS} {A : Int → Int} (hR : Rd G 0 A) (hW : Wf 10000 A) (h : Int) : f_X7_digestOfLetters G h = some (dL A h) := by
  have hWh := hW.1
  unfold WfH at hWh
  have r6 : G 3 0 6 = A 8 := hR.1.2.2.1
  have hg : gFuel = 3000 := rfl
  have stp : ∀ (i x : Int) (k : Int → Int → Int → Option Int), 0 ≤ i → i < A 8 → f_X7_digestOfLetters_L20 G h gFuel x i 0 k = k (fo (ho (fun w => A (164 + 8 * i + w))) 8 x) i 8 := fun i x k z1 z2 => by
    refine fo_loop (α := Int) (κ := Int → Int → Int → Option Int) (fun k x w => k x i w) (fun n x w k => f_X7_digestOfLetters_L20 G h n x i w k) 8 (ho (fun w => A (164 + 8 * i + w))) (fun n x w k y1 y2 => ?_) (fun n x k => ?_) gFuel x k (by omega)
    · rw [f_X7_digestOfLetters_L20, gd_t ⟨by omega, by omega⟩, if_neg (by omega), ga_t ⟨by omega, by omega⟩, c_leV hR hW z1 z2 (by omega), bn1_some]
      rfl
    · rw [f_X7_digestOfLetters_L20, gd_t (by decide), if_pos (by decide)]
  have o1 := fo_loop (α := Int) (κ := Int → Int → Option Int) (fun k x i => k x i) (fun n x i k => f_X7_digestOfLetters_L5 G h n x i k) (A 8).toNat (fun i h => (31 * fo (ho (fun w => A (164 + 8 * i + w))) 8 h) + (bm (wn A i))) (fun n x i k y1 y2 => by
    rw [f_X7_digestOfLetters_L5, gd_t ⟨by omega, by omega⟩, gd_t ⟨by omega, by omega⟩, if_pos (by omega), stp i x _ y1 (by omega), c_why hR hW y1 (by omega), bn1_some]) (fun n x k => by
    rw [f_X7_digestOfLetters_L5, gd_t ⟨by omega, by omega⟩, gd_t ⟨by omega, by omega⟩, if_neg (by omega)])
  unfold f_X7_digestOfLetters
  rw [o1 gFuel h _ (by omega)]
  rfl
theorem c_digest {G Ga Gb : GS} {A : Int → Int} {r : Int} (hR : Rd G 0 A) (hW : Wf 10000 A) (e1 : f_X3_copyFrom G 1 0 = some Ga) (e2 : f_X3_hoursUntilDelivered Ga 1 (-1) = some (Gb, r)) : f_X7_digest G = some (Gb, (31 * ((31 * dL A (dT A (dN A (dS A (dV A ((31 * 3491) + (bm (G 4 0 1)))))))) + (bm r))) + (bm (Gb 0 0 1))) := by
  have hg : gFuel = 3000 := rfl
  have o1 := fo_loop (α := GS × Int) (κ := GS → Int → Int → Option (GS × Int)) (fun k x i => k G x i) (fun n x i k => f_X7_digest_L21 n G x i k) 11 (ho (vaV A)) (fun n x i k y1 y2 => by
    rw [f_X7_digest_L21, gd_t ⟨by omega, by omega⟩, if_neg (by omega), c_vaV hR hW (by omega), bn1_some]
    rfl) (fun n x k => by
    rw [f_X7_digest_L21, gd_t (by decide), if_pos (by decide)])
  unfold f_X7_digest
  rw [o1 gFuel _ _ (by omega), c_dRoad hR hW, bn1_some, c_dTeams hR hW, bn1_some, c_dLetters hR hW, bn1_some, e1, bn1_some, e2, bnd_some]
  rfl
/-! the model -/
theorem m_digest {H H' : GS} {A : Int → Int} {r len : Int} (hA : (gup H 8 0 4 0) 10 0 = A) (hW : Wf 10000 A) (hl : H 8 0 7 = len) (e : f_X8_forAll (gup H 8 0 4 0) = some (H', r)) : f_X8_digest H = some (H', (31 * ((31 * dL A (dT A (dN A (dS A (dV A ((31 * 3491) + (bm len))))))) + (bm r))) + (bm (H' 8 0 3))) := by
  have hWh := hW.1
  unfold WfH at hWh
  have hg : gFuel = 3000 := rfl
  obtain ⟨K, ek, fk, vk⟩ := gup_ex H 8 0 4 0
  rw [ek] at hA e
  have hWK : Wf 10000 (K 10 0) := by rw [hA]; exact hW
  have k0 : K 10 0 0 = A 0 := by rw [hA]
  have k7 : K 10 0 7 = A 7 := by rw [hA]
  have k8 : K 10 0 8 = A 8 := by rw [hA]
  have kl : K 8 0 7 = len := by rw [fk _ _ _ (by omega)]; exact hl
  have o1 := fo_loop (α := GS × Int) (κ := GS → Int → Int → Option (GS × Int)) (fun k x i => k K x i) (fun n x i k => f_X8_digest_L17 n K x i k) 11 (ho (vaV A)) (fun n x i k y1 y2 => by
    rw [f_X8_digest_L17, gd_t ⟨by omega, by omega⟩, if_pos (by omega), m_vaV hWK (by omega), bn1_some, hA]
    rfl) (fun n x k => by
    rw [f_X8_digest_L17, gd_t (by decide), if_neg (by decide)])
  have o2 := fo_loop (α := GS × Int) (κ := GS → Int → Int → Option (GS × Int)) (fun k x i => k K x i) (fun n x i k => f_X8_digest_L44 n K x i k) (6 * (A 0 - 1).toNat) (fun i h => ho (stV A (i / ((6 : Nat) : Int))) (i % ((6 : Nat) : Int)) h) (fun n x i k y1 y2 => by
    rw [f_X8_digest_L44, gd_t ⟨by omega, by omega⟩, gd_t ⟨by omega, by omega⟩, if_pos (by omega), ga_t ⟨by omega, by omega⟩, m_stV hWK (by omega) (by omega) (by omega), bn1_some, hA]
    rfl) (fun n x k => by
    rw [f_X8_digest_L44, gd_t ⟨by omega, by omega⟩, gd_t ⟨by omega, by omega⟩, if_neg (by omega)])
  have o3 := fo_loop (α := GS × Int) (κ := GS → Int → Int → Option (GS × Int)) (fun k x i => k K x i) (fun n x i k => f_X8_digest_L87 n K x i k) (7 * (A 0).toNat) (fun i h => ho (inV A (i / ((7 : Nat) : Int))) (i % ((7 : Nat) : Int)) h) (fun n x i k y1 y2 => by
    rw [f_X8_digest_L87, gd_t ⟨by omega, by omega⟩, gd_t ⟨by omega, by omega⟩, if_pos (by omega), ga_t ⟨by omega, by omega⟩, m_inV hWK (by omega) (by omega) (by omega), bn1_some, hA]
    rfl) (fun n x k => by
    rw [f_X8_digest_L87, gd_t ⟨by omega, by omega⟩, gd_t ⟨by omega, by omega⟩, if_neg (by omega)])
  have o4 := fo_loop (α := GS × Int) (κ := GS → Int → Int → Option (GS × Int)) (fun k x i => k K x i) (fun n x i k => f_X8_digest_L128 n K x i k) (10 * (A 7).toNat) (fun i h => ho (fun w => A (54 + 11 * (i / ((10 : Nat) : Int)) + w)) (i % ((10 : Nat) : Int)) h) (fun n x i k y1 y2 => by
    rw [f_X8_digest_L128, gd_t ⟨by omega, by omega⟩, gd_t ⟨by omega, by omega⟩, if_pos (by omega), ga_t ⟨by omega, by omega⟩, m_of ⟨by omega, by omega⟩, bn1_some, hA]
    rfl) (fun n x k => by
    rw [f_X8_digest_L128, gd_t ⟨by omega, by omega⟩, gd_t ⟨by omega, by omega⟩, if_neg (by omega)])
  have stp : ∀ (i x : Int) (k : GS → Int → Int → Int → Option (GS × Int)), 0 ≤ i → i < A 8 → f_X8_digest_L184 gFuel K x i 0 k = k K (fo (ho (fun w => A (164 + 8 * i + w))) 8 x) i 8 := fun i x k z1 z2 => by
    refine fo_loop (α := GS × Int) (κ := GS → Int → Int → Int → Option (GS × Int)) (fun k x w => k K x i w) (fun n x w k => f_X8_digest_L184 n K x i w k) 8 (ho (fun w => A (164 + 8 * i + w))) (fun n x w k y1 y2 => ?_) (fun n x k => ?_) gFuel x k (by omega)
    · rw [f_X8_digest_L184, gd_t ⟨by omega, by omega⟩, if_pos (by omega), m_ofL ⟨by omega, by omega⟩, bn1_some, hA]
      rfl
    · rw [f_X8_digest_L184, gd_t (by decide), if_neg (by decide)]
  have o5 := fo_loop (α := GS × Int) (κ := GS → Int → Int → Option (GS × Int)) (fun k x i => k K x i) (fun n x i k => f_X8_digest_L170 n K x i k) (A 8).toNat (fun i h => (31 * fo (ho (fun w => A (164 + 8 * i + w))) 8 h) + (bm (wn A i))) (fun n x i k y1 y2 => by
    rw [f_X8_digest_L170, gd_t ⟨by omega, by omega⟩, gd_t ⟨by omega, by omega⟩, if_pos (by omega), stp i x _ y1 (by omega), m_why hWK y1 (by omega), bn1_some, hA]) (fun n x k => by
    rw [f_X8_digest_L170, gd_t ⟨by omega, by omega⟩, gd_t ⟨by omega, by omega⟩, if_neg (by omega)])
  have n2 := fo_flat (fun i => ho (stV A i)) 6 (fun n i z1 z2 => by omega) (A 0 - 1).toNat
  have n3 := fo_flat (fun i => ho (inV A i)) 7 (fun n i z1 z2 => by omega) (A 0).toNat
  have n4 := fo_flat (fun i => ho (fun w => A (54 + 11 * i + w))) 10 (fun n i z1 z2 => by omega) (A 7).toNat
  unfold f_X8_digest
  rw [ek, kl, o1 gFuel _ _ (by omega), o2 gFuel _ _ (by omega), o3 gFuel _ _ (by omega), o4 gFuel _ _ (by omega), o5 gFuel _ _ (by omega), e, bnd_some, n2, n3, n4]
  rfl
theorem op_digest {G : GS} (hI : Inv G) : ∃ G2, lwJ (f_X7_digest G) (fun G1 => f_X8_digest G1) = some G2 ∧ Inv G2 := by
  obtain ⟨A, S, c, len, T, i1, i2, i3⟩ := id hI
  obtain ⟨hR, hW⟩ := Inv_road hI
  obtain ⟨Ga, Gb, r, ea, eb, hr, fb, hM⟩ := ahead_all hR hW
  have e0 : Gb 10 0 = G 10 0 := funext fun f => fb _ _ _ (by unfold ofR; omega)
  have e1 : (gup Gb 8 0 4 0) 10 0 = G 10 0 := by rw [← e0]; exact funext fun f => gup_k (by decide)
  obtain ⟨H', m1, m2⟩ := hM (gup Gb 8 0 4 0) e1
  have cl : G 4 0 1 = len := i1.2.2.2.2.2.1
  have cc : Gb 0 0 1 = c := by rw [fb _ _ _ (by unfold ofR; omega)]; exact i1.2.1
  have ml : Gb 8 0 7 = len := by rw [fb _ _ _ (by unfold ofR; omega)]; exact i2.2.2.2.1
  have mc : H' 8 0 3 = c := by rw [m2.2 _ _ _ (by omega) (by omega), gup_n (by omega), fb _ _ _ (by unfold ofR; omega)]; exact i2.2.2.1
  have k1 := c_digest hR hW ea eb
  have k2 := m_digest e1 hW ml m1
  rw [cl, cc] at k1
  rw [mc] at k2
  refine ⟨H', turnJ k1 k2, ?_⟩
  obtain ⟨Kb, ek, fk, vk⟩ := gup_ex Gb 8 0 4 0
  rw [ek] at m2
  have hK : Inv Kb := Inv_fr hI (fun k x f z1 z2 z3 z4 z5 z6 => by rw [fk _ _ _ (by omega), fb _ _ _ z5])
  exact Inv_same hK (fun _ _ _ _ _ => rfl) m2 (fun _ _ _ _ => rfl)

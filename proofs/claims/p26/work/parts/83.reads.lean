/-! THE READING CALLS -/
theorem op_stage {G : GS} {p1 p2 : Int} (hI : Inv G) (h1 : inR p1) (h2 : inR p2) : ∃ G2, lwT (f_L_stage G p1 p2) (fun G1 => f_X8_stage G1 p1 p2) = some G2 ∧ Inv G2 := by
  obtain ⟨hR, hW⟩ := Inv_road hI
  have hWh := hW.1
  unfold WfH at hWh
  have r4 : G 3 0 4 = G 10 0 0 := hR.1.1
  by_cases c1 : 0 ≤ p1 ∧ p1 < G 10 0 0 - 1
  · by_cases c2 : 0 ≤ p2 ∧ p2 ≤ 5
    · refine fin_read (r := stV (G 10 0) p1 p2) hI ?_ (fun H e => ?_)
      · unfold f_L_stage f_X7_stage
        rw [r4, c_num h1 ⟨by omega, by omega⟩, bn1_some, if_pos c1, if_pos rfl, c_rng h2 (by decide) (by decide), bn1_some, if_pos c2, if_pos rfl, c_stV hR hW c1.1 c1.2 c2, bn1_some, lwP_some, if_pos rfl]
      · unfold f_X8_stage
        rw [m_isStage h1 (by rw [e]; omega), bn1_some, e, if_pos (by omega), gd_t (by decide), if_neg (by decide), m_inB h2 (by decide) (by decide), bn1_some, if_pos c2, gd_t (by decide), if_neg (by decide), m_stV (m := 10000) (by rw [e]; exact hW) c1.1 (by rw [e]; exact c1.2) c2, bn1_some, e, m_fine]
    · refine fin_throw (k := 2) hI ?_ ?_ (by decide)
      · unfold f_L_stage f_X7_stage
        rw [r4, c_num h1 ⟨by omega, by omega⟩, bn1_some, if_pos c1, if_pos rfl, c_rng h2 (by decide) (by decide), bn1_some, if_neg c2, if_neg (by decide), lwP_some, if_neg (by decide), if_neg (by decide), if_pos rfl]
      · unfold f_X8_stage
        rw [m_isStage h1 (by omega), bn1_some, if_pos (by omega), gd_t (by decide), if_neg (by decide), m_inB h2 (by decide) (by decide), bn1_some, if_neg c2, gd_t (by decide), if_pos rfl, m_throw]
  · refine fin_throw (k := 1) hI ?_ ?_ (by decide)
    · unfold f_L_stage f_X7_stage
      rw [r4, c_num h1 ⟨by omega, by omega⟩, bn1_some, if_neg c1, if_neg (by decide), lwP_some, if_neg (by decide), if_pos rfl]
    · unfold f_X8_stage
      rw [m_isStage h1 (by omega), bn1_some, if_neg (by omega), gd_t (by decide), if_pos rfl, m_throw]
theorem op_inn {G : GS} {p1 p2 : Int} (hI : Inv G) (h1 : inR p1) (h2 : inR p2) : ∃ G2, lwT (f_L_inn G p1 p2) (fun G1 => f_X8_inn G1 p1 p2) = some G2 ∧ Inv G2 := by
  obtain ⟨hR, hW⟩ := Inv_road hI
  have hWh := hW.1
  unfold WfH at hWh
  have r4 : G 3 0 4 = G 10 0 0 := hR.1.1
  by_cases c1 : 0 ≤ p1 ∧ p1 < G 10 0 0
  · by_cases c2 : 0 ≤ p2 ∧ p2 ≤ 6
    · refine fin_read (r := inV (G 10 0) p1 p2) hI ?_ (fun H e => ?_)
      · unfold f_L_inn f_X7_inn
        rw [r4, c_num h1 ⟨by omega, by omega⟩, bn1_some, if_pos c1, if_pos rfl, c_rng h2 (by decide) (by decide), bn1_some, if_pos c2, if_pos rfl, c_inV hR hW c1.1 c1.2 c2, bn1_some, lwP_some, if_pos rfl]
      · unfold f_X8_inn
        rw [m_isInn h1 (by rw [e]; omega), bn1_some, e, if_pos (by omega), gd_t (by decide), if_neg (by decide), m_inB h2 (by decide) (by decide), bn1_some, if_pos c2, gd_t (by decide), if_neg (by decide), m_inV (m := 10000) (by rw [e]; exact hW) c1.1 (by rw [e]; exact c1.2) c2, bn1_some, e, m_fine]
    · refine fin_throw (k := 2) hI ?_ ?_ (by decide)
      · unfold f_L_inn f_X7_inn
        rw [r4, c_num h1 ⟨by omega, by omega⟩, bn1_some, if_pos c1, if_pos rfl, c_rng h2 (by decide) (by decide), bn1_some, if_neg c2, if_neg (by decide), lwP_some, if_neg (by decide), if_neg (by decide), if_pos rfl]
      · unfold f_X8_inn
        rw [m_isInn h1 (by omega), bn1_some, if_pos (by omega), gd_t (by decide), if_neg (by decide), m_inB h2 (by decide) (by decide), bn1_some, if_neg c2, gd_t (by decide), if_pos rfl, m_throw]
  · refine fin_throw (k := 1) hI ?_ ?_ (by decide)
    · unfold f_L_inn f_X7_inn
      rw [r4, c_num h1 ⟨by omega, by omega⟩, bn1_some, if_neg c1, if_neg (by decide), lwP_some, if_neg (by decide), if_pos rfl]
    · unfold f_X8_inn
      rw [m_isInn h1 (by omega), bn1_some, if_neg (by omega), gd_t (by decide), if_pos rfl, m_throw]
theorem op_team {G : GS} {p1 p2 : Int} (hI : Inv G) (h1 : inR p1) (h2 : inR p2) : ∃ G2, lwT (f_L_team G p1 p2) (fun G1 => f_X8_team G1 p1 p2) = some G2 ∧ Inv G2 := by
  obtain ⟨hR, hW⟩ := Inv_road hI
  have hWh := hW.1
  unfold WfH at hWh
  have r4 : G 3 0 5 = G 10 0 7 := hR.1.2.1
  by_cases c1 : 0 ≤ p1 ∧ p1 < G 10 0 7
  · by_cases c2 : 0 ≤ p2 ∧ p2 ≤ 9
    · refine fin_read (r := G 10 0 (54 + 11 * p1 + p2)) hI ?_ (fun H e => ?_)
      · unfold f_L_team f_X7_team
        rw [r4, c_num h1 ⟨by omega, by omega⟩, bn1_some, if_pos c1, if_pos rfl, c_rng h2 (by decide) (by decide), bn1_some, if_pos c2, if_pos rfl, ga_t ⟨by omega, by omega⟩, c_teV hR hW c1.1 c1.2 c2, bn1_some, lwP_some, if_pos rfl]
      · unfold f_X8_team
        rw [m_isTeam h1 (by rw [e]; omega), bn1_some, e, if_pos (by omega), gd_t (by decide), if_neg (by decide), m_inB h2 (by decide) (by decide), bn1_some, if_pos c2, gd_t (by decide), if_neg (by decide), m_of ⟨by omega, by omega⟩, bn1_some, e, m_fine]
    · refine fin_throw (k := 2) hI ?_ ?_ (by decide)
      · unfold f_L_team f_X7_team
        rw [r4, c_num h1 ⟨by omega, by omega⟩, bn1_some, if_pos c1, if_pos rfl, c_rng h2 (by decide) (by decide), bn1_some, if_neg c2, if_neg (by decide), lwP_some, if_neg (by decide), if_neg (by decide), if_pos rfl]
      · unfold f_X8_team
        rw [m_isTeam h1 (by omega), bn1_some, if_pos (by omega), gd_t (by decide), if_neg (by decide), m_inB h2 (by decide) (by decide), bn1_some, if_neg c2, gd_t (by decide), if_pos rfl, m_throw]
  · refine fin_throw (k := 1) hI ?_ ?_ (by decide)
    · unfold f_L_team f_X7_team
      rw [r4, c_num h1 ⟨by omega, by omega⟩, bn1_some, if_neg c1, if_neg (by decide), lwP_some, if_neg (by decide), if_pos rfl]
    · unfold f_X8_team
      rw [m_isTeam h1 (by omega), bn1_some, if_neg (by omega), gd_t (by decide), if_pos rfl, m_throw]
theorem op_letter {G : GS} {p1 p2 : Int} (hI : Inv G) (h1 : inR p1) (h2 : inR p2) : ∃ G2, lwT (f_L_letter G p1 p2) (fun G1 => f_X8_letter G1 p1 p2) = some G2 ∧ Inv G2 := by
  obtain ⟨hR, hW⟩ := Inv_road hI
  have hWh := hW.1
  unfold WfH at hWh
  have r4 : G 3 0 6 = G 10 0 8 := hR.1.2.2.1
  by_cases c1 : 0 ≤ p1 ∧ p1 < G 10 0 8
  · by_cases c2 : 0 ≤ p2 ∧ p2 ≤ 7
    · refine fin_read (r := G 10 0 (164 + 8 * p1 + p2)) hI ?_ (fun H e => ?_)
      · unfold f_L_letter f_X7_letter
        rw [r4, c_num h1 ⟨by omega, by omega⟩, bn1_some, if_pos c1, if_pos rfl, c_rng h2 (by decide) (by decide), bn1_some, if_pos c2, if_pos rfl, ga_t ⟨by omega, by omega⟩, c_leV hR hW c1.1 c1.2 c2, bn1_some, lwP_some, if_pos rfl]
      · unfold f_X8_letter
        rw [m_isLetter h1 (by rw [e]; omega), bn1_some, e, if_pos (by omega), gd_t (by decide), if_neg (by decide), m_inB h2 (by decide) (by decide), bn1_some, if_pos c2, gd_t (by decide), if_neg (by decide), m_ofL ⟨by omega, by omega⟩, bn1_some, e, m_fine]
    · refine fin_throw (k := 2) hI ?_ ?_ (by decide)
      · unfold f_L_letter f_X7_letter
        rw [r4, c_num h1 ⟨by omega, by omega⟩, bn1_some, if_pos c1, if_pos rfl, c_rng h2 (by decide) (by decide), bn1_some, if_neg c2, if_neg (by decide), lwP_some, if_neg (by decide), if_neg (by decide), if_pos rfl]
      · unfold f_X8_letter
        rw [m_isLetter h1 (by omega), bn1_some, if_pos (by omega), gd_t (by decide), if_neg (by decide), m_inB h2 (by decide) (by decide), bn1_some, if_neg c2, gd_t (by decide), if_pos rfl, m_throw]
  · refine fin_throw (k := 1) hI ?_ ?_ (by decide)
    · unfold f_L_letter f_X7_letter
      rw [r4, c_num h1 ⟨by omega, by omega⟩, bn1_some, if_neg c1, if_neg (by decide), lwP_some, if_neg (by decide), if_pos rfl]
    · unfold f_X8_letter
      rw [m_isLetter h1 (by omega), bn1_some, if_neg (by omega), gd_t (by decide), if_pos rfl, m_throw]
theorem op_value {G : GS} {p1 : Int} (hI : Inv G) (h1 : inR p1) : ∃ G2, lwT (f_L_value G p1) (fun G1 => f_X8_value G1 p1) = some G2 ∧ Inv G2 := by
  obtain ⟨hR, hW⟩ := Inv_road hI
  by_cases c2 : 0 ≤ p1 ∧ p1 ≤ 10
  · refine fin_read (r := vaV (G 10 0) p1) hI ?_ (fun H e => ?_)
    · unfold f_L_value f_X7_value
      rw [c_rng h1 (by decide) (by decide), bn1_some, if_pos c2, if_pos rfl, c_vaV hR hW c2, bn1_some, lwP_some, if_pos rfl]
    · unfold f_X8_value
      rw [m_inB h1 (by decide) (by decide), bn1_some, if_pos c2, gd_t (by decide), if_neg (by decide), m_vaV (m := 10000) (by rw [e]; exact hW) c2, bn1_some, e, m_fine]
  · refine fin_throw (k := 1) hI ?_ ?_ (by decide)
    · unfold f_L_value f_X7_value
      rw [c_rng h1 (by decide) (by decide), bn1_some, if_neg c2, if_neg (by decide), lwP_some, if_neg (by decide), if_pos rfl]
    · unfold f_X8_value
      rw [m_inB h1 (by decide) (by decide), bn1_some, if_neg c2, gd_t (by decide), if_pos rfl, m_throw]
theorem op_why {G : GS} {p1 : Int} (hI : Inv G) (h1 : inR p1) : ∃ G2, lwT (f_L_why G p1) (fun G1 => f_X8_why G1 p1) = some G2 ∧ Inv G2 := by
  obtain ⟨hR, hW⟩ := Inv_road hI
  have hWh := hW.1
  unfold WfH at hWh
  have r4 : G 3 0 6 = G 10 0 8 := hR.1.2.2.1
  by_cases c1 : 0 ≤ p1 ∧ p1 < G 10 0 8
  · refine fin_read (r := wn (G 10 0) p1) hI ?_ (fun H e => ?_)
    · unfold f_L_why f_X7_why
      rw [r4, c_num h1 ⟨by omega, by omega⟩, bn1_some, if_pos c1, if_pos rfl, c_why hR hW c1.1 c1.2, bn1_some, lwP_some, if_pos rfl]
    · unfold f_X8_why
      rw [m_isLetter h1 (by rw [e]; omega), bn1_some, e, if_pos (by omega), gd_t (by decide), if_neg (by decide), m_why (m := 10000) (by rw [e]; exact hW) c1.1 (by rw [e]; exact c1.2), bn1_some, e, m_fine]
  · refine fin_throw (k := 1) hI ?_ ?_ (by decide)
    · unfold f_L_why f_X7_why
      rw [r4, c_num h1 ⟨by omega, by omega⟩, bn1_some, if_neg c1, if_neg (by decide), lwP_some, if_neg (by decide), if_pos rfl]
    · unfold f_X8_why
      rw [m_isLetter h1 (by omega), bn1_some, if_neg (by omega), gd_t (by decide), if_pos rfl, m_throw]
/-! SUMS ALONG THE WAY -/
def sm (f : Int → Int) (lo : Int) : Nat → Int
  | 0 => 0
  | n + 1 => sm f lo n + f (lo + n)
theorem sm_first (f : Int → Int) (n : Nat) : ∀ lo : Int, sm f lo (n + 1) = f lo + sm f (lo + 1) n := by
  induction n with
  | zero =>
    intro lo
    have e : lo + ((0 : Nat) : Int) = lo := by omega
    rw [sm, sm, sm, e]
    omega
  | succ n ih =>
    intro lo
    have e : lo + ((n + 1 : Nat) : Int) = lo + 1 + (n : Int) := by omega
    rw [sm, ih lo, sm, e]
    omega
def lo (a b : Int) : Int := if b < a then b else a
def hi (a b : Int) : Int := if a < b then b else a
theorem m_up {f : Int → Int} {α : Type} (H : GS) (L : Nat → Int → Int → (GS → Int → Int → Option α) → Option α) (b : Int) (up : ∀ n x a k, 0 ≤ a → a < b → L (n + 1) x a k = L n (x + f a) (a + 1) k) (fin : ∀ n x k, L (n + 1) x b k = k H x b) (hb : b ≤ 8) (a : Int) (ha : 0 ≤ a ∧ a ≤ b) (k : GS → Int → Int → Option α) : L gFuel 0 a k = k H (sm f a (b - a).toNat) b := by
  have U : ∀ (d : Nat) (x a : Int), 0 ≤ a → a + d = b → ∀ n k, d < n → L n x a k = k H (x + sm f a d) b := by
    intro d
    induction d with
    | zero =>
      intro x a h0 h1 n k hn
      obtain ⟨n, rfl⟩ : ∃ q, n = q + 1 := ⟨n - 1, by omega⟩
      have e : a = b := by omega
      rw [e, fin, sm, Int.add_zero]
    | succ d ih =>
      intro x a h0 h1 n k hn
      obtain ⟨n, rfl⟩ : ∃ q, n = q + 1 := ⟨n - 1, by omega⟩
      rw [up n x a k h0 (by omega), ih (x + f a) (a + 1) (by omega) (by omega) n k (by omega), sm_first, Int.add_assoc]
  have hg : gFuel = 3000 := rfl
  rw [U (b - a).toNat 0 a ha.1 (by omega) gFuel k (by omega), Int.zero_add]
theorem m_dn {f : Int → Int} {α : Type} (H : GS) (M : Int) (hM : M ≤ 8) (L : Nat → Int → Int → (GS → Int → Int → Option α) → Option α) (b : Int) (dn : ∀ n x a k, b < a → a ≤ M → L (n + 1) x a k = L n (x + f (a - 1)) (a - 1) k) (fin : ∀ n x k, L (n + 1) x b k = k H x b) (hb : 0 ≤ b) (a : Int) (ha : b ≤ a ∧ a ≤ M) (k : GS → Int → Int → Option α) : L gFuel 0 a k = k H (sm f b (a - b).toNat) b := by
  have D : ∀ (d : Nat) (x a : Int), a = b + d → a ≤ M → ∀ n k, d < n → L n x a k = k H (x + sm f b d) b := by
    intro d
    induction d with
    | zero =>
      intro x a h0 h1 n k hn
      obtain ⟨n, rfl⟩ : ∃ q, n = q + 1 := ⟨n - 1, by omega⟩
      have e : a = b := by omega
      rw [e, fin, sm, Int.add_zero]
    | succ d ih =>
      intro x a h0 h1 n k hn
      obtain ⟨n, rfl⟩ : ∃ q, n = q + 1 := ⟨n - 1, by omega⟩
      have e : a - 1 = b + d := by omega
      rw [dn n x a k (by omega) h1, ih (x + f (a - 1)) (a - 1) e (by omega) n k (by omega), sm, e]
      exact congrArg (fun z => k H z b) (by omega)
  have hg : gFuel = 3000 := rfl
  rw [D (a - b).toNat 0 a (by omega) ha.2 gFuel k (by omega), Int.zero_add]
theorem lohi (a b : Int) : (a ≤ b ∧ lo a b = a ∧ hi a b = b) ∨ (b ≤ a ∧ lo a b = b ∧ hi a b = a) := by
  unfold lo hi
  by_cases c : a < b
  · rw [if_pos c, if_neg (by omega)]; omega
  · rw [if_neg c]
    split <;> omega
theorem c_sum {f : Int → Int} {α : Type} (L : Nat → Int → Int → (Int → Int → Option α) → Option α) (b : Int) (up : ∀ n x a k, 0 ≤ a → a < b → L (n + 1) x a k = L n (x + f a) (a + 1) k) (fin : ∀ n x k, L (n + 1) x b k = k x b) (a : Int) (ha : 0 ≤ a ∧ a ≤ b) (hb : b ≤ 8) (k : Int → Int → Option α) : L gFuel 0 a k = k (sm f a (b - a).toNat) b := by
  have U : ∀ (d : Nat) (x a : Int), 0 ≤ a → a + d = b → ∀ n k, d < n → L n x a k = k (x + sm f a d) b := by
    intro d
    induction d with
    | zero =>
      intro x a h0 h1 n k hn
      obtain ⟨n, rfl⟩ : ∃ q, n = q + 1 := ⟨n - 1, by omega⟩
      have e : a = b := by omega
      rw [e, fin, sm, Int.add_zero]
    | succ d ih =>
      intro x a h0 h1 n k hn
      obtain ⟨n, rfl⟩ : ∃ q, n = q + 1 := ⟨n - 1, by omega⟩
      rw [up n x a k h0 (by omega), ih (x + f a) (a + 1) (by omega) (by omega) n k (by omega), sm_first, Int.add_assoc]
  have hg : gFuel = 3000 := rfl
  rw [U (b - a).toNat 0 a ha.1 (by omega) gFuel k (by omega), Int.zero_add]
def hrs (A : Int → Int) (s : Int) : Int := A (9 + 3 * s)
theorem op_way {G : GS} {p1 p2 : Int} (hI : Inv G) (h1 : inR p1) (h2 : inR p2) : ∃ G2, lwT (f_L_way G p1 p2) (fun G1 => f_X8_way G1 p1 p2) = some G2 ∧ Inv G2 := by
  obtain ⟨hR, hW⟩ := Inv_road hI
  have hWh := hW.1
  unfold WfH at hWh
  have r4 : G 3 0 4 = G 10 0 0 := hR.1.1
  by_cases c1 : 0 ≤ p1 ∧ p1 < G 10 0 0
  · by_cases c2 : 0 ≤ p2 ∧ p2 < G 10 0 0
    · refine fin_read (r := sm (hrs (G 10 0)) (lo p1 p2) (hi p1 p2 - lo p1 p2).toNat) hI ?_ (fun H e => ?_)
      · have hlo : 0 ≤ lo p1 p2 ∧ lo p1 p2 ≤ hi p1 p2 ∧ hi p1 p2 < G 10 0 0 := by
          unfold lo hi
          repeat' split
          all_goals omega
        have K : f_X3_hoursBetween G 0 (lo p1 p2) (hi p1 p2) = some (sm (hrs (G 10 0)) (lo p1 p2) (hi p1 p2 - lo p1 p2).toNat) := by
          refine c_sum (f_X3_hoursBetween_L5 G 0 (lo p1 p2) (hi p1 p2)) (hi p1 p2) (fun n x a k z1 z2 => ?_) (fun n x k => ?_) (lo p1 p2) (by omega) (by omega) (fun y _ => some y)
          · have rS := hR.2.1 a z1 (by omega)
            unfold RdS at rS
            rw [f_X3_hoursBetween_L5, gd_t ⟨by omega, by omega⟩, gd_t ⟨by omega, by omega⟩, if_pos z2, ga_t ⟨by omega, by omega⟩, rS.1]
            rfl
          · rw [f_X3_hoursBetween_L5, gd_t ⟨by omega, by omega⟩, if_neg (by omega), gd_t ⟨by omega, by omega⟩]
        unfold lo hi at K
        unfold f_L_way f_X7_way
        rw [r4, c_num h1 ⟨by omega, by omega⟩, bn1_some, if_pos c1, if_pos rfl, c_num h2 ⟨by omega, by omega⟩, bn1_some, if_pos c2, if_pos rfl, gd_t h1, gd_t h2, K, bn1_some, lwP_some, if_pos rfl]
        rfl
      · unfold f_X8_way
        rw [m_isInn h1 (by rw [e]; omega), bn1_some, e, if_pos (by omega), gd_t (by decide), if_neg (by decide), m_isInn h2 (by rw [e]; omega), bn1_some, e, if_pos (by omega), gd_t (by decide), if_neg (by decide)]
        rcases lohi p1 p2 with ⟨q1, q2, q3⟩ | ⟨q1, q2, q3⟩
        · rw [q2, q3]
          refine m_up (f := hrs (G 10 0)) H (f_X8_way_L27 p1 p2 · H) p2 (fun n x a k z1 z2 => ?_) (fun n x k => ?_) (by omega) p1 (by omega) (fun G27 y3 y4 => bnd (f_X8_fine G27 y3) (fun G28 r29 => some (G28, r29)))
          · rw [f_X8_way_L27, gd_t ⟨by omega, by omega⟩, gd_t h2, if_neg (by omega), m_toward ⟨by omega, by omega⟩ h2, bn1_some, if_pos z2, m_between ⟨by omega, by omega⟩ ⟨by omega, by omega⟩, bn1_some, if_pos (by omega), m_hours ⟨by omega, by omega⟩, bn1_some, bn1_some, e]
            rfl
          · rw [f_X8_way_L27, gd_t h2, gd_t h2, if_pos rfl]
        · rw [q2, q3]
          refine m_dn (f := hrs (G 10 0)) H 7 (by decide) (f_X8_way_L27 p1 p2 · H) p2 (fun n x a k z1 z2 => ?_) (fun n x k => ?_) (by omega) p1 (by omega) (fun G27 y3 y4 => bnd (f_X8_fine G27 y3) (fun G28 r29 => some (G28, r29)))
          · rw [f_X8_way_L27, gd_t ⟨by omega, by omega⟩, gd_t h2, if_neg (by omega), m_toward ⟨by omega, by omega⟩ h2, bn1_some, if_neg (show ¬ a < p2 by omega), m_between ⟨by omega, by omega⟩ ⟨by omega, by omega⟩, bn1_some, if_neg (show ¬ a < a - 1 by omega), m_hours ⟨by omega, by omega⟩, bn1_some, bn1_some, e]
            rfl
          · rw [f_X8_way_L27, gd_t h2, gd_t h2, if_pos rfl]
    · refine fin_throw (k := 1) hI ?_ ?_ (by decide)
      · unfold f_L_way f_X7_way
        rw [r4, c_num h1 ⟨by omega, by omega⟩, bn1_some, if_pos c1, if_pos rfl, c_num h2 ⟨by omega, by omega⟩, bn1_some, if_neg c2, if_neg (by decide), lwP_some, if_neg (by decide), if_pos rfl]
      · unfold f_X8_way
        rw [m_isInn h1 (by omega), bn1_some, if_pos (by omega), gd_t (by decide), if_neg (by decide), m_isInn h2 (by omega), bn1_some, if_neg (by omega), gd_t (by decide), if_pos rfl, m_throw]
  · refine fin_throw (k := 1) hI ?_ ?_ (by decide)
    · unfold f_L_way f_X7_way
      rw [r4, c_num h1 ⟨by omega, by omega⟩, bn1_some, if_neg c1, if_neg (by decide), lwP_some, if_neg (by decide), if_pos rfl]
    · unfold f_X8_way
      rw [m_isInn h1 (by omega), bn1_some, if_neg (by omega), gd_t (by decide), if_pos rfl, m_throw]
theorem op_effortHome {G : GS} {p1 : Int} (hI : Inv G) (h1 : inR p1) : ∃ G2, lwT (f_L_effortHome G p1) (fun G1 => f_X8_effortHome G1 p1) = some G2 ∧ Inv G2 := by
  obtain ⟨hR, hW⟩ := Inv_road hI
  have hWh := hW.1
  unfold WfH at hWh
  have r4 : G 3 0 5 = G 10 0 7 := hR.1.2.1
  by_cases c1 : 0 ≤ p1 ∧ p1 < G 10 0 7
  · have hT := hR.2.2.2.1 p1 c1.1 c1.2
    have wT := hW.2.2.2.1 p1 c1.1 c1.2
    unfold RdT at hT
    unfold WfT at wT
    obtain ⟨t0, t1, t2, -⟩ := hT
    obtain ⟨a, ha⟩ : ∃ a, a = G 10 0 (54 + 11 * p1 + 2) := ⟨_, rfl⟩
    obtain ⟨b, hb⟩ : ∃ b, b = G 10 0 (54 + 11 * p1 + 0) := ⟨_, rfl⟩
    rw [← ha] at t2 wT
    rw [← hb] at t0 wT
    obtain ⟨w0, -, w2, -⟩ := wT
    refine fin_read (r := sm (fun s => ef (G 10 0) s (up a b)) (lo a b) (hi a b - lo a b).toNat) hI ?_ (fun H e => ?_)
    · have hlo : 0 ≤ lo a b ∧ lo a b ≤ hi a b ∧ hi a b < G 10 0 0 := by
        rcases lohi a b with ⟨q1, q2, q3⟩ | ⟨q1, q2, q3⟩
        · rw [q2, q3]; omega
        · rw [q2, q3]; omega
      have K : f_X3_effortBetween G 0 a b = some (sm (fun s => ef (G 10 0) s (up a b)) (lo a b) (hi a b - lo a b).toNat) := by
        unfold f_X3_effortBetween
        rw [gd_t ⟨by omega, by omega⟩, gd_t ⟨by omega, by omega⟩]
        refine c_sum (f := fun s => ef (G 10 0) s (up a b)) (fun n x i k => f_X3_effortBetween_L16 G 0 a b n (hi a b) x i (fun _ y z => k y z)) (hi a b) (fun n x i k z1 z2 => ?_) (fun n x k => ?_) (lo a b) (by omega) (by omega) (fun y _ => some y)
        · have rS := hR.2.1 i z1 (by omega)
          have wS := hW.2.1 i z1 (by omega)
          have e1 := c_eff (u := 1) rS wS (Or.inr rfl)
          have e0 := c_eff (u := 0) rS wS (Or.inl rfl)
          rw [f_X3_effortBetween_L16, gd_t ⟨by omega, by omega⟩, gd_t ⟨by omega, by omega⟩, if_pos z2, ga_t ⟨by omega, by omega⟩, gd_t ⟨by omega, by omega⟩, gd_t ⟨by omega, by omega⟩, e1, e0, bn1_some, bn1_some]
          unfold up
          by_cases c : a < b
          · rw [if_pos c, if_pos c]
          · rw [if_neg c, if_neg c]
        · rw [f_X3_effortBetween_L16, gd_t ⟨by omega, by omega⟩, gd_t ⟨by omega, by omega⟩, if_neg (by omega)]
      unfold f_L_effortHome f_X7_effortHome
      rw [r4, c_num h1 ⟨by omega, by omega⟩, bn1_some, if_pos c1, if_pos rfl, ga_t ⟨by omega, by omega⟩, t2, t0, K, bn1_some, lwP_some, if_pos rfl]
    · unfold f_X8_effortHome
      rw [m_isTeam h1 (by rw [e]; omega), bn1_some, e, if_pos (by omega), gd_t (by decide), if_neg (by decide), m_of ⟨by omega, by omega⟩, bn1_some, e, ← hb, m_of ⟨by omega, by omega⟩, bn1_some, e, ← ha]
      by_cases c : a < b
      · have q : lo a b = a ∧ hi a b = b ∧ up a b = 1 := by
          unfold lo hi up
          rw [if_pos c, if_pos c, if_neg (by omega)]
          exact ⟨rfl, rfl, rfl⟩
        rw [q.1, q.2.1, q.2.2]
        refine m_up (f := fun s => ef (G 10 0) s 1) H (fun n x i k => f_X8_effortHome_L31 p1 n H x b i (fun G y _ z => k G y z)) b (fun n x i k z1 z2 => ?_) (fun n x k => ?_) (by omega) a (by omega) (fun G22 y2 y4 => bnd (f_X8_fine G22 y2) (fun G23 r24 => some (G23, r24)))
        · have wS := hW.2.1 i z1 (by omega)
          rw [f_X8_effortHome_L31, gd_t ⟨by omega, by omega⟩, gd_t ⟨by omega, by omega⟩, if_neg (by omega), m_toward ⟨by omega, by omega⟩ ⟨by omega, by omega⟩, bn1_some, if_pos z2, m_eff (s := i) (u := 1) (by omega) (Or.inl ⟨by omega, rfl, rfl⟩) ⟨by omega, by omega⟩ ⟨by omega, by omega⟩ (by rw [e]; exact wS), bn1_some, bn1_some, e]
        · rw [f_X8_effortHome_L31, gd_t ⟨by omega, by omega⟩, gd_t ⟨by omega, by omega⟩, if_pos rfl]
      · have q : lo a b = b ∧ hi a b = a ∧ up a b = 0 := by
          unfold lo hi up
          rw [if_neg c, if_neg c]
          by_cases c2 : b < a
          · rw [if_pos c2]; exact ⟨rfl, rfl, rfl⟩
          · rw [if_neg c2]; exact ⟨by omega, rfl, rfl⟩
        rw [q.1, q.2.1, q.2.2]
        refine m_dn (f := fun s => ef (G 10 0) s 0) H (G 10 0 0 - 1) (by omega) (fun n x i k => f_X8_effortHome_L31 p1 n H x b i (fun G y _ z => k G y z)) b (fun n x i k z1 z2 => ?_) (fun n x k => ?_) (by omega) a (by omega) (fun G22 y2 y4 => bnd (f_X8_fine G22 y2) (fun G23 r24 => some (G23, r24)))
        · have wS := hW.2.1 (i - 1) (by omega) (by omega)
          rw [f_X8_effortHome_L31, gd_t ⟨by omega, by omega⟩, gd_t ⟨by omega, by omega⟩, if_neg (by omega), m_toward ⟨by omega, by omega⟩ ⟨by omega, by omega⟩, bn1_some, if_neg (show ¬ i < b by omega), m_eff (s := i - 1) (u := 0) (by omega) (Or.inr ⟨by omega, rfl, rfl⟩) ⟨by omega, by omega⟩ ⟨by omega, by omega⟩ (by rw [e]; exact wS), bn1_some, bn1_some, e]
        · rw [f_X8_effortHome_L31, gd_t ⟨by omega, by omega⟩, gd_t ⟨by omega, by omega⟩, if_pos rfl]
  · refine fin_throw (k := 1) hI ?_ ?_ (by decide)
    · unfold f_L_effortHome f_X7_effortHome
      rw [r4, c_num h1 ⟨by omega, by omega⟩, bn1_some, if_neg c1, if_neg (by decide), lwP_some, if_neg (by decide), if_pos rfl]
    · unfold f_X8_effortHome
      rw [m_isTeam h1 (by omega), bn1_some, if_neg (by omega), gd_t (by decide), if_pos rfl, m_throw]

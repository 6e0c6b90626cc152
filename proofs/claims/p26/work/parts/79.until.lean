/-! HOURS UNTIL IT HAS COME -/
theorem c_idle {G : GS} {o m : Int} {A : Int → Int} (hR : Rd G o A) (hW : Wf m A) : ∃ r, f_X3_allTeamsIdle G o = some r ∧ ((r = 1 ∧ idle A) ∨ (r = 0 ∧ ¬ idle A)) := by
  have hWh := hW.1
  unfold WfH at hWh
  have r5 : G 3 o 5 = A 7 := hR.1.2.1
  obtain ⟨e1, e2⟩ := nT hW
  have main : ∀ (d : Nat) (i : Int), 0 ≤ i → i + d = A 7 → ∀ n, d < n → ∃ r, f_X3_allTeamsIdle_L2 G o n i (fun _ => some 1) = some r ∧ ((r = 1 ∧ ∀ t, i ≤ t → t < A 7 → A (54 + 11 * t + 3) = 0 ∧ A (54 + 11 * t + 1) = 0) ∨ (r = 0 ∧ ∃ t, i ≤ t ∧ t < A 7 ∧ ¬ (A (54 + 11 * t + 3) = 0 ∧ A (54 + 11 * t + 1) = 0))) := by
    intro d
    induction d with
    | zero =>
      intro i h0 hi n hn
      obtain ⟨n, rfl⟩ : ∃ q, n = q + 1 := ⟨n - 1, by omega⟩
      refine ⟨1, ?_, Or.inl ⟨rfl, fun t z1 z2 => by omega⟩⟩
      rw [f_X3_allTeamsIdle_L2, gd_t ⟨by omega, by omega⟩, gd_t ⟨by omega, by omega⟩, if_neg (by omega)]
    | succ d ih =>
      intro i h0 hi n hn
      obtain ⟨n, rfl⟩ : ∃ q, n = q + 1 := ⟨n - 1, by omega⟩
      have hT := hR.2.2.2.1 i h0 (by omega)
      have hw := hW.2.2.2.1 i h0 (by omega)
      unfold RdT at hT
      unfold WfT at hw
      obtain ⟨-, t1, -, -, -, -, -, -, -, -, -, t3a, t3b⟩ := hT
      by_cases c3 : A (54 + 11 * i + 3) = 0
      · by_cases c1 : A (54 + 11 * i + 1) = 0
        · obtain ⟨r, q1, q2⟩ := ih (i + 1) (by omega) (by omega) n (by omega)
          refine ⟨r, ?_, ?_⟩
          · rw [f_X3_allTeamsIdle_L2, gd_t ⟨by omega, by omega⟩, gd_t ⟨by omega, by omega⟩, if_pos (by omega), ga_t ⟨by omega, by omega⟩]
            unfold f_X6_stands
            rw [t3a c3, gd_t (by decide), if_pos rfl, bn1_some, gd_t (by decide), if_neg (by decide), t1, c1, gd_t (by decide), if_neg (by decide)]
            exact q1
          · rcases q2 with ⟨h, q2⟩ | ⟨h, t, z1, z2, z3⟩
            · refine Or.inl ⟨h, fun t z1 z2 => ?_⟩
              by_cases ht : t = i
              · rw [ht]; exact ⟨c3, c1⟩
              · exact q2 t (by omega) z2
            · exact Or.inr ⟨h, t, by omega, z2, z3⟩
        · refine ⟨0, ?_, Or.inr ⟨rfl, i, by omega, by omega, fun z => c1 z.2⟩⟩
          rw [f_X3_allTeamsIdle_L2, gd_t ⟨by omega, by omega⟩, gd_t ⟨by omega, by omega⟩, if_pos (by omega), ga_t ⟨by omega, by omega⟩]
          unfold f_X6_stands
          rw [t3a c3, gd_t (by decide), if_pos rfl, bn1_some, gd_t (by decide), if_neg (by decide), t1, gd_t ⟨by omega, by omega⟩, if_pos (by omega)]
      · refine ⟨0, ?_, Or.inr ⟨rfl, i, by omega, by omega, fun z => c3 z.1⟩⟩
        rw [f_X3_allTeamsIdle_L2, gd_t ⟨by omega, by omega⟩, gd_t ⟨by omega, by omega⟩, if_pos (by omega), ga_t ⟨by omega, by omega⟩]
        unfold f_X6_stands
        rw [gd_t ⟨by omega, by omega⟩, if_neg (by omega), bn1_some, gd_t (by decide), if_pos rfl]
  obtain ⟨r, q1, q2⟩ := main (A 7).toNat 0 (by omega) (by omega) gFuel e2
  refine ⟨r, q1, ?_⟩
  rcases q2 with ⟨h, q2⟩ | ⟨h, t, z1, z2, z3⟩
  · exact Or.inl ⟨h, q2⟩
  · exact Or.inr ⟨h, fun z => z3 (z t z1 z2)⟩
theorem hasIn_01 (A : Int → Int) (l : Int) : hasIn A l = 0 ∨ hasIn A l = 1 := by
  unfold hasIn allIn
  repeat' split
  all_goals omega
/-- the model's loop over hours -/
def mLoop (l N : Int) (M : Nat → GS → Int → (GS → Int → Option (GS × Int)) → Option (GS × Int)) : Prop := ∀ n H i k m, m ≤ 20000 → Wf m (H 10 0) → H 10 0 8 = N → 0 ≤ i → i ≤ 500 → M (n + 1) H i k = if i < 500 ∧ hasIn (H 10 0) l = 0 then bn1 (f_X8_hour H) (fun H' => M n H' (i + 1) k) else k H i
theorem until_quiet {l N : Int} {M : Nat → GS → Int → (GS → Int → Option (GS × Int)) → Option (GS × Int)} (hl : l = -1 ∨ (0 ≤ l ∧ l < N)) (hM : mLoop l N M) :
    ∀ (d : Nat) (i o m : Int) (G H : GS), m + d ≤ 20000 → i + d = 500 → 0 ≤ i → Rd G o (H 10 0) → Wf m (H 10 0) → H 10 0 8 = N → quiet (H 10 0) → hasIn (H 10 0) l = 0 → ∃ H', (∀ n k, d < n → M n H i k = k H' 500) ∧ frM H H' ∧ (∀ f, f ≠ 1 → H' 10 0 f = H 10 0 f) ∧ ∃ m', m' ≤ 20000 ∧ Wf m' (H' 10 0) := by
  intro d
  induction d with
  | zero =>
    intro i o m G H hm hi h0 hR hW h8 hQ hz
    have e : i = 500 := by omega
    subst e
    refine ⟨H, fun n k hn => ?_, frM_rf, fun _ _ => rfl, m, by omega, hW⟩
    obtain ⟨n, rfl⟩ : ∃ q, n = q + 1 := ⟨n - 1, by omega⟩
    rw [hM n H 500 k m (by omega) hW h8 (by omega) (by omega), if_neg (fun z => by have := z.1; omega)]
  | succ d ih =>
    intro i o m G H hm hi h0 hR hW h8 hQ hz
    obtain ⟨G', H', a1, a2, a3, a4, a5, a6, a10, a7⟩ := h_still (by omega) hR hW hQ.1
    rcases a7 with ⟨-, a7⟩ | ⟨a7, -⟩
    · obtain ⟨H2, b1, b2, b3, b4⟩ := ih (i + 1) o (m + 1) G' H' (by omega) (by omega) (by omega) a3 a4 (by omega) (quiet_c a7 hW hQ) (by rw [hasIn_c a7 (by omega)]; exact hz)
      refine ⟨H2, fun n k hn => ?_, frM_tr a6 b2, fun f z => (b3 f z).trans (a7 f z), b4⟩
      obtain ⟨n, rfl⟩ : ∃ q, n = q + 1 := ⟨n - 1, by omega⟩
      rw [hM n H i k m (by omega) hW h8 h0 (by omega), if_pos ⟨by omega, hz⟩, a2, bn1_some]
      exact b1 n k (by omega)
    · exact absurd hQ a7
theorem until_both {o l N : Int} {M : Nat → GS → Int → (GS → Int → Option (GS × Int)) → Option (GS × Int)} (hl : l = -1 ∨ (0 ≤ l ∧ l < N)) (hM : mLoop l N M) :
    ∀ (d : Nat) (i m : Int) (G H : GS), m + d ≤ 20000 → i + d = 500 → 0 ≤ i → Rd G o (H 10 0) → Wf m (H 10 0) → H 10 0 8 = N → ∃ G' H' x y s, (∀ n k, d < n → f_X3_hoursUntilDelivered_L4 o l n G i 0 k = k G' x s) ∧ (∀ n k, d < n → M n H i k = k H' y) ∧ frC o G G' ∧ frM H H' ∧ H' 10 0 8 = N ∧ (∃ m', m' ≤ 20000 ∧ Wf m' (H' 10 0)) ∧ (0 ≤ y ∧ y ≤ 500) ∧ f_X3_hasCome G' o l = some (hasIn (H' 10 0) l) ∧ (hasIn (H' 10 0) l ≠ 0 → x = y) := by
  intro d
  induction d with
  | zero =>
    intro i m G H hm hi h0 hR hW h8
    have e : i = 500 := by omega
    subst e
    refine ⟨G, H, 500, 500, 0, fun n k hn => ?_, fun n k hn => ?_, frC_rf, frM_rf, h8, ⟨m, by omega, hW⟩, by omega, c_hasCome hR hW (by omega), fun _ => rfl⟩
    · obtain ⟨n, rfl⟩ : ∃ q, n = q + 1 := ⟨n - 1, by omega⟩
      rw [f_X3_hoursUntilDelivered_L4, gd_t (by decide), if_neg (by omega)]
    · obtain ⟨n, rfl⟩ : ∃ q, n = q + 1 := ⟨n - 1, by omega⟩
      rw [hM n H 500 k m (by omega) hW h8 (by omega) (by omega), if_neg (fun z => by have := z.1; omega)]
  | succ d ih =>
    intro i m G H hm hi h0 hR hW h8
    have hc := c_hasCome hR hW (l := l) (by omega)
    by_cases hz : hasIn (H 10 0) l = 0
    · have cls : ∀ n k, f_X3_hoursUntilDelivered_L4 o l (n + 1) G i 0 k = bn1 (f_X3_allTeamsIdle G o) (fun r9 => bn1 (f_X3_passHour G o) (fun G11 => gd r9 (if r9 = 0 then f_X3_hoursUntilDelivered_L4 o l n G11 (i + 1) 0 k else bn1 (f_X3_allTeamsIdle G11 o) (fun r15 => gd r15 (if r15 = 0 then f_X3_hoursUntilDelivered_L4 o l n G11 (i + 1) 0 k else f_X3_hoursUntilDelivered_L4 o l n G11 (i + 1) 1 k))))) := fun n k => by
        rw [f_X3_hoursUntilDelivered_L4, gd_t ⟨by omega, by omega⟩, if_pos (by omega), gd_t (by decide), if_pos rfl, hc, hz, bn1_some, gd_t (by decide), if_pos rfl]
      have mod : ∀ n k, M (n + 1) H i k = bn1 (f_X8_hour H) (fun H' => M n H' (i + 1) k) := fun n k => by
        rw [hM n H i k m (by omega) hW h8 h0 (by omega), if_pos ⟨by omega, hz⟩]
      have next : ∀ G1 H1, Rd G1 o (H1 10 0) → Wf (m + 1) (H1 10 0) → frC o G G1 → frM H H1 → H1 10 0 8 = H 10 0 8 → (∀ n k, f_X3_hoursUntilDelivered_L4 o l (n + 1) G i 0 k = f_X3_hoursUntilDelivered_L4 o l n G1 (i + 1) 0 k) → f_X8_hour H = some H1 → ∃ G' H' x y s, (∀ n k, d + 1 < n → f_X3_hoursUntilDelivered_L4 o l n G i 0 k = k G' x s) ∧ (∀ n k, d + 1 < n → M n H i k = k H' y) ∧ frC o G G' ∧ frM H H' ∧ H' 10 0 8 = N ∧ (∃ m', m' ≤ 20000 ∧ Wf m' (H' 10 0)) ∧ (0 ≤ y ∧ y ≤ 500) ∧ f_X3_hasCome G' o l = some (hasIn (H' 10 0) l) ∧ (hasIn (H' 10 0) l ≠ 0 → x = y) := by
        intro G1 H1 y1 y2 y3 y4 y5 y6 y7
        obtain ⟨G', H', x, y, s, b1, b2, b3, b4, b5, b6, b7, b8, b9⟩ := ih (i + 1) (m + 1) G1 H1 (by omega) (by omega) (by omega) y1 y2 (by omega)
        refine ⟨G', H', x, y, s, fun n k hn => ?_, fun n k hn => ?_, frC_tr y3 b3, frM_tr y4 b4, b5, b6, b7, b8, b9⟩
        · obtain ⟨n, rfl⟩ : ∃ q, n = q + 1 := ⟨n - 1, by omega⟩
          rw [y6]
          exact b1 n k (by omega)
        · obtain ⟨n, rfl⟩ : ∃ q, n = q + 1 := ⟨n - 1, by omega⟩
          rw [mod, y7, bn1_some]
          exact b2 n k (by omega)
      obtain ⟨r9, i1, i2⟩ := c_idle hR hW
      rcases i2 with ⟨rfl, i2⟩ | ⟨rfl, i2⟩
      · obtain ⟨G1, H1, a1, a2, a3, a4, a5, a6, a10, a7⟩ := h_still (by omega) hR hW i2
        obtain ⟨r15, j1, j2⟩ := c_idle a3 a4
        rcases a7 with ⟨a7, a8⟩ | ⟨a7, t, t0, t1, t2⟩
        · have hQ1 := quiet_c a8 hW a7
          have hz1 : hasIn (H1 10 0) l = 0 := by rw [hasIn_c a8 (by omega)]; exact hz
          rcases j2 with ⟨rfl, -⟩ | ⟨-, j2⟩
          · obtain ⟨H2, b1, b2, b3, m', b4, b5⟩ := until_quiet hl hM d (i + 1) o (m + 1) G1 H1 (by omega) (by omega) (by omega) a3 a4 (by omega) hQ1 hz1
            have hz2 : hasIn (H2 10 0) l = 0 := by rw [hasIn_c b3 (by omega)]; exact hz1
            refine ⟨G1, H2, i + 1, 500, 1, fun n k hn => ?_, fun n k hn => ?_, a5, frM_tr a6 b2, by rw [b3 8 (by omega)]; omega, ⟨m', b4, b5⟩, by omega, ?_, fun z => absurd hz2 z⟩
            · obtain ⟨n, rfl⟩ : ∃ q, n = q + 2 := ⟨n - 2, by omega⟩
              rw [cls, i1, bn1_some, a1, bn1_some, gd_t (by decide), if_neg (by decide), j1, bn1_some, gd_t (by decide), if_neg (by decide), f_X3_hoursUntilDelivered_L4, gd_t ⟨by omega, by omega⟩]
              by_cases c : i + 1 < 500
              · rw [if_pos c, gd_t (by decide), if_neg (by decide)]
              · rw [if_neg c]
            · obtain ⟨n, rfl⟩ : ∃ q, n = q + 1 := ⟨n - 1, by omega⟩
              rw [mod, a2, bn1_some]
              exact b1 n k (by omega)
            · rw [hz2, c_hasCome a3 a4 (by omega), hz1]
          · exact absurd hQ1.1 j2
        · rcases j2 with ⟨-, j2⟩ | ⟨rfl, -⟩
          · have := (j2 t t0 t1).1
            omega
          · refine next G1 H1 a3 a4 a5 a6 a10 (fun n k => ?_) a2
            rw [cls, i1, bn1_some, a1, bn1_some, gd_t (by decide), if_neg (by decide), j1, bn1_some, gd_t (by decide), if_pos rfl]
      · obtain ⟨G1, H1, H2, H3, a1, a2, a3, a4, a5, a6, a10, -⟩ := h_hour (by omega) hR hW
        refine next G1 H1 a3 a4 a5 a6 a10 (fun n k => ?_) a2
        rw [cls, i1, bn1_some, a1, bn1_some, gd_t (by decide), if_pos rfl]
    · refine ⟨G, H, i, i, 0, fun n k hn => ?_, fun n k hn => ?_, frC_rf, frM_rf, h8, ⟨m, by omega, hW⟩, by omega, hc, fun _ => rfl⟩
      · obtain ⟨n, rfl⟩ : ∃ q, n = q + 1 := ⟨n - 1, by omega⟩
        rw [f_X3_hoursUntilDelivered_L4, gd_t ⟨by omega, by omega⟩, if_pos (by omega), gd_t (by decide), if_pos rfl, hc, bn1_some]
        have h01 := hasIn_01 (H 10 0) l
        rw [gd_t ⟨by omega, by omega⟩, if_neg hz]
      · obtain ⟨n, rfl⟩ : ∃ q, n = q + 1 := ⟨n - 1, by omega⟩
        rw [hM n H i k m (by omega) hW h8 h0 (by omega), if_neg (fun z => hz z.2)]
theorem h_all {o m : Int} (hm : m ≤ 15000) {G H : GS} (hR : Rd G o (H 10 0)) (hW : Wf m (H 10 0)) : ∃ G' H' r, f_X3_hoursUntilDelivered G o (-1) = some (G', r) ∧ f_X8_toAll H = some (H', r) ∧ frC o G G' ∧ frM H H' ∧ (-1 ≤ r ∧ r ≤ 500) := by
  have hM : mLoop (-1) (H 10 0 8) f_X8_toAll_L2 := by
    intro n H i k m hm hW h8 h0 h1
    have h01 := hasIn_01 (H 10 0) (-1)
    have e : hasIn (H 10 0) (-1) = allIn (H 10 0) := if_pos rfl
    rw [f_X8_toAll_L2, gd_t ⟨by omega, by omega⟩]
    by_cases c : i < 500
    · rw [if_pos c, m_allIn hW, bn1_some, ← e, gd_t ⟨by omega, by omega⟩]
      by_cases c2 : hasIn (H 10 0) (-1) = 0
      · rw [if_pos c2, if_pos ⟨c, c2⟩]
      · rw [if_neg c2, if_neg (fun z => c2 z.2)]
    · rw [if_neg c, if_neg (fun z => c z.1)]
  obtain ⟨G', H', x, y, s, b1, b2, b3, b4, b5, ⟨m', b6, b6'⟩, b7, b8, b9⟩ := until_both (o := o) (l := -1) (Or.inl rfl) hM 500 0 m G H (by omega) (by omega) (by omega) hR hW rfl
  have h01 := hasIn_01 (H' 10 0) (-1)
  have e : hasIn (H' 10 0) (-1) = allIn (H' 10 0) := if_pos rfl
  have c1 : f_X3_hoursUntilDelivered G o (-1) = if hasIn (H' 10 0) (-1) = 0 then some (G', -1) else some (G', x) := by
    unfold f_X3_hoursUntilDelivered
    rw [b1 gFuel _ (by decide), b8, bn1_some, gd_t ⟨by omega, by omega⟩]
  have c2 : f_X8_toAll H = if hasIn (H' 10 0) (-1) = 0 then some (H', -1) else some (H', y) := by
    unfold f_X8_toAll
    rw [b2 gFuel _ (by decide), m_allIn b6', bn1_some, ← e, gd_t ⟨by omega, by omega⟩]
  by_cases c : hasIn (H' 10 0) (-1) = 0
  · exact ⟨G', H', -1, by rw [c1, if_pos c], by rw [c2, if_pos c], b3, b4, by omega, by omega⟩
  · exact ⟨G', H', y, by rw [c1, if_neg c, b9 c], by rw [c2, if_neg c], b3, b4, by omega, by omega⟩
theorem h_one {o m l : Int} (hm : m ≤ 15000) {G H : GS} (hR : Rd G o (H 10 0)) (hW : Wf m (H 10 0)) (l0 : 0 ≤ l) (l1 : l < H 10 0 8) : ∃ G' H' y d r, f_X3_hoursUntilDelivered G o l = some (G', r) ∧ (∀ k, f_X8_hoursTo_L20 l gFuel H 0 k = k H' y) ∧ f_X8_isDelivered H' l = some d ∧ ((d = 0 ∧ r = -1) ∨ (d = 1 ∧ r = y)) ∧ frC o G G' ∧ frM H H' ∧ (0 ≤ y ∧ y ≤ 500) := by
  have hWh := hW.1
  unfold WfH at hWh
  have hd : ∀ (m : Int) (H1 : GS), Wf m (H1 10 0) → H1 10 0 8 = H 10 0 8 → f_X8_isDelivered H1 l = some (hasIn (H1 10 0) l) := by
    intro m H1 hW h8
    rw [m_isDel hW l0 (by omega)]
    unfold hasIn
    rw [if_neg (show ¬ l = -1 by omega)]
  have hM : mLoop l (H 10 0 8) (f_X8_hoursTo_L20 l) := by
    intro n H1 i k m hm hW h8 h0 h1
    have h01 := hasIn_01 (H1 10 0) l
    rw [f_X8_hoursTo_L20, gd_t ⟨by omega, by omega⟩]
    by_cases c : i < 500
    · rw [if_pos c, hd m H1 hW h8, bn1_some, gd_t ⟨by omega, by omega⟩]
      by_cases c2 : hasIn (H1 10 0) l = 0
      · rw [if_pos c2, if_pos ⟨c, c2⟩]
      · rw [if_neg c2, if_neg (fun z => c2 z.2)]
    · rw [if_neg c, if_neg (fun z => c z.1)]
  obtain ⟨G', H', x, y, s, b1, b2, b3, b4, b5, ⟨m', b6, b6'⟩, b7, b8, b9⟩ := until_both (o := o) (l := l) (Or.inr ⟨l0, l1⟩) hM 500 0 m G H (by omega) (by omega) (by omega) hR hW rfl
  have h01 := hasIn_01 (H' 10 0) l
  have c1 : f_X3_hoursUntilDelivered G o l = if hasIn (H' 10 0) l = 0 then some (G', -1) else some (G', x) := by
    unfold f_X3_hoursUntilDelivered
    rw [b1 gFuel _ (by decide), b8, bn1_some, gd_t ⟨by omega, by omega⟩]
  by_cases c : hasIn (H' 10 0) l = 0
  · exact ⟨G', H', y, 0, -1, by rw [c1, if_pos c], fun k => b2 gFuel k (by decide), by rw [hd m' H' b6' b5, c], Or.inl ⟨rfl, rfl⟩, b3, b4, b7⟩
  · exact ⟨G', H', y, 1, y, by rw [c1, if_neg c, b9 c], fun k => b2 gFuel k (by decide), by rw [hd m' H' b6' b5]; exact congrArg some (by omega), Or.inr ⟨rfl, rfl⟩, b3, b4, b7⟩

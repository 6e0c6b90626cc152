/-! WHAT IF -/
def sameM (H H' : GS) : Prop := (∀ f, 0 ≤ f → f < 260 → H' 10 0 f = H 10 0 f) ∧ (∀ k x f, ¬ (k = 10 ∧ (x = 0 ∨ x = 2)) → k ≠ 11 → H' k x f = H k x f)
theorem sameM_tr {H H1 H2 : GS} (h : sameM H H1) (h2 : sameM H1 H2) : sameM H H2 := ⟨fun f z1 z2 => (h2.1 f z1 z2).trans (h.1 f z1 z2), fun k x f z1 z2 => (h2.2 k x f z1 z2).trans (h.2 k x f z1 z2)⟩
theorem sameM_of {H H1 H2 H3 : GS} (a1 : ∀ k x f, ¬ (k = 10 ∧ x = 2) → H1 k x f = H k x f) (a2 : ∀ f, 0 ≤ f → f < 260 → H1 10 2 f = H 10 0 f) (b : frM H1 H2) (c1 : ∀ k x f, ¬ (k = 10 ∧ x = 0) → H3 k x f = H2 k x f) (c2 : ∀ f, 0 ≤ f → f < 260 → H3 10 0 f = H2 10 2 f) : sameM H H3 :=
  ⟨fun f z1 z2 => by rw [c2 f z1 z2, b 10 2 f (by omega) (by omega), a2 f z1 z2], fun k x f z1 z2 => by rw [c1 _ _ _ (by omega), b _ _ _ (by omega) z2, a1 _ _ _ (by omega)]⟩
theorem Inv_same {G G1 H' Hz : GS} (hI : Inv G) (f1 : ∀ k x f, ¬ ofR 1 k x → k ≠ 13 → G1 k x f = G k x f) (s : sameM G1 H') (z : ∀ k x f, ¬ (k = 8 ∧ x = 0 ∧ f = 4) → Hz k x f = H' k x f) : Inv Hz := by
  obtain ⟨A, S, c, len, T, i1, i2, i3⟩ := hI
  refine ⟨A, S, c, len, T, IC_fr i1 i3 (fun k x f z1 z2 z3 z4 z5 z6 => ?_), IM_A i2 (fun f z1 z2 => ?_) (fun k x f z1 => ?_), i3⟩
  · rw [z _ _ _ (by omega), s.2 _ _ _ (by omega) (by omega), f1 _ _ _ z1 z6]
  · rw [z _ _ _ (by omega), s.1 f z1 z2, f1 _ _ _ (by unfold ofR; omega) (by omega)]
    exact i2.1 f z1 z2
  · rw [z _ _ _ (by omega), s.2 _ _ _ (by omega) (by omega), f1 _ _ _ (by unfold ofR; omega) (by omega)]
theorem some_pair {α β : Type} {g g' : α} {v v' : β} (h : some (g, v) = some (g', v')) : g = g' ∧ v = v' := by
  cases h
  exact ⟨rfl, rfl⟩
theorem ahead_all {G : GS} (hR : Rd G 0 (G 10 0)) (hW : Wf 10000 (G 10 0)) : ∃ Ga Gb r, f_X3_copyFrom G 1 0 = some Ga ∧ f_X3_hoursUntilDelivered Ga 1 (-1) = some (Gb, r) ∧ (-1 ≤ r ∧ r ≤ 500) ∧ frC 1 G Gb ∧ ∀ H : GS, H 10 0 = G 10 0 → ∃ H', f_X8_forAll H = some (H', r) ∧ sameM H H' := by
  obtain ⟨Ga, ea, ra, fa⟩ := c_copy (G := G) (o := 1) (p := 0) (by decide) hR hW
  obtain ⟨Gb, Hx, r, eb, -, fb, -, hr⟩ := h_all (o := 1) (m := 10000) (by decide) (G := Ga) (H := G) ra hW
  refine ⟨Ga, Gb, r, ea, eb, hr, frC_tr fa fb, fun H e => ?_⟩
  obtain ⟨H1, x1, x2, x3⟩ := m_aside H
  have e1 : H1 10 0 = G 10 0 := by rw [← e]; exact funext fun f => x2 _ _ _ (by omega)
  obtain ⟨Gc, H2, r2, y1, y2, -, y4, -⟩ := h_all (o := 1) (m := 10000) (by decide) (G := Ga) (H := H1) (by rw [e1]; exact ra) (by rw [e1]; exact hW)
  have er : r2 = r := (some_pair (y1.symm.trans eb)).2
  obtain ⟨H3, w1, w2, w3⟩ := m_back H2
  refine ⟨H3, ?_, sameM_of x2 x3 y4 w2 w3⟩
  unfold f_X8_forAll
  rw [x1, bn1_some, y2, bnd_some, w1, bn1_some, er]
theorem op_hoursToAll {G : GS} (hI : Inv G) : ∃ G2, lwU (f_X7_hoursToAll G) (fun G1 => f_X8_hoursToAll G1) = some G2 ∧ Inv G2 := by
  obtain ⟨hR, hW⟩ := Inv_road hI
  obtain ⟨Ga, Gb, r, ea, eb, hr, fb, hM⟩ := ahead_all hR hW
  obtain ⟨H', m1, m2⟩ := hM Gb (funext fun f => fb _ _ _ (by unfold ofR; omega))
  refine ⟨gup H' 8 0 4 0, turnU (a := r) (G1 := Gb) ?_ ?_ ⟨by omega, by omega⟩, Inv_same hI (fun k x f z _ => fb k x f z) m2 (fun k x f z => gup_n z)⟩
  · unfold f_X7_hoursToAll
    rw [ea, bn1_some, eb, bnd_some]
  · unfold f_X8_hoursToAll
    rw [m1, bnd_some, m_fine]
theorem op_hoursTo {G : GS} {p1 : Int} (hI : Inv G) (h1 : inR p1) : ∃ G2, lwT (f_L_hoursTo G p1) (fun G1 => f_X8_hoursTo G1 p1) = some G2 ∧ Inv G2 := by
  obtain ⟨hR, hW⟩ := Inv_road hI
  have hWh := hW.1
  unfold WfH at hWh
  have r4 : G 3 0 6 = G 10 0 8 := hR.1.2.2.1
  by_cases c1 : 0 ≤ p1 ∧ p1 < G 10 0 8
  · obtain ⟨Ga, ea, ra, fa⟩ := c_copy (G := G) (o := 1) (p := 0) (by decide) hR hW
    obtain ⟨Gb, Hx, yx, dx, r, eb, -, -, -, fb, -, -⟩ := h_one (o := 1) (m := 10000) (by decide) (G := Ga) (H := G) ra hW c1.1 c1.2
    have fc := frC_tr fa fb
    obtain ⟨Gc, ec, fd, vc⟩ := gup_ex Gb 13 0 0 (bm r)
    have f1 : ∀ k x f, ¬ ofR 1 k x → k ≠ 13 → Gc k x f = G k x f := fun k x f z1 z2 => by rw [fd _ _ _ (by omega), fc _ _ _ z1]
    have e0 : Gc 10 0 = G 10 0 := funext fun f => f1 _ _ _ (by unfold ofR; omega) (by decide)
    obtain ⟨H1, x1, x2, x3⟩ := m_aside Gc
    have e1 : H1 10 0 = G 10 0 := by rw [← e0]; exact funext fun f => x2 _ _ _ (by omega)
    obtain ⟨Gd, H2, y, d, r2, y1, y2, y3, y4, -, y6, -⟩ := h_one (o := 1) (m := 10000) (by decide) (G := Ga) (H := H1) (by rw [e1]; exact ra) (by rw [e1]; exact hW) c1.1 (by rw [e1]; exact c1.2)
    have er : r2 = r := (some_pair (y1.symm.trans eb)).2
    subst er
    obtain ⟨H3, w1, w2, w3⟩ := m_back H2
    have hS := sameM_of x2 x3 y6 w2 w3
    refine ⟨gup H3 8 0 4 0, turnT (k := 0) (b := r2) (G1 := Gc) ?_ ?_ gup_s (by decide) (fun _ => ?_), Inv_same hI f1 hS (fun k x f z => gup_n z)⟩
    · unfold f_L_hoursTo f_X7_hoursTo
      rw [r4, c_num h1 ⟨by omega, by omega⟩, bn1_some, if_pos c1, if_pos rfl, ea, bn1_some, eb, bnd_some, lwB_some, if_pos rfl, ec]
    · unfold f_X8_hoursTo
      rw [m_isLetter h1 (by rw [e0]; omega), bn1_some, e0, if_pos (by omega), gd_t (by decide), if_neg (by decide), x1, bn1_some, y2, y3, bn1_some]
      rcases y4 with ⟨rfl, rfl⟩ | ⟨rfl, rfl⟩
      · rw [gd_t (by decide), if_pos rfl, w1, bn1_some, m_fine]
      · rw [gd_t (by decide), if_neg (by decide), w1, bn1_some, m_fine]
    · rw [gup_k (by decide), hS.2 _ _ _ (by omega) (by omega)]
      exact vc
  · refine fin_throw (k := 1) hI ?_ ?_ (by decide)
    · unfold f_L_hoursTo f_X7_hoursTo
      rw [r4, c_num h1 ⟨by omega, by omega⟩, bn1_some, if_neg c1, if_neg (by decide), lwB_some, if_neg (by decide), if_pos rfl]
    · unfold f_X8_hoursTo
      rw [m_isLetter h1 (by omega), bn1_some, if_neg (by omega), gd_t (by decide), if_pos rfl, m_throw]
/-! THE BEST INN -/
theorem best_loop {G H : GS} {A : Int → Int} (hA : A = H 10 0) (hR : Rd G 0 A) (hW : Wf 10000 A) (h7 : A 7 < 10) : ∀ (d : Nat) (i : Int) (G1 H1 : GS) (best bh : Int), i + d = A 0 → 0 ≤ i → frC 1 G G1 → sameM H H1 → (-1 ≤ best ∧ best ≤ 8) → (-1 ≤ bh ∧ bh ≤ 501) → ∃ (G' H' : GS) (r y : Int), (∀ n k, d < n → f_X7_bestInn_L22 n G1 best bh i k = k G' r y (A 0)) ∧ (∀ n k, d < n → f_X8_bestInn_L8 n H1 best bh i k = k H' r y (A 0)) ∧ frC 1 G G' ∧ sameM H H' ∧ (-1 ≤ r ∧ r ≤ 8) := by
  have hWh := hW.1
  unfold WfH at hWh
  intro d
  induction d with
  | zero =>
    intro i G1 H1 best bh hi h0 hf hs hb1 hb2
    have e : i = A 0 := by omega
    subst e
    have r4 : G1 3 0 4 = A 0 := by rw [hf _ _ _ (by unfold ofR; omega)]; exact hR.1.1
    have m0 : H1 10 0 0 = A 0 := by rw [hs.1 0 (by decide) (by decide), hA]
    refine ⟨G1, H1, best, bh, fun n k hn => ?_, fun n k hn => ?_, hf, hs, hb1⟩
    · obtain ⟨n, rfl⟩ : ∃ q, n = q + 1 := ⟨n - 1, by omega⟩
      rw [f_X7_bestInn_L22, gd_t ⟨by omega, by omega⟩, gd_t ⟨by omega, by omega⟩, if_neg (by omega)]
    · obtain ⟨n, rfl⟩ : ∃ q, n = q + 1 := ⟨n - 1, by omega⟩
      rw [f_X8_bestInn_L8, gd_t ⟨by omega, by omega⟩, gd_t ⟨by omega, by omega⟩, if_neg (by omega)]
  | succ d ih =>
    intro i G1 H1 best bh hi h0 hf hs hb1 hb2
    have R1 : Rd G1 0 A := Rd_fr hR hW.1 (fun _ _ _ => rfl) (fun k x f z => hf _ _ _ (by unfold ofR at z ⊢; omega))
    have r4 : G1 3 0 4 = A 0 := R1.1.1
    have mA : ∀ f, 0 ≤ f → f < 260 → H1 10 0 f = A f := fun f z1 z2 => by rw [hs.1 f z1 z2, hA]
    have m0 := mA 0 (by decide) (by decide)
    have m7 := mA 7 (by decide) (by decide)
    obtain ⟨Ga, ea, ra, fa⟩ := c_copy (G := G1) (o := 1) (p := 0) (by decide) R1 hW
    have r5 : Ga 3 1 5 = A 7 := ra.1.2.1
    obtain ⟨Gb, eb, fb, b5, br⟩ := c_place (G := Ga) (o := 1) (t := A 7) (p1 := i) (p2 := 0) r5 (by omega)
    obtain ⟨Ha, x1, x2, x3⟩ := m_aside H1
    have aA : ∀ f, 0 ≤ f → f < 260 → Ha 10 0 f = A f := fun f z1 z2 => by rw [x2 _ _ _ (by omega), mA f z1 z2]
    have a7 := aA 7 (by decide) (by decide)
    obtain ⟨Hb, u1, u2, u3, u4, w0, w1, w2, w3, w4, w5, w6, w7, w8, w9, -⟩ := m_adds (H := Ha) (t := A 7) (p1 := i) (p2 := 0) a7 (by omega)
    have RA : Rd Ga 1 (Ha 10 0) := Rd_fr ra hW.1 aA (fun _ _ _ _ => rfl)
    have WA : Wf 10000 (Ha 10 0) := Wf_ext hW aA
    have a0 := aA 0 (by decide) (by decide)
    obtain ⟨RB, WB⟩ := keep_add RA WA a7 (by omega) (home := i) (tired := 0) (by omega) (by decide) fb b5 br u3 u4 ⟨w0, w1, w2, w3, w4, w5, w6, w7, w8, w9⟩
    obtain ⟨Gc, Hc, r, c1, c2, c3, c4, c5⟩ := h_all (o := 1) (m := 10000) (by decide) RB WB
    obtain ⟨Hd, d1, d2, d3⟩ := m_back Hc
    have fG : frC 1 G Gc := frC_tr hf (frC_tr fa (frC_tr (fun k x f z => by unfold ofR at z; exact fb _ _ _ (by omega) (by omega)) c3))
    have sH : sameM H Hd := sameM_tr hs (sameM_of x2 x3 (frM_tr (fun k x f z1 z2 => u2 _ _ _ z1) c4) d2 d3)
    have cls : ∀ n k, f_X7_bestInn_L22 (n + 1) G1 best bh i k = if r = -1 then f_X7_bestInn_L22 n Gc best bh (i + 1) k else if r < bh then f_X7_bestInn_L22 n Gc i r (i + 1) k else f_X7_bestInn_L22 n Gc best bh (i + 1) k := fun n k => by
      rw [f_X7_bestInn_L22, gd_t ⟨by omega, by omega⟩, gd_t ⟨by omega, by omega⟩, if_pos (by omega), ea, bn1_some, eb, bnd_some, c1, bnd_some, gd_t ⟨by omega, by omega⟩, gd_t ⟨by omega, by omega⟩]
    have mod : ∀ n k, f_X8_bestInn_L8 (n + 1) H1 best bh i k = if r = -1 then f_X8_bestInn_L8 n Hd best bh (i + 1) k else if r < bh then f_X8_bestInn_L8 n Hd i r (i + 1) k else f_X8_bestInn_L8 n Hd best bh (i + 1) k := fun n k => by
      rw [f_X8_bestInn_L8, gd_t ⟨by omega, by omega⟩, gd_t ⟨by omega, by omega⟩, if_pos (by omega), gd_t ⟨by omega, by omega⟩, if_pos (by omega), x1, bn1_some, u1, bn1_some, c2, bnd_some, d1, bn1_some, gd_t ⟨by omega, by omega⟩, gd_t ⟨by omega, by omega⟩]
    have next : ∀ b2 h2 : Int, (-1 ≤ b2 ∧ b2 ≤ 8) → (-1 ≤ h2 ∧ h2 ≤ 501) → (∀ n k, f_X7_bestInn_L22 (n + 1) G1 best bh i k = f_X7_bestInn_L22 n Gc b2 h2 (i + 1) k) → (∀ n k, f_X8_bestInn_L8 (n + 1) H1 best bh i k = f_X8_bestInn_L8 n Hd b2 h2 (i + 1) k) → ∃ (G' H' : GS) (r y : Int), (∀ n k, d + 1 < n → f_X7_bestInn_L22 n G1 best bh i k = k G' r y (A 0)) ∧ (∀ n k, d + 1 < n → f_X8_bestInn_L8 n H1 best bh i k = k H' r y (A 0)) ∧ frC 1 G G' ∧ sameM H H' ∧ (-1 ≤ r ∧ r ≤ 8) := by
      intro b2 h2 y1 y2 y3 y4
      obtain ⟨G', H', r', y', z1, z2, z3, z4, z5⟩ := ih (i + 1) Gc Hd b2 h2 (by omega) (by omega) fG sH y1 y2
      refine ⟨G', H', r', y', fun n k hn => ?_, fun n k hn => ?_, z3, z4, z5⟩
      · obtain ⟨n, rfl⟩ : ∃ q, n = q + 1 := ⟨n - 1, by omega⟩
        rw [y3, z1 n k (by omega)]
      · obtain ⟨n, rfl⟩ : ∃ q, n = q + 1 := ⟨n - 1, by omega⟩
        rw [y4, z2 n k (by omega)]
    by_cases q1 : r = -1
    · exact next best bh hb1 hb2 (fun n k => by rw [cls, if_pos q1]) (fun n k => by rw [mod, if_pos q1])
    · by_cases q2 : r < bh
      · exact next i r (by omega) (by omega) (fun n k => by rw [cls, if_neg q1, if_pos q2]) (fun n k => by rw [mod, if_neg q1, if_pos q2])
      · exact next best bh hb1 hb2 (fun n k => by rw [cls, if_neg q1, if_neg q2]) (fun n k => by rw [mod, if_neg q1, if_neg q2])
theorem best_both {G H : GS} (hR : Rd G 0 (H 10 0)) (hW : Wf 10000 (H 10 0)) : ∃ G' H' r, f_X7_bestInn G = some (G', r) ∧ f_X8_bestInn H = some (gup H' 8 0 4 0, r) ∧ frC 1 G G' ∧ sameM H H' ∧ (-1 ≤ r ∧ r ≤ 8) := by
  have hWh := hW.1
  unfold WfH at hWh
  have r5 : G 3 0 5 = H 10 0 7 := hR.1.2.1
  by_cases c : H 10 0 7 < 10
  · obtain ⟨G', H', r, y, z1, z2, z3, z4, z5⟩ := best_loop rfl hR hW c (H 10 0 0).toNat 0 G H (-1) 501 (by omega) (by omega) frC_rf ⟨fun _ _ _ => rfl, fun _ _ _ _ _ => rfl⟩ (by decide) (by decide)
    have hg : gFuel = 3000 := rfl
    refine ⟨G', H', r, ?_, ?_, z3, z4, z5⟩
    · unfold f_X7_bestInn
      rw [gd_t ⟨by omega, by omega⟩, if_pos (by omega), z1 gFuel _ (by omega)]
    · unfold f_X8_bestInn
      rw [z2 gFuel _ (by omega), m_fine]
  · refine ⟨G, H, -1, ?_, ?_, frC_rf, ⟨fun _ _ _ => rfl, fun _ _ _ _ _ => rfl⟩, by decide⟩
    · unfold f_X7_bestInn
      rw [gd_t ⟨by omega, by omega⟩, if_neg (by omega)]
    · unfold f_X8_bestInn
      obtain ⟨n, hn⟩ : ∃ n, gFuel = n + 1 := ⟨2999, rfl⟩
      rw [hn, f_X8_bestInn_L8, gd_t (by decide), gd_t ⟨by omega, by omega⟩, if_pos (by omega), gd_t ⟨by omega, by omega⟩, if_neg (by omega), m_fine]
theorem op_bestInn {G : GS} (hI : Inv G) : ∃ G2, lwU (f_X7_bestInn G) (fun G1 => f_X8_bestInn G1) = some G2 ∧ Inv G2 := by
  obtain ⟨hR, hW⟩ := Inv_road hI
  obtain ⟨Ga, Hx, r, ea, -, fa, -, hr⟩ := best_both hR hW
  have e0 : Ga 10 0 = G 10 0 := funext fun f => fa _ _ _ (by unfold ofR; omega)
  obtain ⟨Gb, H', r2, eb, mb, -, sb, -⟩ := best_both (G := G) (H := Ga) (by rw [e0]; exact hR) (by rw [e0]; exact hW)
  have er : r2 = r := (some_pair (eb.symm.trans ea)).2
  subst er
  exact ⟨gup H' 8 0 4 0, turnU (a := r2) ea mb ⟨by omega, by omega⟩, Inv_same hI (fun k x f z _ => fa k x f z) sb (fun k x f z => gup_n z)⟩

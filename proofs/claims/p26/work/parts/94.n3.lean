/-! THE LAW HOLDS -/
theorem bn3_some {β : Type} {g f : GS} {r : Int} {k : GS → GS → Int → Option β} : bn3 (some (g, (f, r))) k = k g f r := rfl
theorem law35 {sc : Int → Int} {n : Int} (hn : 2 ≤ n ∧ n ≤ 8) {A B : Int → Int} {S Q : Int → Int → Int} : ∀ (d : Nat) (i : Int) (G F : GS), i + d = n - 1 → 0 ≤ i → IC G A S 0 (2 * i) ev2 → IP A S 0 (2 * i) ev2 → IC F B Q 0 (2 * i) ev2 → IP B Q 0 (2 * i) ev2 →
    ∃ G' F', (∀ (q : Nat) (k : GS → GS → Int → Int → Int → Option Int), d < q → f_L_law_L35 sc q G F n 1 i k = k G' F' n 1 (n - 1)) ∧ IC G' A S 0 (2 * (n - 1)) ev2 ∧ IP A S 0 (2 * (n - 1)) ev2 ∧ IC F' B Q 0 (2 * (n - 1)) ev2 ∧ IP B Q 0 (2 * (n - 1)) ev2 := by
  intro d
  induction d with
  | zero =>
    intro i G F hi h0 g1 g2 b1 b2
    have e : i = n - 1 := by omega
    subst e
    refine ⟨G, F, fun q k hq => ?_, g1, g2, b1, b2⟩
    obtain ⟨q, rfl⟩ : ∃ z, q = z + 1 := ⟨q - 1, by omega⟩
    rw [f_L_law_L35, gd_t ⟨by omega, by omega⟩, gd_t ⟨by omega, by omega⟩, if_neg (by omega)]
  | succ d ih =>
    intro i G F hi h0 g1 g2 b1 b2
    have e0 : ev2 (2 * i) = 50 := if_pos (by omega)
    have e1 : ev2 (2 * i + 1) = 59 := if_neg (by omega)
    obtain ⟨G1, x1, x2, x3⟩ := v_append g1 g2 (by omega)
    obtain ⟨G2, y1, y2, y3⟩ := v_append x2 x3 (by omega)
    obtain ⟨F1, u1, u2, u3⟩ := v_append b1 b2 (by omega)
    obtain ⟨F2, w1, w2, w3⟩ := v_append u2 u3 (by omega)
    rw [e0] at x1 u1
    rw [e1] at y1 w1
    have ei : 2 * i + 1 + 1 = 2 * (i + 1) := by omega
    rw [ei] at y2 y3 w2 w3
    obtain ⟨G', F', z1, z2⟩ := ih (i + 1) G2 F2 (by omega) (by omega) y2 y3 w2 w3
    refine ⟨G', F', fun q k hq => ?_, z2⟩
    obtain ⟨q, rfl⟩ : ∃ z, q = z + 1 := ⟨q - 1, by omega⟩
    rw [f_L_law_L35, gd_t ⟨by omega, by omega⟩, gd_t ⟨by omega, by omega⟩, if_pos (by omega), gd_t (by decide), if_neg (by decide), x1, bxw_some, gd_t ⟨by omega, by omega⟩, if_pos (by omega), y1, bxw_some, gd_t ⟨by omega, by omega⟩, if_pos (by omega), u1, bxw_some, gd_t ⟨by omega, by omega⟩, if_pos (by omega), w1, bxw_some, gd_t ⟨by omega, by omega⟩, if_pos (by omega)]
    exact z1 q k (by omega)
theorem law128 {sc : Int → Int} (hs : ∀ k, inR (sc k)) {n : Int} (hn : 2 ≤ n ∧ n ≤ 8) : ∀ (d : Nat) (i : Int) (G F : GS), i + d = 44 → 1 ≤ i → Pr n i G F →
    ∃ G' F', (∀ (q : Nat) (k : GS → GS → Int → Int → Int → Option Int), d < q → f_L_law_L128 sc q G F n 1 i k = k G' F' n 1 44) ∧ Pr n 44 G' F' := by
  intro d
  induction d with
  | zero =>
    intro i G F hi h0 h
    have e : i = 44 := by omega
    subst e
    refine ⟨G, F, fun q k hq => ?_, h⟩
    obtain ⟨q, rfl⟩ : ∃ z, q = z + 1 := ⟨q - 1, by omega⟩
    rw [f_L_law_L128, gd_t (by decide), if_neg (by decide)]
  | succ d ih =>
    intro i G F hi h0 h
    obtain ⟨G1, F1, x1, A, B, hG, hF, hM, hJ, h1, hB⟩ := is_step h hn (by omega) (hs i)
    have hB2 : Bnd 20000000 A := Bnd_up hB (by omega)
    obtain ⟨G2, F2, y1, hG2, hF2⟩ := is_alike hG hF ⟨hn, hM, (St_R hG).2, hB2⟩
    have y2 := is_sound (F := F2) hG2 hM.1.1 hJ hB2
    obtain ⟨G', F', z1, z2⟩ := ih (i + 1) G2 F2 (by omega) (by omega) ⟨A, B, hG2, hF2, hM, hJ, h1, hB⟩
    refine ⟨G', F', fun q k hq => ?_, z2⟩
    obtain ⟨q, rfl⟩ : ∃ z, q = z + 1 := ⟨q - 1, by omega⟩
    rw [f_L_law_L128, gd_t ⟨by omega, by omega⟩, if_pos (by omega), gd_t (by decide), if_neg (by decide), ga_t ⟨by omega, by omega⟩, x1, bn3_some, gd_t (by decide), if_neg (by decide), y1, bn3_some, gd_t (by decide), if_neg (by decide), y2, bn1_some, gd_t (by decide), if_neg (by decide)]
    exact z1 q k (by omega)
theorem v_now {G : GS} {A : Int → Int} (h : St G A) : f_X7_value G 3 = some (0, A 1) ∧ f_X7_value G 9 = some (0, cnt (pLy A) (A 8).toNat) ∧ f_X7_value G 10 = some (0, cnt (pWi A) (A 8).toNat) := ⟨v_value h (w := 3) (by decide), v_value h (w := 9) (by decide), v_value h (w := 10) (by decide)⟩
theorem all_now {A : Int → Int} (hW : Wf 10000 A) (h : allIn A = 1) {H : GS} {r : Int} (e : f_X8_toAll (mw A) = some (H, r)) : r = 0 := by
  have hg : gFuel = 2999 + 1 := rfl
  have a : f_X8_areDelivered (mw A) = some 1 := by
    have z := m_allIn (G := mw A) (m := 10000) (by rw [mw_A]; exact hW)
    rw [mw_A, h] at z
    exact z
  unfold f_X8_toAll at e
  rw [hg, f_X8_toAll_L2, gd_t (by decide), if_pos (by decide), a, bn1_some, gd_t (by decide), if_neg (by decide), bn1_some, gd_t (by decide), if_neg (by decide)] at e
  exact (some_pair e).2.symm
/-- two passes of the same road and of its mirror -/
theorem pr_hours {n p1 : Int} {G F : GS} {A B : Int → Int} (hG : St G A) (hF : St F B) (hM : Mi n A B) (hp : 1 ≤ p1 ∧ p1 ≤ 200) (h1 : A 1 + p1 ≤ 10000) : ∃ (S : Int → Int → Int) (c len : Int) (T : Int → Int) (G' H' : GS), (0 ≤ c ∧ c ≤ 4) ∧ f_X7_pass G p1 = some (G', (0, H' 10 0 2 - A 2)) ∧ IC G' (H' 10 0) (psh A S c) (pc c) len T ∧ IP (H' 10 0) (psh A S c) (pc c) len T ∧ JP A (H' 10 0) ∧ H' 10 0 1 = A 1 + p1 ∧ hrsN p1.toNat (mw A) = some H' ∧ (A 1 + p1 ≤ 600 → ∀ c, Bnd c A → Bnd (c + 31000 * p1) (H' 10 0)) := by
  have fG := St_F hG
  have fF := St_F hF
  have e1 : B 1 = A 1 := hM.1.2.2.1
  obtain ⟨S, c, len, T, i1, i3⟩ := hG
  obtain ⟨S2, c2, len2, T2, j1, j3⟩ := hF
  obtain ⟨G', H', x1, x2, x3, x4⟩ := v_pass i1 i3 (p1 := p1) hp h1
  obtain ⟨F', K', y1, y2, y3, y4⟩ := v_pass j1 j3 (p1 := p1) hp (by omega)
  obtain ⟨z1, z2, z3, z4, z5⟩ := mi_pass fG fF hM hp x2 y2
  exact ⟨S, c, len, T, G', H', i3.2.2.1, x1, x3, x4, z2, z3, z4, z5⟩
theorem law_end {n : Int} {G F : GS} (h : Pr n 44 G F) : bxr (f_X7_value G 3) (fun r153 => bnd (f_X7_hoursToAll G) (fun G157 r155 => bxw (f_X7_pass G157 5) (fun G167 r165 => gd r165 (if r165 < 0 then bxr (f_X7_value G167 9) (fun _ => bxr (f_X7_value G167 10) (fun _ => some 0)) else bxr (f_X7_value G167 3) (fun r175 => gd r175 (gd (r153 + 5) (if r175 = (r153 + 5) then bxw (f_X7_undo G167) (fun G182 r180 => gd r180 (if r180 < 0 then bxr (f_X7_value G182 9) (fun _ => bxr (f_X7_value G182 10) (fun _ => some 0)) else bxr (f_X7_value G182 3) (fun r190 => gd r190 (gd r153 (if r190 = r153 then bnd (f_X7_hoursToAll G182) (fun G197 r195 => gd r195 (gd r155 (if r195 = r155 then bxr (f_X7_value G197 9) (fun r201 => bxr (f_X7_value G197 10) (fun r203 => if r155 < 1 then some 1 else if 200 < r155 then some 1 else bxw (f_X7_pass G197 r155) (fun G210 r208 => gd r208 (gd (r201 + r203) (if r208 = (r201 + r203) then bnd (f_X7_hoursToAll G210) (fun _ r214 => gd r214 (if r214 = 0 then some 1 else some 0)) else some 0))))) else bxr (f_X7_value G197 9) (fun _ => bxr (f_X7_value G197 10) (fun _ => some 0))))) else bxr (f_X7_value G182 9) (fun _ => bxr (f_X7_value G182 10) (fun _ => some 0))))))) else bxr (f_X7_value G167 9) (fun _ => bxr (f_X7_value G167 10) (fun _ => some 0)))))))))  = some (1 : Int) := by
  obtain ⟨A, B, hG, hF, hM, hJ, h1, hB⟩ := h
  have hWh := (St_R hG).2.1
  unfold WfH at hWh
  obtain ⟨G1, r, x1, hG1, x3, H1, x4⟩ := v_hoursToAll hG
  obtain ⟨F1, r1, k1, hF1, k3, K1, k4⟩ := v_hoursToAll hF
  obtain ⟨S, c, len, T, G2, Ha, hc, y1, y2, y3, y4, y5, -, y6⟩ := pr_hours hG1 hF1 hM (p1 := 5) (by decide) (by omega)
  have bH := (y6 (by omega) _ hB).1
  have bA := hB.1
  have hmo := y4.2.2.2.2.2
  obtain ⟨G3, u1, hG3, u2⟩ := v_undo y2 y3 hc
  have hpc : pc c ≤ 4 := by
    unfold pc
    split <;> omega
  obtain ⟨G4, r2, w1, hG4, -, H2, w4⟩ := v_hoursToAll hG3
  have er : r2 = r := (some_pair (w4.symm.trans x4)).2
  rw [er] at w1
  have v2 := (v_now ⟨_, _, _, _, y2, y3⟩).1
  obtain ⟨v4a, v4b, v4c⟩ := v_now hG4
  rw [(v_now hG).1, bxr_some, x1, bnd_some, y1, bxw_some, gd_t ⟨by omega, by omega⟩, if_neg (by omega), v2, bxr_some, y5, gd_t ⟨by omega, by omega⟩, gd_t ⟨by omega, by omega⟩, if_pos rfl, u1, bxw_some, gd_t ⟨by omega, by omega⟩, if_neg (by omega), (v_now hG3).1, bxr_some, gd_t ⟨by omega, by omega⟩, gd_t ⟨by omega, by omega⟩, if_pos rfl, w1, bnd_some, gd_t ⟨by omega, by omega⟩, gd_t ⟨by omega, by omega⟩, if_pos rfl, v4b, bxr_some, v4c, bxr_some]
  by_cases c1 : r < 1
  · rw [if_pos c1]
  rw [if_neg c1]
  by_cases c2 : 200 < r
  · rw [if_pos c2]
  rw [if_neg c2]
  obtain ⟨S', c', len', T', G5, Hb, -, z1, z2, z3, z4, -, z6, -⟩ := pr_hours hG4 hF hM (p1 := r) ⟨by omega, by omega⟩ (by omega)
  obtain ⟨-, q2⟩ := mi_toAll (St_F hG) (St_F hF) hM x4 k4
  obtain ⟨q3, q4⟩ := q2 (by omega)
  have eH : Hb = H1 := Option.some.inj (z6.symm.trans q3)
  subst eH
  have hG5 : St G5 (Hb 10 0) := ⟨_, _, _, _, z2, z3⟩
  have hW5 := (St_R hG5).2
  have hu := s_un (St_R hG).2
  have hu5 := s_un hW5
  have hz : cnt (pLy (Hb 10 0)) (Hb 10 0 8).toNat + cnt (pWi (Hb 10 0)) (Hb 10 0 8).toNat = 0 := by
    unfold allIn at q4
    by_cases z : cnt (pLy (Hb 10 0)) (Hb 10 0 8).toNat + cnt (pWi (Hb 10 0)) (Hb 10 0 8).toNat = 0
    · exact z
    · rw [if_neg z] at q4
      exact absurd q4 (by decide)
  have hq := z4.2.1
  unfold Qv at hq
  have ea : Hb 10 0 2 - A 2 = cnt (pLy A) (A 8).toNat + cnt (pWi A) (A 8).toNat := by omega
  have cy := cnt_le (pLy A) (A 8).toNat
  have cw := cnt_le (pWi A) (A 8).toNat
  obtain ⟨G6, r5, g1, -, -, H6, g4⟩ := v_hoursToAll hG5
  have e5 : r5 = 0 := all_now hW5 q4 g4
  rw [z1, bxw_some, ea, gd_t ⟨by omega, by omega⟩, gd_t ⟨by omega, by omega⟩, if_pos rfl, g1, bnd_some, e5, gd_t (by decide), if_pos rfl]
theorem main_true (L : Nat) (xs : Nat → Int32) : f_L_law (cv L xs) gI gI = some 1 := by
  have hg : gFuel = 3000 := rfl
  obtain ⟨r2, e2, p0, p1⟩ := u_up (cv L xs 0) (n := 7) (by decide)
  obtain ⟨n, en⟩ : ∃ n : Int, n = 2 + r2 := ⟨_, rfl⟩
  have hn : 2 ≤ n ∧ n ≤ 8 := by omega
  obtain ⟨A, S, s1, s2⟩ := st_gI
  obtain ⟨d, hd⟩ : ∃ d : Nat, (0 : Int) + d = n - 1 := ⟨(n - 1).toNat, by omega⟩
  obtain ⟨G1, F1, x1, x2, x3, x4, x5⟩ := law35 (sc := cv L xs) hn d 0 gI gI hd (by decide) s1 s2 s1 s2
  have hM : 1 ≤ n - 1 ∧ n - 1 ≤ 7 := by omega
  obtain ⟨G2, y1, y2⟩ := v_parse hM x2 x3
  obtain ⟨F2, w1, w2⟩ := v_parse hM x4 x5
  have e1 : n - 1 + 1 = n := by omega
  obtain ⟨m1, m2, m3, m4⟩ := mi_nw hM
  rw [e1] at y1 w1 m1
  have hP : Pr n 1 G2 F2 := ⟨_, _, y2, w2, m1, m2, by omega, Bnd_up m4 (by decide)⟩
  obtain ⟨G3, F3, z1, z2⟩ := law128 (sc := cv L xs) (cv_in L xs) hn 43 1 G2 F2 (by decide) (by decide) hP
  have h := law_end z2
  unfold f_L_law
  rw [ga_t (by decide), e2, bn1_some, ← en, x1 gFuel _ (by omega), gd_t (by decide), if_neg (by decide), y1, bnd_some, gd_t ⟨by omega, by omega⟩, gd_t ⟨by omega, by omega⟩, if_pos rfl, w1, bnd_some, gd_t ⟨by omega, by omega⟩, if_pos rfl, z1 gFuel _ (by omega)]
  have g1 : ∀ k : Option Int, gd 1 k = k := fun k => gd_t (by decide)
  have g2 : ∀ a b : Option Int, (if (1 : Int) = 0 then a else b) = b := fun a b => if_neg (by decide)
  simp only [g1, g2]
  exact h

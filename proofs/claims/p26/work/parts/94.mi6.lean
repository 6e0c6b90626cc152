/-! WHAT A ROAD'S CALLS ANSWER AND DO, told of the array that the road holds -/
def St (G : GS) (A : Int → Int) : Prop := ∃ (S : Int → Int → Int) (c len : Int) (T : Int → Int), IC G A S c len T ∧ IP A S c len T
theorem St_R {G : GS} {A : Int → Int} (h : St G A) : Rd G 0 A ∧ Wf 10000 A := by
  obtain ⟨S, c, len, T, i1, i3⟩ := h
  exact ⟨i1.1, i3.1⟩
theorem St_F {G : GS} {A : Int → Int} (h : St G A) : Fine 10000 A := ⟨(St_R h).2, G, (St_R h).1⟩
theorem v_value {G : GS} {A : Int → Int} (h : St G A) {w : Int} (hw : 0 ≤ w ∧ w ≤ 10) : f_X7_value G w = some (0, vaV A w) := by
  obtain ⟨hR, hW⟩ := St_R h
  unfold f_X7_value
  rw [c_rng ⟨by omega, by omega⟩ (by decide) (by decide), bn1_some, if_pos hw, if_pos rfl, c_vaV hR hW hw, bn1_some]
theorem v_stage {G : GS} {A : Int → Int} (h : St G A) {s w : Int} (h0 : 0 ≤ s) (h1 : s < A 0 - 1) (hw : 0 ≤ w ∧ w ≤ 5) : f_X7_stage G s w = some (0, stV A s w) := by
  obtain ⟨hR, hW⟩ := St_R h
  have hWh := hW.1
  unfold WfH at hWh
  have r4 : G 3 0 4 = A 0 := hR.1.1
  unfold f_X7_stage
  rw [r4, c_num ⟨by omega, by omega⟩ ⟨by omega, by omega⟩, bn1_some, if_pos (And.intro h0 h1), if_pos rfl, c_rng ⟨by omega, by omega⟩ (by decide) (by decide), bn1_some, if_pos hw, if_pos rfl, c_stV hR hW h0 h1 hw, bn1_some]
theorem v_inn {G : GS} {A : Int → Int} (h : St G A) {s w : Int} (h0 : 0 ≤ s) (h1 : s < A 0) (hw : 0 ≤ w ∧ w ≤ 6) : f_X7_inn G s w = some (0, inV A s w) := by
  obtain ⟨hR, hW⟩ := St_R h
  have hWh := hW.1
  unfold WfH at hWh
  have r4 : G 3 0 4 = A 0 := hR.1.1
  unfold f_X7_inn
  rw [r4, c_num ⟨by omega, by omega⟩ ⟨by omega, by omega⟩, bn1_some, if_pos (And.intro h0 h1), if_pos rfl, c_rng ⟨by omega, by omega⟩ (by decide) (by decide), bn1_some, if_pos hw, if_pos rfl, c_inV hR hW h0 h1 hw, bn1_some]
theorem v_team {G : GS} {A : Int → Int} (h : St G A) {s w : Int} (h0 : 0 ≤ s) (h1 : s < A 7) (hw : 0 ≤ w ∧ w ≤ 9) : f_X7_team G s w = some (0, A (54 + 11 * s + w)) := by
  obtain ⟨hR, hW⟩ := St_R h
  have hWh := hW.1
  unfold WfH at hWh
  have r4 : G 3 0 5 = A 7 := hR.1.2.1
  unfold f_X7_team
  rw [r4, c_num ⟨by omega, by omega⟩ ⟨by omega, by omega⟩, bn1_some, if_pos (And.intro h0 h1), if_pos rfl, c_rng ⟨by omega, by omega⟩ (by decide) (by decide), bn1_some, if_pos hw, if_pos rfl, ga_t ⟨by omega, by omega⟩, c_teV hR hW h0 h1 hw, bn1_some]
theorem v_letter {G : GS} {A : Int → Int} (h : St G A) {s w : Int} (h0 : 0 ≤ s) (h1 : s < A 8) (hw : 0 ≤ w ∧ w ≤ 7) : f_X7_letter G s w = some (0, A (164 + 8 * s + w)) := by
  obtain ⟨hR, hW⟩ := St_R h
  have hWh := hW.1
  unfold WfH at hWh
  have r4 : G 3 0 6 = A 8 := hR.1.2.2.1
  unfold f_X7_letter
  rw [r4, c_num ⟨by omega, by omega⟩ ⟨by omega, by omega⟩, bn1_some, if_pos (And.intro h0 h1), if_pos rfl, c_rng ⟨by omega, by omega⟩ (by decide) (by decide), bn1_some, if_pos hw, if_pos rfl, ga_t ⟨by omega, by omega⟩, c_leV hR hW h0 h1 hw, bn1_some]
theorem v_why {G : GS} {A : Int → Int} (h : St G A) {s : Int} (h0 : 0 ≤ s) (h1 : s < A 8) : f_X7_why G s = some (0, wn A s) := by
  obtain ⟨hR, hW⟩ := St_R h
  have hWh := hW.1
  unfold WfH at hWh
  have r4 : G 3 0 6 = A 8 := hR.1.2.2.1
  unfold f_X7_why
  rw [r4, c_num ⟨by omega, by omega⟩ ⟨by omega, by omega⟩, bn1_some, if_pos (And.intro h0 h1), if_pos rfl, c_why hR hW h0 h1, bn1_some]
def efH (A : Int → Int) (t : Int) : Int := sm (fun s => ef A s (up (A (54 + 11 * t + 2)) (A (54 + 11 * t + 0)))) (lo (A (54 + 11 * t + 2)) (A (54 + 11 * t + 0))) (hi (A (54 + 11 * t + 2)) (A (54 + 11 * t + 0)) - lo (A (54 + 11 * t + 2)) (A (54 + 11 * t + 0))).toNat
theorem v_effortHome {G : GS} {A : Int → Int} (h : St G A) {p1 : Int} (h0 : 0 ≤ p1) (h1 : p1 < A 7) : f_X7_effortHome G p1 = some (0, efH A p1) := by
  obtain ⟨hR, hW⟩ := St_R h
  have hWh := hW.1
  unfold WfH at hWh
  have r4 : G 3 0 5 = A 7 := hR.1.2.1
  have hT := hR.2.2.2.1 p1 h0 h1
  have wT := hW.2.2.2.1 p1 h0 h1
  unfold RdT at hT
  unfold WfT at wT
  obtain ⟨t0, t1, t2, -⟩ := hT
  unfold efH
  obtain ⟨a, ha⟩ : ∃ a, a = A (54 + 11 * p1 + 2) := ⟨_, rfl⟩
  obtain ⟨b, hb⟩ : ∃ b, b = A (54 + 11 * p1 + 0) := ⟨_, rfl⟩
  rw [← ha] at t2 wT ⊢
  rw [← hb] at t0 wT ⊢
  obtain ⟨w0, -, w2, -⟩ := wT
  have hlo : 0 ≤ lo a b ∧ lo a b ≤ hi a b ∧ hi a b < A 0 := by
    rcases lohi a b with ⟨q1, q2, q3⟩ | ⟨q1, q2, q3⟩
    · rw [q2, q3]; omega
    · rw [q2, q3]; omega
  have K : f_X3_effortBetween G 0 a b = some (sm (fun s => ef A s (up a b)) (lo a b) (hi a b - lo a b).toNat) := by
    unfold f_X3_effortBetween
    rw [gd_t ⟨by omega, by omega⟩, gd_t ⟨by omega, by omega⟩]
    refine c_sum (f := fun s => ef A s (up a b)) (fun n x i k => f_X3_effortBetween_L16 G 0 a b n (hi a b) x i (fun _ y z => k y z)) (hi a b) (fun n x i k z1 z2 => ?_) (fun n x k => ?_) (lo a b) (by omega) (by omega) (fun y _ => some y)
    · have rS := hR.2.1 i z1 (by omega)
      have wS := hW.2.1 i z1 (by omega)
      have e1 := c_eff (u := 1) rS wS (Or.inr rfl)
      have e0 := c_eff (u := 0) rS wS (Or.inl rfl)
      rw [f_X3_effortBetween_L16, gd_t ⟨by omega, by omega⟩, gd_t ⟨by omega, by omega⟩, if_pos z2, ga_t ⟨by omega, by omega⟩, gd_t ⟨by omega, by omega⟩, gd_t ⟨by omega, by omega⟩, e1, e0, bn1_some, bn1_some]
      unfold up
      by_cases c : a < b
      · rw [if_pos c, if_pos c]
      · rw [if_neg c, if_neg c]
    · rw [f_X3_effortBetween_L16, gd_t ⟨by omega, by omega⟩, gd_t ⟨by omega, by omega⟩, if_neg (by omega)]
  unfold f_X7_effortHome
  rw [r4, c_num ⟨by omega, by omega⟩ ⟨by omega, by omega⟩, bn1_some, if_pos (And.intro h0 h1), if_pos rfl, ga_t ⟨by omega, by omega⟩, t2, t0, K, bn1_some]
/-- the mean, and it is a number -/
theorem v_mean {G : GS} {A : Int → Int} (h : St G A) : ∃ d, f_X7_meanTiredness G = some d ∧ FP.dcmp d d = some .eq ∧ ∀ {F : GS} {B : Int → Int}, St F B → B 7 = A 7 → (∀ t, 0 ≤ t → t < A 7 → B (54 + 11 * t + 1) = A (54 + 11 * t + 1)) → f_X7_meanTiredness F = some d := by
  have hWh := (St_R h).2.1
  unfold WfH at hWh
  obtain ⟨n, hn⟩ : ∃ n : Nat, (n : Int) = A 7 := ⟨(A 7).toNat, by omega⟩
  have hg : gFuel = 3000 := rfl
  have cls : ∀ {F : GS} {B : Int → Int}, St F B → B 7 = A 7 → (∀ t, 0 ≤ t → t < A 7 → B (54 + 11 * t + 1) = A (54 + 11 * t + 1)) → ∀ k, f_X7_meanTiredness_L16 F gFuel 0 0 k = k (sm (ti A) 0 n) (n : Int) := by
    intro F B hF e7 eT
    obtain ⟨hR, hW⟩ := St_R hF
    have r5 : F 3 0 5 = B 7 := hR.1.2.1
    have main : ∀ (d i : Nat), i + d = n → ∀ q k, d < q → f_X7_meanTiredness_L16 F q (sm (ti A) 0 i) (i : Int) k = k (sm (ti A) 0 n) (n : Int) := by
      intro d
      induction d with
      | zero =>
        intro i hi q k hq
        obtain ⟨q, rfl⟩ : ∃ z, q = z + 1 := ⟨q - 1, by omega⟩
        have e : i = n := by omega
        subst e
        rw [f_X7_meanTiredness_L16, gd_t ⟨by omega, by omega⟩, gd_t ⟨by omega, by omega⟩, if_neg (by omega)]
      | succ d ih =>
        intro i hi q k hq
        obtain ⟨q, rfl⟩ : ∃ z, q = z + 1 := ⟨q - 1, by omega⟩
        have hT := hR.2.2.2.1 (i : Int) (by omega) (by omega)
        unfold RdT at hT
        have ei : ((i + 1 : Nat) : Int) = (i : Int) + 1 := by omega
        have r := ih (i + 1) (by omega) q k (by omega)
        rw [ei, sm, Int.zero_add] at r
        rw [f_X7_meanTiredness_L16, gd_t ⟨by omega, by omega⟩, gd_t ⟨by omega, by omega⟩, if_pos (by omega), ga_t ⟨by omega, by omega⟩, hT.2.1, eT i (by omega) (by omega)]
        exact r
    exact fun k => main n 0 (by omega) gFuel k (by omega)
  by_cases c : A 7 = 0
  · have go : ∀ {F : GS} {B : Int → Int}, St F B → B 7 = A 7 → f_X7_meanTiredness F = some 0 := by
      intro F B hF e7
      have r5 : F 3 0 5 = B 7 := (St_R hF).1.1.2.1
      unfold f_X7_meanTiredness
      rw [r5, e7, gd_t ⟨by omega, by omega⟩, if_pos c]
    exact ⟨_, go h rfl, by decide +kernel, fun hF e7 _ => go hF e7⟩
  · have hd := fp_div (Int32.ofInt (sm (ti A) 0 n)) (n := A 7) (by omega)
    have go : ∀ {F : GS} {B : Int → Int}, St F B → B 7 = A 7 → (∀ t, 0 ≤ t → t < A 7 → B (54 + 11 * t + 1) = A (54 + 11 * t + 1)) → f_X7_meanTiredness F = some (FP.ddiv (FP.i2d (Int32.ofInt (sm (ti A) 0 n))) (FP.i2d (Int32.ofInt (A 7)))) := by
      intro F B hF e7 eT
      have r5 : F 3 0 5 = B 7 := (St_R hF).1.1.2.1
      unfold f_X7_meanTiredness
      rw [r5, e7, gd_t ⟨by omega, by omega⟩, if_neg c, cls hF e7 eT, gn_t hd]
    exact ⟨_, go h rfl (fun _ _ _ => rfl), Jvm.FP.Core.dcmp_self hd, fun hF e7 eT => go hF e7 eT⟩
/-! calls that save -/
theorem St_save {G : GS} {A A' : Int → Int} (h : St G A) (hW : Wf 10000 A') {o : Option (GS × (Int × Int))} {r : Int} (hC : ∀ G7, f_X0_save G 0 = some G7 → Rd G7 0 A → ∃ G9, o = some (G9, (0, r)) ∧ Rd G9 0 A' ∧ frC 0 G7 G9) : ∃ G9, o = some (G9, (0, r)) ∧ St G9 A' := by
  obtain ⟨S, c, len, T, i1, i3⟩ := h
  obtain ⟨G7, a1, a2, a3⟩ := c_save i1 i3
  obtain ⟨G9, b1, b2, b3⟩ := hC G7 a1 a2.1
  have hp := IP_save i3
  exact ⟨G9, b1, psh A S c, pc c, len, T, IC_A a2 hp b2 (fun k x f z _ _ _ _ => b3 k x f z), ⟨hW, hp.2⟩⟩
theorem v_setStage {G : GS} {A : Int → Int} (h : St G A) {p1 p2 p3 p4 : Int} (c1 : 0 ≤ p1 ∧ p1 < A 0 - 1) (c2 : 1 ≤ p2 ∧ p2 ≤ 9) (c3 : -5 ≤ p3 ∧ p3 ≤ 5) (h4 : p4 = 0 ∨ p4 = 1) : ∃ G9, f_X7_setStage G p1 p2 p3 p4 = some (G9, (0, A (9 + 3 * p1))) ∧ St G9 (put3 A (9 + 3 * p1) p2 p3 p4) := by
  obtain ⟨hR, hW⟩ := St_R h
  have hWh := hW.1
  unfold WfH at hWh
  have r4 : G 3 0 4 = A 0 := hR.1.1
  obtain ⟨-, hW'⟩ := keep_stage (G' := (gup (gup (gup G 5 (7 * 0 + p1) 0 p2) 5 (7 * 0 + p1) 1 p3) 5 (7 * 0 + p1) 2 p4)) (A' := put3 A (9 + 3 * p1) p2 p3 p4) hR hW c1.1 c1.2 c2 c3 h4 (fun k x f z => by rw [gup_n (by omega), gup_n (by omega), gup_n (by omega)]) (by rw [gup_f (by decide), gup_f (by decide), gup_s]) (by rw [gup_f (by decide), gup_s]) gup_s (fun f z => put3_n z) put3_0 put3_1 put3_2
  refine St_save h hW' (fun G7 s1 s2 => ?_)
  obtain ⟨G9, e9, f9, v0, v1, v2⟩ := c_set5 (G := G7) (o := 7 * 0 + p1) (p1 := p2) (p2 := p3) h4
  have rS := s2.2.1 p1 c1.1 c1.2
  unfold RdS at rS
  refine ⟨G9, ?_, (keep_stage s2 hW c1.1 c1.2 c2 c3 h4 f9 v0 v1 v2 (fun f z => put3_n z) put3_0 put3_1 put3_2).1, fun k x f z => f9 _ _ _ (by unfold ofR at z; omega)⟩
  unfold f_X7_setStage
  rw [r4, c_num ⟨by omega, by omega⟩ ⟨by omega, by omega⟩, bn1_some, if_pos c1, if_pos rfl, c_rng ⟨by omega, by omega⟩ (by decide) (by decide), bn1_some, if_pos c2, if_pos rfl, c_rng ⟨by omega, by omega⟩ (by decide) (by decide), bn1_some, if_pos c3, if_pos rfl, s1, bn1_some, ga_t ⟨by omega, by omega⟩, e9, bn1_some, rS.1]
theorem v_setInn {G : GS} {A : Int → Int} (h : St G A) {p1 p2 p3 p4 : Int} (c1 : 0 ≤ p1 ∧ p1 < A 0) (c2 : 0 ≤ p2 ∧ p2 ≤ 6) (c3 : 0 ≤ p3 ∧ p3 ≤ 999) (h4 : p4 = 0 ∨ p4 = 1) : ∃ G9, f_X7_setInn G p1 p2 p3 p4 = some (G9, (0, A (30 + 3 * p1 + 1))) ∧ St G9 (put3 A (30 + 3 * p1) p2 p3 p4) := by
  obtain ⟨hR, hW⟩ := St_R h
  have hWh := hW.1
  unfold WfH at hWh
  have r4 : G 3 0 4 = A 0 := hR.1.1
  obtain ⟨-, hW'⟩ := keep_inn (G' := (gup (gup (gup G 1 (8 * 0 + p1) 0 p2) 1 (8 * 0 + p1) 1 p3) 1 (8 * 0 + p1) 2 p4)) (A' := put3 A (30 + 3 * p1) p2 p3 p4) hR hW c1.1 c1.2 c2 c3 h4 (fun k x f z => by rw [gup_n (by omega), gup_n (by omega), gup_n (by omega)]) (by rw [gup_f (by decide), gup_f (by decide), gup_s]) (by rw [gup_f (by decide), gup_s]) gup_s (fun f z => put3_n z) put3_0 put3_1 put3_2
  refine St_save h hW' (fun G7 s1 s2 => ?_)
  obtain ⟨G9, e9, f9, v0, v1, v2⟩ := c_set1 (G := G7) (o := 8 * 0 + p1) (p1 := p2) (p2 := p3) h4
  have rS := s2.2.2.1 p1 c1.1 c1.2
  unfold RdN at rS
  refine ⟨G9, ?_, (keep_inn s2 hW c1.1 c1.2 c2 c3 h4 f9 v0 v1 v2 (fun f z => put3_n z) put3_0 put3_1 put3_2).1, fun k x f z => f9 _ _ _ (by unfold ofR at z; omega)⟩
  unfold f_X7_setInn
  rw [r4, c_num ⟨by omega, by omega⟩ ⟨by omega, by omega⟩, bn1_some, if_pos c1, if_pos rfl, c_rng ⟨by omega, by omega⟩ (by decide) (by decide), bn1_some, if_pos c2, if_pos rfl, c_rng ⟨by omega, by omega⟩ (by decide) (by decide), bn1_some, if_pos c3, if_pos rfl, s1, bn1_some, ga_t ⟨by omega, by omega⟩, e9, bn1_some, rS.2.1]
theorem v_addTeam {G : GS} {A : Int → Int} (h : St G A) {p1 p2 : Int} (c1 : 0 ≤ p1 ∧ p1 < A 0) (c2 : 0 ≤ p2 ∧ p2 ≤ 100) (c3 : A 7 < 10) : ∃ G9, f_X7_addTeam G p1 p2 = some (G9, (0, A 7)) ∧ St G9 (adA A (A 7) p1 p2) := by
  obtain ⟨hR, hW⟩ := St_R h
  have hWh := hW.1
  unfold WfH at hWh
  have r4 : G 3 0 4 = A 0 := hR.1.1
  have r5 : G 3 0 5 = A 7 := hR.1.2.1
  obtain ⟨t, ht⟩ : ∃ t, A 7 = t := ⟨_, rfl⟩
  rw [ht] at c3 hWh ⊢
  obtain ⟨a7, ar, a10⟩ := adA_r (A := A) (t := t) (p1 := p1) (p2 := p2) (by omega)
  obtain ⟨Gd, ed, fd, d5, dr⟩ := c_place (G := G) (o := 0) (t := t) (p1 := p1) (p2 := p2) (by omega) (by omega)
  obtain ⟨-, hW'⟩ := keep_add hR hW ht c3 c1 c2 fd d5 dr (fun f z1 z2 => adA_n z1 z2) a7 ar
  refine St_save h hW' (fun G7 s1 s2 => ?_)
  have r7 : G7 3 0 5 = A 7 := s2.1.2.1
  obtain ⟨G9, e9, f9, d5, dr⟩ := c_place (G := G7) (o := 0) (t := t) (p1 := p1) (p2 := p2) (by omega) (by omega)
  refine ⟨G9, ?_, (keep_add s2 hW ht c3 c1 c2 f9 d5 dr (fun f z1 z2 => adA_n z1 z2) a7 ar).1, fun k x f z => by unfold ofR at z; exact f9 _ _ _ (by omega) (by omega)⟩
  unfold f_X7_addTeam
  rw [r4, c_num ⟨by omega, by omega⟩ ⟨by omega, by omega⟩, bn1_some, if_pos c1, if_pos rfl, c_rng ⟨by omega, by omega⟩ (by decide) (by decide), bn1_some, if_pos c2, if_pos rfl, r5, c_room ⟨by omega, by omega⟩ (by decide), bn1_some, if_pos (show A 7 < 10 by omega), if_pos rfl, s1, bn1_some, e9, bnd_some]
theorem v_give {G : GS} {A : Int → Int} (h : St G A) {p1 p2 p3 : Int} (c1 : 0 ≤ p1 ∧ p1 < A 0) (c2 : 0 ≤ p2 ∧ p2 < A 0) (c4 : ¬ p1 = p2) (c3 : A 8 < 12) (h3 : p3 = 0 ∨ p3 = 1) : ∃ G9, f_X7_give G p1 p2 p3 = some (G9, (0, A 8)) ∧ St G9 (giA A (A 8) p1 p2 p3) := by
  obtain ⟨hR, hW⟩ := St_R h
  have hWh := hW.1
  unfold WfH at hWh
  have r4 : G 3 0 4 = A 0 := hR.1.1
  have r5 : G 3 0 6 = A 8 := hR.1.2.2.1
  obtain ⟨l, hl⟩ : ∃ l, A 8 = l := ⟨_, rfl⟩
  rw [hl] at c3 hWh ⊢
  obtain ⟨a8, ar⟩ := giA_r (A := A) (l := l) (p1 := p1) (p2 := p2) (p3 := p3) (by omega)
  have hour : ∀ K : GS, Rd K 0 A → K 3 0 7 = A 1 := fun K h => h.1.2.2.2.1
  obtain ⟨Gd, ed, fd, d5, dr⟩ := c_letter (G := G) (o := 0) (l := l) (p1 := p1) (p2 := p2) (by omega) (by omega) h3
  rw [hour G hR] at dr
  obtain ⟨-, hW'⟩ := keep_give hR hW hl c3 c1 c2 c4 h3 fd d5 dr (fun f z1 z2 => giA_n z1 z2) a8 ar
  refine St_save h hW' (fun G7 s1 s2 => ?_)
  have r7 : G7 3 0 6 = A 8 := s2.1.2.2.1
  obtain ⟨G9, e9, f9, d5, dr⟩ := c_letter (G := G7) (o := 0) (l := l) (p1 := p1) (p2 := p2) (by omega) (by omega) h3
  rw [hour G7 s2] at dr
  refine ⟨G9, ?_, (keep_give s2 hW hl c3 c1 c2 c4 h3 f9 d5 dr (fun f z1 z2 => giA_n z1 z2) a8 ar).1, fun k x f z => by unfold ofR at z; exact f9 _ _ _ (by omega) (by omega)⟩
  unfold f_X7_give
  rw [r4, c_num ⟨by omega, by omega⟩ ⟨by omega, by omega⟩, bn1_some, if_pos c1, if_pos rfl, c_num ⟨by omega, by omega⟩ ⟨by omega, by omega⟩, bn1_some, if_pos c2, if_pos rfl, gd_t ⟨by omega, by omega⟩, gd_t ⟨by omega, by omega⟩, if_neg c4, r5, c_room ⟨by omega, by omega⟩ (by decide), bn1_some, if_pos (show A 8 < 12 by omega), if_pos rfl, s1, bn1_some, e9, bnd_some]
/-! hours -/
/-- a model world that holds the array alone -/
def mw (A : Int → Int) : GS := fun k x f => if k = 10 ∧ x = 0 then A f else 0
theorem mw_A (A : Int → Int) : mw A 10 0 = A := funext fun _ => if_pos ⟨rfl, rfl⟩
theorem v_hoursToAll {G : GS} {A : Int → Int} (h : St G A) : ∃ G' r, f_X7_hoursToAll G = some (G', r) ∧ St G' A ∧ (-1 ≤ r ∧ r ≤ 500) ∧ ∃ H', f_X8_toAll (mw A) = some (H', r) := by
  obtain ⟨hR, hW⟩ := St_R h
  obtain ⟨Ga, ea, ra, fa⟩ := c_copy (G := G) (o := 1) (p := 0) (by decide) hR hW
  obtain ⟨Gb, Hx, r, eb, em, fb, -, hr⟩ := h_all (o := 1) (m := 10000) (by decide) (G := Ga) (H := mw A) (by rw [mw_A]; exact ra) (by rw [mw_A]; exact hW)
  obtain ⟨S, c, len, T, i1, i3⟩ := h
  refine ⟨Gb, r, ?_, ⟨S, c, len, T, IC_fr i1 i3 (fun k x f z1 z2 z3 z4 z5 z6 => frC_tr fa fb k x f z1), i3⟩, hr, Hx, em⟩
  unfold f_X7_hoursToAll
  rw [ea, bn1_some, eb, bnd_some]
theorem v_pass {G : GS} {A : Int → Int} {S : Int → Int → Int} {c len : Int} {T : Int → Int} (i1 : IC G A S c len T) (i3 : IP A S c len T) {p1 : Int} (c1 : 1 ≤ p1 ∧ p1 ≤ 200) (c2 : A 1 + p1 ≤ 10000) : ∃ G' H', f_X7_pass G p1 = some (G', (0, H' 10 0 2 - A 2)) ∧ (∀ n x k, p1.toNat < n → f_X8_pass_L51 p1 n (mw A) x 0 k = k H' x p1) ∧ IC G' (H' 10 0) (psh A S c) (pc c) len T ∧ IP (H' 10 0) (psh A S c) (pc c) len T := by
  have hW := i3.1
  have hWh := hW.1
  unfold WfH at hWh
  have r7 : G 3 0 7 = A 1 := i1.1.1.2.2.2.1
  obtain ⟨G7, a1, a2, a3⟩ := c_save i1 i3
  have hp := IP_save i3
  have hg : gFuel = 3000 := rfl
  obtain ⟨G9, H9, b1, b2, b3, b4, b5, -⟩ := hours_both (p1 := p1) p1.toNat 0 (A 1) G7 (mw A) (by omega) (by omega) (by omega) c1.2 (by rw [mw_A]; exact a2.1) (by rw [mw_A]; exact Wf_m i3.1 (Int.le_refl _))
  have h78 : G7 3 0 8 = A 2 := a2.1.1.2.2.2.2.1
  have h98 : G9 3 0 8 = H9 10 0 2 := b3.1.2.2.2.2.1
  have hW' : Wf 10000 (H9 10 0) := Wf_m b4 (by have := b4.1; unfold WfH at this; omega)
  refine ⟨G9, H9, ?_, b2, IC_A a2 hp b3 (fun k x f z _ _ _ _ => b5 k x f z), ⟨hW', hp.2⟩⟩
  unfold f_X7_pass
  rw [c_rng ⟨by omega, by omega⟩ (by decide) (by decide), bn1_some, if_pos c1, if_pos rfl, r7, gd_t ⟨by omega, by omega⟩, if_neg (by omega), a1, bn1_some, b1 gFuel _ _ (by omega), h98, h78]
theorem v_undo {G : GS} {A A0 : Int → Int} {S : Int → Int → Int} {c len : Int} {T : Int → Int} (i1 : IC G A (psh A0 S c) (pc c) len T) (i3 : IP A (psh A0 S c) (pc c) len T) (hc : 0 ≤ c ∧ c ≤ 4) : ∃ G', f_X7_undo G = some (G', (0, pc c - 1)) ∧ St G' A0 ∧ 0 ≤ pc c - 1 := by
  have hp : 1 ≤ pc c ∧ pc c ≤ 4 := by
    unfold pc
    split <;> omega
  have r1 : G 0 0 1 = pc c := i1.2.1
  obtain ⟨G7, a1, a2, a3⟩ := c_restore i1 i3 (by omega)
  have e : psh A0 S c (pc c - 1) = A0 := by
    unfold psh pc
    by_cases z : c = 4
    · rw [if_pos z, if_pos z]
      rfl
    · rw [if_neg z, if_neg z, if_pos (by omega)]
  rw [e] at a2
  have w := i3.2.1 (pc c - 1) (by omega) (by omega)
  rw [e] at w
  refine ⟨G7, ?_, ⟨_, _, _, _, a2, ⟨w, fun i z1 z2 => i3.2.1 i z1 (by omega), ⟨by omega, by omega⟩, i3.2.2.2⟩⟩, by omega⟩
  unfold f_X7_undo
  rw [gd_t ⟨by omega, by omega⟩, if_neg (by omega), a1, bn1_some, a2.2.1]

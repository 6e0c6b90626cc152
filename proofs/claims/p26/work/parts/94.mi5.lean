/-! AN HOUR ON A ROAD AND ON ITS MIRROR -/
def Fine (m : Int) (A : Int → Int) : Prop := Wf m A ∧ ∃ G, Rd G 0 A
theorem Fine_len {m : Int} {A : Int → Int} (h : Fine m A) : ((A 7).toNat : Int) = A 7 ∧ (A 7).toNat ≤ 10 ∧ ((A 8).toNat : Int) = A 8 ∧ (A 8).toNat ≤ 12 := by
  have := h.1.1
  unfold WfH at this
  omega
theorem mi_loop {n m : Int} (M : Nat → GS → Int → (GS → Int → Option GS) → Option GS) (Pt : (Int → Int) → Int → (Int → Int) → Prop)
    (turn : ∀ (G H : GS) (i : Int), Rd G 0 (H 10 0) → Wf m (H 10 0) → 0 ≤ i → i < H 10 0 7 → ∃ G' H' : GS, (∀ n (k : GS → Int → Option GS), M (n + 1) H i k = M n H' (i + 1) k) ∧ Rd G' 0 (H' 10 0) ∧ Wf m (H' 10 0) ∧ frM H H' ∧ Pt (H 10 0) i (H' 10 0))
    (stop : ∀ (H : GS) (i : Int) (n : Nat) (k : GS → Int → Option GS), Wf m (H 10 0) → 0 ≤ i → i = H 10 0 7 → M (n + 1) H i k = k H i)
    (mir : ∀ (A B A' B' : Int → Int) (i : Int), Mi n A B → Wf m A → 0 ≤ i → i < A 7 → Pt A i A' → Pt B i B' → Mi n A' B')
    (jp : ∀ (A A' : Int → Int) (i : Int), Wf m A → 0 ≤ i → i < A 7 → Pt A i A' → JP A A' ∧ BJ 700 A A')
    {H K : GS} (hH : Fine m (H 10 0)) (hK : Fine m (K 10 0)) (hM : Mi n (H 10 0) (K 10 0)) : ∃ H' K' : GS, (∀ k : GS → Int → Option GS, M gFuel H 0 k = k H' (H 10 0 7)) ∧ (∀ k : GS → Int → Option GS, M gFuel K 0 k = k K' (H 10 0 7)) ∧ Fine m (H' 10 0) ∧ Fine m (K' 10 0) ∧ Mi n (H' 10 0) (K' 10 0) ∧ JP (H 10 0) (H' 10 0) ∧ BJ 7000 (H 10 0) (H' 10 0) ∧ frM H H' ∧ frM K K' := by
  have main : ∀ (d : Nat) (i : Int) (S T : GS), i + d = H 10 0 7 → 0 ≤ i → S 10 0 7 = H 10 0 7 → Fine m (S 10 0) → Fine m (T 10 0) → Mi n (S 10 0) (T 10 0) → ∃ H' K' : GS, (∀ n (k : GS → Int → Option GS), d < n → M n S i k = k H' (H 10 0 7)) ∧ (∀ n (k : GS → Int → Option GS), d < n → M n T i k = k K' (H 10 0 7)) ∧ Fine m (H' 10 0) ∧ Fine m (K' 10 0) ∧ Mi n (H' 10 0) (K' 10 0) ∧ JP (S 10 0) (H' 10 0) ∧ BJ (700 * d) (S 10 0) (H' 10 0) ∧ frM S H' ∧ frM T K' := by
    intro d
    induction d with
    | zero =>
      intro i S T h1 h0 h7 hS hT hM
      have e7 : T 10 0 7 = S 10 0 7 := hM.1.2.2.2.2.2.2.2.2.1
      have ei : i = H 10 0 7 := by omega
      refine ⟨S, T, fun q k hn => ?_, fun q k hn => ?_, hS, hT, hM, JP_rf, BJ_rf (by omega), frM_rf, frM_rf⟩
      · obtain ⟨q, rfl⟩ : ∃ z, q = z + 1 := ⟨q - 1, by omega⟩
        rw [stop S i q k hS.1 h0 (by omega), ei]
      · obtain ⟨q, rfl⟩ : ∃ z, q = z + 1 := ⟨q - 1, by omega⟩
        rw [stop T i q k hT.1 h0 (by omega), ei]
    | succ d ih =>
      intro i S T h1 h0 h7 hS hT hM
      have e7 : T 10 0 7 = S 10 0 7 := hM.1.2.2.2.2.2.2.2.2.1
      obtain ⟨wS, G, rS⟩ := hS
      obtain ⟨wT, F, rT⟩ := hT
      obtain ⟨G1, S1, x1, x2, x3, x4, x5⟩ := turn G S i rS wS h0 (by omega)
      obtain ⟨F1, T1, y1, y2, y3, y4, y5⟩ := turn F T i rT wT h0 (by omega)
      have j := jp _ _ i wS h0 (by omega) x5
      obtain ⟨H', K', z1, z2, z3, z4, z5, z6, z7, z8, z9⟩ := ih (i + 1) S1 T1 (by omega) (by omega) (by rw [j.1.2.2.2.1]; exact h7) ⟨x3, _, x2⟩ ⟨y3, _, y2⟩ (mir _ _ _ _ i hM wS h0 (by omega) x5 y5)
      refine ⟨H', K', fun q k hn => ?_, fun q k hn => ?_, z3, z4, z5, JP_tr j.1 z6, BJ_tr j.2 z7 (by omega), frM_tr x4 z8, frM_tr y4 z9⟩
      · obtain ⟨q, rfl⟩ : ∃ z, q = z + 1 := ⟨q - 1, by omega⟩
        rw [x1, z1 q k (by omega)]
      · obtain ⟨q, rfl⟩ : ∃ z, q = z + 1 := ⟨q - 1, by omega⟩
        rw [y1, z2 q k (by omega)]
  have hl := Fine_len hH
  obtain ⟨H', K', z1, z2, z3, z4, z5, z6, z7, z8⟩ := main (H 10 0 7).toNat 0 H K (by omega) (by decide) rfl hH hK hM
  exact ⟨H', K', fun k => z1 gFuel k (by unfold gFuel; omega), fun k => z2 gFuel k (by unfold gFuel; omega), z3, z4, z5, z6, BJ_le z7 (by omega), z8⟩
theorem mi_rests {n m : Int} {H K : GS} (hH : Fine m (H 10 0)) (hK : Fine m (K 10 0)) (hM : Mi n (H 10 0) (K 10 0)) : ∃ H' K' : GS, f_X8_rests H = some H' ∧ f_X8_rests K = some K' ∧ Fine m (H' 10 0) ∧ Fine m (K' 10 0) ∧ Mi n (H' 10 0) (K' 10 0) ∧ JP (H 10 0) (H' 10 0) ∧ BJ 7000 (H 10 0) (H' 10 0) ∧ frM H H' ∧ frM K K' := by
  obtain ⟨H', K', z1, z2, z3⟩ := mi_loop f_X8_rests_L2 RsP (fun G H i hR hW h0 h1 => by
    obtain ⟨G', H', -, e2, e3, e4, -, e6, e7⟩ := rest_turn hR hW h0 h1
    exact ⟨G', H', e2, e3, e4, fun k x f z _ => e6 k x f z, e7⟩) (fun H i q k hW h0 h1 => by
    have hWh := hW.1
    unfold WfH at hWh
    rw [f_X8_rests_L2, gd_t ⟨by omega, by omega⟩, gd_t ⟨by omega, by omega⟩, if_neg (by omega)]) (fun A B A' B' i a1 a2 a3 a4 a5 a6 => mi_rest a1 a2 a3 a4 a5 a6) (fun A A' i a1 a2 a3 a4 => jp_rest a1 a2 a3 a4) hH hK hM
  refine ⟨H', K', ?_, ?_, z3⟩
  · unfold f_X8_rests
    exact z1 _
  · unfold f_X8_rests
    exact z2 _
theorem mi_roads {n m : Int} (hm : m ≤ 20000) {H K : GS} (hH : Fine m (H 10 0)) (hK : Fine m (K 10 0)) (hM : Mi n (H 10 0) (K 10 0)) : ∃ H' K' : GS, f_X8_roads H = some H' ∧ f_X8_roads K = some K' ∧ Fine m (H' 10 0) ∧ Fine m (K' 10 0) ∧ Mi n (H' 10 0) (K' 10 0) ∧ JP (H 10 0) (H' 10 0) ∧ BJ 7000 (H 10 0) (H' 10 0) ∧ frM H H' ∧ frM K K' := by
  obtain ⟨H', K', z1, z2, z3⟩ := mi_loop f_X8_roads_L2 RdP (fun G H i hR hW h0 h1 => by
    obtain ⟨G', H', -, e2, e3, e4, -, e6, e7⟩ := road_turn hm hR hW h0 h1
    exact ⟨G', H', e2, e3, e4, e6, e7⟩) (fun H i q k hW h0 h1 => by
    have hWh := hW.1
    unfold WfH at hWh
    rw [f_X8_roads_L2, gd_t ⟨by omega, by omega⟩, gd_t ⟨by omega, by omega⟩, if_neg (by omega)]) (fun A B A' B' i a1 a2 a3 a4 a5 a6 => mi_road a1 a2 a3 a4 a5 a6) (fun A A' i a1 a2 a3 a4 => jp_road a1 a2 a3 a4) hH hK hM
  refine ⟨H', K', ?_, ?_, z3⟩
  · unfold f_X8_roads
    exact z1 _
  · unfold f_X8_roads
    exact z2 _
theorem mi_walks {n m : Int} {H K : GS} (hH : Fine m (H 10 0)) (hK : Fine m (K 10 0)) (hM : Mi n (H 10 0) (K 10 0)) : ∃ H' K' : GS, f_X8_walkBack H = some H' ∧ f_X8_walkBack K = some K' ∧ Fine m (H' 10 0) ∧ Fine m (K' 10 0) ∧ Mi n (H' 10 0) (K' 10 0) ∧ JP (H 10 0) (H' 10 0) ∧ BJ 7000 (H 10 0) (H' 10 0) ∧ frM H H' ∧ frM K K' := by
  obtain ⟨H', K', z1, z2, z3⟩ := mi_loop f_X8_walkBack_L2 (fun A t A' => (¬ wk A t → ∀ f, A' f = A f) ∧ (wk A t → BkP A t A')) (fun G H i hR hW h0 h1 => by
    obtain ⟨G', H', -, e2, e3, e4, -, e6, -, e8, -, -, e11⟩ := back_turn hR hW h0 h1
    exact ⟨G', H', e2, e3, e4, fun k x f z _ => e6 k x f z, fun z f => by rw [e8 z], e11⟩) (fun H i q k hW h0 h1 => by
    have hWh := hW.1
    unfold WfH at hWh
    rw [f_X8_walkBack_L2, gd_t ⟨by omega, by omega⟩, gd_t ⟨by omega, by omega⟩, if_neg (by omega)]) (fun A B A' B' i a1 a2 a3 a4 a5 a6 => mi_back a1 a2 a3 a4 a5.1 a6.1 a5.2 a6.2) (fun A A' i a1 a2 a3 a4 => jp_back a1 a2 a3 a4.1 a4.2) hH hK hM
  refine ⟨H', K', ?_, ?_, z3⟩
  · unfold f_X8_walkBack
    exact z1 _
  · unfold f_X8_walkBack
    exact z2 _
/-! letters go on -/
theorem send_turn {m l : Int} {H : GS} (hH : Fine m (H 10 0)) (l0 : 0 ≤ l) (l1 : l < H 10 0 8) : ∃ H', f_X8_goesOn H l = some H' ∧ Fine m (H' 10 0) ∧ (∀ k x f, ¬ (k = 10 ∧ x = 0) → H' k x f = H k x f) ∧ SdP (H 10 0) l (H' 10 0) := by
  obtain ⟨hW, G, hR⟩ := hH
  obtain ⟨G', H', -, e2, e3, e4, -, e6, -, -, -, e10, -⟩ := send_both hR hW l0 l1
  refine ⟨H', e2, ⟨e4, _, e3⟩, e6, fun z f => by rw [(e10 z).2], fun c a b s t ha hb hs ht => ?_⟩
  have wL := hW.2.2.2.2.1 l l0 l1
  unfold WfL at wL
  obtain ⟨z6, z5, zf, zt, ze⟩ := wn_zero c ha hb hs ht
  have hne : a ≠ H 10 0 (164 + 8 * l + 1) := by rw [ha]; exact wL.2.2.2.2.2.2.2 z6 z5
  have rt := ft_r (H 10 0) a (H 10 0 7).toNat
  rw [← ht] at rt
  obtain ⟨H2, eh, fh, b2, b3, b4, b10, m4, m5, m7⟩ := m_goes hW l0 l1 c ha hb hs ht hne zt ze
  have e : H' = H2 := Option.some.inj (e2.symm.trans eh)
  subst e
  exact ⟨by omega, by omega, by omega, fun f y1 y2 y3 y4 y5 y6 y7 => fh _ _ _ (by omega), b2, b3, b4, b10, m4, m5, m7⟩
theorem bt_congr {W W' A A' : Int → Int} : ∀ k : Nat, (∀ l : Int, 0 ≤ l → l < k → W' l = W l ∧ A' (164 + 8 * l + 2) = A (164 + 8 * l + 2)) → bt W' A' k = bt W A k := by
  intro k
  induction k with
  | zero => exact fun _ => rfl
  | succ k ih =>
    intro h
    have e := ih (fun l z0 z1 => h l z0 (by omega))
    have hk := h k (by omega) (by omega)
    have hr := bt_r W A k
    rw [bt, bt, e, hk.1, hk.2]
    by_cases c : bt W A k = -1
    · rw [c]
      by_cases d : W k = 0
      · rw [if_pos ⟨d, Or.inl rfl⟩, if_pos ⟨d, Or.inl rfl⟩]
      · rw [if_neg (fun z => d z.1), if_neg (fun z => d z.1)]
    · rw [(h (bt W A k) (by omega) (by omega)).2]
theorem mi_goes {n m : Int} (hm : m ≤ 20000) : ∀ (d : Nat) (H K : GS) (x : Int), Fine m (H 10 0) → Fine m (K 10 0) → Mi n (H 10 0) (K 10 0) → (∀ l : Int, 0 ≤ l → l < 12 → H 11 0 l = 0 ∨ H 11 0 l = 1) → (∀ l : Int, 0 ≤ l → l < 12 → K 11 0 l = H 11 0 l) → cnt (fun l => decide (H 11 0 l = 0)) (H 10 0 8).toNat ≤ d → x ≠ -1 → inR x → ∃ H' K' : GS, (∀ q (k : GS → Int → Option GS), d + 2 ≤ q → f_X8_goOn_L46 q H x k = k H' (-1)) ∧ (∀ q (k : GS → Int → Option GS), d + 2 ≤ q → f_X8_goOn_L46 q K x k = k K' (-1)) ∧ Fine m (H' 10 0) ∧ Fine m (K' 10 0) ∧ Mi n (H' 10 0) (K' 10 0) ∧ JP (H 10 0) (H' 10 0) ∧ BJ (700 * d) (H 10 0) (H' 10 0) ∧ frM H H' ∧ frM K K' := by
  intro d
  induction d with
  | zero =>
    intro H K x hH hK hM hA hE hd hx hxr
    have e8 : K 10 0 8 = H 10 0 8 := hM.1.2.2.2.2.2.2.2.2.2
    have hl := Fine_len hH
    have hz : ∀ l : Int, 0 ≤ l → l < ((H 10 0 8).toNat : Int) → H 11 0 l ≠ 0 := fun l z0 z1 => by
      have h0 := cnt_le (fun l => decide (H 11 0 l = 0)) (H 10 0 8).toNat
      have := (cnt_zero (p := fun l => decide (H 11 0 l = 0)) (n := (H 10 0 8).toNat)).mp (by omega) l z0 z1
      exact of_decide_eq_false this
    have hb : bt (H 11 0) (H 10 0) (H 10 0 8).toNat = -1 := bt_none _ hz
    have hb2 : bt (K 11 0) (K 10 0) (K 10 0 8).toNat = -1 := by
      rw [e8]
      exact bt_none _ (fun l z0 z1 => by rw [hE l z0 (by omega)]; exact hz l z0 z1)
    refine ⟨H, K, fun q k hq => ?_, fun q k hq => ?_, hH, hK, hM, JP_rf, BJ_rf (by omega), frM_rf, frM_rf⟩
    · obtain ⟨q, rfl⟩ : ∃ z, q = z + 2 := ⟨q - 2, by omega⟩
      rw [f_X8_goOn_L46, gd_t hxr, if_neg hx, m_pick hH.1 hm hA, hb, gd_t (by decide), if_pos rfl, f_X8_goOn_L46, gd_t (by decide), if_pos rfl]
    · obtain ⟨q, rfl⟩ : ∃ z, q = z + 2 := ⟨q - 2, by omega⟩
      rw [f_X8_goOn_L46, gd_t hxr, if_neg hx, m_pick hK.1 hm (fun l z0 z1 => by rw [hE l z0 z1]; exact hA l z0 z1), hb2, gd_t (by decide), if_pos rfl, f_X8_goOn_L46, gd_t (by decide), if_pos rfl]
  | succ d ih =>
    intro H K x hH hK hM hA hE hd hx hxr
    have e8 : K 10 0 8 = H 10 0 8 := hM.1.2.2.2.2.2.2.2.2.2
    have hl := Fine_len hH
    have hA2 : ∀ l : Int, 0 ≤ l → l < 12 → K 11 0 l = 0 ∨ K 11 0 l = 1 := fun l z0 z1 => by rw [hE l z0 z1]; exact hA l z0 z1
    have hbb : bt (K 11 0) (K 10 0) (K 10 0 8).toNat = bt (H 11 0) (H 10 0) (H 10 0 8).toNat := by
      rw [e8]
      refine bt_congr _ (fun l z0 z1 => ⟨hE l z0 (by omega), ?_⟩)
      have hL := hM.2.2.2.2 l z0 (by omega)
      unfold MiL at hL
      exact hL.2.2.1
    have hr := bt_r (H 11 0) (H 10 0) (H 10 0 8).toNat
    have p1 := fun (q : Nat) (k : GS → Int → Int → Option GS) => m_pick hH.1 hm hA k
    have p2 := fun (q : Nat) (k : GS → Int → Int → Option GS) => m_pick hK.1 hm hA2 k
    rw [hbb] at p2
    generalize bt (H 11 0) (H 10 0) (H 10 0 8).toNat = b at hr p1 p2
    rcases hr with hr | ⟨b0, b1, b2⟩
    · subst hr
      refine ⟨H, K, fun q k hq => ?_, fun q k hq => ?_, hH, hK, hM, JP_rf, BJ_rf (by omega), frM_rf, frM_rf⟩
      · obtain ⟨q, rfl⟩ : ∃ z, q = z + 2 := ⟨q - 2, by omega⟩
        rw [f_X8_goOn_L46, gd_t hxr, if_neg hx, p1 q, gd_t (by decide), if_pos rfl, f_X8_goOn_L46, gd_t (by decide), if_pos rfl]
      · obtain ⟨q, rfl⟩ : ∃ z, q = z + 2 := ⟨q - 2, by omega⟩
        rw [f_X8_goOn_L46, gd_t hxr, if_neg hx, p2 q, gd_t (by decide), if_pos rfl, f_X8_goOn_L46, gd_t (by decide), if_pos rfl]
    · obtain ⟨Ha, ea, fa, va⟩ := gup_ex H 11 0 b 1
      obtain ⟨Ka, ka, ga, wa⟩ := gup_ex K 11 0 b 1
      have ha10 : Ha 10 0 = H 10 0 := funext fun f => fa _ _ _ (by omega)
      have ka10 : Ka 10 0 = K 10 0 := funext fun f => ga _ _ _ (by omega)
      obtain ⟨Hb, x1, x2, x3, x4⟩ := send_turn (H := Ha) (l := b) (by rw [ha10]; exact hH) b0 (by rw [ha10]; omega)
      obtain ⟨Kb, y1, y2, y3, y4⟩ := send_turn (H := Ka) (l := b) (by rw [ka10]; exact hK) b0 (by rw [ka10, e8]; omega)
      rw [ha10] at x4
      rw [ka10] at y4
      have hM2 := mi_send hM hH.1 b0 (by omega) x4 y4
      have j := jp_send hH.1 b0 (by omega) x4
      have h11 : ∀ l, l ≠ b → Hb 11 0 l = H 11 0 l := fun l z => by rw [x3 _ _ _ (by omega), fa _ _ _ (by omega)]
      have h11b : Hb 11 0 b = 1 := by rw [x3 _ _ _ (by omega), va]
      have k11 : ∀ l, l ≠ b → Kb 11 0 l = K 11 0 l := fun l z => by rw [y3 _ _ _ (by omega), ga _ _ _ (by omega)]
      have k11b : Kb 11 0 b = 1 := by rw [y3 _ _ _ (by omega), wa]
      have hc : cnt (fun l => decide (Hb 11 0 l = 0)) (H 10 0 8).toNat = cnt (fun l => decide (H 11 0 l = 0)) (H 10 0 8).toNat - 1 := cnt_upd b0 b1 (by simpa using b2) (by simp [h11b]) (fun i z0 z1 z2 => by rw [h11 i z2])
      obtain ⟨H', K', z1, z2, z3, z4, z5, z6, z7, z8, z9⟩ := ih Hb Kb b x2 y2 hM2 (fun l z0 z1 => by
        by_cases c : l = b
        · rw [c, h11b]; exact Or.inr rfl
        · rw [h11 l c]; exact hA l z0 z1) (fun l z0 z1 => by
        by_cases c : l = b
        · rw [c, h11b, k11b]
        · rw [h11 l c, k11 l c]; exact hE l z0 z1) (by rw [j.1.2.2.2.2.1, hc]; omega) (by omega) ⟨by omega, by omega⟩
      refine ⟨H', K', fun q k hq => ?_, fun q k hq => ?_, z3, z4, z5, JP_tr j.1 z6, BJ_tr j.2 z7 (by omega), fun k x f y z => ?_, fun k x f y z => ?_⟩
      · obtain ⟨q, rfl⟩ : ∃ z, q = z + 1 := ⟨q - 1, by omega⟩
        rw [f_X8_goOn_L46, gd_t hxr, if_neg hx, p1 q, gd_t ⟨by omega, by omega⟩, if_neg (by omega), ga_t ⟨by omega, by omega⟩, ea, x1, bn1_some, z1 q k (by omega)]
      · obtain ⟨q, rfl⟩ : ∃ z, q = z + 1 := ⟨q - 1, by omega⟩
        rw [f_X8_goOn_L46, gd_t hxr, if_neg hx, p2 q, gd_t ⟨by omega, by omega⟩, if_neg (by omega), ga_t ⟨by omega, by omega⟩, ka, y1, bn1_some, z2 q k (by omega)]
      · rw [z8 k x f y z, x3 k x f y, fa k x f (by omega)]
      · rw [z9 k x f y z, y3 k x f y, ga k x f (by omega)]
theorem mi_goOn {n m : Int} (hm : m ≤ 20000) {H K : GS} (hH : Fine m (H 10 0)) (hK : Fine m (K 10 0)) (hM : Mi n (H 10 0) (K 10 0)) : ∃ H' K' : GS, f_X8_goOn H = some H' ∧ f_X8_goOn K = some K' ∧ Fine m (H' 10 0) ∧ Fine m (K' 10 0) ∧ Mi n (H' 10 0) (K' 10 0) ∧ JP (H 10 0) (H' 10 0) ∧ BJ 8400 (H 10 0) (H' 10 0) ∧ frM H H' ∧ frM K K' := by
  have e8 : K 10 0 8 = H 10 0 8 := hM.1.2.2.2.2.2.2.2.2.2
  have hl := Fine_len hH
  obtain ⟨H1, q1, q2, q3⟩ := m_marks hH.1
  obtain ⟨K1, r1, r2, r3⟩ := m_marks hK.1
  have h10 : H1 10 0 = H 10 0 := funext fun f => q2 10 0 f (by omega)
  have k10 : K1 10 0 = K 10 0 := funext fun f => r2 10 0 f (by omega)
  have hw : ∀ l : Int, 0 ≤ l → l < 12 → wAsk (K 10 0) l = wAsk (H 10 0) l := fun l z0 z1 => by
    unfold wAsk
    rw [e8]
    by_cases c : l < H 10 0 8
    · have hL := hM.2.2.2.2 l z0 c
      unfold MiL at hL
      rw [hL.2.2.2.2.2.1, hL.2.2.2.2.2.2.1]
    · rw [if_neg (fun z => c z.1), if_neg (fun z => c z.1)]
  have hc := cnt_le (fun l => decide (H1 11 0 l = 0)) (H1 10 0 8).toNat
  obtain ⟨H', K', z1, z2, z3, z4, z5, z6, z7, z8, z9⟩ := mi_goes (n := n) hm 12 H1 K1 0 (by rw [h10]; exact hH) (by rw [k10]; exact hK) (by rw [h10, k10]; exact hM) (fun l y0 y1 => by
    rw [q3 l y0 y1]
    unfold wAsk
    split
    · exact Or.inl rfl
    · exact Or.inr rfl) (fun l y0 y1 => by rw [r3 l y0 y1, q3 l y0 y1, hw l y0 y1]) (by rw [h10] at hc ⊢; omega) (by decide) (by decide)
  rw [h10] at z6 z7
  refine ⟨H', K', ?_, ?_, z3, z4, z5, z6, BJ_le z7 (by decide), fun k x f y z => (z8 k x f y z).trans (q2 k x f z), fun k x f y z => (z9 k x f y z).trans (r2 k x f z)⟩
  · unfold f_X8_goOn
    rw [q1, z1 gFuel _ (by decide)]
  · unfold f_X8_goOn
    rw [r1, z2 gFuel _ (by decide)]
theorem mi_hour {n m : Int} (hm : m ≤ 20000) {H K : GS} (hH : Fine m (H 10 0)) (hK : Fine m (K 10 0)) (hM : Mi n (H 10 0) (K 10 0)) : ∃ H' K' : GS, f_X8_hour H = some H' ∧ f_X8_hour K = some K' ∧ Fine (m + 1) (H' 10 0) ∧ Fine (m + 1) (K' 10 0) ∧ Mi n (H' 10 0) (K' 10 0) ∧ JP (H 10 0) (H' 10 0) ∧ H' 10 0 1 = H 10 0 1 + 1 ∧ (H 10 0 1 ≤ 600 → ∀ c, Bnd c (H 10 0) → Bnd (c + 31000) (H' 10 0)) ∧ frM H H' ∧ frM K K' := by
  obtain ⟨H1, K1, a1, a2, a3, a4, a5, a6, a7, a8, a9⟩ := mi_rests hH hK hM
  obtain ⟨H2, K2, b1, b2, b3, b4, b5, b6, b7, b8, b9⟩ := mi_roads hm a3 a4 a5
  obtain ⟨H3, K3, c1, c2, c3, c4, c5, c6, c7, c8, c9⟩ := mi_goOn hm b3 b4 b5
  obtain ⟨H4, K4, d1, d2, d3, d4, d5, d6, d7, d8, d9⟩ := mi_walks c3 c4 c5
  obtain ⟨H5, e1, e2, e3⟩ := gup_ex H4 10 0 1 (H4 10 0 1 + 1)
  obtain ⟨K5, g1, g2, g3⟩ := gup_ex K4 10 0 1 (K4 10 0 1 + 1)
  have hh : f_X8_hour H = some H5 := by
    unfold f_X8_hour
    rw [a1, bn1_some, b1, bn1_some, c1, bn1_some, d1, bn1_some, e1]
  have hk : f_X8_hour K = some K5 := by
    unfold f_X8_hour
    rw [a2, bn1_some, b2, bn1_some, c2, bn1_some, d2, bn1_some, g1]
  have fin : ∀ {X X' : GS}, Fine m (X 10 0) → f_X8_hour X = some X' → Fine (m + 1) (X' 10 0) := fun {X X'} hX hX2 => by
    obtain ⟨wX, G, rX⟩ := hX
    obtain ⟨G', X2, -, -, -, y2, y3, y4, -⟩ := h_hour hm rX wX
    have e : X' = X2 := Option.some.inj (hX2.symm.trans y2)
    subst e
    exact ⟨y4, G', y3⟩
  have hf : ∀ f, f ≠ 1 → H5 10 0 f = H4 10 0 f := fun f z => e2 _ _ _ (by omega)
  have kf : ∀ f, f ≠ 1 → K5 10 0 f = K4 10 0 f := fun f z => g2 _ _ _ (by omega)
  have j5 : JP (H4 10 0) (H5 10 0) := JP_same (hf _ (by decide)) (hf _ (by decide)) (hf _ (by decide)) (hf _ (by decide)) (hf _ (by decide)) (hf _ (by decide)) (hf _ (by decide)) (hf _ (by decide)) (fun t z0 z1 => hf _ (by omega)) (fun l z0 z1 => hf _ (by omega))
  refine ⟨H5, K5, hh, hk, fin hH hh, fin hK hk, ?_, JP_tr (JP_tr (JP_tr (JP_tr a6 b6) c6) d6) j5, by rw [e3, d7.1, c7.1, b7.1, a7.1], fun z c hB => ?_, frM_tr (frM_tr (frM_tr (frM_tr a8 b8) c8) d8) (fun k x f z _ => e2 k x f (by omega)), frM_tr (frM_tr (frM_tr (frM_tr a9 b9) c9) d9) (fun k x f z _ => g2 k x f (by omega))⟩
  rotate_left
  · have q := (BJ_tr (BJ_tr (BJ_tr a7 b7 rfl) c7 rfl) d7 rfl).2 z c hB
    obtain ⟨b2, b3, b4, b5, b6, hT, hL⟩ := Bnd_up q (show _ ≤ c + 31000 by omega)
    refine ⟨by rw [hf 2 (by decide)]; exact b2, by rw [hf 3 (by decide)]; exact b3, by rw [hf 4 (by decide)]; exact b4, by rw [hf 5 (by decide)]; exact b5, by rw [hf 6 (by decide)]; exact b6, fun t y0 y1 => ?_, fun l y0 y1 => ?_⟩
    · rw [hf 7 (by decide)] at y1
      rw [hf _ (by omega), hf _ (by omega), hf _ (by omega), hf _ (by omega)]
      exact hT t y0 y1
    · rw [hf 8 (by decide)] at y1
      rw [hf _ (by omega)]
      exact hL l y0 y1
  have z7 : H5 10 0 7 = H4 10 0 7 := hf 7 (by decide)
  have z8 : H5 10 0 8 = H4 10 0 8 := hf 8 (by decide)
  have w4 := d3.1.1
  unfold WfH at w4
  obtain ⟨h0, h1, k1, k2, k3, k4, k5, k6, k7, k8⟩ := d5.1
  exact Mi_fr d5 (by omega) ⟨by rw [hf 0 (by decide)]; exact h0, by rw [kf 0 (by decide)]; exact h1, by rw [e3, g3, k1], by rw [hf 2 (by decide), kf 2 (by decide)]; exact k2, by rw [hf 3 (by decide), kf 3 (by decide)]; exact k3, by rw [hf 4 (by decide), kf 4 (by decide)]; exact k4, by rw [hf 5 (by decide), kf 5 (by decide)]; exact k5, by rw [hf 6 (by decide), kf 6 (by decide)]; exact k6, by rw [hf 7 (by decide), kf 7 (by decide)]; exact k7, by rw [hf 8 (by decide), kf 8 (by decide)]; exact k8⟩ (fun f y0 y1 => hf f (by omega)) (fun f y0 y1 => kf f (by omega)) (fun i y0 y1 => MiN_fr (d5.2.2.1 i y0 y1) (fun f y2 y3 => hf f (by omega)) (fun f y2 y3 => kf f (by omega))) (fun u y0 y1 => MiT_fr (d5.2.2.2.1 u y0 (by omega)) (fun f y2 y3 => hf f (by omega)) (fun f y2 y3 => kf f (by omega))) (fun q y0 y1 => MiL_fr (d5.2.2.2.2 q y0 (by omega)) (fun f y2 y3 => hf f (by omega)) (fun f y2 y3 => kf f (by omega)))

/-! AN HOUR -/
def wAsk (A : Int → Int) (l : Int) : Int := if l < A 8 ∧ A (164 + 8 * l + 6) = -1 ∧ A (164 + 8 * l + 5) = -1 then 0 else 1
theorem m_marks {m : Int} {H : GS} (hW : Wf m (H 10 0)) : ∃ H', (∀ k : GS → Int → Option GS, f_X8_goOn_L2 gFuel H 0 k = k H' 12) ∧ (∀ k x f, ¬ k = 11 → H' k x f = H k x f) ∧ (∀ l : Int, 0 ≤ l → l < 12 → H' 11 0 l = wAsk (H 10 0) l) := by
  have hWh := hW.1
  unfold WfH at hWh
  have K := run1 (fun n (s : GS × Int) k => f_X8_goOn_L2 n s.1 s.2 (fun a b => k (a, b))) (fun d s => s.2 + d = 12 ∧ 0 ≤ s.2 ∧ (∀ k x f, ¬ k = 11 → s.1 k x f = H k x f) ∧ (∀ l : Int, 0 ≤ l → l < s.2 → s.1 11 0 l = wAsk (H 10 0) l)) (by
    rintro d ⟨H1, i⟩ ⟨h1, h0, hf, hA⟩
    dsimp only at h1 h0 hf hA ⊢
    have e10 : H1 10 0 = H 10 0 := funext fun f => hf 10 0 f (by omega)
    have fin : ∀ v : Int, v = wAsk (H 10 0) i → (∀ n k, f_X8_goOn_L2 (n + 1) H1 i k = f_X8_goOn_L2 n (gup H1 11 0 i v) (i + 1) k) → ∃ s' : GS × Int, (∀ n (k : GS × Int → Option GS), f_X8_goOn_L2 (n + 1) H1 i (fun a b => k (a, b)) = f_X8_goOn_L2 n s'.1 s'.2 (fun a b => k (a, b))) ∧ s'.2 + d = 12 ∧ 0 ≤ s'.2 ∧ (∀ k x f, ¬ k = 11 → s'.1 k x f = H k x f) ∧ (∀ l : Int, 0 ≤ l → l < s'.2 → s'.1 11 0 l = wAsk (H 10 0) l) := by
      intro v hv e
      obtain ⟨Ha, ea, fa, va⟩ := gup_ex H1 11 0 i v
      rw [ea] at e
      refine ⟨(Ha, i + 1), fun n k => e n _, by show i + 1 + (d : Int) = 12; omega, by show 0 ≤ i + 1; omega, fun k x f z => ?_, fun l z1 z2 => ?_⟩
      · show Ha k x f = _
        rw [fa _ _ _ (by omega)]
        exact hf k x f z
      · show Ha 11 0 l = _
        have z2 : l < i + 1 := z2
        by_cases hl : l = i
        · rw [hl, va]; exact hv
        · rw [fa _ _ _ (by omega)]
          exact hA l z1 (by omega)
    by_cases c : i < H1 10 0 8
    · have hl := m_lies (G := H1) (m := m) (by rw [e10]; exact hW) h0 c
      unfold pLy at hl
      by_cases c2 : H1 10 0 (164 + 8 * i + 6) = -1 ∧ H1 10 0 (164 + 8 * i + 5) = -1
      · refine fin 0 ?_ (fun n k => ?_)
        · unfold wAsk
          rw [← e10, if_pos ⟨c, c2⟩]
        · rw [if_pos (by simpa only [decide_eq_true_eq] using c2)] at hl
          rw [f_X8_goOn_L2, gd_t ⟨by omega, by omega⟩, if_pos (by omega), e10, gd_t ⟨by omega, by omega⟩, if_pos (by rw [← e10]; exact c), hl, bn1_some, gd_t (by decide), if_neg (by decide), ga_t ⟨by omega, by omega⟩]
      · refine fin 1 ?_ (fun n k => ?_)
        · unfold wAsk
          rw [← e10, if_neg (fun z => c2 z.2)]
        · rw [if_neg (by simpa only [decide_eq_true_eq] using c2)] at hl
          rw [f_X8_goOn_L2, gd_t ⟨by omega, by omega⟩, if_pos (by omega), e10, gd_t ⟨by omega, by omega⟩, if_pos (by rw [← e10]; exact c), hl, bn1_some, gd_t (by decide), if_pos rfl, ga_t ⟨by omega, by omega⟩]
    · refine fin 1 ?_ (fun n k => ?_)
      · unfold wAsk
        rw [← e10, if_neg (fun z => c z.1)]
      · rw [f_X8_goOn_L2, gd_t ⟨by omega, by omega⟩, if_pos (by omega), e10, gd_t ⟨by omega, by omega⟩, if_neg (by rw [← e10]; exact c), ga_t ⟨by omega, by omega⟩]) (by
    rintro ⟨H1, i⟩ ⟨h1, h0, hf, hA⟩ n k
    dsimp only at h1 h0 ⊢
    rw [f_X8_goOn_L2, gd_t ⟨by omega, by omega⟩, if_neg (by omega)]) 12 (H, 0) ⟨by omega, by omega, fun _ _ _ _ => rfl, fun l z1 z2 => by omega⟩
  obtain ⟨s', e1, h1, h0, hf, hA⟩ := K
  have e12 : s'.2 = 12 := by have : s'.2 + ((0 : Nat) : Int) = 12 := h1; omega
  refine ⟨s'.1, fun k => ?_, hf, fun l z1 z2 => hA l z1 (by omega)⟩
  have := e1 gFuel (fun s => k s.1 s.2) (by decide)
  rw [← e12]
  exact this
theorem h_goOn {o m : Int} (hm : m ≤ 20000) {G1 G2 : GS} (hR : Rd G1 o (G2 10 0)) (hW : Wf m (G2 10 0)) : ∃ Ga Gb H', f_X3_sendLetters G1 o 1 = some Ga ∧ f_X3_sendLetters Ga o 0 = some Gb ∧ f_X8_goOn G2 = some H' ∧ Rd Gb o (H' 10 0) ∧ Wf m (H' 10 0) ∧ frC o G1 Gb ∧ seen G2 H' ∧ ((H' 10 0 = G2 10 0 ∧ ∀ l, 0 ≤ l → l < G2 10 0 8 → wn (G2 10 0) l ≠ 0) ∨ ((∃ l, 0 ≤ l ∧ l < G2 10 0 8 ∧ wn (G2 10 0) l = 0) ∧ ∃ t, 0 ≤ t ∧ t < G2 10 0 7 ∧ 0 < H' 10 0 (54 + 11 * t + 3))) := by
  have hWh := hW.1
  unfold WfH at hWh
  obtain ⟨e1, e2⟩ := nL' hW
  obtain ⟨H1, q1, q2, q3⟩ := m_marks hW
  have e10 : H1 10 0 = G2 10 0 := funext fun f => q2 10 0 f (by omega)
  have I1 : gI2 o m 1 0 G2 G1 (G2 10 0 8).toNat G1 H1 := by
    refine ⟨by rw [e10]; exact hR, by rw [e10]; exact hW, by rw [e10]; omega, frC_rf, ⟨fun k x f _ z => q2 k x f z, fun f _ => q2 10 0 f (by omega), fun u _ _ z => by rw [q2 10 0 _ (by omega)]; exact z⟩, fun l z1 z2 => ?_, fun l z1 z2 => q2 10 0 _ (by omega), fun l z1 z2 z3 => ?_, fun l z1 z2 z3 => Or.inr ?_, Or.inl ⟨e10, fun l z1 z2 z3 => ?_⟩⟩
    · rw [q3 l z1 z2]
      unfold wAsk
      split <;> omega
    · unfold dn at z3
      dsimp only at z3
      omega
    · rw [q3 l z1 (by omega)] at z3
      unfold wAsk at z3
      rw [e10]
      intro z
      rw [if_pos ⟨by omega, z.1, z.2⟩] at z3
      omega
    · unfold dn at z3
      dsimp only at z3
      omega
  obtain ⟨Ga, Ha, xa, ja, a1, a2, a3, I2, a4, a5⟩ := go_phase hm (Or.inr rfl) (G2 10 0 8).toNat 0 G1 H1 0 I1 (by omega) (by omega) (by omega) (by decide)
  have I3 : gI2 o m 0 0 G2 G1 (G2 10 0 8).toNat Ga Ha := by
    obtain ⟨y1, y2, y3, y4, y5, y6, y7, y8, y9, y10⟩ := I2
    have hd : ∀ l : Int, 0 ≤ l → l < ((G2 10 0 8).toNat : Int) → (dn (fun l => G2 10 0 (164 + 8 * l + 2)) 0 0 l ↔ dn (fun l => G2 10 0 (164 + 8 * l + 2)) 1 ((G2 10 0 8).toNat : Int) l) := fun l z1 z2 => by
      unfold dn
      dsimp only
      omega
    refine ⟨y1, y2, y3, y4, y5, y6, y7, fun l z1 z2 z3 => y8 l z1 z2 ((hd l z1 z2).mp z3), fun l z1 z2 z3 => (y9 l z1 z2 z3).imp (hd l z1 z2).mpr id, ?_⟩
    rcases y10 with ⟨w1, w2⟩ | w
    · exact Or.inl ⟨w1, fun l z1 z2 z3 => w2 l z1 z2 ((hd l z1 z2).mp z3)⟩
    · exact Or.inr w
  obtain ⟨Gb, Hb, xb, jb, b1, b2, b3, I4, b4, b5⟩ := go_phase hm (Or.inl rfl) (G2 10 0 8).toNat 0 Ga Ha xa I3 (by omega) (by omega) a2 a3
  obtain ⟨y1, y2, y3, y4, y5, y6, y7, y8, y9, y10⟩ := I4
  have E01 : ∀ l : Int, 0 ≤ l → l < ((G2 10 0 8).toNat : Int) → G2 10 0 (164 + 8 * l + 2) = 0 ∨ G2 10 0 (164 + 8 * l + 2) = 1 := fun l z1 z2 => by
    have := hW.2.2.2.2.1 l z1 (by omega)
    unfold WfL at this
    exact this.2.1
  have alld : ∀ l : Int, 0 ≤ l → l < ((G2 10 0 8).toNat : Int) → dn (fun l => G2 10 0 (164 + 8 * l + 2)) 0 ((G2 10 0 8).toNat : Int) l := fun l z1 z2 => by
    have := E01 l z1 z2
    unfold dn
    dsimp only
    omega
  have hbt : bt (Hb 11 0) (Hb 10 0) (Hb 10 0 8).toNat = -1 := bt_none _ fun l z1 z2 => by
    have := y8 l z1 (by omega) (alld l z1 (by omega))
    omega
  refine ⟨Ga, Gb, Hb, ?_, ?_, ?_, y1, y2, y4, y5, ?_⟩
  · unfold f_X3_sendLetters
    exact a4 gFuel _ e2
  · unfold f_X3_sendLetters
    exact b4 gFuel _ e2
  · unfold f_X8_goOn
    have hg : gFuel = 3000 := rfl
    rw [q1, a5 gFuel _ (by omega), b5 (gFuel - ja) _ (by omega)]
    obtain ⟨n, hn⟩ : ∃ n, gFuel - ja - jb = n + 2 := ⟨gFuel - ja - jb - 2, by omega⟩
    rw [hn, f_X8_goOn_L46, gd_t b3, if_neg b2, m_pick y2 hm y6, hbt, gd_t (by decide), if_pos rfl, f_X8_goOn_L46, gd_t (by decide), if_pos rfl]
  · rcases y10 with ⟨w1, w2⟩ | w
    · exact Or.inl ⟨w1, fun l z1 z2 => w2 l z1 (by omega) (alld l z1 (by omega))⟩
    · obtain ⟨⟨l, l1, l2, l3⟩, w⟩ := w
      exact Or.inr ⟨⟨l, l1, by omega, l3⟩, w⟩

/-! LETTERS GO ON, ON BOTH SIDES -/
def dn (E : Int → Int) (ph i l : Int) : Prop := (E l = 1 ∧ (ph = 0 ∨ l < i)) ∨ (E l = 0 ∧ ph = 0 ∧ l < i)
/-- in the walk over the letters (ph = 1 the express ones, 0 the others), at the letter i -/
def gI2 (o m ph i : Int) (H0 G0 : GS) (N : Nat) (G H : GS) : Prop := Rd G o (H 10 0) ∧ Wf m (H 10 0) ∧ H 10 0 8 = N ∧ frC o G0 G ∧ seen H0 H ∧ (∀ l : Int, 0 ≤ l → l < 12 → H 11 0 l = 0 ∨ H 11 0 l = 1) ∧ (∀ l : Int, 0 ≤ l → l < (N : Int) → H 10 0 (164 + 8 * l + 2) = H0 10 0 (164 + 8 * l + 2)) ∧ (∀ l : Int, 0 ≤ l → l < (N : Int) → dn (fun l => H0 10 0 (164 + 8 * l + 2)) ph i l → H 11 0 l = 1) ∧ (∀ l : Int, 0 ≤ l → l < (N : Int) → H 11 0 l = 1 → dn (fun l => H0 10 0 (164 + 8 * l + 2)) ph i l ∨ ¬ (H 10 0 (164 + 8 * l + 6) = -1 ∧ H 10 0 (164 + 8 * l + 5) = -1)) ∧ ((H 10 0 = H0 10 0 ∧ ∀ l : Int, 0 ≤ l → l < (N : Int) → dn (fun l => H0 10 0 (164 + 8 * l + 2)) ph i l → wn (H0 10 0) l ≠ 0) ∨ ((∃ l : Int, 0 ≤ l ∧ l < (N : Int) ∧ wn (H0 10 0) l = 0) ∧ ∃ t, 0 ≤ t ∧ t < H0 10 0 7 ∧ 0 < H 10 0 (54 + 11 * t + 3)))
theorem go_phase {o m ph : Int} {H0 G0 : GS} {N : Nat} (hm : m ≤ 20000) (hph : ph = 0 ∨ ph = 1) : ∀ (d : Nat) (i : Int) (G H : GS) (x : Int), gI2 o m ph i H0 G0 N G H → i + d = N → 0 ≤ i → x ≠ -1 → inR x → ∃ (G' H' : GS) (x' : Int) (j : Nat), j ≤ d ∧ x' ≠ -1 ∧ inR x' ∧ gI2 o m ph N H0 G0 N G' H' ∧ (∀ n k, d < n → f_X3_sendLetters_L2 o ph n G i k = k G' N) ∧ (∀ n k, j ≤ n → f_X8_goOn_L46 n H x k = f_X8_goOn_L46 (n - j) H' x' k) := by
  intro d
  induction d with
  | zero =>
    intro i G H x hI hi h0 hx hxr
    have e : i = N := by omega
    subst e
    have hWh := hI.2.1.1
    unfold WfH at hWh
    have r6 : G 3 o 6 = H 10 0 8 := hI.1.1.2.2.1
    have h8 := hI.2.2.1
    refine ⟨G, H, x, 0, Nat.le_refl 0, hx, hxr, hI, fun n k hn => ?_, fun n k hn => rfl⟩
    obtain ⟨n, rfl⟩ : ∃ q, n = q + 1 := ⟨n - 1, by omega⟩
    rw [f_X3_sendLetters_L2, gd_t ⟨by omega, by omega⟩, gd_t ⟨by omega, by omega⟩, if_neg (by omega)]
  | succ d ih =>
    intro i G H x hI hi h0 hx hxr
    have hI' := hI
    obtain ⟨hR, hW, h8, f1, f2, hA, hE, hD, hL, hQ⟩ := hI
    have hWh := hW.1
    unfold WfH at hWh
    have r6 : G 3 o 6 = H 10 0 8 := hR.1.2.2.1
    have wL := hW.2.2.2.2.1 i h0 (by omega)
    have rL := hR.2.2.2.2.1 i h0 (by omega)
    unfold WfL at wL
    unfold RdL at rL
    have eI := hE i h0 (by omega)
    have cls : ∀ n k, f_X3_sendLetters_L2 o ph (n + 1) G i k = (if H0 10 0 (164 + 8 * i + 2) = ph then bn1 (f_X3_hindrance G o i) (fun r9 => gd r9 (if r9 = 0 then bn1 (f_X3_sendLetter G o i) (fun G13 => f_X3_sendLetters_L2 o ph n G13 (i + 1) k) else f_X3_sendLetters_L2 o ph n G (i + 1) k)) else f_X3_sendLetters_L2 o ph n G (i + 1) k) := fun n k => by
      rw [f_X3_sendLetters_L2, gd_t ⟨by omega, by omega⟩, gd_t ⟨by omega, by omega⟩, if_pos (by omega), ga_t ⟨by omega, by omega⟩, gd_t ⟨by omega, by omega⟩, gd_t ⟨by omega, by omega⟩, rL.2.2.1, eI]
    have step : ∀ (G' H' : GS) (x' : Int) (j : Nat), j ≤ 1 → x' ≠ -1 → inR x' → gI2 o m ph (i + 1) H0 G0 N G' H' → (∀ n k, f_X3_sendLetters_L2 o ph (n + 1) G i k = f_X3_sendLetters_L2 o ph n G' (i + 1) k) → (∀ n k, j ≤ n → f_X8_goOn_L46 n H x k = f_X8_goOn_L46 (n - j) H' x' k) → ∃ (G' H' : GS) (x' : Int) (j : Nat), j ≤ d + 1 ∧ x' ≠ -1 ∧ inR x' ∧ gI2 o m ph N H0 G0 N G' H' ∧ (∀ n k, d + 1 < n → f_X3_sendLetters_L2 o ph n G i k = k G' N) ∧ (∀ n k, j ≤ n → f_X8_goOn_L46 n H x k = f_X8_goOn_L46 (n - j) H' x' k) := by
      intro G' H' x' j hj hx' hxr' hI2 e1 e2
      obtain ⟨G3, H3, x3, j3, y1, y2, y3, y4, y5, y6⟩ := ih (i + 1) G' H' x' hI2 (by omega) (by omega) hx' hxr'
      refine ⟨G3, H3, x3, j + j3, by omega, y2, y3, y4, fun n k hn => ?_, fun n k hn => ?_⟩
      · obtain ⟨n, rfl⟩ : ∃ q, n = q + 1 := ⟨n - 1, by omega⟩
        rw [e1, y5 n k (by omega)]
      · rw [e2 n k (by omega), y6 (n - j) k (by omega), Nat.sub_sub]
    have E01 : ∀ l : Int, 0 ≤ l → l < (N : Int) → H0 10 0 (164 + 8 * l + 2) = 0 ∨ H0 10 0 (164 + 8 * l + 2) = 1 := fun l z1 z2 => by
      have := hW.2.2.2.2.1 l z1 (by omega)
      unfold WfL at this
      rw [← hE l z1 z2]
      exact this.2.1
    have eI01 := E01 i h0 (by omega)
    by_cases cE : H0 10 0 (164 + 8 * i + 2) = ph
    · have hdn : dn (fun l => H0 10 0 (164 + 8 * l + 2)) ph (i + 1) i := by
        rcases hph with h | h
        · exact Or.inr ⟨cE.trans h, h, by omega⟩
        · exact Or.inl ⟨cE.trans h, Or.inr (by omega)⟩
      by_cases cW : H 11 0 i = 0
      · -- the model asks it now
        obtain ⟨Ha, ea, fa, va⟩ := gup_ex H 11 0 i 1
        have e10 : Ha 10 0 = H 10 0 := funext fun f => fa 10 0 f (by omega)
        have hp : bt (H 11 0) (H 10 0) (H 10 0 8).toNat = i := by
          have hc : ((i.toNat : Nat) : Int) = i := by omega
          have := bt_is (W := H 11 0) (A := H 10 0) (c := i.toNat) (by rw [hc]; exact cW) (fun l z1 z2 z3 => ?_) (H 10 0 8).toNat (by omega) (fun l z1 z2 z3 => ?_)
          · rw [this, hc]
          · rw [hc, eI, hE l z1 (by omega)]
            have e0 := E01 l z1 (by omega)
            have nd : ¬ dn (fun l => H0 10 0 (164 + 8 * l + 2)) ph i l := fun q => by have := hD l z1 (by omega) q; omega
            unfold dn at nd
            dsimp only at nd
            omega
          · rw [hc, eI, hE l (by omega) (by omega)]
            have e0 := E01 l (by omega) (by omega)
            have nd : ¬ dn (fun l => H0 10 0 (164 + 8 * l + 2)) ph i l := fun q => by have := hD l (by omega) (by omega) q; omega
            unfold dn at nd
            dsimp only at nd
            omega
        obtain ⟨G', H', s1, s2, s3, s4, s5, s6, s7, s8, s9, s10, s11, s12⟩ := send_both (G := G) (H := Ha) (l := i) (o := o) (m := m) (by rw [e10]; exact hR) (by rw [e10]; exact hW) h0 (by rw [e10]; omega)
        rw [e10] at s7 s8 s9 s10 s11 s12
        have hW11 : ∀ l, l ≠ i → H' 11 0 l = H 11 0 l := fun l z => by rw [s6 11 0 l (by omega), fa 11 0 l (by omega)]
        have hW11i : H' 11 0 i = 1 := by rw [s6 11 0 i (by omega), va]
        refine step G' H' i 1 (Nat.le_refl 1) (by omega) ⟨by omega, by omega⟩ ⟨s3, s4, by rw [s7 8 (by omega)]; exact h8, frC_tr f1 s5, seen_tr f2 ⟨fun k y f z z2 => by rw [s6 k y f z, fa k y f (by omega)], s7, s12⟩, fun l z1 z2 => ?_, fun l z1 z2 => ?_, fun l z1 z2 z3 => ?_, fun l z1 z2 z3 => ?_, ?_⟩ (fun n k => ?_) (fun n k hn => ?_)
        · by_cases hl : l = i
          · rw [hl, hW11i]; exact Or.inr rfl
          · rw [hW11 l hl]; exact hA l z1 z2
        · by_cases hl : l = i
          · rw [hl, s9 2 (Or.inl rfl)]; exact eI
          · rw [s8 l 2 z1 (by omega) hl (by omega) (by omega)]; exact hE l z1 z2
        · by_cases hl : l = i
          · rw [hl]; exact hW11i
          · rw [hW11 l hl]
            refine hD l z1 z2 ?_
            unfold dn at z3 ⊢
            dsimp only at z3 ⊢
            omega
        · by_cases hl : l = i
          · rw [hl]
            exact Or.inl hdn
          · rw [hW11 l hl] at z3
            rw [s8 l 6 z1 (by omega) hl (by omega) (by omega), s8 l 5 z1 (by omega) hl (by omega) (by omega)]
            rcases hL l z1 z2 z3 with q | q
            · refine Or.inl ?_
              unfold dn at q ⊢
              dsimp only at q ⊢
              omega
            · exact Or.inr q
        · rcases hQ with ⟨q1, q2⟩ | ⟨q9, t, q1, q2, q3⟩
          · by_cases cw : wn (H 10 0) i = 0
            · obtain ⟨t, t1, t2, t3⟩ := s11 cw
              exact Or.inr ⟨⟨i, h0, by omega, by rw [← q1]; exact cw⟩, t, t1, by rw [← f2.2.1 7 (by omega)]; exact t2, t3⟩
            · refine Or.inl ⟨?_, fun l z1 z2 z3 => ?_⟩
              · rw [(s10 cw).2, e10]; exact q1
              · by_cases hl : l = i
                · rw [hl, ← q1]; exact cw
                · refine q2 l z1 z2 ?_
                  unfold dn at z3 ⊢
                  dsimp only at z3 ⊢
                  omega
          · have q0 : H0 10 0 7 ≤ 10 := by rw [← f2.2.1 7 (by omega)]; omega
            exact Or.inr ⟨q9, t, q1, q2, s12 t q1 (by omega) q3⟩
        · rw [cls, if_pos cE]
          exact s1 (fun G13 => f_X3_sendLetters_L2 o ph n G13 (i + 1) k)
        · obtain ⟨n, rfl⟩ : ∃ q, n = q + 1 := ⟨n - 1, by omega⟩
          rw [f_X8_goOn_L46, gd_t hxr, if_neg hx, m_pick hW hm hA, hp, gd_t ⟨by omega, by omega⟩, if_neg (by omega), ga_t ⟨by omega, by omega⟩, ea, s2, bn1_some]
          rfl
      · -- it does not lie at an inn
        have cW1 : H 11 0 i = 1 := by have := hA i h0 (by omega); omega
        have nl : ¬ (H 10 0 (164 + 8 * i + 6) = -1 ∧ H 10 0 (164 + 8 * i + 5) = -1) := by
          rcases hL i h0 (by omega) cW1 with q | q
          · unfold dn at q
            dsimp only at q
            omega
          · exact q
        have cw : wn (H 10 0) i ≠ 0 := fun z => by
          have := wn_zero z rfl rfl rfl rfl
          exact nl ⟨this.1, this.2.1⟩
        obtain ⟨G', H', s1, s2, s3, s4, s5, s6, s7, s8, s9, s10, s11, s12⟩ := send_both (G := G) (H := H) (l := i) hR hW h0 (by omega)
        have sG := (s10 cw).1
        refine step G H x 0 (by omega) hx hxr ⟨hR, hW, h8, f1, f2, hA, hE, fun l z1 z2 z3 => ?_, fun l z1 z2 z3 => ?_, ?_⟩ (fun n k => ?_) (fun n k hn => rfl)
        · by_cases hl : l = i
          · rw [hl]; exact cW1
          · refine hD l z1 z2 ?_
            unfold dn at z3 ⊢
            dsimp only at z3 ⊢
            omega
        · rcases hL l z1 z2 z3 with q | q
          · refine Or.inl ?_
            unfold dn at q ⊢
            dsimp only at q ⊢
            omega
          · exact Or.inr q
        · rcases hQ with ⟨q1, q2⟩ | q
          · refine Or.inl ⟨q1, fun l z1 z2 z3 => ?_⟩
            by_cases hl : l = i
            · rw [hl, ← q1]; exact cw
            · refine q2 l z1 z2 ?_
              unfold dn at z3 ⊢
              dsimp only at z3 ⊢
              omega
          · exact Or.inr q
        · rw [cls, if_pos cE, s1 (fun G13 => f_X3_sendLetters_L2 o ph n G13 (i + 1) k), sG]
    · refine step G H x 0 (by omega) hx hxr ⟨hR, hW, h8, f1, f2, hA, hE, fun l z1 z2 z3 => ?_, fun l z1 z2 z3 => ?_, ?_⟩ (fun n k => ?_) (fun n k hn => rfl)
      · refine hD l z1 z2 ?_
        unfold dn at z3 ⊢
        dsimp only at z3 ⊢
        by_cases hl : l = i
        · rw [hl] at z3 ⊢; omega
        · omega
      · rcases hL l z1 z2 z3 with q | q
        · refine Or.inl ?_
          unfold dn at q ⊢
          dsimp only at q ⊢
          omega
        · exact Or.inr q
      · rcases hQ with ⟨q1, q2⟩ | q
        · refine Or.inl ⟨q1, fun l z1 z2 z3 => q2 l z1 z2 ?_⟩
          unfold dn at z3 ⊢
          dsimp only at z3 ⊢
          by_cases hl : l = i
          · rw [hl] at z3 ⊢; omega
          · omega
        · exact Or.inr q
      · rw [cls, if_neg cE]

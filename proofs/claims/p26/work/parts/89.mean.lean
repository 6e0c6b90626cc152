/-! THE MEAN TIREDNESS -/
theorem fp_tails : Jvm.FP.Core.Fmt.tails Jvm.FP.Core.b64 = 4503599627370496 := by decide +kernel
theorem fp_exps : Jvm.FP.Core.Fmt.exps Jvm.FP.Core.b64 = 2048 := by decide +kernel
theorem fp_n {a : UInt64} (h : Jvm.FP.Core.val64 a ≠ .nan) : a &&& 0x7fffffffffffffff ≤ 0x7ff0000000000000 := by
  rw [UInt64.le_iff_toNat_le, UInt64.toNat_and, show (0x7fffffffffffffff : UInt64).toNat = 2 ^ 63 - 1 from rfl, Nat.and_two_pow_sub_one_eq_mod]
  show a.toNat % 2 ^ 63 ≤ 9218868437227405312
  refine Nat.le_of_not_lt fun q => h ?_
  show Jvm.FP.Core.decode Jvm.FP.Core.b64 a.toNat = .nan
  unfold Jvm.FP.Core.decode Jvm.FP.Core.fieldE Jvm.FP.Core.fieldT
  rw [fp_tails, fp_exps]
  have hlt := a.toNat_lt
  rw [if_pos (by omega), if_neg (by omega)]
theorem gn_t {α : Type} {a : UInt64} {k : Option α} (h : Jvm.FP.Core.val64 a ≠ .nan) : gn a k = k := if_pos (fp_n h)
theorem fp_int {i : Int} {a : UInt64} (h : Jvm.FP.Core.DInt i a) : Jvm.FP.Core.val64 a ≠ .nan := fun e => by
  unfold Jvm.FP.Core.DInt at h
  rw [e] at h
  exact h
theorem fp_i2d (x : Int32) : Jvm.FP.Core.val64 (FP.i2d x) ≠ .nan := fp_int (Jvm.FP.Core.i2d_int x)
theorem fp_di {z : Int} (h : inR z) : Jvm.FP.Core.DInt z (FP.i2d (Int32.ofInt z)) := by
  have := Jvm.FP.Core.i2d_int (Int32.ofInt z)
  rw [i_of_le h] at this
  exact this
theorem fp_add {a b : Int} (ha : 0 ≤ a ∧ a ≤ 100000) (hb : 0 ≤ b ∧ b ≤ 100000) : FP.dadd (FP.i2d (Int32.ofInt a)) (FP.i2d (Int32.ofInt b)) = FP.i2d (Int32.ofInt (a + b)) := by
  by_cases c : a + b = 0
  · have e1 : a = 0 := by omega
    have e2 : b = 0 := by omega
    subst e1 e2
    decide +kernel
  · exact Jvm.FP.Core.dint_unique c (Jvm.FP.Core.dadd_int (fp_di ⟨by omega, by omega⟩) (fp_di ⟨by omega, by omega⟩) (Nat.le_trans (show (a + b).natAbs ≤ 200000 by omega) (by decide))) (fp_di ⟨by omega, by omega⟩)
theorem fp_round (f : Jvm.FP.Core.Fmt) (s : Bool) (num den : Nat) (e : Int) : Jvm.FP.Core.roundRatio f s num den e ≠ .nan := by
  unfold Jvm.FP.Core.roundRatio
  split
  · exact fun q => by cases q
  · unfold Jvm.FP.Core.roundAt Jvm.FP.Core.settle
    split
    all_goals
      unfold Jvm.FP.Core.bound
      split
      all_goals exact fun q => by cases q
theorem fp_div (x : Int32) {n : Int} (hn : 0 < n ∧ n ≤ 10) : Jvm.FP.Core.val64 (FP.ddiv (FP.i2d x) (FP.i2d (Int32.ofInt n))) ≠ .nan := by
  show Jvm.FP.Core.val64 (Jvm.FP.Core.ddiv (FP.i2d x) (FP.i2d (Int32.ofInt n))) ≠ .nan
  rw [Jvm.FP.Core.val64_ddiv]
  have h1 : Jvm.FP.Core.Whole x.toInt (Jvm.FP.Core.val64 (FP.i2d x)) := Jvm.FP.Core.i2d_int x
  have h2 : Jvm.FP.Core.Whole n (Jvm.FP.Core.val64 (FP.i2d (Int32.ofInt n))) := fp_di (z := n) ⟨by omega, by omega⟩
  generalize Jvm.FP.Core.val64 (FP.i2d x) = u at h1 ⊢
  generalize Jvm.FP.Core.val64 (FP.i2d (Int32.ofInt n)) = v at h2 ⊢
  cases u with
  | nan => exact h1.elim
  | inf s => exact h1.elim
  | fin s c q =>
    cases v with
    | nan => exact h2.elim
    | inf t => exact h2.elim
    | fin t d r =>
      have hd : d ≠ 0 := fun e => by
        subst e
        have h2 : Jvm.FP.Core.signed t (0 * 2 ^ r.toNat) = n * ((2 ^ (-r).toNat : Nat) : Int) := h2
        rw [Nat.zero_mul] at h2
        have h3 : Jvm.FP.Core.signed t 0 = 0 := by
          unfold Jvm.FP.Core.signed
          split <;> rfl
        rw [h3] at h2
        have h4 : 0 < n * ((2 ^ (-r).toNat : Nat) : Int) := Int.mul_pos hn.1 (by exact_mod_cast Nat.two_pow_pos _)
        omega
      show (if d = 0 then (if c = 0 then Jvm.FP.Core.Datum.nan else .inf (s != t)) else Jvm.FP.Core.roundRatio Jvm.FP.Core.b64 (s != t) c d (q - r)) ≠ .nan
      rw [if_neg hd]
      exact fp_round _ _ _ _ _
def ti (A : Int → Int) (t : Int) : Int := A (54 + 11 * t + 1)
theorem sm_ti {m : Int} {A : Int → Int} (hW : Wf m A) : ∀ n : Nat, (n : Int) ≤ A 7 → 0 ≤ sm (ti A) 0 n ∧ sm (ti A) 0 n ≤ 100 * n := by
  intro n
  induction n with
  | zero => intro _; rw [sm]; omega
  | succ n ih =>
    intro h
    have h1 := ih (by omega)
    have w := hW.2.2.2.1 (n : Int) (by omega) (by omega)
    unfold WfT at w
    rw [sm]
    unfold ti at h1 ⊢
    rw [Int.zero_add]
    omega
theorem op_meanTiredness {G : GS} (hI : Inv G) : ∃ G2, lwD (f_X7_meanTiredness G) (f_X8_meanTiredness G) = some G2 ∧ Inv G2 := by
  obtain ⟨hR, hW⟩ := Inv_road hI
  have hWh := hW.1
  unfold WfH at hWh
  have r5 : G 3 0 5 = G 10 0 7 := hR.1.2.1
  obtain ⟨Ga, ea, fa, va⟩ := gup_ex G 8 0 4 0
  have e0 : Ga 10 0 = G 10 0 := funext fun f => fa _ _ _ (by omega)
  have hI2 : Inv Ga := Inv_fr hI (fun k x f z1 z2 z3 z4 z5 z6 => fa _ _ _ (by omega))
  obtain ⟨n, hn⟩ : ∃ n : Nat, (n : Int) = G 10 0 7 := ⟨(G 10 0 7).toNat, by omega⟩
  have hg : gFuel = 3000 := rfl
  have cls : ∀ k, f_X7_meanTiredness_L16 G gFuel 0 0 k = k (sm (ti (G 10 0)) 0 n) (n : Int) := by
    have main : ∀ (d i : Nat), i + d = n → ∀ q k, d < q → f_X7_meanTiredness_L16 G q (sm (ti (G 10 0)) 0 i) (i : Int) k = k (sm (ti (G 10 0)) 0 n) (n : Int) := by
      intro d
      induction d with
      | zero =>
        intro i hi q k hq
        obtain ⟨q, rfl⟩ : ∃ z, q = z + 1 := ⟨q - 1, by omega⟩
        have e : i = n := by omega
        subst e
        rw [f_X7_meanTiredness_L16, gd_t ⟨by omega, by omega⟩, gd_t ⟨by omega, by omega⟩, if_neg (by omega)]
      | succ d ih =>
        intro i hi q k hq
        obtain ⟨q, rfl⟩ : ∃ z, q = z + 1 := ⟨q - 1, by omega⟩
        have hT := hR.2.2.2.1 (i : Int) (by omega) (by omega)
        unfold RdT at hT
        have ei : ((i + 1 : Nat) : Int) = (i : Int) + 1 := by omega
        have r := ih (i + 1) (by omega) q k (by omega)
        rw [ei, sm, Int.zero_add] at r
        rw [f_X7_meanTiredness_L16, gd_t ⟨by omega, by omega⟩, gd_t ⟨by omega, by omega⟩, if_pos (by omega), ga_t ⟨by omega, by omega⟩, hT.2.1]
        exact r
    exact fun k => main n 0 (by omega) gFuel k (by omega)
  have mod : ∀ k, f_X8_meanTiredness_L9 gFuel Ga 0 0 k = k Ga (FP.i2d (Int32.ofInt (sm (ti (G 10 0)) 0 n))) (n : Int) := by
    have main : ∀ (d i : Nat), i + d = n → ∀ q k, d < q → f_X8_meanTiredness_L9 q Ga (FP.i2d (Int32.ofInt (sm (ti (G 10 0)) 0 i))) (i : Int) k = k Ga (FP.i2d (Int32.ofInt (sm (ti (G 10 0)) 0 n))) (n : Int) := by
      intro d
      induction d with
      | zero =>
        intro i hi q k hq
        obtain ⟨q, rfl⟩ : ∃ z, q = z + 1 := ⟨q - 1, by omega⟩
        have e : i = n := by omega
        subst e
        rw [f_X8_meanTiredness_L9, e0, gd_t ⟨by omega, by omega⟩, gd_t ⟨by omega, by omega⟩, if_neg (by omega)]
      | succ d ih =>
        intro i hi q k hq
        obtain ⟨q, rfl⟩ : ∃ z, q = z + 1 := ⟨q - 1, by omega⟩
        have w := hW.2.2.2.1 (i : Int) (by omega) (by omega)
        unfold WfT at w
        have b := sm_ti hW i (by omega)
        have ei : ((i + 1 : Nat) : Int) = (i : Int) + 1 := by omega
        have r := ih (i + 1) (by omega) q k (by omega)
        have et : ti (G 10 0) (i : Int) = G 10 0 (54 + 11 * (i : Int) + 1) := rfl
        rw [ei, sm, Int.zero_add, et] at r
        rw [f_X8_meanTiredness_L9, e0, gd_t ⟨by omega, by omega⟩, gd_t ⟨by omega, by omega⟩, if_pos (by omega), m_of ⟨by omega, by omega⟩, bn1_some, e0, fp_add (by omega) (by omega), gn_t (fp_i2d _)]
        exact r
    have z0 : (0 : UInt64) = FP.i2d (Int32.ofInt (sm (ti (G 10 0)) 0 0)) := by
      rw [sm]
      decide +kernel
    intro k
    rw [z0]
    exact main n 0 (by omega) gFuel k (by omega)
  unfold lwD f_X7_meanTiredness f_X8_meanTiredness
  rw [ea, mod, e0, r5, gd_t ⟨by omega, by omega⟩, gd_t ⟨by omega, by omega⟩]
  by_cases c : G 10 0 7 = 0
  · refine ⟨Ga, ?_, hI2⟩
    rw [if_pos c, if_pos c, bn1_some, bnd_some, if_pos (by decide +kernel)]
  · refine ⟨Ga, ?_, hI2⟩
    have hd := fp_div (Int32.ofInt (sm (ti (G 10 0)) 0 n)) (n := G 10 0 7) (by omega)
    rw [if_neg c, if_neg c, cls, gn_t hd, gn_t hd, bn1_some]
    show (if FP.dcmp _ _ = some .eq then some Ga else none) = some Ga
    rw [if_pos (Jvm.FP.Core.dcmp_self hd)]

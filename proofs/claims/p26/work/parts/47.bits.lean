/-! MASKS AND SHIFTS -/
theorem i_mask1 (x : Int) : Int32.ofInt x &&& Int32.ofInt 1 = Int32.ofInt (x % 2) := by
  apply Int32.toBitVec_inj.mp
  rw [Int32.toBitVec_and, Int32.toBitVec_ofInt, Int32.toBitVec_ofInt, Int32.toBitVec_ofInt]
  apply BitVec.eq_of_toNat_eq
  rw [BitVec.toNat_and, BitVec.toNat_ofInt, BitVec.toNat_ofInt, BitVec.toNat_ofInt]
  have e : ((1 : Int) % ((2 ^ 32 : Nat) : Int)).toNat = 1 := by decide
  rw [e, Nat.and_one_is_mod]
  omega
theorem i_mask31 (x : Int) : Int32.ofInt x &&& Int32.ofInt 2147483647 = Int32.ofInt (x % 2147483648) := by
  apply Int32.toBitVec_inj.mp
  rw [Int32.toBitVec_and, Int32.toBitVec_ofInt, Int32.toBitVec_ofInt, Int32.toBitVec_ofInt]
  apply BitVec.eq_of_toNat_eq
  rw [BitVec.toNat_and, BitVec.toNat_ofInt, BitVec.toNat_ofInt, BitVec.toNat_ofInt]
  have e : ((2147483647 : Int) % ((2 ^ 32 : Nat) : Int)).toNat = 2 ^ 31 - 1 := by decide
  rw [e, Nat.and_two_pow_sub_one_eq_mod]
  omega
theorem i_shr {x : Int} (hx : inR x) {k : Nat} (hk : k < 32) : Int32.ofInt x >>> (Int32.ofInt (k : Int) &&& 31) = Int32.ofInt (x / ((2 ^ k : Nat) : Int)) := by
  have s : ∀ n : Nat, n < 32 → ((Int32.ofInt (n : Int) &&& 31).toBitVec.smod 32).toNat = n := by decide
  apply Int32.toBitVec_inj.mp
  rw [Int32.toBitVec_shiftRight, Int32.toBitVec_ofInt]
  apply BitVec.eq_of_toInt_eq
  rw [BitVec.sshiftRight', s k hk, BitVec.toInt_sshiftRight, Int.shiftRight_eq_div_pow]
  have e1 : (BitVec.ofInt 32 x).toInt = x := by
    have := i_of_le hx
    rw [Int32.toInt, Int32.toBitVec_ofInt] at this
    exact this
  have hp : (1 : Int) ≤ ((2 ^ k : Nat) : Int) := by
    have := Nat.one_le_two_pow (n := k)
    omega
  have e2 : inR (x / ((2 ^ k : Nat) : Int)) := by
    constructor
    · have := hx.1
      have h2 : -2147483648 ≤ x / ((2 ^ k : Nat) : Int) := by
        apply (Int.le_ediv_iff_mul_le (by omega)).mpr
        have : (-2147483648 : Int) * ((2 ^ k : Nat) : Int) ≤ -2147483648 * 1 := by omega
        omega
      exact h2
    · have := hx.2
      have h2 : x / ((2 ^ k : Nat) : Int) < 2147483648 := by
        apply (Int.ediv_lt_iff_lt_mul (by omega)).mpr
        have : (2147483648 : Int) * 1 ≤ 2147483648 * ((2 ^ k : Nat) : Int) := by omega
        omega
      omega
  rw [e1]
  have := i_of_le e2
  rw [Int32.toInt, Int32.toBitVec_ofInt] at this
  exact this.symm
def gde {α : Type} (a b : UInt64) (k : Option α) : Option α := if FP.dcmp a b = some .eq then k else none
theorem gde_s {α : Type} {a b : UInt64} {k : Option α} {r : α} (h : gde a b k = some r) : FP.dcmp a b = some .eq ∧ k = some r := by
  unfold gde at h
  split at h
  · exact ⟨by assumption, h⟩
  · cases h
def bn3 {β : Type} (m : Option (GS × (GS × Int))) (k : GS → GS → Int → Option β) : Option β := match m with
  | some (g, (f, r)) => k g f r
  | none => none
theorem bn3_s {β : Type} {m : Option (GS × (GS × Int))} {k : GS → GS → Int → Option β} {r : β} (h : bn3 m k = some r) : ∃ g f v, m = some (g, (f, v)) ∧ k g f v = some r := by
  unfold bn3 at h
  split at h
  · rename_i g f v
    exact ⟨g, f, v, rfl, h⟩
  · cases h
section GBITS
variable {p : Program} {l : Launch} {e : Env} {R : Room} {s : State} {m : MethodId} {args : Array Value} {below : List Frame} {meth : Method} {c : Code} {H : Heap} {locs : List Loc} {cells slots : Nat} {Q : State → Prop}
variable {pc : Nat} {ls : Array Slot} {rest : List Value} {own : String} {cc : ByteArray} {nL : Nat} {ret : Option FieldType} {E : gEnv} {G : GS}
theorem g_iand1 (C : gC p s m args meth c own cc nL ret E) {x : Int} (hd : decode cc pc = .ok (.iand, 1)) (kk : W p l e R s m args below meth c H locs cells slots Q (F0 m (pc + 1) ls (vI (x % 2) :: rest))) : W p l e R s m args below meth c H locs cells slots Q (F0 m pc ls (vI 1 :: vI x :: rest)) := lv_iand C.1 C.2.1 hd (by rw [i_mask1]; exact kk)
theorem g_iand31 (C : gC p s m args meth c own cc nL ret E) {x : Int} (hd : decode cc pc = .ok (.iand, 1)) (kk : W p l e R s m args below meth c H locs cells slots Q (F0 m (pc + 1) ls (vI (x % 2147483648) :: rest))) : W p l e R s m args below meth c H locs cells slots Q (F0 m pc ls (vI 2147483647 :: vI x :: rest)) := lv_iand C.1 C.2.1 hd (by rw [i_mask31]; exact kk)
theorem g_ishr (C : gC p s m args meth c own cc nL ret E) {x : Int} (hx : inR x) {k : Nat} (hk : k < 32) (hd : decode cc pc = .ok (.ishr, 1)) (kk : W p l e R s m args below meth c H locs cells slots Q (F0 m (pc + 1) ls (vI (x / ((2 ^ k : Nat) : Int)) :: rest))) : W p l e R s m args below meth c H locs cells slots Q (F0 m pc ls (vI (k : Int) :: vI x :: rest)) := lv_ishr C.1 C.2.1 hd (by rw [i_shr hx hk]; exact kk)
theorem g_ldc (C : gC p s m args meth c own cc nL ret E) {ix : Nat} {v : Int32} {z : Int} (hv : v = Int32.ofInt z) (w : Cond.constant own ix v ∈ gWords) (hd : decode cc pc = .ok (.ldc ix, 2)) (kk : W p l e R s m args below meth c H locs cells slots Q (F0 m (pc + 2) ls (vI z :: rest))) : W p l e R s m args below meth c H locs cells slots Q (F0 m pc ls rest) := by
  subst hv
  exact lv_ldc C.1 C.2.1 C.2.2.2.2.1 (C.2.2.2.2.2.1 _ w) hd kk
end GBITS
def f_L_up (v n : Int) : Option Int := gq n (some (v % 2147483648 % n))
set_option maxHeartbeats 4000000 in
theorem c_L_up (l : Launch) (E : gEnv) (G : GS) (v n rz : Int) (hf : f_L_up v n = some rz) : gMet l yL_up cL_up 2 (some .int) 0 0 0 0 [vI v, vI n] E G (gQi E G rz) := by
  refine g_met (by decide +kernel) (Nat.le_of_ble_eq_true rfl) ?_
  intro p e s m below meth c C H locs h ls hl
  have C : gC p s m _ meth c RL cL_up 2 (some .int) E := C
  have hl : lv_has ls 2 [(0, vI v), (1, vI n)] := hl
  unfold f_L_up at hf
  obtain ⟨h1, hf⟩ := gq_s hf
  refine g_iload_n C hl 0 rfl rfl (gdec kL_up 0 rfl) ?_
  refine g_ldc C (z := 2147483647) (by decide) wZ_L_8 (gdec kL_up 1 rfl) ?_
  refine g_iand31 C (gdec kL_up 2 rfl) ?_
  refine g_iload_n C hl 1 rfl rfl (gdec kL_up 3 rfl) ?_
  refine g_irem C (Int.emod_nonneg _ (by decide)) ⟨by omega, by omega⟩ h1.1 ⟨by omega, by omega⟩ (gdec kL_up 4 rfl) ?_
  exact g_iret C h (congrArg (Option.map (Prod.mk _)) hf) (gdec kL_up 5 rfl)
/-- the script, read past its end too -/
def cv (L : Nat) (xs : Nat → Int32) (k : Int) : Int := if k < L then (xs k.toNat).toInt else (Int32.ofInt (1116352408 * (k + 599))).toInt
theorem cv_in (L : Nat) (xs : Nat → Int32) (k : Int) : inR (cv L xs k) := by
  have h : ∀ z : Int32, inR z.toInt := fun z => by
    have h1 := Int32.le_toInt z
    have h2 := Int32.toInt_lt z
    exact ⟨by omega, by omega⟩
  unfold cv
  split
  · exact h _
  · exact h _
theorem cell_blind {b L : Nat} {xs : Nat → Int32} {As : List Value} {E : gEnv} {G : GS} : FrameBlind (va_Pc As (fun U => gW E G U ∧ va_X b L xs U U.heap ∧ b < U.heap.size)) := fun a U g mk q => ⟨q.1, ⟨q.2.1.1, q.2.1.2.next (U := U.calling g mk a) (State.WarmedH.refl U) (Nat.le_refl _) (fun _ _ _ => rfl)⟩, va_X.moved (u := U) (U := U.calling g mk a) (State.WarmedH.refl U).alike q.2.2.1, q.2.2.2⟩
set_option maxHeartbeats 4000000 in
theorem c_L_cell (l : Launch) (E : gEnv) (G : GS) (b L : Nat) (xs : Nat → Int32) (k : Int) (hk : 0 ≤ k ∧ k < 2147480000) (hL : L ≤ 260) (hbF : ¬ eF E b) : Met l yL_cell (.code yL_cell cL_cell 2 (some .int) :: gWords) (gRm 0 0 0 0) (va_Pc [.ref b, vI k] (fun U => gW E G U ∧ va_X b L xs U U.heap ∧ b < U.heap.size)) (gQi E G (cv L xs k)) 0 0 (eF E) := by
  refine Met.ofW (cc := cL_cell) (maxL := 2) (ret := some .int) (by decide +kernel) rfl ?_
  intro p e s m args below meth c s₁ B hml hv
  obtain ⟨rfl, hP, hX, hbs⟩ := hv
  have hts := atoms_spec B.pre
  rw [lg_entry_eq]
  have C : gC p s m (([.ref b, vI k] : List Value).toArray) meth c RL cL_cell 2 (some .int) E := ⟨B.exec, B.bytes, B.returns, hml, findClass_of_methodNamed B.named, fun w hw => hts w (List.mem_cons_of_mem _ hw), B.notSynchronized, hP.2⟩
  have h : gH E s G s.heap [] := ⟨hP.1, va_S.rf⟩
  have hl := lv_entry ([.ref b, vI k]) (n := 2) (Nat.le_of_ble_eq_true rfl)
  generalize (lg_sl ([.ref b, vI k]) ++ List.replicate (2 - (lg_sl ([.ref b, vI k])).length) Slot.unset).toArray = ls at hl ⊢
  have hl : lv_has ls 2 [(0, .ref b), (1, vI k)] := hl
  refine g_iload_n C hl 1 rfl rfl (gdec kL_cell 0 rfl) ?_
  refine g_aload_n C hl 0 rfl rfl (gdec kL_cell 1 rfl) ?_
  refine va_slen C.1 C.2.1 hX hbs hbF h.2 (gdec kL_cell 2 rfl) ?_
  have eL2 : Int32.ofNat L = Int32.ofInt (L : Int) := rfl
  rw [eL2]
  refine g_icmp_ge C (tgt := 12) ⟨by omega, by omega⟩ ⟨by omega, by omega⟩ (by decide) (gdec kL_cell 3 rfl) (fun q => ?_) (fun q => ?_)
  · refine g_aload_n C hl 0 rfl rfl (gdec kL_cell 4 rfl) ?_
    refine g_iload_n C hl 1 rfl rfl (gdec kL_cell 5 rfl) ?_
    refine va_sld C.1 C.2.1 hX hbs hbF h.2 (i_in hk.1 (by omega) (by omega)) (gdec kL_cell 6 rfl) ?_
    refine g_goto C (tgt := 20) (by decide) (gdec kL_cell 7 rfl) ?_
    have e1 : (Int32.ofInt k).toNatClampNeg = k.toNat := i_clamp ⟨by omega, by omega⟩
    have e2 : xs (Int32.ofInt k).toNatClampNeg = Int32.ofInt (cv L xs k) := by
      unfold cv
      rw [if_pos q, e1, Int32.ofInt_toInt]
    rw [e2]
    exact g_iret C h rfl (gdec kL_cell 13 rfl)
  · refine g_ldc C (z := 1116352408) (by decide) wZ_L_7 (gdec kL_cell 8 rfl) ?_
    refine g_iload_n C hl 1 rfl rfl (gdec kL_cell 9 rfl) ?_
    refine g_sipush C (gdec kL_cell 10 rfl) rfl ?_
    refine g_iadd C (gdec kL_cell 11 rfl) ?_
    refine g_imul C (gdec kL_cell 12 rfl) ?_
    have e2 : vI (1116352408 * (k + 599)) = vI (cv L xs k) := by
      unfold cv
      rw [if_neg q]
      show Value.int _ = Value.int _
      rw [Int32.ofInt_toInt]
    rw [e2]
    exact g_iret C h rfl (gdec kL_cell 13 rfl)

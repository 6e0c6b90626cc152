/-! THE LAW: A TURN OF ITS LOOP -/
def lwV (E : gEnv) (b : Nat) (i : Int) : List (Nat × Value) := [(4, vI i), (3, .ref (eA E 13 0)), (2, .ref (eA E 8 0)), (1, .ref (eA E 7 0)), (0, .ref b)]
/-- a number of the script -/
def lw_w (xs : Nat → Int32) (i : Int) (k : Int) : Int := (xs (i + k).toNat).toInt
def nz (z : Int) : Int := if z = 0 then 0 else 1
def lwT (o : Option (GS × Int)) (mf : GS → Option (GS × Int)) : Option GS := bnd o (fun G1 k => bnd (mf G1) (fun G2 b => bn1 (f_X8_thrown G2) (fun t => gd t (gd k (if t = k then (if k = 0 then gj (G2 13 0 0) (gj (bm b) (if G2 13 0 0 = bm b then some G2 else none)) else some G2) else none)))))
def lwU (o : Option (GS × Int)) (mf : GS → Option (GS × Int)) : Option GS := bnd o (fun G1 a => bnd (mf G1) (fun G2 b => gd a (gd b (if a = b then some G2 else none))))
def lwJ (o : Option (GS × Int)) (mf : GS → Option (GS × Int)) : Option GS := bnd o (fun G1 a => bnd (mf G1) (fun G2 b => if a = b then some G2 else none))
def lwD (o : Option UInt64) (mf : Option (GS × UInt64)) : Option GS := bn1 o (fun a => bnd mf (fun G2 b => if FP.dcmp a b = some .eq then some G2 else none))
theorem i_ofw (x : Int32) : Value.int x = vI x.toInt := congrArg Value.int (Int32.ofInt_toInt x).symm
theorem w_inR (x : Int32) : inR x.toInt := by
  have h1 := Int32.le_toInt x
  have h2 := Int32.toInt_lt x
  exact ⟨by omega, by omega⟩
/-- the script, read at every point -/
def lwX (b L : Nat) (xs : Nat → Int32) (s : State) (E : gEnv) : Prop := va_X b L xs s s.heap ∧ b < s.heap.size ∧ ¬ eF E b ∧ L ≤ 2560
section GLL
variable {p : Program} {l : Launch} {e : Env} {R : Room} {s : State} {m : MethodId} {args : Array Value} {below : List Frame} {meth : Method} {c : Code} {H : Heap} {locs : List Loc} {cells slots : Nat} {Q : State → Prop}
variable {pc : Nat} {ls : Array Slot} {rest st : List Value} {own : String} {cc : ByteArray} {nL : Nat} {ret : Option FieldType} {E : gEnv} {G G1 G2 : GS} {b L : Nat} {xs : Nat → Int32} {i : Int}
theorem g_scr0 (C : gC p s m args meth c own cc nL ret E) (X : lwX b L xs s E) (h : gH E s G H locs) (hi : 0 ≤ i ∧ i < L) (d4 : decode cc pc = .ok (.iaload, 1)) (kk : W p l e R s m args below meth c H locs cells slots Q (F0 m (pc + 1) ls (vI (lw_w xs i 0) :: rest))) : W p l e R s m args below meth c H locs cells slots Q (F0 m pc ls (vI i :: .ref b :: rest)) := by
  have hL := X.2.2.2
  have hr : inR i := ⟨by omega, by omega⟩
  refine va_sld C.1 C.2.1 X.1 X.2.1 X.2.2.1 h.2 (i_in hi.1 hi.2 (by omega)) d4 ?_
  rw [i_clamp hr, i_ofw]
  have e1 : i + 0 = i := Int.add_zero i
  unfold lw_w at kk
  rw [e1] at kk
  exact kk
theorem g_scr (C : gC p s m args meth c own cc nL ret E) (X : lwX b L xs s E) (h : gH E s G H locs) {lv : List (Nat × Value)} (hl : lv_has ls nL lv) {k : Int} (hk : 0 ≤ k) (hi : 0 ≤ i ∧ i + k < L) (j0 j4 : Nat) (h0 : lv[j0]? = some (0, .ref b)) (h4 : lv[j4]? = some (4, vI i)) (d0 : decode cc pc = .ok (.aload_n 0, 1)) (d1 : decode cc (pc + 1) = .ok (.iload 4, 2)) (d2 : decode cc (pc + 3) = .ok (.iconst k, 1)) (d3 : decode cc (pc + 4) = .ok (.iadd, 1)) (d4 : decode cc (pc + 5) = .ok (.iaload, 1)) (kk : W p l e R s m args below meth c H locs cells slots Q (F0 m (pc + 6) ls (vI (lw_w xs i k) :: rest))) : W p l e R s m args below meth c H locs cells slots Q (F0 m pc ls rest) := by
  refine g_aload_n C hl j0 h0 rfl d0 ?_
  refine g_iload C hl j4 h4 d1 ?_
  refine g_iconst C d2 ?_
  refine g_iadd C d3 ?_
  refine g_scr0 C X h (i := i + k) ⟨by omega, hi.2⟩ d4 ?_
  have e1 : lw_w xs (i + k) 0 = lw_w xs i k := by unfold lw_w; rw [Int.add_zero]
  rw [e1]
  exact kk
theorem g_nz (C : gC p s m args meth c own cc nL ret E) {x : Int} (hx : inR x) (d0 : decode cc pc = .ok (.ifCond .eq 7, 3)) (d1 : decode cc (pc + 3) = .ok (.iconst 1, 1)) (d2 : decode cc (pc + 4) = .ok (.goto 4, 3)) (d3 : decode cc (pc + 7) = .ok (.iconst 0, 1)) (kk : W p l e R s m args below meth c H locs cells slots Q (F0 m (pc + 8) ls (vI (nz x) :: rest))) : W p l e R s m args below meth c H locs cells slots Q (F0 m pc ls (vI x :: rest)) := by
  unfold nz at kk
  refine g_if_eq C (tgt := pc + 7) hx (by omega) d0 (fun q => ?_) (fun q => ?_)
  · refine g_iconst C d3 ?_
    rw [if_pos q] at kk
    exact kk
  · refine g_iconst C d1 ?_
    refine g_goto C (tgt := pc + 8) (by omega) d2 ?_
    rw [if_neg q] at kk
    exact kk
theorem lg_cmp_same (z : Int64) : lg_cmp z z = Int32.ofInt 0 := by
  unfold lg_cmp
  rw [if_neg (show ¬ z > z from fun h => by rw [GT.gt, Int64.lt_iff_toInt_lt] at h; omega)]
  simp
theorem g_lcmp_same (C : gC p s m args meth c own cc nL ret E) {x : Int} {off : Int} {tgt : Nat} (ht : ((pc + 1 : Nat) : Int) + off = (tgt : Int)) (hd : decode cc pc = .ok (.lcmp, 1)) (hd2 : decode cc (pc + 1) = .ok (.ifCond .eq off, 3)) (kt : W p l e R s m args below meth c H locs cells slots Q (F0 m tgt ls (rest))) : W p l e R s m args below meth c H locs cells slots Q (F0 m pc ls (vJ x :: vJ x :: rest)) := by
  refine W.lcmp C.1 C.2.1 hd ?_
  rw [lg_cmp_same]
  exact g_if_eq C (x := 0) (by decide) ht hd2 (fun _ => kt) (fun q => absurd rfl q)
/-- the comparing of what was thrown, and of the answers -/
theorem g_tail (C : gC p s m args meth c RL cc 9 ret E) (h : gH E s G H locs) (ho : gOk E 8 0) (ho2 : gOk E 13 0) {k z t : Int} (hl : lv_has ls 9 ((6, vI z) :: (5, vI k) :: lwV E b i)) (hR : 1 ≤ R.frames ∧ 20 ≤ R.locals) (hcs : cells ≤ R.cells ∧ slots ≤ R.slots) (ht : f_X8_thrown G = some t) (hf : gd t (gd k (if t = k then (if k = 0 then gj (G 13 0 0) (gj (bm z) (if G 13 0 0 = bm z then some G else none)) else some G) else none)) = some G2) {off : Int} {tgt : Nat} (htg : ((pc + 28 : Nat) : Int) + off = tgt)
    (d0 : decode cc pc = .ok (.aload_n 2, 1)) (d1 : decode cc (pc + 1) = .ok (.invokevirtual 78, 3)) (d2 : decode cc (pc + 4) = .ok (.iload 5, 2)) (d3 : decode cc (pc + 6) = .ok (.if_icmp .eq 5, 3)) (d4 : decode cc (pc + 11) = .ok (.iload 5, 2)) (d5 : decode cc (pc + 13) = .ok (.ifCond .ne 15, 3)) (d6 : decode cc (pc + 16) = .ok (.aload_n 3, 1)) (d7 : decode cc (pc + 17) = .ok (.iconst 0, 1)) (d8 : decode cc (pc + 18) = .ok (.laload, 1)) (d9 : decode cc (pc + 19) = .ok (.iload 6, 2)) (d10 : decode cc (pc + 21) = .ok (.i2l, 1)) (d11 : decode cc (pc + 22) = .ok (.lcmp, 1)) (d12 : decode cc (pc + 23) = .ok (.ifCond .eq 5, 3)) (d13 : decode cc (pc + 28) = .ok (.goto off, 3))
    (kk : ∀ (H : Heap) (locs : List Loc), gH E s G2 H locs → lv_has ls 9 (lwV E b i) → W p l e R s m args below meth c H locs cells slots Q (F0 m tgt ls [])) : W p l e R s m args below meth c H locs cells slots Q (F0 m pc ls []) := by
  obtain ⟨g1, hf⟩ := gd_s hf
  obtain ⟨g2, hf⟩ := gd_s hf
  by_cases e1 : t = k
  · rw [if_pos e1] at hf
    refine g_aload_n C hl 4 rfl rfl d0 ?_
    refine g_ci h (g_runV (rest := []) C h ho (by decide) rfl (c_X8_thrown l E _ ho _ ht) wM_L_78 wI_X8_thrown wS_X8_thrown wN_X8 wC_X8_thrown rfl ny_X8_thrown rfl ⟨hR.1, hR.2⟩ hl.1 rfl (Nat.le_of_ble_eq_true rfl) d1 ⟨hcs.1, hcs.2⟩) (fun H locs h => ?_)
    refine g_iload C hl 1 rfl d2 ?_
    refine g_icmp_eq C (tgt := pc + 11) g1 g2 (by omega) d3 (fun _ => ?_) (fun q => absurd e1 q)
    refine g_iload C hl 1 rfl d4 ?_
    have fin : ∀ (H : Heap) (locs : List Loc), gH E s G2 H locs → W p l e R s m args below meth c H locs cells slots Q (F0 m (pc + 28) ls []) := fun H locs h => by
      refine g_goto C htg d13 ?_
      exact kk H locs h (lv_sub hl [2, 3, 4, 5, 6] rfl)
    refine g_if_ne C (tgt := pc + 28) g2 (by omega) d5 (fun q => ?_) (fun q => ?_)
    · rw [if_pos q] at hf
      obtain ⟨g3, hf⟩ := gj_s hf
      obtain ⟨g4, hf⟩ := gj_s hf
      by_cases e2 : G 13 0 0 = bm z
      · rw [if_pos e2] at hf
        cases hf
        refine g_aload_n C hl 3 rfl rfl d6 ?_
        refine g_iconst C d7 ?_
        refine g_lald C h ho2 (by decide) d8 ?_
        refine g_iload C hl 0 rfl d9 ?_
        refine g_i2l C d10 ?_
        refine g_lcmp_eq C (tgt := pc + 28) g3 g4 (by omega) d11 d12 (fun _ => ?_) (fun q => absurd e2 q)
        exact fin H locs h
      · rw [if_neg e2] at hf
        cases hf
    · rw [if_neg q] at hf
      cases hf
      exact fin H locs h
  · rw [if_neg e1] at hf
    cases hf
set_option maxHeartbeats 4000000 in
set_option maxRecDepth 100000 in
theorem lw_op0 (C : gC p s m args meth c RL cL_law 9 (some .boolean) E) (hst : l.stackTraces = false) (X : lwX b L xs s E) (ho : gOk E 7 0) (ho8 : gOk E 8 0) (ho2 : gOk E 13 0) (h : gH E s G H locs) (hi : 0 ≤ i ∧ i + 4 < L) (hl : lv_has ls 9 (lwV E b i)) (hR : 13 ≤ R.frames ∧ 490 ≤ R.locals) (hcs : cells + 4 ≤ R.cells ∧ slots + 24 ≤ R.slots) (hf : lwT (f_L_setStage G (lw_w xs i 1) (lw_w xs i 2) (lw_w xs i 3) (nz (lw_w xs i 4))) (fun G1 => f_X8_setStage G1 (lw_w xs i 1) (lw_w xs i 2) (lw_w xs i 3) (nz (lw_w xs i 4))) = some G2) (kk : ∀ (H : Heap) (locs : List Loc), gH E s G2 H locs → ∀ ls, lv_has ls 9 (lwV E b i) → W p l e R s m args below meth c H locs (cells + 4) (slots + 24) Q (F0 m 1364 ls [])) : W p l e R s m args below meth c H locs cells slots Q (F0 m 144 ls []) := by
  unfold lwT at hf
  obtain ⟨G1, k, q1, hf⟩ := bnd_s hf
  obtain ⟨G3, z, q2, hf⟩ := bnd_s hf
  obtain ⟨t, q3, hf⟩ := bn1_s hf
  unfold lwV at hl
  refine g_aload_n C hl 3 rfl rfl (gdec kL_law 25 rfl) ?_
  refine g_scr C X h hl (k := 1) (by decide) ⟨hi.1, by omega⟩ 4 0 rfl rfl (gdec kL_law 26 rfl) (gdec kL_law 27 rfl) (gdec kL_law 28 rfl) (gdec kL_law 29 rfl) (gdec kL_law 30 rfl) ?_
  refine g_scr C X h hl (k := 2) (by decide) ⟨hi.1, by omega⟩ 4 0 rfl rfl (gdec kL_law 31 rfl) (gdec kL_law 32 rfl) (gdec kL_law 33 rfl) (gdec kL_law 34 rfl) (gdec kL_law 35 rfl) ?_
  refine g_scr C X h hl (k := 3) (by decide) ⟨hi.1, by omega⟩ 4 0 rfl rfl (gdec kL_law 36 rfl) (gdec kL_law 37 rfl) (gdec kL_law 38 rfl) (gdec kL_law 39 rfl) (gdec kL_law 40 rfl) ?_
  refine g_scr C X h hl (k := 4) (by decide) ⟨hi.1, by omega⟩ 4 0 rfl rfl (gdec kL_law 41 rfl) (gdec kL_law 42 rfl) (gdec kL_law 43 rfl) (gdec kL_law 44 rfl) (gdec kL_law 45 rfl) ?_
  refine g_nz C (w_inR _) (gdec kL_law 46 rfl) (gdec kL_law 47 rfl) (gdec kL_law 48 rfl) (gdec kL_law 49 rfl) ?_
  refine g_aload_n C hl 1 rfl rfl (gdec kL_law 50 rfl) ?_
  refine g_ci h (g_runSW (rest := []) C h (c_L_setStage l hst E _ _ _ _ _ ho ho2 _ _ q1) wM_L_72 wT_L_setStage wN_L wC_L_setStage rfl ny_L_setStage rfl ⟨Nat.le_trans (Nat.le_of_ble_eq_true rfl) hR.1, Nat.le_trans (Nat.le_of_ble_eq_true rfl) hR.2⟩ hl.1 rfl (Nat.le_of_ble_eq_true rfl) (gdec kL_law 51 rfl) ⟨by omega, by omega⟩) (fun H locs h => ?_)
  refine g_istore C ((5, vI k) :: lwV E b i) hl (by decide) rfl (gdec kL_law 52 rfl) (fun ls hl => ?_)
  unfold lwV at hl
  refine g_aload_n C hl 3 rfl rfl (gdec kL_law 53 rfl) ?_
  refine g_scr C X h hl (k := 1) (by decide) ⟨hi.1, by omega⟩ 5 1 rfl rfl (gdec kL_law 54 rfl) (gdec kL_law 55 rfl) (gdec kL_law 56 rfl) (gdec kL_law 57 rfl) (gdec kL_law 58 rfl) ?_
  refine g_scr C X h hl (k := 2) (by decide) ⟨hi.1, by omega⟩ 5 1 rfl rfl (gdec kL_law 59 rfl) (gdec kL_law_1 0 rfl) (gdec kL_law_1 1 rfl) (gdec kL_law_1 2 rfl) (gdec kL_law_1 3 rfl) ?_
  refine g_scr C X h hl (k := 3) (by decide) ⟨hi.1, by omega⟩ 5 1 rfl rfl (gdec kL_law_1 4 rfl) (gdec kL_law_1 5 rfl) (gdec kL_law_1 6 rfl) (gdec kL_law_1 7 rfl) (gdec kL_law_1 8 rfl) ?_
  refine g_scr C X h hl (k := 4) (by decide) ⟨hi.1, by omega⟩ 5 1 rfl rfl (gdec kL_law_1 9 rfl) (gdec kL_law_1 10 rfl) (gdec kL_law_1 11 rfl) (gdec kL_law_1 12 rfl) (gdec kL_law_1 13 rfl) ?_
  refine g_nz C (w_inR _) (gdec kL_law_1 14 rfl) (gdec kL_law_1 15 rfl) (gdec kL_law_1 16 rfl) (gdec kL_law_1 17 rfl) ?_
  refine g_ci h (g_runV (rest := []) C h ho8 (by decide) rfl (c_X8_setStage l E _ _ _ _ _ ho8 _ _ q2) wM_L_77 wI_X8_setStage wS_X8_setStage wN_X8 wC_X8_setStage rfl ny_X8_setStage rfl ⟨Nat.le_trans (Nat.le_of_ble_eq_true rfl) hR.1, Nat.le_trans (Nat.le_of_ble_eq_true rfl) hR.2⟩ hl.1 rfl (Nat.le_of_ble_eq_true rfl) (gdec kL_law_1 18 rfl) ⟨by omega, by omega⟩) (fun H locs h => ?_)
  refine g_istore C ((6, vI z) :: (5, vI k) :: lwV E b i) hl (by decide) rfl (gdec kL_law_1 19 rfl) (fun ls hl => ?_)
  refine g_tail C h ho8 ho2 hl ⟨by omega, by omega⟩ ⟨by omega, by omega⟩ q3 hf (tgt := 1364) (by decide) (gdec kL_law_1 20 rfl) (gdec kL_law_1 21 rfl) (gdec kL_law_1 22 rfl) (gdec kL_law_1 23 rfl) (gdec kL_law_1 26 rfl) (gdec kL_law_1 27 rfl) (gdec kL_law_1 28 rfl) (gdec kL_law_1 29 rfl) (gdec kL_law_1 30 rfl) (gdec kL_law_1 31 rfl) (gdec kL_law_1 32 rfl) (gdec kL_law_1 33 rfl) (gdec kL_law_1 34 rfl) (gdec kL_law_1 37 rfl) (fun H locs h hl => ?_)
  exact W.widen (by omega) (by omega) (kk H locs h ls hl)
set_option maxHeartbeats 4000000 in
set_option maxRecDepth 100000 in
theorem lw_op1 (C : gC p s m args meth c RL cL_law 9 (some .boolean) E) (hst : l.stackTraces = false) (X : lwX b L xs s E) (ho : gOk E 7 0) (ho8 : gOk E 8 0) (ho2 : gOk E 13 0) (h : gH E s G H locs) (hi : 0 ≤ i ∧ i + 4 < L) (hl : lv_has ls 9 (lwV E b i)) (hR : 13 ≤ R.frames ∧ 490 ≤ R.locals) (hcs : cells + 4 ≤ R.cells ∧ slots + 24 ≤ R.slots) (hf : lwT (f_L_setInn G (lw_w xs i 1) (lw_w xs i 2) (lw_w xs i 3) (nz (lw_w xs i 4))) (fun G1 => f_X8_setInn G1 (lw_w xs i 1) (lw_w xs i 2) (lw_w xs i 3) (nz (lw_w xs i 4))) = some G2) (kk : ∀ (H : Heap) (locs : List Loc), gH E s G2 H locs → ∀ ls, lv_has ls 9 (lwV E b i) → W p l e R s m args below meth c H locs (cells + 4) (slots + 24) Q (F0 m 1364 ls [])) : W p l e R s m args below meth c H locs cells slots Q (F0 m 252 ls []) := by
  unfold lwT at hf
  obtain ⟨G1, k, q1, hf⟩ := bnd_s hf
  obtain ⟨G3, z, q2, hf⟩ := bnd_s hf
  obtain ⟨t, q3, hf⟩ := bn1_s hf
  unfold lwV at hl
  refine g_aload_n C hl 3 rfl rfl (gdec kL_law_1 38 rfl) ?_
  refine g_scr C X h hl (k := 1) (by decide) ⟨hi.1, by omega⟩ 4 0 rfl rfl (gdec kL_law_1 39 rfl) (gdec kL_law_1 40 rfl) (gdec kL_law_1 41 rfl) (gdec kL_law_1 42 rfl) (gdec kL_law_1 43 rfl) ?_
  refine g_scr C X h hl (k := 2) (by decide) ⟨hi.1, by omega⟩ 4 0 rfl rfl (gdec kL_law_1 44 rfl) (gdec kL_law_1 45 rfl) (gdec kL_law_1 46 rfl) (gdec kL_law_1 47 rfl) (gdec kL_law_1 48 rfl) ?_
  refine g_scr C X h hl (k := 3) (by decide) ⟨hi.1, by omega⟩ 4 0 rfl rfl (gdec kL_law_1 49 rfl) (gdec kL_law_1 50 rfl) (gdec kL_law_1 51 rfl) (gdec kL_law_1 52 rfl) (gdec kL_law_1 53 rfl) ?_
  refine g_scr C X h hl (k := 4) (by decide) ⟨hi.1, by omega⟩ 4 0 rfl rfl (gdec kL_law_1 54 rfl) (gdec kL_law_1 55 rfl) (gdec kL_law_1 56 rfl) (gdec kL_law_1 57 rfl) (gdec kL_law_1 58 rfl) ?_
  refine g_nz C (w_inR _) (gdec kL_law_1 59 rfl) (gdec kL_law_2 0 rfl) (gdec kL_law_2 1 rfl) (gdec kL_law_2 2 rfl) ?_
  refine g_aload_n C hl 1 rfl rfl (gdec kL_law_2 3 rfl) ?_
  refine g_ci h (g_runSW (rest := []) C h (c_L_setInn l hst E _ _ _ _ _ ho ho2 _ _ q1) wM_L_81 wT_L_setInn wN_L wC_L_setInn rfl ny_L_setInn rfl ⟨Nat.le_trans (Nat.le_of_ble_eq_true rfl) hR.1, Nat.le_trans (Nat.le_of_ble_eq_true rfl) hR.2⟩ hl.1 rfl (Nat.le_of_ble_eq_true rfl) (gdec kL_law_2 4 rfl) ⟨by omega, by omega⟩) (fun H locs h => ?_)
  refine g_istore C ((5, vI k) :: lwV E b i) hl (by decide) rfl (gdec kL_law_2 5 rfl) (fun ls hl => ?_)
  unfold lwV at hl
  refine g_aload_n C hl 3 rfl rfl (gdec kL_law_2 6 rfl) ?_
  refine g_scr C X h hl (k := 1) (by decide) ⟨hi.1, by omega⟩ 5 1 rfl rfl (gdec kL_law_2 7 rfl) (gdec kL_law_2 8 rfl) (gdec kL_law_2 9 rfl) (gdec kL_law_2 10 rfl) (gdec kL_law_2 11 rfl) ?_
  refine g_scr C X h hl (k := 2) (by decide) ⟨hi.1, by omega⟩ 5 1 rfl rfl (gdec kL_law_2 12 rfl) (gdec kL_law_2 13 rfl) (gdec kL_law_2 14 rfl) (gdec kL_law_2 15 rfl) (gdec kL_law_2 16 rfl) ?_
  refine g_scr C X h hl (k := 3) (by decide) ⟨hi.1, by omega⟩ 5 1 rfl rfl (gdec kL_law_2 17 rfl) (gdec kL_law_2 18 rfl) (gdec kL_law_2 19 rfl) (gdec kL_law_2 20 rfl) (gdec kL_law_2 21 rfl) ?_
  refine g_scr C X h hl (k := 4) (by decide) ⟨hi.1, by omega⟩ 5 1 rfl rfl (gdec kL_law_2 22 rfl) (gdec kL_law_2 23 rfl) (gdec kL_law_2 24 rfl) (gdec kL_law_2 25 rfl) (gdec kL_law_2 26 rfl) ?_
  refine g_nz C (w_inR _) (gdec kL_law_2 27 rfl) (gdec kL_law_2 28 rfl) (gdec kL_law_2 29 rfl) (gdec kL_law_2 30 rfl) ?_
  refine g_ci h (g_runV (rest := []) C h ho8 (by decide) rfl (c_X8_setInn l E _ _ _ _ _ ho8 _ _ q2) wM_L_83 wI_X8_setInn wS_X8_setInn wN_X8 wC_X8_setInn rfl ny_X8_setInn rfl ⟨Nat.le_trans (Nat.le_of_ble_eq_true rfl) hR.1, Nat.le_trans (Nat.le_of_ble_eq_true rfl) hR.2⟩ hl.1 rfl (Nat.le_of_ble_eq_true rfl) (gdec kL_law_2 31 rfl) ⟨by omega, by omega⟩) (fun H locs h => ?_)
  refine g_istore C ((6, vI z) :: (5, vI k) :: lwV E b i) hl (by decide) rfl (gdec kL_law_2 32 rfl) (fun ls hl => ?_)
  refine g_tail C h ho8 ho2 hl ⟨by omega, by omega⟩ ⟨by omega, by omega⟩ q3 hf (tgt := 1364) (by decide) (gdec kL_law_2 33 rfl) (gdec kL_law_2 34 rfl) (gdec kL_law_2 35 rfl) (gdec kL_law_2 36 rfl) (gdec kL_law_2 39 rfl) (gdec kL_law_2 40 rfl) (gdec kL_law_2 41 rfl) (gdec kL_law_2 42 rfl) (gdec kL_law_2 43 rfl) (gdec kL_law_2 44 rfl) (gdec kL_law_2 45 rfl) (gdec kL_law_2 46 rfl) (gdec kL_law_2 47 rfl) (gdec kL_law_2 50 rfl) (fun H locs h hl => ?_)
  exact W.widen (by omega) (by omega) (kk H locs h ls hl)
set_option maxHeartbeats 4000000 in
set_option maxRecDepth 100000 in
theorem lw_op2 (C : gC p s m args meth c RL cL_law 9 (some .boolean) E) (hst : l.stackTraces = false) (X : lwX b L xs s E) (ho : gOk E 7 0) (ho8 : gOk E 8 0) (ho2 : gOk E 13 0) (h : gH E s G H locs) (hi : 0 ≤ i ∧ i + 4 < L) (hl : lv_has ls 9 (lwV E b i)) (hR : 13 ≤ R.frames ∧ 490 ≤ R.locals) (hcs : cells + 4 ≤ R.cells ∧ slots + 24 ≤ R.slots) (hf : lwT (f_L_addTeam G (lw_w xs i 1) (lw_w xs i 2)) (fun G1 => f_X8_addTeam G1 (lw_w xs i 1) (lw_w xs i 2)) = some G2) (kk : ∀ (H : Heap) (locs : List Loc), gH E s G2 H locs → ∀ ls, lv_has ls 9 (lwV E b i) → W p l e R s m args below meth c H locs (cells + 4) (slots + 24) Q (F0 m 1364 ls [])) : W p l e R s m args below meth c H locs cells slots Q (F0 m 360 ls []) := by
  unfold lwT at hf
  obtain ⟨G1, k, q1, hf⟩ := bnd_s hf
  obtain ⟨G3, z, q2, hf⟩ := bnd_s hf
  obtain ⟨t, q3, hf⟩ := bn1_s hf
  unfold lwV at hl
  refine g_aload_n C hl 3 rfl rfl (gdec kL_law_2 51 rfl) ?_
  refine g_scr C X h hl (k := 1) (by decide) ⟨hi.1, by omega⟩ 4 0 rfl rfl (gdec kL_law_2 52 rfl) (gdec kL_law_2 53 rfl) (gdec kL_law_2 54 rfl) (gdec kL_law_2 55 rfl) (gdec kL_law_2 56 rfl) ?_
  refine g_scr C X h hl (k := 2) (by decide) ⟨hi.1, by omega⟩ 4 0 rfl rfl (gdec kL_law_2 57 rfl) (gdec kL_law_2 58 rfl) (gdec kL_law_2 59 rfl) (gdec kL_law_3 0 rfl) (gdec kL_law_3 1 rfl) ?_
  refine g_aload_n C hl 1 rfl rfl (gdec kL_law_3 2 rfl) ?_
  refine g_ci h (g_runSW (rest := []) C h (c_L_addTeam l hst E _ _ _ ho ho2 _ _ q1) wM_L_84 wT_L_addTeam wN_L wC_L_addTeam rfl ny_L_addTeam rfl ⟨Nat.le_trans (Nat.le_of_ble_eq_true rfl) hR.1, Nat.le_trans (Nat.le_of_ble_eq_true rfl) hR.2⟩ hl.1 rfl (Nat.le_of_ble_eq_true rfl) (gdec kL_law_3 3 rfl) ⟨by omega, by omega⟩) (fun H locs h => ?_)
  refine g_istore C ((5, vI k) :: lwV E b i) hl (by decide) rfl (gdec kL_law_3 4 rfl) (fun ls hl => ?_)
  unfold lwV at hl
  refine g_aload_n C hl 3 rfl rfl (gdec kL_law_3 5 rfl) ?_
  refine g_scr C X h hl (k := 1) (by decide) ⟨hi.1, by omega⟩ 5 1 rfl rfl (gdec kL_law_3 6 rfl) (gdec kL_law_3 7 rfl) (gdec kL_law_3 8 rfl) (gdec kL_law_3 9 rfl) (gdec kL_law_3 10 rfl) ?_
  refine g_scr C X h hl (k := 2) (by decide) ⟨hi.1, by omega⟩ 5 1 rfl rfl (gdec kL_law_3 11 rfl) (gdec kL_law_3 12 rfl) (gdec kL_law_3 13 rfl) (gdec kL_law_3 14 rfl) (gdec kL_law_3 15 rfl) ?_
  refine g_ci h (g_runV (rest := []) C h ho8 (by decide) rfl (c_X8_addTeam l E _ _ _ ho8 _ _ q2) wM_L_87 wI_X8_addTeam wS_X8_addTeam wN_X8 wC_X8_addTeam rfl ny_X8_addTeam rfl ⟨Nat.le_trans (Nat.le_of_ble_eq_true rfl) hR.1, Nat.le_trans (Nat.le_of_ble_eq_true rfl) hR.2⟩ hl.1 rfl (Nat.le_of_ble_eq_true rfl) (gdec kL_law_3 16 rfl) ⟨by omega, by omega⟩) (fun H locs h => ?_)
  refine g_istore C ((6, vI z) :: (5, vI k) :: lwV E b i) hl (by decide) rfl (gdec kL_law_3 17 rfl) (fun ls hl => ?_)
  refine g_tail C h ho8 ho2 hl ⟨by omega, by omega⟩ ⟨by omega, by omega⟩ q3 hf (tgt := 1364) (by decide) (gdec kL_law_3 18 rfl) (gdec kL_law_3 19 rfl) (gdec kL_law_3 20 rfl) (gdec kL_law_3 21 rfl) (gdec kL_law_3 24 rfl) (gdec kL_law_3 25 rfl) (gdec kL_law_3 26 rfl) (gdec kL_law_3 27 rfl) (gdec kL_law_3 28 rfl) (gdec kL_law_3 29 rfl) (gdec kL_law_3 30 rfl) (gdec kL_law_3 31 rfl) (gdec kL_law_3 32 rfl) (gdec kL_law_3 35 rfl) (fun H locs h hl => ?_)
  exact W.widen (by omega) (by omega) (kk H locs h ls hl)
set_option maxHeartbeats 4000000 in
set_option maxRecDepth 100000 in
theorem lw_op3 (C : gC p s m args meth c RL cL_law 9 (some .boolean) E) (hst : l.stackTraces = false) (X : lwX b L xs s E) (ho : gOk E 7 0) (ho8 : gOk E 8 0) (ho2 : gOk E 13 0) (h : gH E s G H locs) (hi : 0 ≤ i ∧ i + 4 < L) (hl : lv_has ls 9 (lwV E b i)) (hR : 13 ≤ R.frames ∧ 490 ≤ R.locals) (hcs : cells + 4 ≤ R.cells ∧ slots + 24 ≤ R.slots) (hf : lwT (f_L_give G (lw_w xs i 1) (lw_w xs i 2) (nz (lw_w xs i 3))) (fun G1 => f_X8_give G1 (lw_w xs i 1) (lw_w xs i 2) (nz (lw_w xs i 3))) = some G2) (kk : ∀ (H : Heap) (locs : List Loc), gH E s G2 H locs → ∀ ls, lv_has ls 9 (lwV E b i) → W p l e R s m args below meth c H locs (cells + 4) (slots + 24) Q (F0 m 1364 ls [])) : W p l e R s m args below meth c H locs cells slots Q (F0 m 428 ls []) := by
  unfold lwT at hf
  obtain ⟨G1, k, q1, hf⟩ := bnd_s hf
  obtain ⟨G3, z, q2, hf⟩ := bnd_s hf
  obtain ⟨t, q3, hf⟩ := bn1_s hf
  unfold lwV at hl
  refine g_aload_n C hl 3 rfl rfl (gdec kL_law_3 36 rfl) ?_
  refine g_scr C X h hl (k := 1) (by decide) ⟨hi.1, by omega⟩ 4 0 rfl rfl (gdec kL_law_3 37 rfl) (gdec kL_law_3 38 rfl) (gdec kL_law_3 39 rfl) (gdec kL_law_3 40 rfl) (gdec kL_law_3 41 rfl) ?_
  refine g_scr C X h hl (k := 2) (by decide) ⟨hi.1, by omega⟩ 4 0 rfl rfl (gdec kL_law_3 42 rfl) (gdec kL_law_3 43 rfl) (gdec kL_law_3 44 rfl) (gdec kL_law_3 45 rfl) (gdec kL_law_3 46 rfl) ?_
  refine g_scr C X h hl (k := 3) (by decide) ⟨hi.1, by omega⟩ 4 0 rfl rfl (gdec kL_law_3 47 rfl) (gdec kL_law_3 48 rfl) (gdec kL_law_3 49 rfl) (gdec kL_law_3 50 rfl) (gdec kL_law_3 51 rfl) ?_
  refine g_nz C (w_inR _) (gdec kL_law_3 52 rfl) (gdec kL_law_3 53 rfl) (gdec kL_law_3 54 rfl) (gdec kL_law_3 55 rfl) ?_
  refine g_aload_n C hl 1 rfl rfl (gdec kL_law_3 56 rfl) ?_
  refine g_ci h (g_runSW (rest := []) C h (c_L_give l hst E _ _ _ _ ho ho2 _ _ q1) wM_L_88 wT_L_give wN_L wC_L_give rfl ny_L_give rfl ⟨Nat.le_trans (Nat.le_of_ble_eq_true rfl) hR.1, Nat.le_trans (Nat.le_of_ble_eq_true rfl) hR.2⟩ hl.1 rfl (Nat.le_of_ble_eq_true rfl) (gdec kL_law_3 57 rfl) ⟨by omega, by omega⟩) (fun H locs h => ?_)
  refine g_istore C ((5, vI k) :: lwV E b i) hl (by decide) rfl (gdec kL_law_3 58 rfl) (fun ls hl => ?_)
  unfold lwV at hl
  refine g_aload_n C hl 3 rfl rfl (gdec kL_law_3 59 rfl) ?_
  refine g_scr C X h hl (k := 1) (by decide) ⟨hi.1, by omega⟩ 5 1 rfl rfl (gdec kL_law_4 0 rfl) (gdec kL_law_4 1 rfl) (gdec kL_law_4 2 rfl) (gdec kL_law_4 3 rfl) (gdec kL_law_4 4 rfl) ?_
  refine g_scr C X h hl (k := 2) (by decide) ⟨hi.1, by omega⟩ 5 1 rfl rfl (gdec kL_law_4 5 rfl) (gdec kL_law_4 6 rfl) (gdec kL_law_4 7 rfl) (gdec kL_law_4 8 rfl) (gdec kL_law_4 9 rfl) ?_
  refine g_scr C X h hl (k := 3) (by decide) ⟨hi.1, by omega⟩ 5 1 rfl rfl (gdec kL_law_4 10 rfl) (gdec kL_law_4 11 rfl) (gdec kL_law_4 12 rfl) (gdec kL_law_4 13 rfl) (gdec kL_law_4 14 rfl) ?_
  refine g_nz C (w_inR _) (gdec kL_law_4 15 rfl) (gdec kL_law_4 16 rfl) (gdec kL_law_4 17 rfl) (gdec kL_law_4 18 rfl) ?_
  refine g_ci h (g_runV (rest := []) C h ho8 (by decide) rfl (c_X8_give l E _ _ _ _ ho8 _ _ q2) wM_L_91 wI_X8_give wS_X8_give wN_X8 wC_X8_give rfl ny_X8_give rfl ⟨Nat.le_trans (Nat.le_of_ble_eq_true rfl) hR.1, Nat.le_trans (Nat.le_of_ble_eq_true rfl) hR.2⟩ hl.1 rfl (Nat.le_of_ble_eq_true rfl) (gdec kL_law_4 19 rfl) ⟨by omega, by omega⟩) (fun H locs h => ?_)
  refine g_istore C ((6, vI z) :: (5, vI k) :: lwV E b i) hl (by decide) rfl (gdec kL_law_4 20 rfl) (fun ls hl => ?_)
  refine g_tail C h ho8 ho2 hl ⟨by omega, by omega⟩ ⟨by omega, by omega⟩ q3 hf (tgt := 1364) (by decide) (gdec kL_law_4 21 rfl) (gdec kL_law_4 22 rfl) (gdec kL_law_4 23 rfl) (gdec kL_law_4 24 rfl) (gdec kL_law_4 27 rfl) (gdec kL_law_4 28 rfl) (gdec kL_law_4 29 rfl) (gdec kL_law_4 30 rfl) (gdec kL_law_4 31 rfl) (gdec kL_law_4 32 rfl) (gdec kL_law_4 33 rfl) (gdec kL_law_4 34 rfl) (gdec kL_law_4 35 rfl) (gdec kL_law_4 38 rfl) (fun H locs h hl => ?_)
  exact W.widen (by omega) (by omega) (kk H locs h ls hl)
set_option maxHeartbeats 4000000 in
set_option maxRecDepth 100000 in
theorem lw_op4 (C : gC p s m args meth c RL cL_law 9 (some .boolean) E) (hst : l.stackTraces = false) (X : lwX b L xs s E) (ho : gOk E 7 0) (ho8 : gOk E 8 0) (ho2 : gOk E 13 0) (h : gH E s G H locs) (hi : 0 ≤ i ∧ i + 4 < L) (hl : lv_has ls 9 (lwV E b i)) (hR : 13 ≤ R.frames ∧ 490 ≤ R.locals) (hcs : cells + 4 ≤ R.cells ∧ slots + 24 ≤ R.slots) (hf : lwU (f_X7_collect G) (fun G1 => f_X8_collect G1) = some G2) (kk : ∀ (H : Heap) (locs : List Loc), gH E s G2 H locs → ∀ ls, lv_has ls 9 (lwV E b i) → W p l e R s m args below meth c H locs (cells + 4) (slots + 24) Q (F0 m 1364 ls [])) : W p l e R s m args below meth c H locs cells slots Q (F0 m 524 ls []) := by
  unfold lwU at hf
  obtain ⟨G1, u, q1, hf⟩ := bnd_s hf
  obtain ⟨G3, v, q2, hf⟩ := bnd_s hf
  obtain ⟨g1, hf⟩ := gd_s hf
  obtain ⟨g2, hf⟩ := gd_s hf
  unfold lwV at hl
  refine g_aload_n C hl 3 rfl rfl (gdec kL_law_4 39 rfl) ?_
  refine g_ci h (g_runV (rest := []) C h ho (by decide) rfl (c_X7_collect l E _ ho _ _ q1) wM_L_92 wI_X7_collect wS_X7_collect wN_X7 wC_X7_collect rfl ny_X7_collect rfl ⟨Nat.le_trans (Nat.le_of_ble_eq_true rfl) hR.1, Nat.le_trans (Nat.le_of_ble_eq_true rfl) hR.2⟩ hl.1 rfl (Nat.le_of_ble_eq_true rfl) (gdec kL_law_4 40 rfl) ⟨by omega, by omega⟩) (fun H locs h => ?_)
  refine g_aload_n C hl 2 rfl rfl (gdec kL_law_4 41 rfl) ?_
  refine g_ci h (g_runV (rest := [vI u]) C h ho8 (by decide) rfl (c_X8_collect l E _ ho8 _ _ q2) wM_L_95 wI_X8_collect wS_X8_collect wN_X8 wC_X8_collect rfl ny_X8_collect rfl ⟨Nat.le_trans (Nat.le_of_ble_eq_true rfl) hR.1, Nat.le_trans (Nat.le_of_ble_eq_true rfl) hR.2⟩ hl.1 rfl (Nat.le_of_ble_eq_true rfl) (gdec kL_law_4 42 rfl) ⟨by omega, by omega⟩) (fun H locs h => ?_)
  by_cases e1 : u = v
  · rw [if_pos e1] at hf
    cases hf
    refine g_icmp_eq C (tgt := 1364) g1 g2 (by decide) (gdec kL_law_4 43 rfl) (fun _ => ?_) (fun q => absurd e1 q)
    exact W.widen (by omega) (by omega) (kk H locs h ls hl)
  · rw [if_neg e1] at hf
    cases hf
set_option maxHeartbeats 4000000 in
set_option maxRecDepth 100000 in
theorem lw_op5 (C : gC p s m args meth c RL cL_law 9 (some .boolean) E) (hst : l.stackTraces = false) (X : lwX b L xs s E) (ho : gOk E 7 0) (ho8 : gOk E 8 0) (ho2 : gOk E 13 0) (h : gH E s G H locs) (hi : 0 ≤ i ∧ i + 4 < L) (hl : lv_has ls 9 (lwV E b i)) (hR : 13 ≤ R.frames ∧ 490 ≤ R.locals) (hcs : cells + 4 ≤ R.cells ∧ slots + 24 ≤ R.slots) (hf : lwT (f_L_pass G (lw_w xs i 1)) (fun G1 => f_X8_pass G1 (lw_w xs i 1)) = some G2) (kk : ∀ (H : Heap) (locs : List Loc), gH E s G2 H locs → ∀ ls, lv_has ls 9 (lwV E b i) → W p l e R s m args below meth c H locs (cells + 4) (slots + 24) Q (F0 m 1364 ls [])) : W p l e R s m args below meth c H locs cells slots Q (F0 m 537 ls []) := by
  unfold lwT at hf
  obtain ⟨G1, k, q1, hf⟩ := bnd_s hf
  obtain ⟨G3, z, q2, hf⟩ := bnd_s hf
  obtain ⟨t, q3, hf⟩ := bn1_s hf
  unfold lwV at hl
  refine g_aload_n C hl 3 rfl rfl (gdec kL_law_4 46 rfl) ?_
  refine g_scr C X h hl (k := 1) (by decide) ⟨hi.1, by omega⟩ 4 0 rfl rfl (gdec kL_law_4 47 rfl) (gdec kL_law_4 48 rfl) (gdec kL_law_4 49 rfl) (gdec kL_law_4 50 rfl) (gdec kL_law_4 51 rfl) ?_
  refine g_aload_n C hl 1 rfl rfl (gdec kL_law_4 52 rfl) ?_
  refine g_ci h (g_runSW (rest := []) C h (c_L_pass l hst E _ _ ho ho2 _ _ q1) wM_L_96 wT_L_pass wN_L wC_L_pass rfl ny_L_pass rfl ⟨Nat.le_trans (Nat.le_of_ble_eq_true rfl) hR.1, Nat.le_trans (Nat.le_of_ble_eq_true rfl) hR.2⟩ hl.1 rfl (Nat.le_of_ble_eq_true rfl) (gdec kL_law_4 53 rfl) ⟨by omega, by omega⟩) (fun H locs h => ?_)
  refine g_istore C ((5, vI k) :: lwV E b i) hl (by decide) rfl (gdec kL_law_4 54 rfl) (fun ls hl => ?_)
  unfold lwV at hl
  refine g_aload_n C hl 3 rfl rfl (gdec kL_law_4 55 rfl) ?_
  refine g_scr C X h hl (k := 1) (by decide) ⟨hi.1, by omega⟩ 5 1 rfl rfl (gdec kL_law_4 56 rfl) (gdec kL_law_4 57 rfl) (gdec kL_law_4 58 rfl) (gdec kL_law_4 59 rfl) (gdec kL_law_5 0 rfl) ?_
  refine g_ci h (g_runV (rest := []) C h ho8 (by decide) rfl (c_X8_pass l E _ _ ho8 _ _ q2) wM_L_99 wI_X8_pass wS_X8_pass wN_X8 wC_X8_pass rfl ny_X8_pass rfl ⟨Nat.le_trans (Nat.le_of_ble_eq_true rfl) hR.1, Nat.le_trans (Nat.le_of_ble_eq_true rfl) hR.2⟩ hl.1 rfl (Nat.le_of_ble_eq_true rfl) (gdec kL_law_5 1 rfl) ⟨by omega, by omega⟩) (fun H locs h => ?_)
  refine g_istore C ((6, vI z) :: (5, vI k) :: lwV E b i) hl (by decide) rfl (gdec kL_law_5 2 rfl) (fun ls hl => ?_)
  refine g_tail C h ho8 ho2 hl ⟨by omega, by omega⟩ ⟨by omega, by omega⟩ q3 hf (tgt := 1364) (by decide) (gdec kL_law_5 3 rfl) (gdec kL_law_5 4 rfl) (gdec kL_law_5 5 rfl) (gdec kL_law_5 6 rfl) (gdec kL_law_5 9 rfl) (gdec kL_law_5 10 rfl) (gdec kL_law_5 11 rfl) (gdec kL_law_5 12 rfl) (gdec kL_law_5 13 rfl) (gdec kL_law_5 14 rfl) (gdec kL_law_5 15 rfl) (gdec kL_law_5 16 rfl) (gdec kL_law_5 17 rfl) (gdec kL_law_5 20 rfl) (fun H locs h hl => ?_)
  exact W.widen (by omega) (by omega) (kk H locs h ls hl)
set_option maxHeartbeats 4000000 in
set_option maxRecDepth 100000 in
theorem lw_op6 (C : gC p s m args meth c RL cL_law 9 (some .boolean) E) (hst : l.stackTraces = false) (X : lwX b L xs s E) (ho : gOk E 7 0) (ho8 : gOk E 8 0) (ho2 : gOk E 13 0) (h : gH E s G H locs) (hi : 0 ≤ i ∧ i + 4 < L) (hl : lv_has ls 9 (lwV E b i)) (hR : 13 ≤ R.frames ∧ 490 ≤ R.locals) (hcs : cells + 4 ≤ R.cells ∧ slots + 24 ≤ R.slots) (hf : lwT (f_L_stage G (lw_w xs i 1) (lw_w xs i 2)) (fun G1 => f_X8_stage G1 (lw_w xs i 1) (lw_w xs i 2)) = some G2) (kk : ∀ (H : Heap) (locs : List Loc), gH E s G2 H locs → ∀ ls, lv_has ls 9 (lwV E b i) → W p l e R s m args below meth c H locs (cells + 4) (slots + 24) Q (F0 m 1364 ls [])) : W p l e R s m args below meth c H locs cells slots Q (F0 m 593 ls []) := by
  unfold lwT at hf
  obtain ⟨G1, k, q1, hf⟩ := bnd_s hf
  obtain ⟨G3, z, q2, hf⟩ := bnd_s hf
  obtain ⟨t, q3, hf⟩ := bn1_s hf
  unfold lwV at hl
  refine g_aload_n C hl 3 rfl rfl (gdec kL_law_5 21 rfl) ?_
  refine g_scr C X h hl (k := 1) (by decide) ⟨hi.1, by omega⟩ 4 0 rfl rfl (gdec kL_law_5 22 rfl) (gdec kL_law_5 23 rfl) (gdec kL_law_5 24 rfl) (gdec kL_law_5 25 rfl) (gdec kL_law_5 26 rfl) ?_
  refine g_scr C X h hl (k := 2) (by decide) ⟨hi.1, by omega⟩ 4 0 rfl rfl (gdec kL_law_5 27 rfl) (gdec kL_law_5 28 rfl) (gdec kL_law_5 29 rfl) (gdec kL_law_5 30 rfl) (gdec kL_law_5 31 rfl) ?_
  refine g_aload_n C hl 1 rfl rfl (gdec kL_law_5 32 rfl) ?_
  refine g_ci h (g_runSW (rest := []) C h (c_L_stage l hst E _ _ _ ho ho2 _ _ q1) wM_L_100 wT_L_stage wN_L wC_L_stage rfl ny_L_stage rfl ⟨Nat.le_trans (Nat.le_of_ble_eq_true rfl) hR.1, Nat.le_trans (Nat.le_of_ble_eq_true rfl) hR.2⟩ hl.1 rfl (Nat.le_of_ble_eq_true rfl) (gdec kL_law_5 33 rfl) ⟨by omega, by omega⟩) (fun H locs h => ?_)
  refine g_istore C ((5, vI k) :: lwV E b i) hl (by decide) rfl (gdec kL_law_5 34 rfl) (fun ls hl => ?_)
  unfold lwV at hl
  refine g_aload_n C hl 3 rfl rfl (gdec kL_law_5 35 rfl) ?_
  refine g_scr C X h hl (k := 1) (by decide) ⟨hi.1, by omega⟩ 5 1 rfl rfl (gdec kL_law_5 36 rfl) (gdec kL_law_5 37 rfl) (gdec kL_law_5 38 rfl) (gdec kL_law_5 39 rfl) (gdec kL_law_5 40 rfl) ?_
  refine g_scr C X h hl (k := 2) (by decide) ⟨hi.1, by omega⟩ 5 1 rfl rfl (gdec kL_law_5 41 rfl) (gdec kL_law_5 42 rfl) (gdec kL_law_5 43 rfl) (gdec kL_law_5 44 rfl) (gdec kL_law_5 45 rfl) ?_
  refine g_ci h (g_runV (rest := []) C h ho8 (by decide) rfl (c_X8_stage l E _ _ _ ho8 _ _ q2) wM_L_102 wI_X8_stage wS_X8_stage wN_X8 wC_X8_stage rfl ny_X8_stage rfl ⟨Nat.le_trans (Nat.le_of_ble_eq_true rfl) hR.1, Nat.le_trans (Nat.le_of_ble_eq_true rfl) hR.2⟩ hl.1 rfl (Nat.le_of_ble_eq_true rfl) (gdec kL_law_5 46 rfl) ⟨by omega, by omega⟩) (fun H locs h => ?_)
  refine g_istore C ((6, vI z) :: (5, vI k) :: lwV E b i) hl (by decide) rfl (gdec kL_law_5 47 rfl) (fun ls hl => ?_)
  refine g_tail C h ho8 ho2 hl ⟨by omega, by omega⟩ ⟨by omega, by omega⟩ q3 hf (tgt := 1364) (by decide) (gdec kL_law_5 48 rfl) (gdec kL_law_5 49 rfl) (gdec kL_law_5 50 rfl) (gdec kL_law_5 51 rfl) (gdec kL_law_5 54 rfl) (gdec kL_law_5 55 rfl) (gdec kL_law_5 56 rfl) (gdec kL_law_5 57 rfl) (gdec kL_law_5 58 rfl) (gdec kL_law_5 59 rfl) (gdec kL_law_6 0 rfl) (gdec kL_law_6 1 rfl) (gdec kL_law_6 2 rfl) (gdec kL_law_6 5 rfl) (fun H locs h hl => ?_)
  exact W.widen (by omega) (by omega) (kk H locs h ls hl)
set_option maxHeartbeats 4000000 in
set_option maxRecDepth 100000 in
theorem lw_op7 (C : gC p s m args meth c RL cL_law 9 (some .boolean) E) (hst : l.stackTraces = false) (X : lwX b L xs s E) (ho : gOk E 7 0) (ho8 : gOk E 8 0) (ho2 : gOk E 13 0) (h : gH E s G H locs) (hi : 0 ≤ i ∧ i + 4 < L) (hl : lv_has ls 9 (lwV E b i)) (hR : 13 ≤ R.frames ∧ 490 ≤ R.locals) (hcs : cells + 4 ≤ R.cells ∧ slots + 24 ≤ R.slots) (hf : lwT (f_L_inn G (lw_w xs i 1) (lw_w xs i 2)) (fun G1 => f_X8_inn G1 (lw_w xs i 1) (lw_w xs i 2)) = some G2) (kk : ∀ (H : Heap) (locs : List Loc), gH E s G2 H locs → ∀ ls, lv_has ls 9 (lwV E b i) → W p l e R s m args below meth c H locs (cells + 4) (slots + 24) Q (F0 m 1364 ls [])) : W p l e R s m args below meth c H locs cells slots Q (F0 m 661 ls []) := by
  unfold lwT at hf
  obtain ⟨G1, k, q1, hf⟩ := bnd_s hf
  obtain ⟨G3, z, q2, hf⟩ := bnd_s hf
  obtain ⟨t, q3, hf⟩ := bn1_s hf
  unfold lwV at hl
  refine g_aload_n C hl 3 rfl rfl (gdec kL_law_6 6 rfl) ?_
  refine g_scr C X h hl (k := 1) (by decide) ⟨hi.1, by omega⟩ 4 0 rfl rfl (gdec kL_law_6 7 rfl) (gdec kL_law_6 8 rfl) (gdec kL_law_6 9 rfl) (gdec kL_law_6 10 rfl) (gdec kL_law_6 11 rfl) ?_
  refine g_scr C X h hl (k := 2) (by decide) ⟨hi.1, by omega⟩ 4 0 rfl rfl (gdec kL_law_6 12 rfl) (gdec kL_law_6 13 rfl) (gdec kL_law_6 14 rfl) (gdec kL_law_6 15 rfl) (gdec kL_law_6 16 rfl) ?_
  refine g_aload_n C hl 1 rfl rfl (gdec kL_law_6 17 rfl) ?_
  refine g_ci h (g_runSW (rest := []) C h (c_L_inn l hst E _ _ _ ho ho2 _ _ q1) wM_L_103 wT_L_inn wN_L wC_L_inn rfl ny_L_inn rfl ⟨Nat.le_trans (Nat.le_of_ble_eq_true rfl) hR.1, Nat.le_trans (Nat.le_of_ble_eq_true rfl) hR.2⟩ hl.1 rfl (Nat.le_of_ble_eq_true rfl) (gdec kL_law_6 18 rfl) ⟨by omega, by omega⟩) (fun H locs h => ?_)
  refine g_istore C ((5, vI k) :: lwV E b i) hl (by decide) rfl (gdec kL_law_6 19 rfl) (fun ls hl => ?_)
  unfold lwV at hl
  refine g_aload_n C hl 3 rfl rfl (gdec kL_law_6 20 rfl) ?_
  refine g_scr C X h hl (k := 1) (by decide) ⟨hi.1, by omega⟩ 5 1 rfl rfl (gdec kL_law_6 21 rfl) (gdec kL_law_6 22 rfl) (gdec kL_law_6 23 rfl) (gdec kL_law_6 24 rfl) (gdec kL_law_6 25 rfl) ?_
  refine g_scr C X h hl (k := 2) (by decide) ⟨hi.1, by omega⟩ 5 1 rfl rfl (gdec kL_law_6 26 rfl) (gdec kL_law_6 27 rfl) (gdec kL_law_6 28 rfl) (gdec kL_law_6 29 rfl) (gdec kL_law_6 30 rfl) ?_
  refine g_ci h (g_runV (rest := []) C h ho8 (by decide) rfl (c_X8_inn l E _ _ _ ho8 _ _ q2) wM_L_105 wI_X8_inn wS_X8_inn wN_X8 wC_X8_inn rfl ny_X8_inn rfl ⟨Nat.le_trans (Nat.le_of_ble_eq_true rfl) hR.1, Nat.le_trans (Nat.le_of_ble_eq_true rfl) hR.2⟩ hl.1 rfl (Nat.le_of_ble_eq_true rfl) (gdec kL_law_6 31 rfl) ⟨by omega, by omega⟩) (fun H locs h => ?_)
  refine g_istore C ((6, vI z) :: (5, vI k) :: lwV E b i) hl (by decide) rfl (gdec kL_law_6 32 rfl) (fun ls hl => ?_)
  refine g_tail C h ho8 ho2 hl ⟨by omega, by omega⟩ ⟨by omega, by omega⟩ q3 hf (tgt := 1364) (by decide) (gdec kL_law_6 33 rfl) (gdec kL_law_6 34 rfl) (gdec kL_law_6 35 rfl) (gdec kL_law_6 36 rfl) (gdec kL_law_6 39 rfl) (gdec kL_law_6 40 rfl) (gdec kL_law_6 41 rfl) (gdec kL_law_6 42 rfl) (gdec kL_law_6 43 rfl) (gdec kL_law_6 44 rfl) (gdec kL_law_6 45 rfl) (gdec kL_law_6 46 rfl) (gdec kL_law_6 47 rfl) (gdec kL_law_6 50 rfl) (fun H locs h hl => ?_)
  exact W.widen (by omega) (by omega) (kk H locs h ls hl)
set_option maxHeartbeats 4000000 in
set_option maxRecDepth 100000 in
theorem lw_op8 (C : gC p s m args meth c RL cL_law 9 (some .boolean) E) (hst : l.stackTraces = false) (X : lwX b L xs s E) (ho : gOk E 7 0) (ho8 : gOk E 8 0) (ho2 : gOk E 13 0) (h : gH E s G H locs) (hi : 0 ≤ i ∧ i + 4 < L) (hl : lv_has ls 9 (lwV E b i)) (hR : 13 ≤ R.frames ∧ 490 ≤ R.locals) (hcs : cells + 4 ≤ R.cells ∧ slots + 24 ≤ R.slots) (hf : lwT (f_L_team G (lw_w xs i 1) (lw_w xs i 2)) (fun G1 => f_X8_team G1 (lw_w xs i 1) (lw_w xs i 2)) = some G2) (kk : ∀ (H : Heap) (locs : List Loc), gH E s G2 H locs → ∀ ls, lv_has ls 9 (lwV E b i) → W p l e R s m args below meth c H locs (cells + 4) (slots + 24) Q (F0 m 1364 ls [])) : W p l e R s m args below meth c H locs cells slots Q (F0 m 729 ls []) := by
  unfold lwT at hf
  obtain ⟨G1, k, q1, hf⟩ := bnd_s hf
  obtain ⟨G3, z, q2, hf⟩ := bnd_s hf
  obtain ⟨t, q3, hf⟩ := bn1_s hf
  unfold lwV at hl
  refine g_aload_n C hl 3 rfl rfl (gdec kL_law_6 51 rfl) ?_
  refine g_scr C X h hl (k := 1) (by decide) ⟨hi.1, by omega⟩ 4 0 rfl rfl (gdec kL_law_6 52 rfl) (gdec kL_law_6 53 rfl) (gdec kL_law_6 54 rfl) (gdec kL_law_6 55 rfl) (gdec kL_law_6 56 rfl) ?_
  refine g_scr C X h hl (k := 2) (by decide) ⟨hi.1, by omega⟩ 4 0 rfl rfl (gdec kL_law_6 57 rfl) (gdec kL_law_6 58 rfl) (gdec kL_law_6 59 rfl) (gdec kL_law_7 0 rfl) (gdec kL_law_7 1 rfl) ?_
  refine g_aload_n C hl 1 rfl rfl (gdec kL_law_7 2 rfl) ?_
  refine g_ci h (g_runSW (rest := []) C h (c_L_team l hst E _ _ _ ho ho2 _ _ q1) wM_L_106 wT_L_team wN_L wC_L_team rfl ny_L_team rfl ⟨Nat.le_trans (Nat.le_of_ble_eq_true rfl) hR.1, Nat.le_trans (Nat.le_of_ble_eq_true rfl) hR.2⟩ hl.1 rfl (Nat.le_of_ble_eq_true rfl) (gdec kL_law_7 3 rfl) ⟨by omega, by omega⟩) (fun H locs h => ?_)
  refine g_istore C ((5, vI k) :: lwV E b i) hl (by decide) rfl (gdec kL_law_7 4 rfl) (fun ls hl => ?_)
  unfold lwV at hl
  refine g_aload_n C hl 3 rfl rfl (gdec kL_law_7 5 rfl) ?_
  refine g_scr C X h hl (k := 1) (by decide) ⟨hi.1, by omega⟩ 5 1 rfl rfl (gdec kL_law_7 6 rfl) (gdec kL_law_7 7 rfl) (gdec kL_law_7 8 rfl) (gdec kL_law_7 9 rfl) (gdec kL_law_7 10 rfl) ?_
  refine g_scr C X h hl (k := 2) (by decide) ⟨hi.1, by omega⟩ 5 1 rfl rfl (gdec kL_law_7 11 rfl) (gdec kL_law_7 12 rfl) (gdec kL_law_7 13 rfl) (gdec kL_law_7 14 rfl) (gdec kL_law_7 15 rfl) ?_
  refine g_ci h (g_runV (rest := []) C h ho8 (by decide) rfl (c_X8_team l E _ _ _ ho8 _ _ q2) wM_L_108 wI_X8_team wS_X8_team wN_X8 wC_X8_team rfl ny_X8_team rfl ⟨Nat.le_trans (Nat.le_of_ble_eq_true rfl) hR.1, Nat.le_trans (Nat.le_of_ble_eq_true rfl) hR.2⟩ hl.1 rfl (Nat.le_of_ble_eq_true rfl) (gdec kL_law_7 16 rfl) ⟨by omega, by omega⟩) (fun H locs h => ?_)
  refine g_istore C ((6, vI z) :: (5, vI k) :: lwV E b i) hl (by decide) rfl (gdec kL_law_7 17 rfl) (fun ls hl => ?_)
  refine g_tail C h ho8 ho2 hl ⟨by omega, by omega⟩ ⟨by omega, by omega⟩ q3 hf (tgt := 1364) (by decide) (gdec kL_law_7 18 rfl) (gdec kL_law_7 19 rfl) (gdec kL_law_7 20 rfl) (gdec kL_law_7 21 rfl) (gdec kL_law_7 24 rfl) (gdec kL_law_7 25 rfl) (gdec kL_law_7 26 rfl) (gdec kL_law_7 27 rfl) (gdec kL_law_7 28 rfl) (gdec kL_law_7 29 rfl) (gdec kL_law_7 30 rfl) (gdec kL_law_7 31 rfl) (gdec kL_law_7 32 rfl) (gdec kL_law_7 35 rfl) (fun H locs h hl => ?_)
  exact W.widen (by omega) (by omega) (kk H locs h ls hl)
set_option maxHeartbeats 4000000 in
set_option maxRecDepth 100000 in
theorem lw_op9 (C : gC p s m args meth c RL cL_law 9 (some .boolean) E) (hst : l.stackTraces = false) (X : lwX b L xs s E) (ho : gOk E 7 0) (ho8 : gOk E 8 0) (ho2 : gOk E 13 0) (h : gH E s G H locs) (hi : 0 ≤ i ∧ i + 4 < L) (hl : lv_has ls 9 (lwV E b i)) (hR : 13 ≤ R.frames ∧ 490 ≤ R.locals) (hcs : cells + 4 ≤ R.cells ∧ slots + 24 ≤ R.slots) (hf : lwT (f_L_letter G (lw_w xs i 1) (lw_w xs i 2)) (fun G1 => f_X8_letter G1 (lw_w xs i 1) (lw_w xs i 2)) = some G2) (kk : ∀ (H : Heap) (locs : List Loc), gH E s G2 H locs → ∀ ls, lv_has ls 9 (lwV E b i) → W p l e R s m args below meth c H locs (cells + 4) (slots + 24) Q (F0 m 1364 ls [])) : W p l e R s m args below meth c H locs cells slots Q (F0 m 797 ls []) := by
  unfold lwT at hf
  obtain ⟨G1, k, q1, hf⟩ := bnd_s hf
  obtain ⟨G3, z, q2, hf⟩ := bnd_s hf
  obtain ⟨t, q3, hf⟩ := bn1_s hf
  unfold lwV at hl
  refine g_aload_n C hl 3 rfl rfl (gdec kL_law_7 36 rfl) ?_
  refine g_scr C X h hl (k := 1) (by decide) ⟨hi.1, by omega⟩ 4 0 rfl rfl (gdec kL_law_7 37 rfl) (gdec kL_law_7 38 rfl) (gdec kL_law_7 39 rfl) (gdec kL_law_7 40 rfl) (gdec kL_law_7 41 rfl) ?_
  refine g_scr C X h hl (k := 2) (by decide) ⟨hi.1, by omega⟩ 4 0 rfl rfl (gdec kL_law_7 42 rfl) (gdec kL_law_7 43 rfl) (gdec kL_law_7 44 rfl) (gdec kL_law_7 45 rfl) (gdec kL_law_7 46 rfl) ?_
  refine g_aload_n C hl 1 rfl rfl (gdec kL_law_7 47 rfl) ?_
  refine g_ci h (g_runSW (rest := []) C h (c_L_letter l hst E _ _ _ ho ho2 _ _ q1) wM_L_109 wT_L_letter wN_L wC_L_letter rfl ny_L_letter rfl ⟨Nat.le_trans (Nat.le_of_ble_eq_true rfl) hR.1, Nat.le_trans (Nat.le_of_ble_eq_true rfl) hR.2⟩ hl.1 rfl (Nat.le_of_ble_eq_true rfl) (gdec kL_law_7 48 rfl) ⟨by omega, by omega⟩) (fun H locs h => ?_)
  refine g_istore C ((5, vI k) :: lwV E b i) hl (by decide) rfl (gdec kL_law_7 49 rfl) (fun ls hl => ?_)
  unfold lwV at hl
  refine g_aload_n C hl 3 rfl rfl (gdec kL_law_7 50 rfl) ?_
  refine g_scr C X h hl (k := 1) (by decide) ⟨hi.1, by omega⟩ 5 1 rfl rfl (gdec kL_law_7 51 rfl) (gdec kL_law_7 52 rfl) (gdec kL_law_7 53 rfl) (gdec kL_law_7 54 rfl) (gdec kL_law_7 55 rfl) ?_
  refine g_scr C X h hl (k := 2) (by decide) ⟨hi.1, by omega⟩ 5 1 rfl rfl (gdec kL_law_7 56 rfl) (gdec kL_law_7 57 rfl) (gdec kL_law_7 58 rfl) (gdec kL_law_7 59 rfl) (gdec kL_law_8 0 rfl) ?_
  refine g_ci h (g_runV (rest := []) C h ho8 (by decide) rfl (c_X8_letter l E _ _ _ ho8 _ _ q2) wM_L_111 wI_X8_letter wS_X8_letter wN_X8 wC_X8_letter rfl ny_X8_letter rfl ⟨Nat.le_trans (Nat.le_of_ble_eq_true rfl) hR.1, Nat.le_trans (Nat.le_of_ble_eq_true rfl) hR.2⟩ hl.1 rfl (Nat.le_of_ble_eq_true rfl) (gdec kL_law_8 1 rfl) ⟨by omega, by omega⟩) (fun H locs h => ?_)
  refine g_istore C ((6, vI z) :: (5, vI k) :: lwV E b i) hl (by decide) rfl (gdec kL_law_8 2 rfl) (fun ls hl => ?_)
  refine g_tail C h ho8 ho2 hl ⟨by omega, by omega⟩ ⟨by omega, by omega⟩ q3 hf (tgt := 1364) (by decide) (gdec kL_law_8 3 rfl) (gdec kL_law_8 4 rfl) (gdec kL_law_8 5 rfl) (gdec kL_law_8 6 rfl) (gdec kL_law_8 9 rfl) (gdec kL_law_8 10 rfl) (gdec kL_law_8 11 rfl) (gdec kL_law_8 12 rfl) (gdec kL_law_8 13 rfl) (gdec kL_law_8 14 rfl) (gdec kL_law_8 15 rfl) (gdec kL_law_8 16 rfl) (gdec kL_law_8 17 rfl) (gdec kL_law_8 20 rfl) (fun H locs h hl => ?_)
  exact W.widen (by omega) (by omega) (kk H locs h ls hl)
set_option maxHeartbeats 4000000 in
set_option maxRecDepth 100000 in
theorem lw_op10 (C : gC p s m args meth c RL cL_law 9 (some .boolean) E) (hst : l.stackTraces = false) (X : lwX b L xs s E) (ho : gOk E 7 0) (ho8 : gOk E 8 0) (ho2 : gOk E 13 0) (h : gH E s G H locs) (hi : 0 ≤ i ∧ i + 4 < L) (hl : lv_has ls 9 (lwV E b i)) (hR : 13 ≤ R.frames ∧ 490 ≤ R.locals) (hcs : cells + 4 ≤ R.cells ∧ slots + 24 ≤ R.slots) (hf : lwT (f_L_value G (lw_w xs i 1)) (fun G1 => f_X8_value G1 (lw_w xs i 1)) = some G2) (kk : ∀ (H : Heap) (locs : List Loc), gH E s G2 H locs → ∀ ls, lv_has ls 9 (lwV E b i) → W p l e R s m args below meth c H locs (cells + 4) (slots + 24) Q (F0 m 1364 ls [])) : W p l e R s m args below meth c H locs cells slots Q (F0 m 865 ls []) := by
  unfold lwT at hf
  obtain ⟨G1, k, q1, hf⟩ := bnd_s hf
  obtain ⟨G3, z, q2, hf⟩ := bnd_s hf
  obtain ⟨t, q3, hf⟩ := bn1_s hf
  unfold lwV at hl
  refine g_aload_n C hl 3 rfl rfl (gdec kL_law_8 21 rfl) ?_
  refine g_scr C X h hl (k := 1) (by decide) ⟨hi.1, by omega⟩ 4 0 rfl rfl (gdec kL_law_8 22 rfl) (gdec kL_law_8 23 rfl) (gdec kL_law_8 24 rfl) (gdec kL_law_8 25 rfl) (gdec kL_law_8 26 rfl) ?_
  refine g_aload_n C hl 1 rfl rfl (gdec kL_law_8 27 rfl) ?_
  refine g_ci h (g_runSW (rest := []) C h (c_L_value l hst E _ _ ho ho2 _ _ q1) wM_L_112 wT_L_value wN_L wC_L_value rfl ny_L_value rfl ⟨Nat.le_trans (Nat.le_of_ble_eq_true rfl) hR.1, Nat.le_trans (Nat.le_of_ble_eq_true rfl) hR.2⟩ hl.1 rfl (Nat.le_of_ble_eq_true rfl) (gdec kL_law_8 28 rfl) ⟨by omega, by omega⟩) (fun H locs h => ?_)
  refine g_istore C ((5, vI k) :: lwV E b i) hl (by decide) rfl (gdec kL_law_8 29 rfl) (fun ls hl => ?_)
  unfold lwV at hl
  refine g_aload_n C hl 3 rfl rfl (gdec kL_law_8 30 rfl) ?_
  refine g_scr C X h hl (k := 1) (by decide) ⟨hi.1, by omega⟩ 5 1 rfl rfl (gdec kL_law_8 31 rfl) (gdec kL_law_8 32 rfl) (gdec kL_law_8 33 rfl) (gdec kL_law_8 34 rfl) (gdec kL_law_8 35 rfl) ?_
  refine g_ci h (g_runV (rest := []) C h ho8 (by decide) rfl (c_X8_value l E _ _ ho8 _ _ q2) wM_L_114 wI_X8_value wS_X8_value wN_X8 wC_X8_value rfl ny_X8_value rfl ⟨Nat.le_trans (Nat.le_of_ble_eq_true rfl) hR.1, Nat.le_trans (Nat.le_of_ble_eq_true rfl) hR.2⟩ hl.1 rfl (Nat.le_of_ble_eq_true rfl) (gdec kL_law_8 36 rfl) ⟨by omega, by omega⟩) (fun H locs h => ?_)
  refine g_istore C ((6, vI z) :: (5, vI k) :: lwV E b i) hl (by decide) rfl (gdec kL_law_8 37 rfl) (fun ls hl => ?_)
  refine g_tail C h ho8 ho2 hl ⟨by omega, by omega⟩ ⟨by omega, by omega⟩ q3 hf (tgt := 1364) (by decide) (gdec kL_law_8 38 rfl) (gdec kL_law_8 39 rfl) (gdec kL_law_8 40 rfl) (gdec kL_law_8 41 rfl) (gdec kL_law_8 44 rfl) (gdec kL_law_8 45 rfl) (gdec kL_law_8 46 rfl) (gdec kL_law_8 47 rfl) (gdec kL_law_8 48 rfl) (gdec kL_law_8 49 rfl) (gdec kL_law_8 50 rfl) (gdec kL_law_8 51 rfl) (gdec kL_law_8 52 rfl) (gdec kL_law_8 55 rfl) (fun H locs h hl => ?_)
  exact W.widen (by omega) (by omega) (kk H locs h ls hl)
set_option maxHeartbeats 4000000 in
set_option maxRecDepth 100000 in
theorem lw_op11 (C : gC p s m args meth c RL cL_law 9 (some .boolean) E) (hst : l.stackTraces = false) (X : lwX b L xs s E) (ho : gOk E 7 0) (ho8 : gOk E 8 0) (ho2 : gOk E 13 0) (h : gH E s G H locs) (hi : 0 ≤ i ∧ i + 4 < L) (hl : lv_has ls 9 (lwV E b i)) (hR : 13 ≤ R.frames ∧ 490 ≤ R.locals) (hcs : cells + 4 ≤ R.cells ∧ slots + 24 ≤ R.slots) (hf : lwT (f_L_why G (lw_w xs i 1)) (fun G1 => f_X8_why G1 (lw_w xs i 1)) = some G2) (kk : ∀ (H : Heap) (locs : List Loc), gH E s G2 H locs → ∀ ls, lv_has ls 9 (lwV E b i) → W p l e R s m args below meth c H locs (cells + 4) (slots + 24) Q (F0 m 1364 ls [])) : W p l e R s m args below meth c H locs cells slots Q (F0 m 921 ls []) := by
  unfold lwT at hf
  obtain ⟨G1, k, q1, hf⟩ := bnd_s hf
  obtain ⟨G3, z, q2, hf⟩ := bnd_s hf
  obtain ⟨t, q3, hf⟩ := bn1_s hf
  unfold lwV at hl
  refine g_aload_n C hl 3 rfl rfl (gdec kL_law_8 56 rfl) ?_
  refine g_scr C X h hl (k := 1) (by decide) ⟨hi.1, by omega⟩ 4 0 rfl rfl (gdec kL_law_8 57 rfl) (gdec kL_law_8 58 rfl) (gdec kL_law_8 59 rfl) (gdec kL_law_9 0 rfl) (gdec kL_law_9 1 rfl) ?_
  refine g_aload_n C hl 1 rfl rfl (gdec kL_law_9 2 rfl) ?_
  refine g_ci h (g_runSW (rest := []) C h (c_L_why l hst E _ _ ho ho2 _ _ q1) wM_L_115 wT_L_why wN_L wC_L_why rfl ny_L_why rfl ⟨Nat.le_trans (Nat.le_of_ble_eq_true rfl) hR.1, Nat.le_trans (Nat.le_of_ble_eq_true rfl) hR.2⟩ hl.1 rfl (Nat.le_of_ble_eq_true rfl) (gdec kL_law_9 3 rfl) ⟨by omega, by omega⟩) (fun H locs h => ?_)
  refine g_istore C ((5, vI k) :: lwV E b i) hl (by decide) rfl (gdec kL_law_9 4 rfl) (fun ls hl => ?_)
  unfold lwV at hl
  refine g_aload_n C hl 3 rfl rfl (gdec kL_law_9 5 rfl) ?_
  refine g_scr C X h hl (k := 1) (by decide) ⟨hi.1, by omega⟩ 5 1 rfl rfl (gdec kL_law_9 6 rfl) (gdec kL_law_9 7 rfl) (gdec kL_law_9 8 rfl) (gdec kL_law_9 9 rfl) (gdec kL_law_9 10 rfl) ?_
  refine g_ci h (g_runV (rest := []) C h ho8 (by decide) rfl (c_X8_why l E _ _ ho8 _ _ q2) wM_L_117 wI_X8_why wS_X8_why wN_X8 wC_X8_why rfl ny_X8_why rfl ⟨Nat.le_trans (Nat.le_of_ble_eq_true rfl) hR.1, Nat.le_trans (Nat.le_of_ble_eq_true rfl) hR.2⟩ hl.1 rfl (Nat.le_of_ble_eq_true rfl) (gdec kL_law_9 11 rfl) ⟨by omega, by omega⟩) (fun H locs h => ?_)
  refine g_istore C ((6, vI z) :: (5, vI k) :: lwV E b i) hl (by decide) rfl (gdec kL_law_9 12 rfl) (fun ls hl => ?_)
  refine g_tail C h ho8 ho2 hl ⟨by omega, by omega⟩ ⟨by omega, by omega⟩ q3 hf (tgt := 1364) (by decide) (gdec kL_law_9 13 rfl) (gdec kL_law_9 14 rfl) (gdec kL_law_9 15 rfl) (gdec kL_law_9 16 rfl) (gdec kL_law_9 19 rfl) (gdec kL_law_9 20 rfl) (gdec kL_law_9 21 rfl) (gdec kL_law_9 22 rfl) (gdec kL_law_9 23 rfl) (gdec kL_law_9 24 rfl) (gdec kL_law_9 25 rfl) (gdec kL_law_9 26 rfl) (gdec kL_law_9 27 rfl) (gdec kL_law_9 30 rfl) (fun H locs h hl => ?_)
  exact W.widen (by omega) (by omega) (kk H locs h ls hl)
set_option maxHeartbeats 4000000 in
set_option maxRecDepth 100000 in
theorem lw_op12 (C : gC p s m args meth c RL cL_law 9 (some .boolean) E) (hst : l.stackTraces = false) (X : lwX b L xs s E) (ho : gOk E 7 0) (ho8 : gOk E 8 0) (ho2 : gOk E 13 0) (h : gH E s G H locs) (hi : 0 ≤ i ∧ i + 4 < L) (hl : lv_has ls 9 (lwV E b i)) (hR : 13 ≤ R.frames ∧ 490 ≤ R.locals) (hcs : cells + 4 ≤ R.cells ∧ slots + 24 ≤ R.slots) (hf : lwT (f_L_hoursTo G (lw_w xs i 1)) (fun G1 => f_X8_hoursTo G1 (lw_w xs i 1)) = some G2) (kk : ∀ (H : Heap) (locs : List Loc), gH E s G2 H locs → ∀ ls, lv_has ls 9 (lwV E b i) → W p l e R s m args below meth c H locs (cells + 4) (slots + 24) Q (F0 m 1364 ls [])) : W p l e R s m args below meth c H locs cells slots Q (F0 m 977 ls []) := by
  unfold lwT at hf
  obtain ⟨G1, k, q1, hf⟩ := bnd_s hf
  obtain ⟨G3, z, q2, hf⟩ := bnd_s hf
  obtain ⟨t, q3, hf⟩ := bn1_s hf
  unfold lwV at hl
  refine g_aload_n C hl 3 rfl rfl (gdec kL_law_9 31 rfl) ?_
  refine g_scr C X h hl (k := 1) (by decide) ⟨hi.1, by omega⟩ 4 0 rfl rfl (gdec kL_law_9 32 rfl) (gdec kL_law_9 33 rfl) (gdec kL_law_9 34 rfl) (gdec kL_law_9 35 rfl) (gdec kL_law_9 36 rfl) ?_
  refine g_aload_n C hl 1 rfl rfl (gdec kL_law_9 37 rfl) ?_
  refine g_ci h (g_runSW (rest := []) C h (c_L_hoursTo l hst E _ _ ho ho2 _ _ q1) wM_L_118 wT_L_hoursTo wN_L wC_L_hoursTo rfl ny_L_hoursTo rfl ⟨Nat.le_trans (Nat.le_of_ble_eq_true rfl) hR.1, Nat.le_trans (Nat.le_of_ble_eq_true rfl) hR.2⟩ hl.1 rfl (Nat.le_of_ble_eq_true rfl) (gdec kL_law_9 38 rfl) ⟨by omega, by omega⟩) (fun H locs h => ?_)
  refine g_istore C ((5, vI k) :: lwV E b i) hl (by decide) rfl (gdec kL_law_9 39 rfl) (fun ls hl => ?_)
  unfold lwV at hl
  refine g_aload_n C hl 3 rfl rfl (gdec kL_law_9 40 rfl) ?_
  refine g_scr C X h hl (k := 1) (by decide) ⟨hi.1, by omega⟩ 5 1 rfl rfl (gdec kL_law_9 41 rfl) (gdec kL_law_9 42 rfl) (gdec kL_law_9 43 rfl) (gdec kL_law_9 44 rfl) (gdec kL_law_9 45 rfl) ?_
  refine g_ci h (g_runV (rest := []) C h ho8 (by decide) rfl (c_X8_hoursTo l E _ _ ho8 _ _ q2) wM_L_120 wI_X8_hoursTo wS_X8_hoursTo wN_X8 wC_X8_hoursTo rfl ny_X8_hoursTo rfl ⟨Nat.le_trans (Nat.le_of_ble_eq_true rfl) hR.1, Nat.le_trans (Nat.le_of_ble_eq_true rfl) hR.2⟩ hl.1 rfl (Nat.le_of_ble_eq_true rfl) (gdec kL_law_9 46 rfl) ⟨by omega, by omega⟩) (fun H locs h => ?_)
  refine g_istore C ((6, vI z) :: (5, vI k) :: lwV E b i) hl (by decide) rfl (gdec kL_law_9 47 rfl) (fun ls hl => ?_)
  refine g_tail C h ho8 ho2 hl ⟨by omega, by omega⟩ ⟨by omega, by omega⟩ q3 hf (tgt := 1364) (by decide) (gdec kL_law_9 48 rfl) (gdec kL_law_9 49 rfl) (gdec kL_law_9 50 rfl) (gdec kL_law_9 51 rfl) (gdec kL_law_9 54 rfl) (gdec kL_law_9 55 rfl) (gdec kL_law_9 56 rfl) (gdec kL_law_9 57 rfl) (gdec kL_law_9 58 rfl) (gdec kL_law_9 59 rfl) (gdec kL_law_10 0 rfl) (gdec kL_law_10 1 rfl) (gdec kL_law_10 2 rfl) (gdec kL_law_10 5 rfl) (fun H locs h hl => ?_)
  exact W.widen (by omega) (by omega) (kk H locs h ls hl)
set_option maxHeartbeats 4000000 in
set_option maxRecDepth 100000 in
theorem lw_op13 (C : gC p s m args meth c RL cL_law 9 (some .boolean) E) (hst : l.stackTraces = false) (X : lwX b L xs s E) (ho : gOk E 7 0) (ho8 : gOk E 8 0) (ho2 : gOk E 13 0) (h : gH E s G H locs) (hi : 0 ≤ i ∧ i + 4 < L) (hl : lv_has ls 9 (lwV E b i)) (hR : 13 ≤ R.frames ∧ 490 ≤ R.locals) (hcs : cells + 4 ≤ R.cells ∧ slots + 24 ≤ R.slots) (hf : lwU (f_X7_hoursToAll G) (fun G1 => f_X8_hoursToAll G1) = some G2) (kk : ∀ (H : Heap) (locs : List Loc), gH E s G2 H locs → ∀ ls, lv_has ls 9 (lwV E b i) → W p l e R s m args below meth c H locs (cells + 4) (slots + 24) Q (F0 m 1364 ls [])) : W p l e R s m args below meth c H locs cells slots Q (F0 m 1033 ls []) := by
  unfold lwU at hf
  obtain ⟨G1, u, q1, hf⟩ := bnd_s hf
  obtain ⟨G3, v, q2, hf⟩ := bnd_s hf
  obtain ⟨g1, hf⟩ := gd_s hf
  obtain ⟨g2, hf⟩ := gd_s hf
  unfold lwV at hl
  refine g_aload_n C hl 3 rfl rfl (gdec kL_law_10 6 rfl) ?_
  refine g_ci h (g_runV (rest := []) C h ho (by decide) rfl (c_X7_hoursToAll l E _ ho _ _ q1) wM_L_121 wI_X7_hoursToAll wS_X7_hoursToAll wN_X7 wC_X7_hoursToAll rfl ny_X7_hoursToAll rfl ⟨Nat.le_trans (Nat.le_of_ble_eq_true rfl) hR.1, Nat.le_trans (Nat.le_of_ble_eq_true rfl) hR.2⟩ hl.1 rfl (Nat.le_of_ble_eq_true rfl) (gdec kL_law_10 7 rfl) ⟨by omega, by omega⟩) (fun H locs h => ?_)
  refine g_aload_n C hl 2 rfl rfl (gdec kL_law_10 8 rfl) ?_
  refine g_ci h (g_runV (rest := [vI u]) C h ho8 (by decide) rfl (c_X8_hoursToAll l E _ ho8 _ _ q2) wM_L_124 wI_X8_hoursToAll wS_X8_hoursToAll wN_X8 wC_X8_hoursToAll rfl ny_X8_hoursToAll rfl ⟨Nat.le_trans (Nat.le_of_ble_eq_true rfl) hR.1, Nat.le_trans (Nat.le_of_ble_eq_true rfl) hR.2⟩ hl.1 rfl (Nat.le_of_ble_eq_true rfl) (gdec kL_law_10 9 rfl) ⟨by omega, by omega⟩) (fun H locs h => ?_)
  by_cases e1 : u = v
  · rw [if_pos e1] at hf
    cases hf
    refine g_icmp_eq C (tgt := 1364) g1 g2 (by decide) (gdec kL_law_10 10 rfl) (fun _ => ?_) (fun q => absurd e1 q)
    exact W.widen (by omega) (by omega) (kk H locs h ls hl)
  · rw [if_neg e1] at hf
    cases hf
set_option maxHeartbeats 4000000 in
set_option maxRecDepth 100000 in
theorem lw_op14 (C : gC p s m args meth c RL cL_law 9 (some .boolean) E) (hst : l.stackTraces = false) (X : lwX b L xs s E) (ho : gOk E 7 0) (ho8 : gOk E 8 0) (ho2 : gOk E 13 0) (h : gH E s G H locs) (hi : 0 ≤ i ∧ i + 4 < L) (hl : lv_has ls 9 (lwV E b i)) (hR : 13 ≤ R.frames ∧ 490 ≤ R.locals) (hcs : cells + 4 ≤ R.cells ∧ slots + 24 ≤ R.slots) (hf : lwU (f_X7_bestInn G) (fun G1 => f_X8_bestInn G1) = some G2) (kk : ∀ (H : Heap) (locs : List Loc), gH E s G2 H locs → ∀ ls, lv_has ls 9 (lwV E b i) → W p l e R s m args below meth c H locs (cells + 4) (slots + 24) Q (F0 m 1364 ls [])) : W p l e R s m args below meth c H locs cells slots Q (F0 m 1046 ls []) := by
  unfold lwU at hf
  obtain ⟨G1, u, q1, hf⟩ := bnd_s hf
  obtain ⟨G3, v, q2, hf⟩ := bnd_s hf
  obtain ⟨g1, hf⟩ := gd_s hf
  obtain ⟨g2, hf⟩ := gd_s hf
  unfold lwV at hl
  refine g_aload_n C hl 3 rfl rfl (gdec kL_law_10 13 rfl) ?_
  refine g_ci h (g_runV (rest := []) C h ho (by decide) rfl (c_X7_bestInn l E _ ho _ _ q1) wM_L_125 wI_X7_bestInn wS_X7_bestInn wN_X7 wC_X7_bestInn rfl ny_X7_bestInn rfl ⟨Nat.le_trans (Nat.le_of_ble_eq_true rfl) hR.1, Nat.le_trans (Nat.le_of_ble_eq_true rfl) hR.2⟩ hl.1 rfl (Nat.le_of_ble_eq_true rfl) (gdec kL_law_10 14 rfl) ⟨by omega, by omega⟩) (fun H locs h => ?_)
  refine g_aload_n C hl 2 rfl rfl (gdec kL_law_10 15 rfl) ?_
  refine g_ci h (g_runV (rest := [vI u]) C h ho8 (by decide) rfl (c_X8_bestInn l E _ ho8 _ _ q2) wM_L_128 wI_X8_bestInn wS_X8_bestInn wN_X8 wC_X8_bestInn rfl ny_X8_bestInn rfl ⟨Nat.le_trans (Nat.le_of_ble_eq_true rfl) hR.1, Nat.le_trans (Nat.le_of_ble_eq_true rfl) hR.2⟩ hl.1 rfl (Nat.le_of_ble_eq_true rfl) (gdec kL_law_10 16 rfl) ⟨by omega, by omega⟩) (fun H locs h => ?_)
  by_cases e1 : u = v
  · rw [if_pos e1] at hf
    cases hf
    refine g_icmp_eq C (tgt := 1364) g1 g2 (by decide) (gdec kL_law_10 17 rfl) (fun _ => ?_) (fun q => absurd e1 q)
    exact W.widen (by omega) (by omega) (kk H locs h ls hl)
  · rw [if_neg e1] at hf
    cases hf
set_option maxHeartbeats 4000000 in
set_option maxRecDepth 100000 in
theorem lw_op15 (C : gC p s m args meth c RL cL_law 9 (some .boolean) E) (hst : l.stackTraces = false) (X : lwX b L xs s E) (ho : gOk E 7 0) (ho8 : gOk E 8 0) (ho2 : gOk E 13 0) (h : gH E s G H locs) (hi : 0 ≤ i ∧ i + 4 < L) (hl : lv_has ls 9 (lwV E b i)) (hR : 13 ≤ R.frames ∧ 490 ≤ R.locals) (hcs : cells + 4 ≤ R.cells ∧ slots + 24 ≤ R.slots) (hf : lwT (f_L_way G (lw_w xs i 1) (lw_w xs i 2)) (fun G1 => f_X8_way G1 (lw_w xs i 1) (lw_w xs i 2)) = some G2) (kk : ∀ (H : Heap) (locs : List Loc), gH E s G2 H locs → ∀ ls, lv_has ls 9 (lwV E b i) → W p l e R s m args below meth c H locs (cells + 4) (slots + 24) Q (F0 m 1364 ls [])) : W p l e R s m args below meth c H locs cells slots Q (F0 m 1059 ls []) := by
  unfold lwT at hf
  obtain ⟨G1, k, q1, hf⟩ := bnd_s hf
  obtain ⟨G3, z, q2, hf⟩ := bnd_s hf
  obtain ⟨t, q3, hf⟩ := bn1_s hf
  unfold lwV at hl
  refine g_aload_n C hl 3 rfl rfl (gdec kL_law_10 20 rfl) ?_
  refine g_scr C X h hl (k := 1) (by decide) ⟨hi.1, by omega⟩ 4 0 rfl rfl (gdec kL_law_10 21 rfl) (gdec kL_law_10 22 rfl) (gdec kL_law_10 23 rfl) (gdec kL_law_10 24 rfl) (gdec kL_law_10 25 rfl) ?_
  refine g_scr C X h hl (k := 2) (by decide) ⟨hi.1, by omega⟩ 4 0 rfl rfl (gdec kL_law_10 26 rfl) (gdec kL_law_10 27 rfl) (gdec kL_law_10 28 rfl) (gdec kL_law_10 29 rfl) (gdec kL_law_10 30 rfl) ?_
  refine g_aload_n C hl 1 rfl rfl (gdec kL_law_10 31 rfl) ?_
  refine g_ci h (g_runSW (rest := []) C h (c_L_way l hst E _ _ _ ho ho2 _ _ q1) wM_L_129 wT_L_way wN_L wC_L_way rfl ny_L_way rfl ⟨Nat.le_trans (Nat.le_of_ble_eq_true rfl) hR.1, Nat.le_trans (Nat.le_of_ble_eq_true rfl) hR.2⟩ hl.1 rfl (Nat.le_of_ble_eq_true rfl) (gdec kL_law_10 32 rfl) ⟨by omega, by omega⟩) (fun H locs h => ?_)
  refine g_istore C ((5, vI k) :: lwV E b i) hl (by decide) rfl (gdec kL_law_10 33 rfl) (fun ls hl => ?_)
  unfold lwV at hl
  refine g_aload_n C hl 3 rfl rfl (gdec kL_law_10 34 rfl) ?_
  refine g_scr C X h hl (k := 1) (by decide) ⟨hi.1, by omega⟩ 5 1 rfl rfl (gdec kL_law_10 35 rfl) (gdec kL_law_10 36 rfl) (gdec kL_law_10 37 rfl) (gdec kL_law_10 38 rfl) (gdec kL_law_10 39 rfl) ?_
  refine g_scr C X h hl (k := 2) (by decide) ⟨hi.1, by omega⟩ 5 1 rfl rfl (gdec kL_law_10 40 rfl) (gdec kL_law_10 41 rfl) (gdec kL_law_10 42 rfl) (gdec kL_law_10 43 rfl) (gdec kL_law_10 44 rfl) ?_
  refine g_ci h (g_runV (rest := []) C h ho8 (by decide) rfl (c_X8_way l E _ _ _ ho8 _ _ q2) wM_L_131 wI_X8_way wS_X8_way wN_X8 wC_X8_way rfl ny_X8_way rfl ⟨Nat.le_trans (Nat.le_of_ble_eq_true rfl) hR.1, Nat.le_trans (Nat.le_of_ble_eq_true rfl) hR.2⟩ hl.1 rfl (Nat.le_of_ble_eq_true rfl) (gdec kL_law_10 45 rfl) ⟨by omega, by omega⟩) (fun H locs h => ?_)
  refine g_istore C ((6, vI z) :: (5, vI k) :: lwV E b i) hl (by decide) rfl (gdec kL_law_10 46 rfl) (fun ls hl => ?_)
  refine g_tail C h ho8 ho2 hl ⟨by omega, by omega⟩ ⟨by omega, by omega⟩ q3 hf (tgt := 1364) (by decide) (gdec kL_law_10 47 rfl) (gdec kL_law_10 48 rfl) (gdec kL_law_10 49 rfl) (gdec kL_law_10 50 rfl) (gdec kL_law_10 53 rfl) (gdec kL_law_10 54 rfl) (gdec kL_law_10 55 rfl) (gdec kL_law_10 56 rfl) (gdec kL_law_10 57 rfl) (gdec kL_law_10 58 rfl) (gdec kL_law_10 59 rfl) (gdec kL_law_11 0 rfl) (gdec kL_law_11 1 rfl) (gdec kL_law_11 4 rfl) (fun H locs h hl => ?_)
  exact W.widen (by omega) (by omega) (kk H locs h ls hl)
set_option maxHeartbeats 4000000 in
set_option maxRecDepth 100000 in
theorem lw_op16 (C : gC p s m args meth c RL cL_law 9 (some .boolean) E) (hst : l.stackTraces = false) (X : lwX b L xs s E) (ho : gOk E 7 0) (ho8 : gOk E 8 0) (ho2 : gOk E 13 0) (h : gH E s G H locs) (hi : 0 ≤ i ∧ i + 4 < L) (hl : lv_has ls 9 (lwV E b i)) (hR : 13 ≤ R.frames ∧ 490 ≤ R.locals) (hcs : cells + 4 ≤ R.cells ∧ slots + 24 ≤ R.slots) (hf : lwT (f_L_effortHome G (lw_w xs i 1)) (fun G1 => f_X8_effortHome G1 (lw_w xs i 1)) = some G2) (kk : ∀ (H : Heap) (locs : List Loc), gH E s G2 H locs → ∀ ls, lv_has ls 9 (lwV E b i) → W p l e R s m args below meth c H locs (cells + 4) (slots + 24) Q (F0 m 1364 ls [])) : W p l e R s m args below meth c H locs cells slots Q (F0 m 1127 ls []) := by
  unfold lwT at hf
  obtain ⟨G1, k, q1, hf⟩ := bnd_s hf
  obtain ⟨G3, z, q2, hf⟩ := bnd_s hf
  obtain ⟨t, q3, hf⟩ := bn1_s hf
  unfold lwV at hl
  refine g_aload_n C hl 3 rfl rfl (gdec kL_law_11 5 rfl) ?_
  refine g_scr C X h hl (k := 1) (by decide) ⟨hi.1, by omega⟩ 4 0 rfl rfl (gdec kL_law_11 6 rfl) (gdec kL_law_11 7 rfl) (gdec kL_law_11 8 rfl) (gdec kL_law_11 9 rfl) (gdec kL_law_11 10 rfl) ?_
  refine g_aload_n C hl 1 rfl rfl (gdec kL_law_11 11 rfl) ?_
  refine g_ci h (g_runSW (rest := []) C h (c_L_effortHome l hst E _ _ ho ho2 _ _ q1) wM_L_132 wT_L_effortHome wN_L wC_L_effortHome rfl ny_L_effortHome rfl ⟨Nat.le_trans (Nat.le_of_ble_eq_true rfl) hR.1, Nat.le_trans (Nat.le_of_ble_eq_true rfl) hR.2⟩ hl.1 rfl (Nat.le_of_ble_eq_true rfl) (gdec kL_law_11 12 rfl) ⟨by omega, by omega⟩) (fun H locs h => ?_)
  refine g_istore C ((5, vI k) :: lwV E b i) hl (by decide) rfl (gdec kL_law_11 13 rfl) (fun ls hl => ?_)
  unfold lwV at hl
  refine g_aload_n C hl 3 rfl rfl (gdec kL_law_11 14 rfl) ?_
  refine g_scr C X h hl (k := 1) (by decide) ⟨hi.1, by omega⟩ 5 1 rfl rfl (gdec kL_law_11 15 rfl) (gdec kL_law_11 16 rfl) (gdec kL_law_11 17 rfl) (gdec kL_law_11 18 rfl) (gdec kL_law_11 19 rfl) ?_
  refine g_ci h (g_runV (rest := []) C h ho8 (by decide) rfl (c_X8_effortHome l E _ _ ho8 _ _ q2) wM_L_134 wI_X8_effortHome wS_X8_effortHome wN_X8 wC_X8_effortHome rfl ny_X8_effortHome rfl ⟨Nat.le_trans (Nat.le_of_ble_eq_true rfl) hR.1, Nat.le_trans (Nat.le_of_ble_eq_true rfl) hR.2⟩ hl.1 rfl (Nat.le_of_ble_eq_true rfl) (gdec kL_law_11 20 rfl) ⟨by omega, by omega⟩) (fun H locs h => ?_)
  refine g_istore C ((6, vI z) :: (5, vI k) :: lwV E b i) hl (by decide) rfl (gdec kL_law_11 21 rfl) (fun ls hl => ?_)
  refine g_tail C h ho8 ho2 hl ⟨by omega, by omega⟩ ⟨by omega, by omega⟩ q3 hf (tgt := 1364) (by decide) (gdec kL_law_11 22 rfl) (gdec kL_law_11 23 rfl) (gdec kL_law_11 24 rfl) (gdec kL_law_11 25 rfl) (gdec kL_law_11 28 rfl) (gdec kL_law_11 29 rfl) (gdec kL_law_11 30 rfl) (gdec kL_law_11 31 rfl) (gdec kL_law_11 32 rfl) (gdec kL_law_11 33 rfl) (gdec kL_law_11 34 rfl) (gdec kL_law_11 35 rfl) (gdec kL_law_11 36 rfl) (gdec kL_law_11 39 rfl) (fun H locs h hl => ?_)
  exact W.widen (by omega) (by omega) (kk H locs h ls hl)
set_option maxHeartbeats 4000000 in
set_option maxRecDepth 100000 in
theorem lw_op17 (C : gC p s m args meth c RL cL_law 9 (some .boolean) E) (hst : l.stackTraces = false) (X : lwX b L xs s E) (ho : gOk E 7 0) (ho8 : gOk E 8 0) (ho2 : gOk E 13 0) (h : gH E s G H locs) (hi : 0 ≤ i ∧ i + 4 < L) (hl : lv_has ls 9 (lwV E b i)) (hR : 13 ≤ R.frames ∧ 490 ≤ R.locals) (hcs : cells + 4 ≤ R.cells ∧ slots + 24 ≤ R.slots) (hf : lwD (f_X7_meanTiredness G) (f_X8_meanTiredness G) = some G2) (kk : ∀ (H : Heap) (locs : List Loc), gH E s G2 H locs → ∀ ls, lv_has ls 9 (lwV E b i) → W p l e R s m args below meth c H locs (cells + 4) (slots + 24) Q (F0 m 1364 ls [])) : W p l e R s m args below meth c H locs cells slots Q (F0 m 1183 ls []) := by
  unfold lwD at hf
  obtain ⟨u, q1, hf⟩ := bn1_s hf
  obtain ⟨G3, v, q2, hf⟩ := bnd_s hf
  by_cases e1 : FP.dcmp u v = some .eq
  · rw [if_pos e1] at hf
    cases hf
    unfold lwV at hl
    refine g_aload_n C hl 3 rfl rfl (gdec kL_law_11 40 rfl) ?_
    refine g_cd h (g_runV (rest := []) C h ho (by decide) rfl (c_X7_meanTiredness l E _ ho _ q1) wM_L_135 wI_X7_meanTiredness wS_X7_meanTiredness wN_X7 wC_X7_meanTiredness rfl ny_X7_meanTiredness rfl ⟨Nat.le_trans (Nat.le_of_ble_eq_true rfl) hR.1, Nat.le_trans (Nat.le_of_ble_eq_true rfl) hR.2⟩ hl.1 rfl (Nat.le_of_ble_eq_true rfl) (gdec kL_law_11 41 rfl) ⟨by omega, by omega⟩) (fun H locs h => ?_)
    refine lv_dstore (lv' := (5, .double u) :: lwV E b i) C.1 C.2.1 (gdec kL_law_11 42 rfl) hl (by decide) rfl (fun ls hl => ?_)
    unfold lwV at hl
    refine g_aload_n C hl 3 rfl rfl (gdec kL_law_11 43 rfl) ?_
    refine g_cd h (g_runV (rest := []) C h ho8 (by decide) rfl (c_X8_meanTiredness l E _ ho8 _ _ q2) wM_L_139 wI_X8_meanTiredness wS_X8_meanTiredness wN_X8 wC_X8_meanTiredness rfl ny_X8_meanTiredness rfl ⟨Nat.le_trans (Nat.le_of_ble_eq_true rfl) hR.1, Nat.le_trans (Nat.le_of_ble_eq_true rfl) hR.2⟩ hl.1 rfl (Nat.le_of_ble_eq_true rfl) (gdec kL_law_11 44 rfl) ⟨by omega, by omega⟩) (fun H locs h => ?_)
    refine lv_dstore (lv' := (7, .double v) :: (5, .double u) :: lwV E b i) C.1 C.2.1 (gdec kL_law_11 45 rfl) hl (by decide) rfl (fun ls hl => ?_)
    unfold lwV at hl
    refine lv_dload C.1 C.2.1 (gdec kL_law_11 46 rfl) (lv_at hl 1 rfl) ?_
    refine lv_dload C.1 C.2.1 (gdec kL_law_11 47 rfl) (lv_at hl 0 rfl) ?_
    refine lv_dcmp C.1 C.2.1 (gdec kL_law_11 48 rfl) ?_
    rw [e1]
    refine g_if_eq C (x := 0) (tgt := 1221) (by decide) (by decide) (gdec kL_law_11 49 rfl) (fun _ => ?_) (fun q => absurd rfl q)
    refine g_goto C (tgt := 1364) (by decide) (gdec kL_law_12 0 rfl) ?_
    exact W.widen (by omega) (by omega) (kk H locs h ls (lv_sub hl [2, 3, 4, 5, 6] rfl))
  · rw [if_neg e1] at hf
    cases hf
set_option maxHeartbeats 4000000 in
set_option maxRecDepth 100000 in
theorem lw_op18 (C : gC p s m args meth c RL cL_law 9 (some .boolean) E) (hst : l.stackTraces = false) (X : lwX b L xs s E) (ho : gOk E 7 0) (ho8 : gOk E 8 0) (ho2 : gOk E 13 0) (h : gH E s G H locs) (hi : 0 ≤ i ∧ i + 4 < L) (hl : lv_has ls 9 (lwV E b i)) (hR : 13 ≤ R.frames ∧ 490 ≤ R.locals) (hcs : cells + 4 ≤ R.cells ∧ slots + 24 ≤ R.slots) (hf : lwT (f_L_append G (lw_w xs i 1)) (fun G1 => f_X8_append G1 (lw_w xs i 1)) = some G2) (kk : ∀ (H : Heap) (locs : List Loc), gH E s G2 H locs → ∀ ls, lv_has ls 9 (lwV E b i) → W p l e R s m args below meth c H locs (cells + 4) (slots + 24) Q (F0 m 1364 ls [])) : W p l e R s m args below meth c H locs cells slots Q (F0 m 1224 ls []) := by
  unfold lwT at hf
  obtain ⟨G1, k, q1, hf⟩ := bnd_s hf
  obtain ⟨G3, z, q2, hf⟩ := bnd_s hf
  obtain ⟨t, q3, hf⟩ := bn1_s hf
  unfold lwV at hl
  refine g_aload_n C hl 3 rfl rfl (gdec kL_law_12 1 rfl) ?_
  refine g_scr C X h hl (k := 1) (by decide) ⟨hi.1, by omega⟩ 4 0 rfl rfl (gdec kL_law_12 2 rfl) (gdec kL_law_12 3 rfl) (gdec kL_law_12 4 rfl) (gdec kL_law_12 5 rfl) (gdec kL_law_12 6 rfl) ?_
  refine g_aload_n C hl 1 rfl rfl (gdec kL_law_12 7 rfl) ?_
  refine g_ci h (g_runSW (rest := []) C h (c_L_append l hst E _ _ ho ho2 _ _ q1) wM_L_140 wT_L_append wN_L wC_L_append rfl ny_L_append rfl ⟨Nat.le_trans (Nat.le_of_ble_eq_true rfl) hR.1, Nat.le_trans (Nat.le_of_ble_eq_true rfl) hR.2⟩ hl.1 rfl (Nat.le_of_ble_eq_true rfl) (gdec kL_law_12 8 rfl) ⟨by omega, by omega⟩) (fun H locs h => ?_)
  refine g_istore C ((5, vI k) :: lwV E b i) hl (by decide) rfl (gdec kL_law_12 9 rfl) (fun ls hl => ?_)
  unfold lwV at hl
  refine g_aload_n C hl 3 rfl rfl (gdec kL_law_12 10 rfl) ?_
  refine g_scr C X h hl (k := 1) (by decide) ⟨hi.1, by omega⟩ 5 1 rfl rfl (gdec kL_law_12 11 rfl) (gdec kL_law_12 12 rfl) (gdec kL_law_12 13 rfl) (gdec kL_law_12 14 rfl) (gdec kL_law_12 15 rfl) ?_
  refine g_ci h (g_runV (rest := []) C h ho8 (by decide) rfl (c_X8_append l E _ _ ho8 _ _ q2) wM_L_142 wI_X8_append wS_X8_append wN_X8 wC_X8_append rfl ny_X8_append rfl ⟨Nat.le_trans (Nat.le_of_ble_eq_true rfl) hR.1, Nat.le_trans (Nat.le_of_ble_eq_true rfl) hR.2⟩ hl.1 rfl (Nat.le_of_ble_eq_true rfl) (gdec kL_law_12 16 rfl) ⟨by omega, by omega⟩) (fun H locs h => ?_)
  refine g_istore C ((6, vI z) :: (5, vI k) :: lwV E b i) hl (by decide) rfl (gdec kL_law_12 17 rfl) (fun ls hl => ?_)
  refine g_tail C h ho8 ho2 hl ⟨by omega, by omega⟩ ⟨by omega, by omega⟩ q3 hf (tgt := 1364) (by decide) (gdec kL_law_12 18 rfl) (gdec kL_law_12 19 rfl) (gdec kL_law_12 20 rfl) (gdec kL_law_12 21 rfl) (gdec kL_law_12 24 rfl) (gdec kL_law_12 25 rfl) (gdec kL_law_12 26 rfl) (gdec kL_law_12 27 rfl) (gdec kL_law_12 28 rfl) (gdec kL_law_12 29 rfl) (gdec kL_law_12 30 rfl) (gdec kL_law_12 31 rfl) (gdec kL_law_12 32 rfl) (gdec kL_law_12 35 rfl) (fun H locs h hl => ?_)
  exact W.widen (by omega) (by omega) (kk H locs h ls hl)
set_option maxHeartbeats 4000000 in
set_option maxRecDepth 100000 in
theorem lw_op19 (C : gC p s m args meth c RL cL_law 9 (some .boolean) E) (hst : l.stackTraces = false) (X : lwX b L xs s E) (ho : gOk E 7 0) (ho8 : gOk E 8 0) (ho2 : gOk E 13 0) (h : gH E s G H locs) (hi : 0 ≤ i ∧ i + 4 < L) (hl : lv_has ls 9 (lwV E b i)) (hR : 13 ≤ R.frames ∧ 490 ≤ R.locals) (hcs : cells + 4 ≤ R.cells ∧ slots + 24 ≤ R.slots) (hf : lwU (f_X7_clearText G) (fun G1 => f_X8_clearText G1) = some G2) (kk : ∀ (H : Heap) (locs : List Loc), gH E s G2 H locs → ∀ ls, lv_has ls 9 (lwV E b i) → W p l e R s m args below meth c H locs (cells + 4) (slots + 24) Q (F0 m 1364 ls [])) : W p l e R s m args below meth c H locs cells slots Q (F0 m 1280 ls []) := by
  unfold lwU at hf
  obtain ⟨G1, u, q1, hf⟩ := bnd_s hf
  obtain ⟨G3, v, q2, hf⟩ := bnd_s hf
  obtain ⟨g1, hf⟩ := gd_s hf
  obtain ⟨g2, hf⟩ := gd_s hf
  unfold lwV at hl
  refine g_aload_n C hl 3 rfl rfl (gdec kL_law_12 36 rfl) ?_
  refine g_ci h (g_runV (rest := []) C h ho (by decide) rfl (c_X7_clearText l E _ ho _ _ q1) wM_L_143 wI_X7_clearText wS_X7_clearText wN_X7 wC_X7_clearText rfl ny_X7_clearText rfl ⟨Nat.le_trans (Nat.le_of_ble_eq_true rfl) hR.1, Nat.le_trans (Nat.le_of_ble_eq_true rfl) hR.2⟩ hl.1 rfl (Nat.le_of_ble_eq_true rfl) (gdec kL_law_12 37 rfl) ⟨by omega, by omega⟩) (fun H locs h => ?_)
  refine g_aload_n C hl 2 rfl rfl (gdec kL_law_12 38 rfl) ?_
  refine g_ci h (g_runV (rest := [vI u]) C h ho8 (by decide) rfl (c_X8_clearText l E _ ho8 _ _ q2) wM_L_146 wI_X8_clearText wS_X8_clearText wN_X8 wC_X8_clearText rfl ny_X8_clearText rfl ⟨Nat.le_trans (Nat.le_of_ble_eq_true rfl) hR.1, Nat.le_trans (Nat.le_of_ble_eq_true rfl) hR.2⟩ hl.1 rfl (Nat.le_of_ble_eq_true rfl) (gdec kL_law_12 39 rfl) ⟨by omega, by omega⟩) (fun H locs h => ?_)
  by_cases e1 : u = v
  · rw [if_pos e1] at hf
    cases hf
    refine g_icmp_eq C (tgt := 1364) g1 g2 (by decide) (gdec kL_law_12 40 rfl) (fun _ => ?_) (fun q => absurd e1 q)
    exact W.widen (by omega) (by omega) (kk H locs h ls hl)
  · rw [if_neg e1] at hf
    cases hf
set_option maxHeartbeats 4000000 in
set_option maxRecDepth 100000 in
theorem lw_op20 (C : gC p s m args meth c RL cL_law 9 (some .boolean) E) (hst : l.stackTraces = false) (X : lwX b L xs s E) (ho : gOk E 7 0) (ho8 : gOk E 8 0) (ho2 : gOk E 13 0) (h : gH E s G H locs) (hi : 0 ≤ i ∧ i + 4 < L) (hl : lv_has ls 9 (lwV E b i)) (hR : 13 ≤ R.frames ∧ 490 ≤ R.locals) (hcs : cells + 4 ≤ R.cells ∧ slots + 24 ≤ R.slots) (hf : lwU (f_X7_parse G) (fun G1 => f_X8_parse G1) = some G2) (kk : ∀ (H : Heap) (locs : List Loc), gH E s G2 H locs → ∀ ls, lv_has ls 9 (lwV E b i) → W p l e R s m args below meth c H locs (cells + 4) (slots + 24) Q (F0 m 1364 ls [])) : W p l e R s m args below meth c H locs cells slots Q (F0 m 1293 ls []) := by
  unfold lwU at hf
  obtain ⟨G1, u, q1, hf⟩ := bnd_s hf
  obtain ⟨G3, v, q2, hf⟩ := bnd_s hf
  obtain ⟨g1, hf⟩ := gd_s hf
  obtain ⟨g2, hf⟩ := gd_s hf
  unfold lwV at hl
  refine g_aload_n C hl 3 rfl rfl (gdec kL_law_12 43 rfl) ?_
  refine g_ci h (g_runV (rest := []) C h ho (by decide) rfl (c_X7_parse l E _ ho _ _ q1) wM_L_147 wI_X7_parse wS_X7_parse wN_X7 wC_X7_parse rfl ny_X7_parse rfl ⟨Nat.le_trans (Nat.le_of_ble_eq_true rfl) hR.1, Nat.le_trans (Nat.le_of_ble_eq_true rfl) hR.2⟩ hl.1 rfl (Nat.le_of_ble_eq_true rfl) (gdec kL_law_12 44 rfl) ⟨by omega, by omega⟩) (fun H locs h => ?_)
  refine g_aload_n C hl 2 rfl rfl (gdec kL_law_12 45 rfl) ?_
  refine g_ci h (g_runV (rest := [vI u]) C h ho8 (by decide) rfl (c_X8_parse l E _ ho8 _ _ q2) wM_L_150 wI_X8_parse wS_X8_parse wN_X8 wC_X8_parse rfl ny_X8_parse rfl ⟨Nat.le_trans (Nat.le_of_ble_eq_true rfl) hR.1, Nat.le_trans (Nat.le_of_ble_eq_true rfl) hR.2⟩ hl.1 rfl (Nat.le_of_ble_eq_true rfl) (gdec kL_law_12 46 rfl) ⟨by omega, by omega⟩) (fun H locs h => ?_)
  by_cases e1 : u = v
  · rw [if_pos e1] at hf
    cases hf
    refine g_icmp_eq C (tgt := 1364) g1 g2 (by decide) (gdec kL_law_12 47 rfl) (fun _ => ?_) (fun q => absurd e1 q)
    exact W.widen (by omega) (by omega) (kk H locs h ls hl)
  · rw [if_neg e1] at hf
    cases hf
set_option maxHeartbeats 4000000 in
set_option maxRecDepth 100000 in
theorem lw_op21 (C : gC p s m args meth c RL cL_law 9 (some .boolean) E) (hst : l.stackTraces = false) (X : lwX b L xs s E) (ho : gOk E 7 0) (ho8 : gOk E 8 0) (ho2 : gOk E 13 0) (h : gH E s G H locs) (hi : 0 ≤ i ∧ i + 4 < L) (hl : lv_has ls 9 (lwV E b i)) (hR : 13 ≤ R.frames ∧ 490 ≤ R.locals) (hcs : cells + 4 ≤ R.cells ∧ slots + 24 ≤ R.slots) (hf : lwT (f_L_undo G) (fun G1 => f_X8_undo G1) = some G2) (kk : ∀ (H : Heap) (locs : List Loc), gH E s G2 H locs → ∀ ls, lv_has ls 9 (lwV E b i) → W p l e R s m args below meth c H locs (cells + 4) (slots + 24) Q (F0 m 1364 ls [])) : W p l e R s m args below meth c H locs cells slots Q (F0 m 1306 ls []) := by
  unfold lwT at hf
  obtain ⟨G1, k, q1, hf⟩ := bnd_s hf
  obtain ⟨G3, z, q2, hf⟩ := bnd_s hf
  obtain ⟨t, q3, hf⟩ := bn1_s hf
  unfold lwV at hl
  refine g_aload_n C hl 3 rfl rfl (gdec kL_law_12 50 rfl) ?_
  refine g_aload_n C hl 1 rfl rfl (gdec kL_law_12 51 rfl) ?_
  refine g_ci h (g_runSW (rest := []) C h (c_L_undo l hst E _ ho ho2 _ _ q1) wM_L_151 wT_L_undo wN_L wC_L_undo rfl ny_L_undo rfl ⟨Nat.le_trans (Nat.le_of_ble_eq_true rfl) hR.1, Nat.le_trans (Nat.le_of_ble_eq_true rfl) hR.2⟩ hl.1 rfl (Nat.le_of_ble_eq_true rfl) (gdec kL_law_12 52 rfl) ⟨by omega, by omega⟩) (fun H locs h => ?_)
  refine g_istore C ((5, vI k) :: lwV E b i) hl (by decide) rfl (gdec kL_law_12 53 rfl) (fun ls hl => ?_)
  unfold lwV at hl
  refine g_aload_n C hl 3 rfl rfl (gdec kL_law_12 54 rfl) ?_
  refine g_ci h (g_runV (rest := []) C h ho8 (by decide) rfl (c_X8_undo l E _ ho8 _ _ q2) wM_L_154 wI_X8_undo wS_X8_undo wN_X8 wC_X8_undo rfl ny_X8_undo rfl ⟨Nat.le_trans (Nat.le_of_ble_eq_true rfl) hR.1, Nat.le_trans (Nat.le_of_ble_eq_true rfl) hR.2⟩ hl.1 rfl (Nat.le_of_ble_eq_true rfl) (gdec kL_law_12 55 rfl) ⟨by omega, by omega⟩) (fun H locs h => ?_)
  refine g_istore C ((6, vI z) :: (5, vI k) :: lwV E b i) hl (by decide) rfl (gdec kL_law_12 56 rfl) (fun ls hl => ?_)
  refine g_tail C h ho8 ho2 hl ⟨by omega, by omega⟩ ⟨by omega, by omega⟩ q3 hf (tgt := 1364) (by decide) (gdec kL_law_12 57 rfl) (gdec kL_law_12 58 rfl) (gdec kL_law_12 59 rfl) (gdec kL_law_13 0 rfl) (gdec kL_law_13 3 rfl) (gdec kL_law_13 4 rfl) (gdec kL_law_13 5 rfl) (gdec kL_law_13 6 rfl) (gdec kL_law_13 7 rfl) (gdec kL_law_13 8 rfl) (gdec kL_law_13 9 rfl) (gdec kL_law_13 10 rfl) (gdec kL_law_13 11 rfl) (gdec kL_law_13 14 rfl) (fun H locs h hl => ?_)
  exact W.widen (by omega) (by omega) (kk H locs h ls hl)
set_option maxHeartbeats 4000000 in
set_option maxRecDepth 100000 in
theorem lw_op22 (C : gC p s m args meth c RL cL_law 9 (some .boolean) E) (hst : l.stackTraces = false) (X : lwX b L xs s E) (ho : gOk E 7 0) (ho8 : gOk E 8 0) (ho2 : gOk E 13 0) (h : gH E s G H locs) (hi : 0 ≤ i ∧ i + 4 < L) (hl : lv_has ls 9 (lwV E b i)) (hR : 13 ≤ R.frames ∧ 490 ≤ R.locals) (hcs : cells + 4 ≤ R.cells ∧ slots + 24 ≤ R.slots) (hf : lwJ (f_X7_digest G) (fun G1 => f_X8_digest G1) = some G2) (kk : ∀ (H : Heap) (locs : List Loc), gH E s G2 H locs → ∀ ls, lv_has ls 9 (lwV E b i) → W p l e R s m args below meth c H locs (cells + 4) (slots + 24) Q (F0 m 1364 ls [])) : W p l e R s m args below meth c H locs cells slots Q (F0 m 1350 ls []) := by
  unfold lwJ at hf
  obtain ⟨G1, u, q1, hf⟩ := bnd_s hf
  obtain ⟨G3, v, q2, hf⟩ := bnd_s hf
  unfold lwV at hl
  refine g_aload_n C hl 3 rfl rfl (gdec kL_law_13 15 rfl) ?_
  refine g_cl h (g_runV (rest := []) C h ho (by decide) rfl (c_X7_digest l E _ ho _ _ q1) wM_L_155 wI_X7_digest wS_X7_digest wN_X7 wC_X7_digest rfl ny_X7_digest rfl ⟨Nat.le_trans (Nat.le_of_ble_eq_true rfl) hR.1, Nat.le_trans (Nat.le_of_ble_eq_true rfl) hR.2⟩ hl.1 rfl (Nat.le_of_ble_eq_true rfl) (gdec kL_law_13 16 rfl) ⟨by omega, by omega⟩) (fun H locs h => ?_)
  refine g_aload_n C hl 2 rfl rfl (gdec kL_law_13 17 rfl) ?_
  refine g_cl h (g_runV (rest := [vJ u]) C h ho8 (by decide) rfl (c_X8_digest l E _ ho8 _ _ q2) wM_L_159 wI_X8_digest wS_X8_digest wN_X8 wC_X8_digest rfl ny_X8_digest rfl ⟨Nat.le_trans (Nat.le_of_ble_eq_true rfl) hR.1, Nat.le_trans (Nat.le_of_ble_eq_true rfl) hR.2⟩ hl.1 rfl (Nat.le_of_ble_eq_true rfl) (gdec kL_law_13 18 rfl) ⟨by omega, by omega⟩) (fun H locs h => ?_)
  by_cases e1 : u = v
  · rw [if_pos e1] at hf
    cases hf
    subst e1
    refine g_lcmp_same C (tgt := 1364) (by decide) (gdec kL_law_13 19 rfl) (gdec kL_law_13 20 rfl) ?_
    exact W.widen (by omega) (by omega) (kk H locs h ls hl)
  · rw [if_neg e1] at hf
    cases hf

/-- what a turn does to the world -/
def lw_step (xs : Nat → Int32) (G : GS) (i : Int) : Option GS := if ((xs (i + 0).toNat) &&& 31).toInt = 0 then lwT (f_L_setStage G (lw_w xs i 1) (lw_w xs i 2) (lw_w xs i 3) (nz (lw_w xs i 4))) (fun G1 => f_X8_setStage G1 (lw_w xs i 1) (lw_w xs i 2) (lw_w xs i 3) (nz (lw_w xs i 4))) else if ((xs (i + 0).toNat) &&& 31).toInt = 1 then lwT (f_L_setInn G (lw_w xs i 1) (lw_w xs i 2) (lw_w xs i 3) (nz (lw_w xs i 4))) (fun G1 => f_X8_setInn G1 (lw_w xs i 1) (lw_w xs i 2) (lw_w xs i 3) (nz (lw_w xs i 4))) else if ((xs (i + 0).toNat) &&& 31).toInt = 2 then lwT (f_L_addTeam G (lw_w xs i 1) (lw_w xs i 2)) (fun G1 => f_X8_addTeam G1 (lw_w xs i 1) (lw_w xs i 2)) else if ((xs (i + 0).toNat) &&& 31).toInt = 3 then lwT (f_L_give G (lw_w xs i 1) (lw_w xs i 2) (nz (lw_w xs i 3))) (fun G1 => f_X8_give G1 (lw_w xs i 1) (lw_w xs i 2) (nz (lw_w xs i 3))) else if ((xs (i + 0).toNat) &&& 31).toInt = 4 then lwU (f_X7_collect G) (fun G1 => f_X8_collect G1) else if ((xs (i + 0).toNat) &&& 31).toInt = 5 then lwT (f_L_pass G (lw_w xs i 1)) (fun G1 => f_X8_pass G1 (lw_w xs i 1)) else if ((xs (i + 0).toNat) &&& 31).toInt = 6 then lwT (f_L_stage G (lw_w xs i 1) (lw_w xs i 2)) (fun G1 => f_X8_stage G1 (lw_w xs i 1) (lw_w xs i 2)) else if ((xs (i + 0).toNat) &&& 31).toInt = 7 then lwT (f_L_inn G (lw_w xs i 1) (lw_w xs i 2)) (fun G1 => f_X8_inn G1 (lw_w xs i 1) (lw_w xs i 2)) else if ((xs (i + 0).toNat) &&& 31).toInt = 8 then lwT (f_L_team G (lw_w xs i 1) (lw_w xs i 2)) (fun G1 => f_X8_team G1 (lw_w xs i 1) (lw_w xs i 2)) else if ((xs (i + 0).toNat) &&& 31).toInt = 9 then lwT (f_L_letter G (lw_w xs i 1) (lw_w xs i 2)) (fun G1 => f_X8_letter G1 (lw_w xs i 1) (lw_w xs i 2)) else if ((xs (i + 0).toNat) &&& 31).toInt = 10 then lwT (f_L_value G (lw_w xs i 1)) (fun G1 => f_X8_value G1 (lw_w xs i 1)) else if ((xs (i + 0).toNat) &&& 31).toInt = 11 then lwT (f_L_why G (lw_w xs i 1)) (fun G1 => f_X8_why G1 (lw_w xs i 1)) else if ((xs (i + 0).toNat) &&& 31).toInt = 12 then lwT (f_L_hoursTo G (lw_w xs i 1)) (fun G1 => f_X8_hoursTo G1 (lw_w xs i 1)) else if ((xs (i + 0).toNat) &&& 31).toInt = 13 then lwU (f_X7_hoursToAll G) (fun G1 => f_X8_hoursToAll G1) else if ((xs (i + 0).toNat) &&& 31).toInt = 14 then lwU (f_X7_bestInn G) (fun G1 => f_X8_bestInn G1) else if ((xs (i + 0).toNat) &&& 31).toInt = 15 then lwT (f_L_way G (lw_w xs i 1) (lw_w xs i 2)) (fun G1 => f_X8_way G1 (lw_w xs i 1) (lw_w xs i 2)) else if ((xs (i + 0).toNat) &&& 31).toInt = 16 then lwT (f_L_effortHome G (lw_w xs i 1)) (fun G1 => f_X8_effortHome G1 (lw_w xs i 1)) else if ((xs (i + 0).toNat) &&& 31).toInt = 17 then lwD (f_X7_meanTiredness G) (f_X8_meanTiredness G) else if ((xs (i + 0).toNat) &&& 31).toInt = 18 then lwT (f_L_append G (lw_w xs i 1)) (fun G1 => f_X8_append G1 (lw_w xs i 1)) else if ((xs (i + 0).toNat) &&& 31).toInt = 19 then lwU (f_X7_clearText G) (fun G1 => f_X8_clearText G1) else if ((xs (i + 0).toNat) &&& 31).toInt = 20 then lwU (f_X7_parse G) (fun G1 => f_X8_parse G1) else if ((xs (i + 0).toNat) &&& 31).toInt = 21 then lwT (f_L_undo G) (fun G1 => f_X8_undo G1) else if ((xs (i + 0).toNat) &&& 31).toInt = 22 then lwJ (f_X7_digest G) (fun G1 => f_X8_digest G1) else some G
set_option maxHeartbeats 4000000 in
set_option maxRecDepth 100000 in
theorem lw_turn (C : gC p s m args meth c RL cL_law 9 (some .boolean) E) (hst : l.stackTraces = false) (X : lwX b L xs s E) (ho : gOk E 7 0) (ho8 : gOk E 8 0) (ho2 : gOk E 13 0) (h : gH E s G H locs) (hi : 0 ≤ i ∧ i + 4 < L) (hl : lv_has ls 9 (lwV E b i)) (hR : 13 ≤ R.frames ∧ 490 ≤ R.locals) (hcs : cells + 4 ≤ R.cells ∧ slots + 24 ≤ R.slots) (hf : lw_step xs G i = some G2) (kk : ∀ (H : Heap) (locs : List Loc), gH E s G2 H locs → ∀ ls, lv_has ls 9 (lwV E b (i + 5)) → W p l e R s m args below meth c H locs (cells + 4) (slots + 24) Q (F0 m 23 ls [])) : W p l e R s m args below meth c H locs cells slots Q (F0 m 32 ls []) := by
  have hL := X.2.2.2
  have fin : ∀ (H : Heap) (locs : List Loc), gH E s G2 H locs → ∀ ls, lv_has ls 9 (lwV E b i) → W p l e R s m args below meth c H locs (cells + 4) (slots + 24) Q (F0 m 1364 ls []) := fun H locs h ls hl => by
    unfold lwV at hl
    refine g_iinc C (k := 0) (lwV E b (i + 5)) hl rfl (by decide) rfl (gdec kL_law_13 23 rfl) (fun ls hl => ?_)
    refine g_goto C (tgt := 23) (by decide) (gdec kL_law_13 24 rfl) ?_
    exact kk H locs h ls hl
  have hl0 := hl
  unfold lwV at hl0
  refine g_aload_n C hl0 4 rfl rfl (gdec kL_law 19 rfl) ?_
  refine g_iload C hl0 0 rfl (gdec kL_law 20 rfl) ?_
  refine g_scr0 C X h ⟨hi.1, by omega⟩ (gdec kL_law 21 rfl) ?_
  refine g_bipush C (gdec kL_law 22 rfl) rfl ?_
  refine lv_iand C.1 C.2.1 (gdec kL_law 23 rfl) ?_
  have e9 : (Int32.ofInt (lw_w xs i 0) &&& Int32.ofInt 31) = xs (i + 0).toNat &&& 31 := by
    unfold lw_w
    rw [Int32.ofInt_toInt]
    rfl
  rw [e9, i_ofw]
  unfold lw_step at hf
  by_cases c0 : ((xs (i + 0).toNat) &&& 31).toInt = 0
  · rw [if_pos c0] at hf
    refine g_tableIn C (n := 0) (off := 105) (tgt := 144) c0 (by decide) (by decide) (by decide) rfl (by decide) (gdec kL_law 24 rfl) ?_
    exact lw_op0 C hst X ho ho8 ho2 h hi hl hR hcs hf fin
  rw [if_neg c0] at hf
  by_cases c1 : ((xs (i + 0).toNat) &&& 31).toInt = 1
  · rw [if_pos c1] at hf
    refine g_tableIn C (n := 1) (off := 213) (tgt := 252) c1 (by decide) (by decide) (by decide) rfl (by decide) (gdec kL_law 24 rfl) ?_
    exact lw_op1 C hst X ho ho8 ho2 h hi hl hR hcs hf fin
  rw [if_neg c1] at hf
  by_cases c2 : ((xs (i + 0).toNat) &&& 31).toInt = 2
  · rw [if_pos c2] at hf
    refine g_tableIn C (n := 2) (off := 321) (tgt := 360) c2 (by decide) (by decide) (by decide) rfl (by decide) (gdec kL_law 24 rfl) ?_
    exact lw_op2 C hst X ho ho8 ho2 h hi hl hR hcs hf fin
  rw [if_neg c2] at hf
  by_cases c3 : ((xs (i + 0).toNat) &&& 31).toInt = 3
  · rw [if_pos c3] at hf
    refine g_tableIn C (n := 3) (off := 389) (tgt := 428) c3 (by decide) (by decide) (by decide) rfl (by decide) (gdec kL_law 24 rfl) ?_
    exact lw_op3 C hst X ho ho8 ho2 h hi hl hR hcs hf fin
  rw [if_neg c3] at hf
  by_cases c4 : ((xs (i + 0).toNat) &&& 31).toInt = 4
  · rw [if_pos c4] at hf
    refine g_tableIn C (n := 4) (off := 485) (tgt := 524) c4 (by decide) (by decide) (by decide) rfl (by decide) (gdec kL_law 24 rfl) ?_
    exact lw_op4 C hst X ho ho8 ho2 h hi hl hR hcs hf fin
  rw [if_neg c4] at hf
  by_cases c5 : ((xs (i + 0).toNat) &&& 31).toInt = 5
  · rw [if_pos c5] at hf
    refine g_tableIn C (n := 5) (off := 498) (tgt := 537) c5 (by decide) (by decide) (by decide) rfl (by decide) (gdec kL_law 24 rfl) ?_
    exact lw_op5 C hst X ho ho8 ho2 h hi hl hR hcs hf fin
  rw [if_neg c5] at hf
  by_cases c6 : ((xs (i + 0).toNat) &&& 31).toInt = 6
  · rw [if_pos c6] at hf
    refine g_tableIn C (n := 6) (off := 554) (tgt := 593) c6 (by decide) (by decide) (by decide) rfl (by decide) (gdec kL_law 24 rfl) ?_
    exact lw_op6 C hst X ho ho8 ho2 h hi hl hR hcs hf fin
  rw [if_neg c6] at hf
  by_cases c7 : ((xs (i + 0).toNat) &&& 31).toInt = 7
  · rw [if_pos c7] at hf
    refine g_tableIn C (n := 7) (off := 622) (tgt := 661) c7 (by decide) (by decide) (by decide) rfl (by decide) (gdec kL_law 24 rfl) ?_
    exact lw_op7 C hst X ho ho8 ho2 h hi hl hR hcs hf fin
  rw [if_neg c7] at hf
  by_cases c8 : ((xs (i + 0).toNat) &&& 31).toInt = 8
  · rw [if_pos c8] at hf
    refine g_tableIn C (n := 8) (off := 690) (tgt := 729) c8 (by decide) (by decide) (by decide) rfl (by decide) (gdec kL_law 24 rfl) ?_
    exact lw_op8 C hst X ho ho8 ho2 h hi hl hR hcs hf fin
  rw [if_neg c8] at hf
  by_cases c9 : ((xs (i + 0).toNat) &&& 31).toInt = 9
  · rw [if_pos c9] at hf
    refine g_tableIn C (n := 9) (off := 758) (tgt := 797) c9 (by decide) (by decide) (by decide) rfl (by decide) (gdec kL_law 24 rfl) ?_
    exact lw_op9 C hst X ho ho8 ho2 h hi hl hR hcs hf fin
  rw [if_neg c9] at hf
  by_cases c10 : ((xs (i + 0).toNat) &&& 31).toInt = 10
  · rw [if_pos c10] at hf
    refine g_tableIn C (n := 10) (off := 826) (tgt := 865) c10 (by decide) (by decide) (by decide) rfl (by decide) (gdec kL_law 24 rfl) ?_
    exact lw_op10 C hst X ho ho8 ho2 h hi hl hR hcs hf fin
  rw [if_neg c10] at hf
  by_cases c11 : ((xs (i + 0).toNat) &&& 31).toInt = 11
  · rw [if_pos c11] at hf
    refine g_tableIn C (n := 11) (off := 882) (tgt := 921) c11 (by decide) (by decide) (by decide) rfl (by decide) (gdec kL_law 24 rfl) ?_
    exact lw_op11 C hst X ho ho8 ho2 h hi hl hR hcs hf fin
  rw [if_neg c11] at hf
  by_cases c12 : ((xs (i + 0).toNat) &&& 31).toInt = 12
  · rw [if_pos c12] at hf
    refine g_tableIn C (n := 12) (off := 938) (tgt := 977) c12 (by decide) (by decide) (by decide) rfl (by decide) (gdec kL_law 24 rfl) ?_
    exact lw_op12 C hst X ho ho8 ho2 h hi hl hR hcs hf fin
  rw [if_neg c12] at hf
  by_cases c13 : ((xs (i + 0).toNat) &&& 31).toInt = 13
  · rw [if_pos c13] at hf
    refine g_tableIn C (n := 13) (off := 994) (tgt := 1033) c13 (by decide) (by decide) (by decide) rfl (by decide) (gdec kL_law 24 rfl) ?_
    exact lw_op13 C hst X ho ho8 ho2 h hi hl hR hcs hf fin
  rw [if_neg c13] at hf
  by_cases c14 : ((xs (i + 0).toNat) &&& 31).toInt = 14
  · rw [if_pos c14] at hf
    refine g_tableIn C (n := 14) (off := 1007) (tgt := 1046) c14 (by decide) (by decide) (by decide) rfl (by decide) (gdec kL_law 24 rfl) ?_
    exact lw_op14 C hst X ho ho8 ho2 h hi hl hR hcs hf fin
  rw [if_neg c14] at hf
  by_cases c15 : ((xs (i + 0).toNat) &&& 31).toInt = 15
  · rw [if_pos c15] at hf
    refine g_tableIn C (n := 15) (off := 1020) (tgt := 1059) c15 (by decide) (by decide) (by decide) rfl (by decide) (gdec kL_law 24 rfl) ?_
    exact lw_op15 C hst X ho ho8 ho2 h hi hl hR hcs hf fin
  rw [if_neg c15] at hf
  by_cases c16 : ((xs (i + 0).toNat) &&& 31).toInt = 16
  · rw [if_pos c16] at hf
    refine g_tableIn C (n := 16) (off := 1088) (tgt := 1127) c16 (by decide) (by decide) (by decide) rfl (by decide) (gdec kL_law 24 rfl) ?_
    exact lw_op16 C hst X ho ho8 ho2 h hi hl hR hcs hf fin
  rw [if_neg c16] at hf
  by_cases c17 : ((xs (i + 0).toNat) &&& 31).toInt = 17
  · rw [if_pos c17] at hf
    refine g_tableIn C (n := 17) (off := 1144) (tgt := 1183) c17 (by decide) (by decide) (by decide) rfl (by decide) (gdec kL_law 24 rfl) ?_
    exact lw_op17 C hst X ho ho8 ho2 h hi hl hR hcs hf fin
  rw [if_neg c17] at hf
  by_cases c18 : ((xs (i + 0).toNat) &&& 31).toInt = 18
  · rw [if_pos c18] at hf
    refine g_tableIn C (n := 18) (off := 1185) (tgt := 1224) c18 (by decide) (by decide) (by decide) rfl (by decide) (gdec kL_law 24 rfl) ?_
    exact lw_op18 C hst X ho ho8 ho2 h hi hl hR hcs hf fin
  rw [if_neg c18] at hf
  by_cases c19 : ((xs (i + 0).toNat) &&& 31).toInt = 19
  · rw [if_pos c19] at hf
    refine g_tableIn C (n := 19) (off := 1241) (tgt := 1280) c19 (by decide) (by decide) (by decide) rfl (by decide) (gdec kL_law 24 rfl) ?_
    exact lw_op19 C hst X ho ho8 ho2 h hi hl hR hcs hf fin
  rw [if_neg c19] at hf
  by_cases c20 : ((xs (i + 0).toNat) &&& 31).toInt = 20
  · rw [if_pos c20] at hf
    refine g_tableIn C (n := 20) (off := 1254) (tgt := 1293) c20 (by decide) (by decide) (by decide) rfl (by decide) (gdec kL_law 24 rfl) ?_
    exact lw_op20 C hst X ho ho8 ho2 h hi hl hR hcs hf fin
  rw [if_neg c20] at hf
  by_cases c21 : ((xs (i + 0).toNat) &&& 31).toInt = 21
  · rw [if_pos c21] at hf
    refine g_tableIn C (n := 21) (off := 1267) (tgt := 1306) c21 (by decide) (by decide) (by decide) rfl (by decide) (gdec kL_law 24 rfl) ?_
    exact lw_op21 C hst X ho ho8 ho2 h hi hl hR hcs hf fin
  rw [if_neg c21] at hf
  by_cases c22 : ((xs (i + 0).toNat) &&& 31).toInt = 22
  · rw [if_pos c22] at hf
    refine g_tableIn C (n := 22) (off := 1311) (tgt := 1350) c22 (by decide) (by decide) (by decide) rfl (by decide) (gdec kL_law 24 rfl) ?_
    exact lw_op22 C hst X ho ho8 ho2 h hi hl hR hcs hf fin
  rw [if_neg c22] at hf
  cases hf
  refine g_tableOut C (tgt := 1364) (w_inR _) (by omega) (by decide) (gdec kL_law 24 rfl) ?_
  exact W.widen (by omega) (by omega) (fin H locs h ls hl)
/-- the turns from i on -/
def lw_go (xs : Nat → Int32) : Nat → GS → Int → Option GS
  | 0, G, _ => some G
  | n + 1, G, i => match lw_step xs G i with
    | none => none
    | some G1 => lw_go xs n G1 (i + 5)
theorem lw_loop (C : gC p s m args meth c RL cL_law 9 (some .boolean) E) (hst : l.stackTraces = false) (X : lwX b L xs s E) (ho : gOk E 7 0) (ho8 : gOk E 8 0) (ho2 : gOk E 13 0) (hR : 13 ≤ R.frames ∧ 490 ≤ R.locals) (mc ms : Nat) (hfin : ∀ (H : Heap) (locs : List Loc) (G : GS), gH E s G H locs → ∀ ls, W p l e R s m args below meth c H locs mc ms Q (F0 m 1370 ls [])) (hmc : mc ≤ R.cells ∧ ms ≤ R.slots) : ∀ (n : Nat) (G : GS) (i : Int) (cells slots : Nat) (H : Heap) (locs : List Loc) (ls : Array Slot), gH E s G H locs → lv_has ls 9 (lwV E b i) → 0 ≤ i → i + 5 * n ≤ L → (L : Int) - 5 < i + 5 * n → (∃ G2, lw_go xs n G i = some G2) → cells + 4 * n ≤ mc → slots + 24 * n ≤ ms → W p l e R s m args below meth c H locs cells slots Q (F0 m 23 ls []) := by
  have hL := X.2.2.2
  intro n
  induction n with
  | zero =>
    intro G i cells slots H locs ls h hl h0 h1 h2 _ h3 h4
    have hl0 := hl
    unfold lwV at hl0
    refine g_iload C hl0 0 rfl (gdec kL_law 13 rfl) ?_
    refine g_aload_n C hl0 4 rfl rfl (gdec kL_law 14 rfl) ?_
    refine va_slen C.1 C.2.1 X.1 X.2.1 X.2.2.1 h.2 (gdec kL_law 15 rfl) ?_
    refine W.eq (g2 := F0 m 27 ls [vI (L : Int), vI i]) (by rfl) ?_
    refine g_iconst C (gdec kL_law 16 rfl) ?_
    refine g_isub C (gdec kL_law 17 rfl) ?_
    refine g_icmp_gt C (tgt := 1370) ⟨by omega, by omega⟩ ⟨by omega, by omega⟩ (by decide) (gdec kL_law 18 rfl) (fun _ => ?_) (fun q => absurd (by omega) q)
    exact W.widen (by omega) (by omega) (hfin H locs G h ls)
  | succ n ih =>
    intro G i cells slots H locs ls h hl h0 h1 h2 hg h3 h4
    have hl0 := hl
    unfold lwV at hl0
    refine g_iload C hl0 0 rfl (gdec kL_law 13 rfl) ?_
    refine g_aload_n C hl0 4 rfl rfl (gdec kL_law 14 rfl) ?_
    refine va_slen C.1 C.2.1 X.1 X.2.1 X.2.2.1 h.2 (gdec kL_law 15 rfl) ?_
    refine W.eq (g2 := F0 m 27 ls [vI (L : Int), vI i]) (by rfl) ?_
    refine g_iconst C (gdec kL_law 16 rfl) ?_
    refine g_isub C (gdec kL_law 17 rfl) ?_
    refine g_icmp_gt C (tgt := 1370) ⟨by omega, by omega⟩ ⟨by omega, by omega⟩ (by decide) (gdec kL_law 18 rfl) (fun q => absurd q (by omega)) (fun q => ?_)
    obtain ⟨G2, hg⟩ := hg
    rw [lw_go] at hg
    cases hst9 : lw_step xs G i with
    | none => rw [hst9] at hg; cases hg
    | some G1 =>
      rw [hst9] at hg
      refine lw_turn C hst X ho ho8 ho2 h ⟨h0, by omega⟩ hl hR ⟨by omega, by omega⟩ hst9 (fun H locs h ls hl => ?_)
      exact ih G1 (i + 5) _ _ H locs ls h hl (by omega) (by omega) (by omega) ⟨G2, hg⟩ (by omega) (by omega)
end GLL

/-! ROWS over the world: an instruction, a call, an end; numbers are integers, their machine words their images -/
theorem i_of_le {x : Int} (h : inR x) : (Int32.ofInt x).toInt = x := Int32.toInt_ofInt_of_le (by have := h.1; omega) (by have := h.2; omega)
theorem i_lt {x y : Int} (hx : inR x) (hy : inR y) : Int32.ofInt x < Int32.ofInt y ↔ x < y := by rw [Int32.lt_iff_toInt_lt, i_of_le hx, i_of_le hy]
theorem i_le {x y : Int} (hx : inR x) (hy : inR y) : Int32.ofInt x ≤ Int32.ofInt y ↔ x ≤ y := by rw [Int32.le_iff_toInt_le, i_of_le hx, i_of_le hy]
theorem i_eq {x y : Int} (hx : inR x) (hy : inR y) : Int32.ofInt x = Int32.ofInt y ↔ x = y := ⟨fun h => by rw [← i_of_le hx, ← i_of_le hy, h], fun h => by rw [h]⟩
theorem i_clamp {x : Int} (h : inR x) : (Int32.ofInt x).toNatClampNeg = x.toNat := by rw [Int32.toNatClampNeg, i_of_le h]
theorem i_in {x : Int} {n : Nat} (h0 : 0 ≤ x) (h1 : x < n) (hn : n < 2147483648) : vp_in (Int32.ofInt x) n := by
  have hr : inR x := ⟨by omega, by omega⟩
  rw [vp_in_iff, i_of_le hr]
  exact ⟨h0, h1⟩
def gd {α : Type} (z : Int) (k : Option α) : Option α := if inR z then k else none
def ga {α : Type} (z n : Int) (k : Option α) : Option α := if 0 ≤ z ∧ z < n then k else none
def gb {α : Type} (z : Int) (k : Option α) : Option α := if z = 0 ∨ z = 1 then k else none
def gy {α : Type} (z : Int) (k : Option α) : Option α := if -128 ≤ z ∧ z ≤ 127 then k else none
def bnd {α β : Type} (o : Option (GS × α)) (k : GS → α → Option β) : Option β := match o with
  | some q => k q.1 q.2
  | none => none
def bn1 {α β : Type} (o : Option α) (k : α → Option β) : Option β := match o with
  | some q => k q
  | none => none
theorem gd_s {α : Type} {z : Int} {k : Option α} {r : α} (h : gd z k = some r) : inR z ∧ k = some r := by
  unfold gd at h
  split at h
  · exact ⟨by assumption, h⟩
  · cases h
theorem ga_s {α : Type} {z n : Int} {k : Option α} {r : α} (h : ga z n k = some r) : (0 ≤ z ∧ z < n) ∧ k = some r := by
  unfold ga at h
  split at h
  · exact ⟨by assumption, h⟩
  · cases h
theorem gb_s {α : Type} {z : Int} {k : Option α} {r : α} (h : gb z k = some r) : (z = 0 ∨ z = 1) ∧ k = some r := by
  unfold gb at h
  split at h
  · exact ⟨by assumption, h⟩
  · cases h
theorem gy_s {α : Type} {z : Int} {k : Option α} {r : α} (h : gy z k = some r) : (-128 ≤ z ∧ z ≤ 127) ∧ k = some r := by
  unfold gy at h
  split at h
  · exact ⟨by assumption, h⟩
  · cases h
theorem bnd_s {α β : Type} {o : Option (GS × α)} {k : GS → α → Option β} {r : β} (h : bnd o k = some r) : ∃ g v, o = some (g, v) ∧ k g v = some r := by
  cases o with
  | none => cases h
  | some q => exact ⟨q.1, q.2, rfl, h⟩
theorem bn1_s {α β : Type} {o : Option α} {k : α → Option β} {r : β} (h : bn1 o k = some r) : ∃ v, o = some v ∧ k v = some r := by
  cases o with
  | none => cases h
  | some q => exact ⟨q, rfl, h⟩
theorem ifp {α : Type} {c : Prop} [Decidable c] {a b x : α} (h : c) (e : (if c then a else b) = x) : a = x := by rwa [if_pos h] at e
theorem ifn {α : Type} {c : Prop} [Decidable c] {a b x : α} (h : ¬ c) (e : (if c then a else b) = x) : b = x := by rwa [if_neg h] at e
section GROW
variable {p : Program} {l : Launch} {e : Env} {R : Room} {s : State} {m : MethodId} {args : Array Value} {below : List Frame} {meth : Method} {c : Code} {H : Heap} {locs : List Loc} {cells slots : Nat} {Q : State → Prop}
variable {pc : Nat} {ls : Array Slot} {rest : List Value} {own : String} {cc : ByteArray} {nL : Nat} {ret : Option FieldType} {E : gEnv} {G : GS}
theorem gCc (C : gC p s m args meth c own cc nL ret E) : gClo E := C.2.2.2.2.2.2.2.2.1.2.2.2
theorem gcl_3_0 (C : gC p s m args meth c own cc nL ret E) {r : Int} (h : gOk E 3 r) : gOk E 14 r := ((gCc C).1 r h).1
theorem gcl_3_1 (C : gC p s m args meth c own cc nL ret E) {r : Int} (h : gOk E 3 r) : gOk E 15 r := ((gCc C).1 r h).2.1
theorem gcl_3_2 (C : gC p s m args meth c own cc nL ret E) {r : Int} (h : gOk E 3 r) : gOk E 16 r := ((gCc C).1 r h).2.2.1
theorem gcl_3_3 (C : gC p s m args meth c own cc nL ret E) {r : Int} (h : gOk E 3 r) : gOk E 17 r := ((gCc C).1 r h).2.2.2
theorem gok5 (C : gC p s m args meth c own cc nL ret E) {r i : Int} (h : gOk E 14 r) (hi : 0 ≤ i ∧ i < 7) : gOk E 5 (7 * r + i) := (gCc C).2.1 r i h hi
theorem gok1 (C : gC p s m args meth c own cc nL ret E) {r i : Int} (h : gOk E 15 r) (hi : 0 ≤ i ∧ i < 8) : gOk E 1 (8 * r + i) := (gCc C).2.2.1 r i h hi
theorem gok6 (C : gC p s m args meth c own cc nL ret E) {r i : Int} (h : gOk E 16 r) (hi : 0 ≤ i ∧ i < 10) : gOk E 6 (10 * r + i) := (gCc C).2.2.2.1 r i h hi
theorem gok2 (C : gC p s m args meth c own cc nL ret E) {r i : Int} (h : gOk E 17 r) (hi : 0 ≤ i ∧ i < 12) : gOk E 2 (12 * r + i) := (gCc C).2.2.2.2.1 r i h hi
theorem gcl_7_0 (C : gC p s m args meth c own cc nL ret E) (h : gOk E 7 0) : gOk E 3 0 := ((gCc C).2.2.2.2.2.1 h).1
theorem gcl_7_1 (C : gC p s m args meth c own cc nL ret E) (h : gOk E 7 0) : gOk E 3 1 := ((gCc C).2.2.2.2.2.1 h).2.1
theorem gcl_7_2 (C : gC p s m args meth c own cc nL ret E) (h : gOk E 7 0) : gOk E 0 0 := ((gCc C).2.2.2.2.2.1 h).2.2.1
theorem gcl_7_3 (C : gC p s m args meth c own cc nL ret E) (h : gOk E 7 0) : gOk E 4 0 := ((gCc C).2.2.2.2.2.1 h).2.2.2
theorem gcl_0_0 (C : gC p s m args meth c own cc nL ret E) (h : gOk E 0 0) : gOk E 12 0 := (gCc C).2.2.2.2.2.2.1 h
theorem gok3 (C : gC p s m args meth c own cc nL ret E) (h : gOk E 12 0) {z : Int} (hz : 0 ≤ z ∧ z < 6) : gOk E 3 z := (gCc C).2.2.2.2.2.2.2.1 h z hz
theorem gcl_4_0 (C : gC p s m args meth c own cc nL ret E) (h : gOk E 4 0) : gOk E 9 0 := (gCc C).2.2.2.2.2.2.2.2 h
theorem g_iconst (C : gC p s m args meth c own cc nL ret E) {n : Int} (hd : decode cc pc = .ok (.iconst n, 1)) (kk : W p l e R s m args below meth c H locs cells slots Q (F0 m (pc + 1) ls (vI n :: rest))) : W p l e R s m args below meth c H locs cells slots Q (F0 m pc ls (rest)) := lv_iconst C.1 C.2.1 hd rfl kk
theorem g_bipush (C : gC p s m args meth c own cc nL ret E) {n : Int} (hd : decode cc pc = .ok (.bipush n, 2)) (hv : (Int8.ofInt n).toInt32 = Int32.ofInt n := by rfl) (kk : W p l e R s m args below meth c H locs cells slots Q (F0 m (pc + 2) ls (vI n :: rest))) : W p l e R s m args below meth c H locs cells slots Q (F0 m pc ls (rest)) := lv_bipush C.1 C.2.1 hd hv kk
theorem g_sipush (C : gC p s m args meth c own cc nL ret E) {n : Int} (hd : decode cc pc = .ok (.sipush n, 3)) (hv : (Int16.ofInt n).toInt32 = Int32.ofInt n := by rfl) (kk : W p l e R s m args below meth c H locs cells slots Q (F0 m (pc + 3) ls (vI n :: rest))) : W p l e R s m args below meth c H locs cells slots Q (F0 m pc ls (rest)) := lv_sipush C.1 C.2.1 hd hv kk
theorem g_iadd (C : gC p s m args meth c own cc nL ret E) {x y : Int} (hd : decode cc pc = .ok (.iadd, 1)) (kk : W p l e R s m args below meth c H locs cells slots Q (F0 m (pc + 1) ls (vI (x + y) :: rest))) : W p l e R s m args below meth c H locs cells slots Q (F0 m pc ls (vI y :: vI x :: rest)) := lv_iadd C.1 C.2.1 hd (by rw [← Int32.ofInt_add]; exact kk)
theorem g_isub (C : gC p s m args meth c own cc nL ret E) {x y : Int} (hd : decode cc pc = .ok (.isub, 1)) (kk : W p l e R s m args below meth c H locs cells slots Q (F0 m (pc + 1) ls (vI (x - y) :: rest))) : W p l e R s m args below meth c H locs cells slots Q (F0 m pc ls (vI y :: vI x :: rest)) := lv_isub C.1 C.2.1 hd (by rw [← Int32.ofInt_sub]; exact kk)
theorem g_imul (C : gC p s m args meth c own cc nL ret E) {x y : Int} (hd : decode cc pc = .ok (.imul, 1)) (kk : W p l e R s m args below meth c H locs cells slots Q (F0 m (pc + 1) ls (vI (x * y) :: rest))) : W p l e R s m args below meth c H locs cells slots Q (F0 m pc ls (vI y :: vI x :: rest)) := lv_imul C.1 C.2.1 hd (by rw [← Int32.ofInt_mul]; exact kk)
theorem g_ineg (C : gC p s m args meth c own cc nL ret E) {x : Int} (hd : decode cc pc = .ok (.ineg, 1)) (kk : W p l e R s m args below meth c H locs cells slots Q (F0 m (pc + 1) ls (vI (-x) :: rest))) : W p l e R s m args below meth c H locs cells slots Q (F0 m pc ls (vI x :: rest)) := lv_ineg C.1 C.2.1 hd (by rw [← Int32.ofInt_neg]; exact kk)
theorem i_div {x y : Int} (hx : 0 ≤ x) (hx2 : inR x) (hy : 0 < y) (hy2 : inR y) : Int32.ofInt x / Int32.ofInt y = Int32.ofInt (x / y) := by
  refine Int32.toInt_inj.mp ?_
  have e1 := i_of_le hx2
  have e2 := i_of_le hy2
  have h0 : 0 ≤ x / y := Int.ediv_nonneg hx (by omega)
  have h1 : x / y ≤ x := Int.ediv_le_self y hx
  have hx3 := hx2.2
  rw [Int32.toInt_div_of_ne_right _ _ (fun q => absurd (show (Int32.ofInt y).toInt = -1 by rw [q]; rfl) (by omega)), e1, e2, i_of_le ⟨by omega, by omega⟩, Int.tdiv_eq_ediv_of_nonneg hx]
theorem g_idiv (C : gC p s m args meth c own cc nL ret E) {x y : Int} (hx : 0 ≤ x) (hx2 : inR x) (hy : 0 < y) (hy2 : inR y) (hd : decode cc pc = .ok (.idiv, 1)) (kk : W p l e R s m args below meth c H locs cells slots Q (F0 m (pc + 1) ls (vI (x / y) :: rest))) : W p l e R s m args below meth c H locs cells slots Q (F0 m pc ls (vI y :: vI x :: rest)) := lv_idiv C.1 C.2.1 hd (fun q => by have := (i_eq hy2 (y := 0) (by decide)).mp q; omega) (by rw [i_div hx hx2 hy hy2]; exact kk)
theorem g_irem (C : gC p s m args meth c own cc nL ret E) {x y : Int} (hx : 0 ≤ x) (hx2 : inR x) (hy : 0 < y) (hy2 : inR y) (hd : decode cc pc = .ok (.irem, 1)) (kk : W p l e R s m args below meth c H locs cells slots Q (F0 m (pc + 1) ls (vI (x % y) :: rest))) : W p l e R s m args below meth c H locs cells slots Q (F0 m pc ls (vI y :: vI x :: rest)) := lv_irem C.1 C.2.1 hd (fun q => by have := (i_eq hy2 (y := 0) (by decide)).mp q; omega) (by rw [i_div hx hx2 hy hy2, ← Int32.ofInt_mul, ← Int32.ofInt_sub, show x - x / y * y = x % y by rw [Int.emod_def, Int.mul_comm]]; exact kk)
theorem g_ladd (C : gC p s m args meth c own cc nL ret E) {x y : Int} (hd : decode cc pc = .ok (.ladd, 1)) (kk : W p l e R s m args below meth c H locs cells slots Q (F0 m (pc + 1) ls (vJ (x + y) :: rest))) : W p l e R s m args below meth c H locs cells slots Q (F0 m pc ls (vJ y :: vJ x :: rest)) := lv_ladd C.1 C.2.1 hd (by rw [← Int64.ofInt_add]; exact kk)
theorem g_lsub (C : gC p s m args meth c own cc nL ret E) {x y : Int} (hd : decode cc pc = .ok (.lsub, 1)) (kk : W p l e R s m args below meth c H locs cells slots Q (F0 m (pc + 1) ls (vJ (x - y) :: rest))) : W p l e R s m args below meth c H locs cells slots Q (F0 m pc ls (vJ y :: vJ x :: rest)) := lv_lsub C.1 C.2.1 hd (by rw [← Int64.ofInt_sub]; exact kk)
theorem g_lmul (C : gC p s m args meth c own cc nL ret E) {x y : Int} (hd : decode cc pc = .ok (.lmul, 1)) (kk : W p l e R s m args below meth c H locs cells slots Q (F0 m (pc + 1) ls (vJ (x * y) :: rest))) : W p l e R s m args below meth c H locs cells slots Q (F0 m pc ls (vJ y :: vJ x :: rest)) := lv_lmul C.1 C.2.1 hd (by rw [← Int64.ofInt_mul]; exact kk)
theorem g_lconst (C : gC p s m args meth c own cc nL ret E) {n : Fin 2} {z : Int} (hd : decode cc pc = .ok (.lconst n, 1)) (hz : Int64.ofNat (n : Nat) = Int64.ofInt z) (kk : W p l e R s m args below meth c H locs cells slots Q (F0 m (pc + 1) ls (vJ z :: rest))) : W p l e R s m args below meth c H locs cells slots Q (F0 m pc ls (rest)) := lv_lconst C.1 C.2.1 hd hz kk
def bm (z : Int) : Int := z.bmod 4294967296
theorem bm_in {z : Int} (h : inR z) : bm z = z := Int.bmod_eq_of_le (by have := h.1; omega) (by have := h.2; omega)
theorem i_l (z : Int) : (Int32.ofInt z).toInt64 = Int64.ofInt (bm z) := by rw [← Int64.ofInt_int32ToInt, Int32.toInt_ofInt]; rfl
theorem g_i2l (C : gC p s m args meth c own cc nL ret E) {x : Int} (hd : decode cc pc = .ok (.i2l, 1)) (kk : W p l e R s m args below meth c H locs cells slots Q (F0 m (pc + 1) ls (vJ (bm x) :: rest))) : W p l e R s m args below meth c H locs cells slots Q (F0 m pc ls (vI x :: rest)) := lv_i2l C.1 C.2.1 hd (i_l x) kk
theorem g_ldc2 (C : gC p s m args meth c own cc nL ret E) {ix : Nat} {n : Int} {v : Int64} (hw : Cond.constantLong own ix v ∈ gWords) (hv : v = Int64.ofInt n) (hd : decode cc pc = .ok (.ldc2_w ix, 3)) (kk : W p l e R s m args below meth c H locs cells slots Q (F0 m (pc + 3) ls (vJ n :: rest))) : W p l e R s m args below meth c H locs cells slots Q (F0 m pc ls (rest)) := lv_ldc2 C.1 C.2.1 C.2.2.2.2.1 (C.2.2.2.2.2.1 _ hw) hd (by rw [hv]; exact kk)
theorem i_b {x : Int} (h : -128 ≤ x ∧ x ≤ 127) : (Int32.ofInt x).toInt8.toInt32 = Int32.ofInt x := by rw [Int32.toInt8_ofInt, ← Int32.ofInt_int8ToInt, Int8.toInt_ofInt_of_le (by omega) (by omega)]
theorem g_i2b (C : gC p s m args meth c own cc nL ret E) {x : Int} (hx : -128 ≤ x ∧ x ≤ 127) (hd : decode cc pc = .ok (.i2b, 1)) (kk : W p l e R s m args below meth c H locs cells slots Q (F0 m (pc + 1) ls (vI x :: rest))) : W p l e R s m args below meth c H locs cells slots Q (F0 m pc ls (vI x :: rest)) := lv_i2b C.1 C.2.1 hd (i_b hx) kk
theorem g_iload_n (C : gC p s m args meth c own cc nL ret E) {k : Fin 4} {i : Nat} {x : Int} {lv : List (Nat × Value)} (hl : lv_has ls nL lv) (j : Nat) (hj : lv[j]? = some (i, vI x)) (hi : (k : Nat) = i) (hd : decode cc pc = .ok (.iload_n k, 1)) (kk : W p l e R s m args below meth c H locs cells slots Q (F0 m (pc + 1) ls (vI x :: rest))) : W p l e R s m args below meth c H locs cells slots Q (F0 m pc ls (rest)) := lv_iload_n C.1 C.2.1 hd hi (lv_at hl j hj) kk
theorem g_iload (C : gC p s m args meth c own cc nL ret E) {i : Nat} {x : Int} {lv : List (Nat × Value)} (hl : lv_has ls nL lv) (j : Nat) (hj : lv[j]? = some (i, vI x)) (hd : decode cc pc = .ok (.iload i, 2)) (kk : W p l e R s m args below meth c H locs cells slots Q (F0 m (pc + 2) ls (vI x :: rest))) : W p l e R s m args below meth c H locs cells slots Q (F0 m pc ls (rest)) := lv_iload C.1 C.2.1 hd (lv_at hl j hj) kk
theorem g_lload_n (C : gC p s m args meth c own cc nL ret E) {k : Fin 4} {i : Nat} {x : Int} {lv : List (Nat × Value)} (hl : lv_has ls nL lv) (j : Nat) (hj : lv[j]? = some (i, vJ x)) (hi : (k : Nat) = i) (hd : decode cc pc = .ok (.lload_n k, 1)) (kk : W p l e R s m args below meth c H locs cells slots Q (F0 m (pc + 1) ls (vJ x :: rest))) : W p l e R s m args below meth c H locs cells slots Q (F0 m pc ls (rest)) := lv_lload_n C.1 C.2.1 hd hi (lv_at hl j hj) kk
theorem g_lload (C : gC p s m args meth c own cc nL ret E) {i : Nat} {x : Int} {lv : List (Nat × Value)} (hl : lv_has ls nL lv) (j : Nat) (hj : lv[j]? = some (i, vJ x)) (hd : decode cc pc = .ok (.lload i, 2)) (kk : W p l e R s m args below meth c H locs cells slots Q (F0 m (pc + 2) ls (vJ x :: rest))) : W p l e R s m args below meth c H locs cells slots Q (F0 m pc ls (rest)) := lv_lload C.1 C.2.1 hd (lv_at hl j hj) kk
theorem g_aload_n (C : gC p s m args meth c own cc nL ret E) {k : Fin 4} {i x : Nat} {lv : List (Nat × Value)} (hl : lv_has ls nL lv) (j : Nat) (hj : lv[j]? = some (i, .ref x)) (hi : (k : Nat) = i) (hd : decode cc pc = .ok (.aload_n k, 1)) (kk : W p l e R s m args below meth c H locs cells slots Q (F0 m (pc + 1) ls (.ref x :: rest))) : W p l e R s m args below meth c H locs cells slots Q (F0 m pc ls (rest)) := lv_aload_n C.1 C.2.1 hd hi (lv_at hl j hj) kk
theorem g_aload (C : gC p s m args meth c own cc nL ret E) {i x : Nat} {lv : List (Nat × Value)} (hl : lv_has ls nL lv) (j : Nat) (hj : lv[j]? = some (i, .ref x)) (hd : decode cc pc = .ok (.aload i, 2)) (kk : W p l e R s m args below meth c H locs cells slots Q (F0 m (pc + 2) ls (.ref x :: rest))) : W p l e R s m args below meth c H locs cells slots Q (F0 m pc ls (rest)) := lv_aload C.1 C.2.1 hd (lv_at hl j hj) kk
theorem g_istore_n (C : gC p s m args meth c own cc nL ret E) {k : Fin 4} {i : Nat} {x : Int} {lv : List (Nat × Value)} (lv1 : List (Nat × Value)) (hl : lv_has ls nL lv) (hi : (k : Nat) = i) (hn : i < nL) (he : (i, vI x) :: lv.filter (fun q => !(q.1 == i) && !(q.1 + 1 == i && q.2.category == 2)) = lv1) (hd : decode cc pc = .ok (.istore_n k, 1)) (kk : ∀ ls, lv_has ls nL lv1 → W p l e R s m args below meth c H locs cells slots Q (F0 m (pc + 1) ls (rest))) : W p l e R s m args below meth c H locs cells slots Q (F0 m pc ls (vI x :: rest)) := lv_istore_n C.1 C.2.1 hd hi hl hn he kk
theorem g_istore (C : gC p s m args meth c own cc nL ret E) {i : Nat} {x : Int} {lv : List (Nat × Value)} (lv1 : List (Nat × Value)) (hl : lv_has ls nL lv) (hn : i < nL) (he : (i, vI x) :: lv.filter (fun q => !(q.1 == i) && !(q.1 + 1 == i && q.2.category == 2)) = lv1) (hd : decode cc pc = .ok (.istore i, 2)) (kk : ∀ ls, lv_has ls nL lv1 → W p l e R s m args below meth c H locs cells slots Q (F0 m (pc + 2) ls (rest))) : W p l e R s m args below meth c H locs cells slots Q (F0 m pc ls (vI x :: rest)) := lv_istore C.1 C.2.1 hd hl hn he kk
theorem g_astore_n (C : gC p s m args meth c own cc nL ret E) {k : Fin 4} {i : Nat} {x : Nat} {lv : List (Nat × Value)} (lv1 : List (Nat × Value)) (hl : lv_has ls nL lv) (hi : (k : Nat) = i) (hn : i < nL) (he : (i, .ref x) :: lv.filter (fun q => !(q.1 == i) && !(q.1 + 1 == i && q.2.category == 2)) = lv1) (hd : decode cc pc = .ok (.astore_n k, 1)) (kk : ∀ ls, lv_has ls nL lv1 → W p l e R s m args below meth c H locs cells slots Q (F0 m (pc + 1) ls (rest))) : W p l e R s m args below meth c H locs cells slots Q (F0 m pc ls (.ref x :: rest)) := lv_astore_n C.1 C.2.1 hd hi hl hn he kk
theorem g_astore (C : gC p s m args meth c own cc nL ret E) {i : Nat} {x : Nat} {lv : List (Nat × Value)} (lv1 : List (Nat × Value)) (hl : lv_has ls nL lv) (hn : i < nL) (he : (i, .ref x) :: lv.filter (fun q => !(q.1 == i) && !(q.1 + 1 == i && q.2.category == 2)) = lv1) (hd : decode cc pc = .ok (.astore i, 2)) (kk : ∀ ls, lv_has ls nL lv1 → W p l e R s m args below meth c H locs cells slots Q (F0 m (pc + 2) ls (rest))) : W p l e R s m args below meth c H locs cells slots Q (F0 m pc ls (.ref x :: rest)) := lv_astore C.1 C.2.1 hd hl hn he kk
theorem g_lstore_n (C : gC p s m args meth c own cc nL ret E) {k : Fin 4} {i : Nat} {x : Int} {lv : List (Nat × Value)} (lv1 : List (Nat × Value)) (hl : lv_has ls nL lv) (hi : (k : Nat) = i) (hn : i + 1 < nL) (he : (i, vJ x) :: lv.filter (fun q => !(q.1 == i) && (!(q.1 == i + 1) && !(q.1 + 1 == i && q.2.category == 2))) = lv1) (hd : decode cc pc = .ok (.lstore_n k, 1)) (kk : ∀ ls, lv_has ls nL lv1 → W p l e R s m args below meth c H locs cells slots Q (F0 m (pc + 1) ls (rest))) : W p l e R s m args below meth c H locs cells slots Q (F0 m pc ls (vJ x :: rest)) := lv_lstore_n C.1 C.2.1 hd hi hl hn he kk
theorem g_lstore (C : gC p s m args meth c own cc nL ret E) {i : Nat} {x : Int} {lv : List (Nat × Value)} (lv1 : List (Nat × Value)) (hl : lv_has ls nL lv) (hn : i + 1 < nL) (he : (i, vJ x) :: lv.filter (fun q => !(q.1 == i) && (!(q.1 == i + 1) && !(q.1 + 1 == i && q.2.category == 2))) = lv1) (hd : decode cc pc = .ok (.lstore i, 2)) (kk : ∀ ls, lv_has ls nL lv1 → W p l e R s m args below meth c H locs cells slots Q (F0 m (pc + 2) ls (rest))) : W p l e R s m args below meth c H locs cells slots Q (F0 m pc ls (vJ x :: rest)) := lv_lstore C.1 C.2.1 hd hl hn he kk
theorem g_iinc (C : gC p s m args meth c own cc nL ret E) {i k : Nat} {n x : Int} {lv : List (Nat × Value)} (lv1 : List (Nat × Value)) (hl : lv_has ls nL lv) (hk : lv[k]? = some (i, vI x)) (hn : i < nL) (he : (i, vI (x + n)) :: lv.filter (fun q => !(q.1 == i) && !(q.1 + 1 == i && q.2.category == 2)) = lv1) (hd : decode cc pc = .ok (.iinc i n, 3)) (kk : ∀ ls, lv_has ls nL lv1 → W p l e R s m args below meth c H locs cells slots Q (F0 m (pc + 3) ls (rest))) : W p l e R s m args below meth c H locs cells slots Q (F0 m pc ls (rest)) := lv_iinc C.1 C.2.1 hd hl hk (Int32.ofInt_add x n).symm hn he kk
theorem g_icmp_eq (C : gC p s m args meth c own cc nL ret E) {x y : Int} {off : Int} {tgt : Nat} (hx : inR x) (hy : inR y) (ht : (pc : Int) + off = (tgt : Int)) (hd : decode cc pc = .ok (.if_icmp .eq off, 3)) (kt : x = y → W p l e R s m args below meth c H locs cells slots Q (F0 m tgt ls (rest))) (kf : ¬ (x = y) → W p l e R s m args below meth c H locs cells slots Q (F0 m (pc + 3) ls (rest))) : W p l e R s m args below meth c H locs cells slots Q (F0 m pc ls (vI y :: vI x :: rest)) := lv_icmp_eq C.1 C.2.1 hd ht (fun q => kt ((i_eq hx hy).mp q)) (fun q => kf (fun z => q ((i_eq hx hy).mpr z)))
theorem g_if_eq (C : gC p s m args meth c own cc nL ret E) {x : Int} {off : Int} {tgt : Nat} (hx : inR x) (ht : (pc : Int) + off = (tgt : Int)) (hd : decode cc pc = .ok (.ifCond .eq off, 3)) (kt : x = 0 → W p l e R s m args below meth c H locs cells slots Q (F0 m tgt ls (rest))) (kf : ¬ (x = 0) → W p l e R s m args below meth c H locs cells slots Q (F0 m (pc + 3) ls (rest))) : W p l e R s m args below meth c H locs cells slots Q (F0 m pc ls (vI x :: rest)) := by
  have hy : inR 0 := by decide
  exact lv_if_eq C.1 C.2.1 hd ht (fun q => kt ((i_eq hx hy).mp q)) (fun q => kf (fun z => q ((i_eq hx hy).mpr z)))
theorem g_icmp_ne (C : gC p s m args meth c own cc nL ret E) {x y : Int} {off : Int} {tgt : Nat} (hx : inR x) (hy : inR y) (ht : (pc : Int) + off = (tgt : Int)) (hd : decode cc pc = .ok (.if_icmp .ne off, 3)) (kt : x = y → W p l e R s m args below meth c H locs cells slots Q (F0 m (pc + 3) ls (rest))) (kf : ¬ (x = y) → W p l e R s m args below meth c H locs cells slots Q (F0 m tgt ls (rest))) : W p l e R s m args below meth c H locs cells slots Q (F0 m pc ls (vI y :: vI x :: rest)) := lv_icmp_ne C.1 C.2.1 hd ht (fun q => kf (fun z => q ((i_eq hx hy).mpr z))) (fun q => kt ((i_eq hx hy).mp q))
theorem g_if_ne (C : gC p s m args meth c own cc nL ret E) {x : Int} {off : Int} {tgt : Nat} (hx : inR x) (ht : (pc : Int) + off = (tgt : Int)) (hd : decode cc pc = .ok (.ifCond .ne off, 3)) (kt : x = 0 → W p l e R s m args below meth c H locs cells slots Q (F0 m (pc + 3) ls (rest))) (kf : ¬ (x = 0) → W p l e R s m args below meth c H locs cells slots Q (F0 m tgt ls (rest))) : W p l e R s m args below meth c H locs cells slots Q (F0 m pc ls (vI x :: rest)) := by
  have hy : inR 0 := by decide
  exact lv_if_ne C.1 C.2.1 hd ht (fun q => kf (fun z => q ((i_eq hx hy).mpr z))) (fun q => kt ((i_eq hx hy).mp q))
theorem g_icmp_lt (C : gC p s m args meth c own cc nL ret E) {x y : Int} {off : Int} {tgt : Nat} (hx : inR x) (hy : inR y) (ht : (pc : Int) + off = (tgt : Int)) (hd : decode cc pc = .ok (.if_icmp .lt off, 3)) (kt : x < y → W p l e R s m args below meth c H locs cells slots Q (F0 m tgt ls (rest))) (kf : ¬ (x < y) → W p l e R s m args below meth c H locs cells slots Q (F0 m (pc + 3) ls (rest))) : W p l e R s m args below meth c H locs cells slots Q (F0 m pc ls (vI y :: vI x :: rest)) := lv_icmp_lt C.1 C.2.1 hd ht (fun q => kt ((i_lt hx hy).mp q)) (fun q => kf (fun z => q ((i_lt hx hy).mpr z)))
theorem g_if_lt (C : gC p s m args meth c own cc nL ret E) {x : Int} {off : Int} {tgt : Nat} (hx : inR x) (ht : (pc : Int) + off = (tgt : Int)) (hd : decode cc pc = .ok (.ifCond .lt off, 3)) (kt : x < 0 → W p l e R s m args below meth c H locs cells slots Q (F0 m tgt ls (rest))) (kf : ¬ (x < 0) → W p l e R s m args below meth c H locs cells slots Q (F0 m (pc + 3) ls (rest))) : W p l e R s m args below meth c H locs cells slots Q (F0 m pc ls (vI x :: rest)) := by
  have hy : inR 0 := by decide
  exact lv_if_lt C.1 C.2.1 hd ht (fun q => kt ((i_lt hx hy).mp q)) (fun q => kf (fun z => q ((i_lt hx hy).mpr z)))
theorem g_icmp_ge (C : gC p s m args meth c own cc nL ret E) {x y : Int} {off : Int} {tgt : Nat} (hx : inR x) (hy : inR y) (ht : (pc : Int) + off = (tgt : Int)) (hd : decode cc pc = .ok (.if_icmp .ge off, 3)) (kt : x < y → W p l e R s m args below meth c H locs cells slots Q (F0 m (pc + 3) ls (rest))) (kf : ¬ (x < y) → W p l e R s m args below meth c H locs cells slots Q (F0 m tgt ls (rest))) : W p l e R s m args below meth c H locs cells slots Q (F0 m pc ls (vI y :: vI x :: rest)) := lv_icmp_ge C.1 C.2.1 hd ht (fun q => kf (Int.not_lt.mpr ((i_le hy hx).mp q))) (fun q => kt (Int.not_le.mp (fun z => q ((i_le hy hx).mpr z))))
theorem g_if_ge (C : gC p s m args meth c own cc nL ret E) {x : Int} {off : Int} {tgt : Nat} (hx : inR x) (ht : (pc : Int) + off = (tgt : Int)) (hd : decode cc pc = .ok (.ifCond .ge off, 3)) (kt : x < 0 → W p l e R s m args below meth c H locs cells slots Q (F0 m (pc + 3) ls (rest))) (kf : ¬ (x < 0) → W p l e R s m args below meth c H locs cells slots Q (F0 m tgt ls (rest))) : W p l e R s m args below meth c H locs cells slots Q (F0 m pc ls (vI x :: rest)) := by
  have hy : inR 0 := by decide
  exact lv_if_ge C.1 C.2.1 hd ht (fun q => kf (Int.not_lt.mpr ((i_le hy hx).mp q))) (fun q => kt (Int.not_le.mp (fun z => q ((i_le hy hx).mpr z))))
theorem g_icmp_gt (C : gC p s m args meth c own cc nL ret E) {x y : Int} {off : Int} {tgt : Nat} (hx : inR x) (hy : inR y) (ht : (pc : Int) + off = (tgt : Int)) (hd : decode cc pc = .ok (.if_icmp .gt off, 3)) (kt : y < x → W p l e R s m args below meth c H locs cells slots Q (F0 m tgt ls (rest))) (kf : ¬ (y < x) → W p l e R s m args below meth c H locs cells slots Q (F0 m (pc + 3) ls (rest))) : W p l e R s m args below meth c H locs cells slots Q (F0 m pc ls (vI y :: vI x :: rest)) := lv_icmp_gt C.1 C.2.1 hd ht (fun q => kt ((i_lt hy hx).mp q)) (fun q => kf (fun z => q ((i_lt hy hx).mpr z)))
theorem g_if_gt (C : gC p s m args meth c own cc nL ret E) {x : Int} {off : Int} {tgt : Nat} (hx : inR x) (ht : (pc : Int) + off = (tgt : Int)) (hd : decode cc pc = .ok (.ifCond .gt off, 3)) (kt : 0 < x → W p l e R s m args below meth c H locs cells slots Q (F0 m tgt ls (rest))) (kf : ¬ (0 < x) → W p l e R s m args below meth c H locs cells slots Q (F0 m (pc + 3) ls (rest))) : W p l e R s m args below meth c H locs cells slots Q (F0 m pc ls (vI x :: rest)) := by
  have hy : inR 0 := by decide
  exact lv_if_gt C.1 C.2.1 hd ht (fun q => kt ((i_lt hy hx).mp q)) (fun q => kf (fun z => q ((i_lt hy hx).mpr z)))
theorem g_icmp_le (C : gC p s m args meth c own cc nL ret E) {x y : Int} {off : Int} {tgt : Nat} (hx : inR x) (hy : inR y) (ht : (pc : Int) + off = (tgt : Int)) (hd : decode cc pc = .ok (.if_icmp .le off, 3)) (kt : y < x → W p l e R s m args below meth c H locs cells slots Q (F0 m (pc + 3) ls (rest))) (kf : ¬ (y < x) → W p l e R s m args below meth c H locs cells slots Q (F0 m tgt ls (rest))) : W p l e R s m args below meth c H locs cells slots Q (F0 m pc ls (vI y :: vI x :: rest)) := lv_icmp_le C.1 C.2.1 hd ht (fun q => kf (Int.not_lt.mpr ((i_le hx hy).mp q))) (fun q => kt (Int.not_le.mp (fun z => q ((i_le hx hy).mpr z))))
theorem g_if_le (C : gC p s m args meth c own cc nL ret E) {x : Int} {off : Int} {tgt : Nat} (hx : inR x) (ht : (pc : Int) + off = (tgt : Int)) (hd : decode cc pc = .ok (.ifCond .le off, 3)) (kt : 0 < x → W p l e R s m args below meth c H locs cells slots Q (F0 m (pc + 3) ls (rest))) (kf : ¬ (0 < x) → W p l e R s m args below meth c H locs cells slots Q (F0 m tgt ls (rest))) : W p l e R s m args below meth c H locs cells slots Q (F0 m pc ls (vI x :: rest)) := by
  have hy : inR 0 := by decide
  exact lv_if_le C.1 C.2.1 hd ht (fun q => kf (Int.not_lt.mpr ((i_le hx hy).mp q))) (fun q => kt (Int.not_le.mp (fun z => q ((i_le hx hy).mpr z))))
theorem g_goto (C : gC p s m args meth c own cc nL ret E) {off : Int} {tgt : Nat} (ht : (pc : Int) + off = (tgt : Int)) (hd : decode cc pc = .ok (.goto off, 3)) (kk : W p l e R s m args below meth c H locs cells slots Q (F0 m tgt ls (rest))) : W p l e R s m args below meth c H locs cells slots Q (F0 m pc ls (rest)) := lv_goto C.1 C.2.1 hd ht kk
theorem g_tableOut (C : gC p s m args meth c own cc nL ret E) {dflt lo hi : Int} {offs : Array Int} {len : Nat} {x : Int} {tgt : Nat} (hx : inR x) (h : x < lo ∨ hi < x) (ht : (pc : Int) + dflt = (tgt : Int)) (hd : decode cc pc = .ok (.tableswitch dflt lo hi offs, len)) (kk : W p l e R s m args below meth c H locs cells slots Q (F0 m tgt ls (rest))) : W p l e R s m args below meth c H locs cells slots Q (F0 m pc ls (vI x :: rest)) := lv_tableOut C.1 C.2.1 hd (by rw [i_of_le hx]; exact h) ht kk
theorem g_tableIn (C : gC p s m args meth c own cc nL ret E) {dflt lo hi : Int} {offs : Array Int} {len : Nat} {x n : Int} {off : Int} {tgt : Nat} (hx : x = n) (hr : inR n) (h1 : ¬ n < lo) (h2 : ¬ hi < n) (ho : offs[(n - lo).toNat]? = some off) (ht : (pc : Int) + off = (tgt : Int)) (hd : decode cc pc = .ok (.tableswitch dflt lo hi offs, len)) (kk : W p l e R s m args below meth c H locs cells slots Q (F0 m tgt ls (rest))) : W p l e R s m args below meth c H locs cells slots Q (F0 m pc ls (vI x :: rest)) := by
  subst hx
  exact lv_tableIn C.1 C.2.1 hd (by rw [i_of_le hr]; exact h1) (by rw [i_of_le hr]; exact h2) (by rw [i_of_le hr]; exact ho) ht kk
theorem g_dup (C : gC p s m args meth c own cc nL ret E) {v : Value} (hv : v.category = 1) (hd : decode cc pc = .ok (.dup, 1)) (kk : W p l e R s m args below meth c H locs cells slots Q (F0 m (pc + 1) ls (v :: v :: rest))) : W p l e R s m args below meth c H locs cells slots Q (F0 m pc ls (v :: rest)) := lv_dup C.1 C.2.1 hd hv kk
theorem g_pop (C : gC p s m args meth c own cc nL ret E) {v : Value} (hv : v.category = 1) (hd : decode cc pc = .ok (.pop, 1)) (kk : W p l e R s m args below meth c H locs cells slots Q (F0 m (pc + 1) ls (rest))) : W p l e R s m args below meth c H locs cells slots Q (F0 m pc ls (v :: rest)) := lv_pop C.1 C.2.1 hd hv kk
theorem g_dup2 (C : gC p s m args meth c own cc nL ret E) {v w : Value} (hv : v.category = 1) (hw : w.category = 1) (hd : decode cc pc = .ok (.dup2, 1)) (kk : W p l e R s m args below meth c H locs cells slots Q (F0 m (pc + 1) ls (v :: w :: v :: w :: rest))) : W p l e R s m args below meth c H locs cells slots Q (F0 m pc ls (v :: w :: rest)) := lv_dup2_11 C.1 C.2.1 hd hv hw kk
theorem gCell_get {k : Nat} {o : Int} (hk : k < 9) : gCell E G k o = .inr (k, (List.range (gN k)).map (gFld E G k o)) := by
  match k, hk with
  | 0, _ => rfl
  | 1, _ => rfl
  | 2, _ => rfl
  | 3, _ => rfl
  | 4, _ => rfl
  | 5, _ => rfl
  | 6, _ => rfl
  | 7, _ => rfl
  | 8, _ => rfl
theorem gLay {k : Nat} {C : String} {T : u_T} {N : Nat} (hc : vwCl[k]? = some (C, T, N)) : N = gN k ∧ ∀ w ∈ u_ws C T N, w ∈ gWords := by
  match k, hc with
  | 0, hc => cases hc; exact ⟨rfl, gLay0⟩
  | 1, hc => cases hc; exact ⟨rfl, gLay1⟩
  | 2, hc => cases hc; exact ⟨rfl, gLay2⟩
  | 3, hc => cases hc; exact ⟨rfl, gLay3⟩
  | 4, hc => cases hc; exact ⟨rfl, gLay4⟩
  | 5, hc => cases hc; exact ⟨rfl, gLay5⟩
  | 6, hc => cases hc; exact ⟨rfl, gLay6⟩
  | 7, hc => cases hc; exact ⟨rfl, gLay7⟩
  | k + 8, hc => simp [vwCl] at hc
theorem g_get (C : gC p s m args meth c own cc nL ret E) (h : gH E s G H locs) {k : Nat} {o : Int} (ho : gOk E k o) {CN ref : String} {T : u_T} {N ix : Nat} (hc : vwCl[k]? = some (CN, T, N)) (f : Nat) (hf : f < N) (hk9 : k < 9) (hw : Cond.fieldLink own ix ref (T f).2.1 (T f).2.2.1 ∈ gWords) (hr : (T f).1 = ref) {v : Value} (hv : gFld E G k o f = v) (hd : decode cc pc = .ok (.getfield ix, 3)) (kk : W p l e R s m args below meth c H locs cells slots Q (F0 m (pc + 3) ls (v :: rest))) : W p l e R s m args below meth c H locs cells slots Q (F0 m pc ls (.ref (eA E k o) :: rest)) := by
  obtain ⟨q0, h0, h1⟩ := wl_at E G ho
  rw [gCell_get hk9] at h1
  obtain ⟨hN, hin⟩ := gLay hc
  subst hr
  refine va_get (D := eD E) (Ts := gWords) C.1 C.2.1 C.2.2.2.2.2.1 hin C.2.2.2.2.1 C.2.2.2.2.2.2.2.1 h.1 q0 h1 hc f hf (C.2.2.2.2.2.1 _ hw) (fun _ z => z) (v := v) ?_ hd kk
  rw [List.getElem?_map, List.getElem?_range (by rw [← hN]; exact hf)]
  exact congrArg some hv
theorem gNm {k : Nat} {C : String} {T : u_T} {N : Nat} (hc : vwCl[k]? = some (C, T, N)) : ∃ ty : Nat → FieldType, (∀ k, k < N → parseFieldDescriptor (T k).2.2.1 = some (ty k)) ∧ ∀ a, a < N → ∀ b, b < N → a ≠ b → (T a).2.1 ≠ (T b).2.1 := by
  match k, hc with
  | 0, hc => cases hc; exact ⟨_, tyX0_ok, nmX0⟩
  | 1, hc => cases hc; exact ⟨_, tyX1_ok, nmX1⟩
  | 2, hc => cases hc; exact ⟨_, tyX2_ok, nmX2⟩
  | 3, hc => cases hc; exact ⟨_, tyX3_ok, nmX3⟩
  | 4, hc => cases hc; exact ⟨_, tyX4_ok, nmX4⟩
  | 5, hc => cases hc; exact ⟨_, tyX5_ok, nmX5⟩
  | 6, hc => cases hc; exact ⟨_, tyX6_ok, nmX6⟩
  | 7, hc => cases hc; exact ⟨_, tyX7_ok, nmX7⟩
  | k + 8, hc => simp [vwCl] at hc
theorem g_put (C : gC p s m args meth c own cc nL ret E) (h : gH E s G H locs) {k : Nat} {o : Int} (ho : gOk E k o) {CN ref : String} {T : u_T} {N ix : Nat} (hc : vwCl[k]? = some (CN, T, N)) (f : Nat) (hf : f < N) (hk9 : k < 9) (hw : Cond.fieldLink own ix ref (T f).2.1 (T f).2.2.1 ∈ gWords) (hr : (T f).1 = ref) (hfin : (T f).2.2.2 = false) (href : gRef k o f = none) {ty : FieldType} (hty : parseFieldDescriptor (T f).2.2.1 = some ty) {z : Int} (hn : narrow ty (vI z) = vI z) (hfit : fits ty (vI z) = true) (hd : decode cc pc = .ok (.putfield ix, 3)) (kk : ∀ (H : Heap) (locs : List Loc), gH E s (gup G k o f z) H locs → W p l e R s m args below meth c H locs cells slots Q (F0 m (pc + 3) ls (rest))) : W p l e R s m args below meth c H locs cells slots Q (F0 m pc ls (vI z :: .ref (eA E k o) :: rest)) := by
  obtain ⟨q0, h0, h1⟩ := wl_at E G ho
  rw [gCell_get hk9] at h1
  obtain ⟨hN, hin⟩ := gLay hc
  obtain ⟨ty0, hty0, hnm⟩ := gNm hc
  subst hr
  refine va_put (D := eD E) (Ts := gWords) C.1 C.2.1 C.2.2.2.2.2.1 hin ty0 hty0 hnm C.2.2.2.2.1 C.2.2.2.2.2.2.2.1 h.1 (gD_of G C.2.2.2.2.2.2.2.2.1) h.2 q0 h1 hc f hf (C.2.2.2.2.2.1 _ hw) (fun _ z => z) hfin hty hn hfit (by rw [List.length_map, List.length_range, ← hN]; exact hf) hd (fun H1 locs1 hP _ hS => kk H1 locs1 ⟨?_, hS⟩)
  rw [wl_set C.2.2.2.2.2.2.2.2.1.2.2.1 h0 (gCell_put hk9 href) (fun k' o' hne => gCell_congr (fun f' => gup_ne hne f'))] at hP
  exact hP
theorem g_putZ (C : gC p s m args meth c own cc nL ret E) (h : gH E s G H locs) {k : Nat} {o : Int} (ho : gOk E k o) {CN ref : String} {T : u_T} {N ix : Nat} (hc : vwCl[k]? = some (CN, T, N)) (f : Nat) (hf : f < N) (hk9 : k < 9) (hw : Cond.fieldLink own ix ref (T f).2.1 (T f).2.2.1 ∈ gWords) (hr : (T f).1 = ref) (hfin : (T f).2.2.2 = false) (href : gRef k o f = none) (hty : parseFieldDescriptor (T f).2.2.1 = some .boolean) {z : Int} (hz : z = 0 ∨ z = 1) (hd : decode cc pc = .ok (.putfield ix, 3)) (kk : ∀ (H : Heap) (locs : List Loc), gH E s (gup G k o f z) H locs → W p l e R s m args below meth c H locs cells slots Q (F0 m (pc + 3) ls (rest))) : W p l e R s m args below meth c H locs cells slots Q (F0 m pc ls (vI z :: .ref (eA E k o) :: rest)) := by
  have hb : narrow .boolean (vI z) = vI z ∧ fits .boolean (vI z) = true := by rcases hz with rfl | rfl <;> exact ⟨by rfl, by rfl⟩
  exact g_put C h ho hc f hf hk9 hw hr hfin href hty hb.1 hb.2 hd kk
theorem gCL {k : Nat} {x : ClassId × (Nat × ((Nat → Int32) ⊕ (Nat → Int64) ⊕ (Nat → UInt32) ⊕ (Nat → UInt64) ⊕ (Nat → Option Nat)))} {o : Int} (ho : gOk E k o) (hx : gCell E G k o = .inl x) : ∃ q0 : Nat, (eL E)[q0]? = some (k, o) ∧ (wl E G)[q0]? = some (eA E k o, .inl x) := by
  obtain ⟨q0, h0, h1⟩ := wl_at E G ho
  rw [hx] at h1
  exact ⟨q0, h0, h1⟩
theorem i_cl {x : Int} {n : Nat} (h : 0 ≤ x ∧ x < n) (hn : n < 2147483648) : (((Int32.ofInt x).toNatClampNeg : Nat) : Int) = x := by
  rw [i_clamp ⟨by omega, by omega⟩, Int.toNat_of_nonneg h.1]
theorem g_bald (C : gC p s m args meth c own cc nL ret E) (h : gH E s G H locs) {o : Int} (ho : gOk E 9 o) {i : Int} {n : Nat} (hn : 90 = n) (hn2 : n < 2147483648) (hi : 0 ≤ i ∧ i < n) (hd : decode cc pc = .ok (.baload, 1)) (kk : W p l e R s m args below meth c H locs cells slots Q (F0 m (pc + 1) ls (vI (G 9 o i) :: rest))) : W p l e R s m args below meth c H locs cells slots Q (F0 m pc ls (vI i :: .ref (eA E 9 o) :: rest)) := by
  obtain ⟨q0, h0, h1⟩ := gCL (E := E) (G := G) ho rfl
  subst hn
  refine va_bald (D := eD E) C.1 C.2.1 C.2.2.2.2.2.2.2.1 h.1 q0 0 h1 rfl (i_in hi.1 hi.2 hn2) hd ?_
  rw [i_cl hi hn2]
  exact kk
theorem g_ald14 (C : gC p s m args meth c own cc nL ret E) (h : gH E s G H locs) {o : Int} (ho : gOk E 14 o) {i : Int} (hi : 0 ≤ i ∧ i < 7) (hd : decode cc pc = .ok (.aaload, 1)) (kk : W p l e R s m args below meth c H locs cells slots Q (F0 m (pc + 1) ls (.ref (eA E 5 (7 * o + i)) :: rest))) : W p l e R s m args below meth c H locs cells slots Q (F0 m pc ls (vI i :: .ref (eA E 14 o) :: rest)) := by
  obtain ⟨q0, h0, h1⟩ := gCL (E := E) (G := G) ho rfl
  refine va_aldq (D := eD E) C.1 C.2.1 C.2.2.2.2.2.2.2.1 h.1 q0 2 h1 rfl (i_in hi.1 hi.2 (by decide)) hd ?_
  show W p l e R s m args below meth c H locs cells slots Q (F0 m (pc + 1) ls (.ref (eA E 5 (7 * o + (((Int32.ofInt i).toNatClampNeg : Nat) : Int))) :: rest))
  rw [i_cl (n := 7) hi (by decide)]
  exact kk
theorem g_ald15 (C : gC p s m args meth c own cc nL ret E) (h : gH E s G H locs) {o : Int} (ho : gOk E 15 o) {i : Int} (hi : 0 ≤ i ∧ i < 8) (hd : decode cc pc = .ok (.aaload, 1)) (kk : W p l e R s m args below meth c H locs cells slots Q (F0 m (pc + 1) ls (.ref (eA E 1 (8 * o + i)) :: rest))) : W p l e R s m args below meth c H locs cells slots Q (F0 m pc ls (vI i :: .ref (eA E 15 o) :: rest)) := by
  obtain ⟨q0, h0, h1⟩ := gCL (E := E) (G := G) ho rfl
  refine va_aldq (D := eD E) C.1 C.2.1 C.2.2.2.2.2.2.2.1 h.1 q0 3 h1 rfl (i_in hi.1 hi.2 (by decide)) hd ?_
  show W p l e R s m args below meth c H locs cells slots Q (F0 m (pc + 1) ls (.ref (eA E 1 (8 * o + (((Int32.ofInt i).toNatClampNeg : Nat) : Int))) :: rest))
  rw [i_cl (n := 8) hi (by decide)]
  exact kk
theorem g_ald16 (C : gC p s m args meth c own cc nL ret E) (h : gH E s G H locs) {o : Int} (ho : gOk E 16 o) {i : Int} (hi : 0 ≤ i ∧ i < 10) (hd : decode cc pc = .ok (.aaload, 1)) (kk : W p l e R s m args below meth c H locs cells slots Q (F0 m (pc + 1) ls (.ref (eA E 6 (10 * o + i)) :: rest))) : W p l e R s m args below meth c H locs cells slots Q (F0 m pc ls (vI i :: .ref (eA E 16 o) :: rest)) := by
  obtain ⟨q0, h0, h1⟩ := gCL (E := E) (G := G) ho rfl
  refine va_aldq (D := eD E) C.1 C.2.1 C.2.2.2.2.2.2.2.1 h.1 q0 4 h1 rfl (i_in hi.1 hi.2 (by decide)) hd ?_
  show W p l e R s m args below meth c H locs cells slots Q (F0 m (pc + 1) ls (.ref (eA E 6 (10 * o + (((Int32.ofInt i).toNatClampNeg : Nat) : Int))) :: rest))
  rw [i_cl (n := 10) hi (by decide)]
  exact kk
theorem g_ald17 (C : gC p s m args meth c own cc nL ret E) (h : gH E s G H locs) {o : Int} (ho : gOk E 17 o) {i : Int} (hi : 0 ≤ i ∧ i < 12) (hd : decode cc pc = .ok (.aaload, 1)) (kk : W p l e R s m args below meth c H locs cells slots Q (F0 m (pc + 1) ls (.ref (eA E 2 (12 * o + i)) :: rest))) : W p l e R s m args below meth c H locs cells slots Q (F0 m pc ls (vI i :: .ref (eA E 17 o) :: rest)) := by
  obtain ⟨q0, h0, h1⟩ := gCL (E := E) (G := G) ho rfl
  refine va_aldq (D := eD E) C.1 C.2.1 C.2.2.2.2.2.2.2.1 h.1 q0 5 h1 rfl (i_in hi.1 hi.2 (by decide)) hd ?_
  show W p l e R s m args below meth c H locs cells slots Q (F0 m (pc + 1) ls (.ref (eA E 2 (12 * o + (((Int32.ofInt i).toNatClampNeg : Nat) : Int))) :: rest))
  rw [i_cl (n := 12) hi (by decide)]
  exact kk
theorem g_ald12 (C : gC p s m args meth c own cc nL ret E) (h : gH E s G H locs) {o : Int} (ho : gOk E 12 o) {i : Int} (hi : 0 ≤ i ∧ i < 4) (hd : decode cc pc = .ok (.aaload, 1)) (kk : W p l e R s m args below meth c H locs cells slots Q (F0 m (pc + 1) ls (.ref (eA E 3 (G 12 o i)) :: rest))) : W p l e R s m args below meth c H locs cells slots Q (F0 m pc ls (vI i :: .ref (eA E 12 o) :: rest)) := by
  obtain ⟨q0, h0, h1⟩ := gCL (E := E) (G := G) ho rfl
  refine va_aldq (D := eD E) C.1 C.2.1 C.2.2.2.2.2.2.2.1 h.1 q0 1 h1 rfl (i_in hi.1 hi.2 (by decide)) hd ?_
  show W p l e R s m args below meth c H locs cells slots Q (F0 m (pc + 1) ls (.ref (eA E 3 (G 12 o (((Int32.ofInt i).toNatClampNeg : Nat) : Int))) :: rest))
  rw [i_cl (n := 4) hi (by decide)]
  exact kk
theorem upd_eq (f : Nat → Int32) (k : Nat) (x : Int32) : upd f k x = fun j => if j = k then x else f j := rfl
theorem updL_eq (f : Nat → Int64) (k : Nat) (x : Int64) : vp_updL f k x = fun j => if j = k then x else f j := rfl
theorem va_up_eq {α : Type} (f : Nat → α) (k : Nat) (x : α) : va_up f k x = fun j => if j = k then x else f j := rfl
theorem g_bast (C : gC p s m args meth c own cc nL ret E) (h : gH E s G H locs) {o : Int} (ho : gOk E 9 o) {i z : Int} {n : Nat} (hn : 90 = n) (hn2 : n < 2147483648) (hi : 0 ≤ i ∧ i < n) (hz : -128 ≤ z ∧ z ≤ 127) (hd : decode cc pc = .ok (.bastore, 1)) (kk : ∀ (H : Heap) (locs : List Loc), gH E s (gup G 9 o i z) H locs → W p l e R s m args below meth c H locs cells slots Q (F0 m (pc + 1) ls (rest))) : W p l e R s m args below meth c H locs cells slots Q (F0 m pc ls (vI z :: vI i :: .ref (eA E 9 o) :: rest)) := by
  obtain ⟨q0, h0, h1⟩ := gCL (E := E) (G := G) ho rfl
  subst hn
  refine va_bast (D := eD E) C.1 C.2.1 C.2.2.2.2.2.2.2.1 h.1 (gD_of G C.2.2.2.2.2.2.2.2.1) h.2 q0 0 h1 rfl (i_in hi.1 hi.2 hn2) hd (fun H1 locs1 hP _ hS => kk H1 locs1 ⟨?_, hS⟩)
  rw [show vp_nar .byte (Int32.ofInt z) = Int32.ofInt z by rw [vp_nar_byte]; exact i_b hz] at hP
  rw [i_clamp ⟨by omega, by omega⟩, upd_eq, ← gUp_arr (w := Int32.ofInt) hi.1] at hP
  have e9 := wl_set (E := E) (G := G) (G1 := gup G 9 o i z) C.2.2.2.2.2.2.2.2.1.2.2.1 h0 rfl (fun k' o' hne => gCell_congr (fun f' => gup_ne hne f'))
  show va_P (eD E) vwCl (wl E (gup G 9 o i z)) H1
  rw [← e9]
  exact hP
theorem g_ast12 (C : gC p s m args meth c own cc nL ret E) (h : gH E s G H locs) {o : Int} (ho : gOk E 12 o) {i z : Int} (hz : gOk E 3 z) (hi : 0 ≤ i ∧ i < 4) (hd : decode cc pc = .ok (.aastore, 1)) (kk : ∀ (H : Heap) (locs : List Loc), gH E s (gup G 12 o i z) H locs → W p l e R s m args below meth c H locs cells slots Q (F0 m (pc + 1) ls (rest))) : W p l e R s m args below meth c H locs cells slots Q (F0 m pc ls (.ref (eA E 3 z) :: vI i :: .ref (eA E 12 o) :: rest)) := by
  obtain ⟨q0, h0, h1⟩ := gCL (E := E) (G := G) ho rfl
  obtain ⟨q1, g0, g1⟩ := wl_at E G hz
  rw [gCell_get (by decide)] at g1
  refine va_astq (D := eD E) (r := (RX3, TX3, 13)) C.1 C.2.1 C.2.2.2.2.2.2.2.1 h.1 (gD_of G C.2.2.2.2.2.2.2.2.1) h.2 q0 1 q1 3 h1 rfl g1 rfl (i_in hi.1 hi.2 (by decide)) hd (fun H1 locs1 hP _ hS => kk H1 locs1 ⟨?_, hS⟩)
  rw [i_clamp ⟨by omega, by omega⟩, va_up_eq, ← gUp_arr (w := fun z => some (eA E 3 z)) hi.1] at hP
  have e9 := wl_set (E := E) (G := G) (G1 := gup G 12 o i z) C.2.2.2.2.2.2.2.2.1.2.2.1 h0 rfl (fun k' o' hne => gCell_congr (fun f' => gup_ne hne f'))
  show va_P (eD E) vwCl (wl E (gup G 12 o i z)) H1
  rw [← e9]
  exact hP
end GROW

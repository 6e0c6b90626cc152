/-! CONSTRUCTORS: cells made one behind another, from the address B on -/
theorem wC_objInit : Cond.code Lib.objectInit ⟨#[0xb1]⟩ 1 none ∈ gWords := gmT 23 (by decide +kernel) rfl
theorem wA_byte : Cond.arrayClass .byte ∈ gWords := gmT 260 (by decide +kernel) rfl
def cL (B N : Nat) (Wf : Nat → va_E) : va_W := (List.range N).map fun j => (B + j, Wf j)
def wU (Wf : Nat → va_E) (k : Nat) (x : va_E) : Nat → va_E := fun j => if j = k then x else Wf j
def cP (E : gEnv) (B N : Nat) (Wf : Nat → va_E) (H : Heap) : Prop := H.size = B + N ∧ va_P (eD E) vwCl (cL B N Wf) H
theorem cL_at {B N j : Nat} {Wf : Nat → va_E} (h : j < N) : (cL B N Wf)[j]? = some (B + j, Wf j) := by
  unfold cL
  rw [List.getElem?_map, List.getElem?_range h]
  rfl
theorem cL_in {B N k : Nat} {Wf : Nat → va_E} {q : Nat × va_E} (h : (cL B N Wf)[k]? = some q) : k < N ∧ q = (B + k, Wf k) := by
  have hl : k < N := by
    have := (List.getElem?_eq_some_iff.mp h).1
    unfold cL at this
    rwa [List.length_map, List.length_range] at this
  rw [cL_at hl] at h
  exact ⟨hl, (Option.some.inj h).symm⟩
theorem cL_D {B N : Nat} {Wf : Nat → va_E} {A : Nat → Prop} (hA : ∀ q, B ≤ q → A q) : va_D A (cL B N Wf) := by
  refine ⟨fun i j p q hi hj hpq => ?_, fun k q hk => ?_⟩
  · obtain ⟨-, rfl⟩ := cL_in hi
    obtain ⟨-, rfl⟩ := cL_in hj
    have : B + i = B + j := hpq
    omega
  · obtain ⟨-, rfl⟩ := cL_in hk
    exact hA _ (Nat.le_add_right _ _)
theorem cL_set {B N j : Nat} {Wf : Nat → va_E} {x : va_E} : (cL B N Wf).set j (B + j, x) = cL B N (wU Wf j x) := by
  refine List.ext_getElem? fun i => ?_
  unfold cL
  rw [List.getElem?_set, List.getElem?_map, List.getElem?_map]
  by_cases hi : j = i
  · subst hi
    rw [if_pos rfl, List.length_map, List.length_range]
    by_cases hl : j < N
    · rw [if_pos hl, List.getElem?_range hl]
      simp [wU]
    · rw [if_neg hl, List.getElem?_eq_none (by rw [List.length_range]; omega)]
      rfl
  · rw [if_neg hi]
    cases hx : (List.range N)[i]? with
    | none => rfl
    | some j' =>
      obtain ⟨hl, he⟩ := List.getElem?_eq_some_iff.mp hx
      rw [List.getElem_range] at he
      subst he
      show some _ = some (B + i, wU Wf j x i)
      unfold wU
      rw [if_neg (fun z => hi z.symm)]
theorem cP_push {E : gEnv} {B N : Nat} {Wf : Nat → va_E} {H H1 : Heap} {x : va_E} (h : cP E B N Wf H) (h1 : va_at (eD E) vwCl (H.size, x) H1) (hz : H1.size = H.size + 1) (ho : ∀ q, q < H.size → H1[q]? = H[q]?) : cP E B (N + 1) (wU Wf N x) H1 := by
  refine ⟨by rw [hz, h.1]; omega, fun k q hk => ?_⟩
  obtain ⟨hl, rfl⟩ := cL_in hk
  by_cases hn : k = N
  · subst hn
    have e : wU Wf k x k = x := by unfold wU; rw [if_pos rfl]
    rw [e, ← h.1]
    exact h1
  · have e : wU Wf N x k = Wf k := by unfold wU; rw [if_neg hn]
    rw [e]
    have h2 := h.2 k _ (cL_at (by omega))
    exact h2.kept (ho _ h2.lt)
theorem cP_eq {E : gEnv} {B N : Nat} {Wf Wg : Nat → va_E} {H : Heap} (h : cP E B N Wf H) (he : ∀ j, j < N → Wf j = Wg j) : cP E B N Wg H := by
  refine ⟨h.1, fun k q hk => ?_⟩
  obtain ⟨hl, rfl⟩ := cL_in hk
  rw [← he k hl]
  exact h.2 k _ (cL_at hl)
section GCT
variable {p : Program} {l : Launch} {e : Env} {R : Room} {s : State} {m : MethodId} {args : Array Value} {below : List Frame} {meth : Method} {c : Code} {H : Heap} {locs : List Loc} {cells slots : Nat} {Q : State → Prop}
variable {pc : Nat} {ls : Array Slot} {rest st : List Value} {own : String} {cc : ByteArray} {nL : Nat} {ret : Option FieldType} {E : gEnv} {B N : Nat} {Wf : Nat → va_E} {A : Nat → Prop}
theorem n_new (C : gC p s m args meth c own cc nL ret E) (h : cP E B N Wf H) (hS : va_S A s.heap H locs) {k : Nat} {CN : String} {T : u_T} {n ix : Nat} {ty : Nat → FieldType} (hcl : vwCl[k]? = some (CN, T, n)) (hty : ∀ j, j < n → parseFieldDescriptor (T j).2.2.1 = some (ty j)) {fs : List Value} (hfs : ∀ j, j < n → defaultValue (ty j) = vp_V fs j) (w1 : Cond.classLink own ix CN ∈ gWords) (w2 : Cond.instantiable CN n ∈ gWords) (w3 : Cond.initialized CN ∈ gWords) (hR : cells + 1 ≤ R.cells ∧ slots + n ≤ R.slots) (hd : decode cc pc = .ok (.new ix, 3)) (kk : ∀ H1 : Heap, cP E B (N + 1) (wU Wf N (.inr (k, fs))) H1 → va_S A s.heap H1 locs → W p l e R s m args below meth c H1 locs (cells + 1) (slots + n) Q (F0 m (pc + 3) ls (.ref (B + N) :: rest))) : W p l e R s m args below meth c H locs cells slots Q (F0 m pc ls (rest)) := by
  have ht := C.2.2.2.2.2.1
  have hKn := C.2.2.2.2.2.2.2.1.1 k _ hcl
  obtain ⟨-, hin⟩ := gLay hcl
  refine W.newcK C.1 C.2.1 C.2.2.2.2.1 (ht _ w1) (ht _ w2) (ht _ w3) rfl hd hR.1 hR.2 hKn.2.1 rfl fun H1 kC hkC e1 z1 o1 => ?_
  rw [h.1]
  exact kk H1 (cP_push h ⟨_, hcl, (u_born ty ht hin hKn hkC e1 hty).to hfs⟩ z1 o1) ⟨Nat.le_trans hS.1 (by omega), fun x h1 h2 => (o1 x (Nat.lt_of_lt_of_le h1 hS.1)).trans (hS.2.1 x h1 h2), hS.2.2⟩
theorem n_newa (C : gC p s m args meth c own cc nL ret E) (h : cP E B N Wf H) (hS : va_S A s.heap H locs) {atype : ArrayType} {ty : FieldType} (hty : newarray.typeOf atype = ty) (w1 : Cond.arrayClass ty ∈ gWords) (t0 k : Nat) (hK : (gTys E)[t0]? = some (eC E k, ty)) (hra : va_RA s (eC E k) ty → s.vm.findClass ("[" ++ ty.toString) = some (eC E k)) {n : Int} {n1 : Nat} (hn : n = n1) (hn2 : n1 < 2147483648) {x : (Nat → Int32) ⊕ (Nat → Int64) ⊕ (Nat → UInt32) ⊕ (Nat → UInt64) ⊕ (Nat → Option Nat)} (hx : ∀ cA : ClassId, vp_cell cA (n1, x) = arrV cA n1 (fun _ => defaultValue ty)) (hb9 : n1 * componentBytes ty ≤ 536870912) (hR : cells + 1 ≤ R.cells ∧ slots + n1 ≤ R.slots) (hd : decode cc pc = .ok (.newarray atype, 2)) (kk : ∀ H1 : Heap, cP E B (N + 1) (wU Wf N (.inl (eC E k, n1, x))) H1 → va_S A s.heap H1 locs → W p l e R s m args below meth c H1 locs (cells + 1) (slots + n1) Q (F0 m (pc + 2) ls (.ref (B + N) :: rest))) : W p l e R s m args below meth c H locs cells slots Q (F0 m pc ls (vI n :: rest)) := by
  have ht := C.2.2.2.2.2.1
  subst hty
  subst hn
  have hr : inR (n1 : Int) := ⟨by omega, by omega⟩
  refine va_newaK C.1 C.2.1 (ht _ w1) rfl hd rfl (fun z => by rw [Int32.lt_iff_toInt_lt, i_of_le hr] at z; have e0 : (0 : Int32).toInt = 0 := rfl; omega) (by rw [i_clamp hr]; exact Int.toNat_natCast n1) hb9 hR.1 hR.2 rfl fun H1 cA e1 z1 o1 hAr hNm => ?_
  have hc : cA = eC E k := by
    have h1 := hra ((C.2.2.2.2.2.2.2.1.2 t0 _ hK).2)
    exact Option.some.inj (hNm.symm.trans h1)
  subst hc
  rw [h.1]
  exact kk H1 (cP_push h (by show H1[H.size]? = some (vp_cell _ _); rw [hx]; exact e1) z1 o1) ⟨Nat.le_trans hS.1 (by omega), fun x h1 h2 => (o1 x (Nat.lt_of_lt_of_le h1 hS.1)).trans (hS.2.1 x h1 h2), hS.2.2⟩
theorem n_anew (C : gC p s m args meth c own cc nL ret E) (h : cP E B N Wf H) (hS : va_S A s.heap H locs) {CN : String} {ix : Nat} (w1 : Cond.classLink own ix CN ∈ gWords) (w2 : CN ∈ gAO) (t0 k : Nat) (hK : (gTys E)[t0]? = some (eC E k, .object CN)) {n : Int} {n1 : Nat} (hn : n = n1) (hn2 : n1 < 100000) (hR : cells + 1 ≤ R.cells ∧ slots + n1 ≤ R.slots) (hd : decode cc pc = .ok (.anewarray ix, 3)) (kk : ∀ H1 : Heap, cP E B (N + 1) (wU Wf N (.inl (eC E k, n1, gRs (fun _ => none)))) H1 → va_S A s.heap H1 locs → W p l e R s m args below meth c H1 locs (cells + 1) (slots + n1) Q (F0 m (pc + 3) ls (.ref (B + N) :: rest))) : W p l e R s m args below meth c H locs cells slots Q (F0 m pc ls (vI n :: rest)) := by
  have ht := C.2.2.2.2.2.1
  subst hn
  have hr : inR (n1 : Int) := ⟨by omega, by omega⟩
  have hcl : (Int32.ofInt (n1 : Int)).toNatClampNeg = n1 := by rw [i_clamp hr]; exact Int.toNat_natCast n1
  refine W.anew C.1 C.2.1 C.2.2.2.2.1 (ht _ w1) (C.2.2.2.2.2.2.2.2.2.2.2.2 _ w2).use rfl hd rfl (fun z => by rw [Int32.lt_iff_toInt_lt, i_of_le hr] at z; have e0 : (0 : Int32).toInt = 0 := rfl; omega) (by rw [hcl]; omega) hR.1 (by rw [hcl]; exact hR.2) fun cA kA comp f1 f2 f3 f4 => ?_
  rw [hcl]
  obtain ⟨-, kA9, comp9, g1, g2, g3, g4⟩ := C.2.2.2.2.2.2.2.1.2 t0 _ hK
  have hc : cA = eC E k := Option.some.inj (f1.symm.trans g4)
  subst hc
  generalize hH1 : H.push ({ cls := eC E k, slots := Array.replicate n1 .null, vm := .none } : Cell) = H1
  have z1 : H1.size = H.size + 1 := by rw [← hH1, Array.size_push]
  have e1 : H1[H.size]? = some (arrV (eC E k) n1 (fun _ => .null)) := by rw [← hH1, Array.getElem?_push_size, ← arrV_new]
  have o1 : ∀ q : Nat, q < H.size → H1[q]? = H[q]? := fun q hq => by rw [← hH1, Array.getElem?_push, if_neg (Nat.ne_of_lt hq)]
  rw [h.1]
  exact kk H1 (cP_push h e1 z1 o1) ⟨Nat.le_trans hS.1 (by omega), fun x h1 h2 => (o1 x (Nat.lt_of_lt_of_le h1 hS.1)).trans (hS.2.1 x h1 h2), hS.2.2⟩
theorem n_putF (C : gC p s m args meth c own cc nL ret E) (h : cP E B N Wf H) (hS : va_S A s.heap H locs) (hA : ∀ q, B ≤ q → A q) {k j : Nat} (hj : j < N) {fs : List Value} (hw : Wf j = .inr (k, fs)) {CN : String} {T : u_T} {n ix : Nat} (hcl : vwCl[k]? = some (CN, T, n)) (f : Nat) (hf : f < n) (w1 : Cond.fieldLink own ix (T f).1 (T f).2.1 (T f).2.2.1 ∈ gWords) (hfin : (T f).2.2.2 = true) (hin : meth.name = "<init>") (hdecl : (T f).1 = own) {ty : FieldType} (hty : parseFieldDescriptor (T f).2.2.1 = some ty) {v : Nat} (hn : narrow ty (.ref v) = .ref v) (hfit : fits ty (.ref v) = true) (hlen : f < fs.length) (hd : decode cc pc = .ok (.putfield ix, 3)) (kk : ∀ (H1 : Heap) (locs1 : List Loc), cP E B N (wU Wf j (.inr (k, fs.set f (.ref v)))) H1 → va_S A s.heap H1 locs1 → W p l e R s m args below meth c H1 locs1 cells slots Q (F0 m (pc + 3) ls (rest))) : W p l e R s m args below meth c H locs cells slots Q (F0 m pc ls (.ref v :: .ref (B + j) :: rest)) := by
  obtain ⟨-, hinw⟩ := gLay hcl
  obtain ⟨ty0, hty0, hnm⟩ := gNm hcl
  have he : (cL B N Wf)[j]? = some (B + j, .inr (k, fs)) := by rw [cL_at hj, hw]
  have hap := va_apart (own := own) C.2.2.2.2.2.1 hinw ty0 hty0 hnm C.2.2.2.2.2.2.2.1 hcl
  obtain ⟨r, h1, cell, q1, q2, q3, q4⟩ := h.2 j _ he
  have hr : r = (CN, T, n) := Option.some.inj (h1.symm.trans hcl)
  subst hr
  obtain ⟨hSl, hfc, kC, hkC, hkind⟩ := C.2.2.2.2.2.2.2.1.1 k _ hcl
  obtain ⟨cf, kf, fi, fd, hi, hsl⟩ := hSl f hf
  have hlay := C.2.2.2.2.2.1 _ (hinw _ (u_in_lay hf))
  unfold u_lay at hlay
  rw [if_pos hfin] at hlay
  have hst := (u_facts hfc hkC (u_lays C.2.2.2.2.2.1 hinw hf) hi).1
  have hcf : m.cls = cf := by
    obtain ⟨_, _, c', _, _, _, -, -, hf', -, -, -, hown2, -⟩ := Cond.laysFinal_spec hlay
    have e1 : c' = cf := by have := hi.symm.trans hf'; simp at this; exact this.1.symm
    rw [hdecl] at hown2
    rw [← e1]; exact Option.some.inj (C.2.2.2.2.1.symm.trans hown2)
  have h6 := u_fits hfc hkC hkind (Or.inr hlay) hi hty hn hfit
  refine W.putFinK C.1 C.2.1 C.2.2.2.2.1 (C.2.2.2.2.2.1 _ w1) hi hst hcf hin (by rw [q2]; exact h6) q1 q3 (by rw [hsl]; exact k2_hasslot (q4 f hf)) rfl rfl hd fun H' e1 e2 e3 => ?_
  rw [hsl] at e1 ⊢
  have hat : va_at (eD E) vwCl (B + j, .inr (k, fs.set f (.ref v))) H' := ⟨_, hcl, t_OB.to (V := updV (vp_V fs) f (.ref v)) ⟨_, e1, q2, q3, t_set q4 hap hf (.ref v)⟩ (fun j _ => vp_updV_set hlen (.ref v) j)⟩
  have hP2 := h.2.set (cL_D (A := fun _ => True) (fun _ _ => trivial)) he hat e3
  rw [cL_set] at hP2
  exact kk H' _ ⟨e2.trans h.1, hP2⟩ (hS.put e2 e3 (hA _ (Nat.le_add_right _ _)))
theorem n_get (C : gC p s m args meth c own cc nL ret E) (h : cP E B N Wf H) (hS : va_S A s.heap H locs) {k j : Nat} (hj : j < N) {fs : List Value} (hw : Wf j = .inr (k, fs)) {CN : String} {T : u_T} {n ix : Nat} (hcl : vwCl[k]? = some (CN, T, n)) (f : Nat) (hf : f < n) (w1 : Cond.fieldLink own ix (T f).1 (T f).2.1 (T f).2.2.1 ∈ gWords) {v : Value} (hv : fs[f]? = some v) (hd : decode cc pc = .ok (.getfield ix, 3)) (kk : W p l e R s m args below meth c H locs cells slots Q (F0 m (pc + 3) ls (v :: rest))) : W p l e R s m args below meth c H locs cells slots Q (F0 m pc ls (.ref (B + j) :: rest)) := by
  obtain ⟨-, hin⟩ := gLay hcl
  exact va_get (D := eD E) (Ts := gWords) C.1 C.2.1 C.2.2.2.2.2.1 hin C.2.2.2.2.1 C.2.2.2.2.2.2.2.1 h.2 j (by rw [cL_at hj, hw]) hcl f hf (C.2.2.2.2.2.1 _ w1) (fun _ z => z) hv hd kk
theorem va_astqS (C : gC p s m args meth c own cc nL ret E) (hP : va_P (eD E) vwCl (cL B N Wf) H) (hS : va_S A s.heap H locs) (hA : ∀ q, B ≤ q → A q) (hsz : H.size = B + N) (j t0 qk ci : Nat) {cA : ClassId} {r : vw_C} {n v a : Nat} {vs : List Value} {f : Nat → Option Nat} (ha : (cL B N Wf)[j]? = some (a, .inl (cA, n, .inr (.inr (.inr (.inr f)))))) (ht : (gTys E)[t0]? = some (cA, .object r.1)) (hv : (cL B N Wf)[qk]? = some (v, .inr (ci, vs))) (hc : vwCl[ci]? = some r) {i : Int32} (hin : vp_in i n) (hd : decode cc pc = .ok (.aastore, 1)) (kk : ∀ (H1 : Heap) (locs1 : List Loc), H1.size = B + N → va_P (eD E) vwCl ((cL B N Wf).set j (a, .inl (cA, n, .inr (.inr (.inr (.inr (va_up f i.toNatClampNeg (some v)))))))) H1 → va_S A s.heap H1 locs1 → W p l e R s m args below meth c H1 locs1 cells slots Q (F0 m (pc + 1) ls (rest))) : W p l e R s m args below meth c H locs cells slots Q (F0 m pc ls (.ref v :: .int i :: .ref a :: rest)) := by
  obtain ⟨h0, hlt⟩ : ¬ i < 0 ∧ i.toNatClampNeg < n := ⟨fun q => hin (Or.inl q), Nat.not_le.mp fun q => hin (Or.inr q)⟩
  have hKs := C.2.2.2.2.2.2.2.1
  obtain ⟨r9, -, cellV, g1, g2, g3, -⟩ := hP qk _ hv
  have hcls := (hKs.1 ci r hc).2
  obtain ⟨kA, comp, k1, k2, k3, -⟩ := (hKs.2 t0 _ ht).2
  have hcomp : comp = (eD E).1 ci := Option.some.inj (k3.symm.trans hcls.1)
  subst hcomp
  obtain ⟨kC, hkC, -⟩ := id hcls.2
  have hj : B ≤ a := by
    obtain ⟨-, e9⟩ := cL_in ha
    have e8 : a = B + j := congrArg Prod.fst e9
    omega
  refine W.aast C.1 C.2.1 (hP j _ ha) (fun q z => by cases z) (fun z => by cases z) k1 k2 rfl hkC ⟨h0, by show _ < (arrV _ _ _).slots.size; rw [arrV_size]; exact hlt⟩ g1 (fun q z => by rw [g3] at z; cases z) (by rw [g2]; exact hkC) (by rw [g2]; exact va_assign hcls) rfl rfl hd fun H1 e z oq => ?_
  have hat : va_at (eD E) vwCl (a, .inl (cA, n, .inr (.inr (.inr (.inr (va_up f i.toNatClampNeg (some v))))))) H1 := by
    show H1[a]? = some (vp_cell _ _)
    rw [e, vp_cell_q, vp_cell_q, arrV_store]
    refine congrArg (fun g => some (arrV cA n g)) (funext fun q => ?_)
    by_cases hq : q = i.toNatClampNeg
    · rw [hq]
      simp [updV, va_up, va_rf]
    · simp [updV, va_up, hq]
  exact kk H1 _ (z.trans hsz) (hP.set (cL_D (A := fun _ => True) (fun _ _ => trivial)) ha hat oq) (hS.put z oq (hA _ hj))
theorem n_aast (C : gC p s m args meth c own cc nL ret E) (h : cP E B N Wf H) (hS : va_S A s.heap H locs) (hA : ∀ q, B ≤ q → A q) {k j i2 n ci : Nat} (hj : j < N) (hi2 : i2 < N) {f : Nat → Option Nat} (hw : Wf j = .inl (eC E k, n, gRs f)) (t0 : Nat) {r : vw_C} (hK : (gTys E)[t0]? = some (eC E k, .object r.1)) {fs : List Value} (hw2 : Wf i2 = .inr (ci, fs)) (hc : vwCl[ci]? = some r) {i : Int} (hi : 0 ≤ i ∧ i < n) (hn : n < 100000) (hd : decode cc pc = .ok (.aastore, 1)) (kk : ∀ (H1 : Heap) (locs1 : List Loc), cP E B N (wU Wf j (.inl (eC E k, n, gRs (fun x => if x = i.toNat then some (B + i2) else f x)))) H1 → va_S A s.heap H1 locs1 → W p l e R s m args below meth c H1 locs1 cells slots Q (F0 m (pc + 1) ls (rest))) : W p l e R s m args below meth c H locs cells slots Q (F0 m pc ls (.ref (B + i2) :: vI i :: .ref (B + j) :: rest)) := by
  have he : (cL B N Wf)[j]? = some (B + j, .inl (eC E k, n, gRs f)) := by rw [cL_at hj, hw]
  have he2 : (cL B N Wf)[i2]? = some (B + i2, .inr (ci, fs)) := by rw [cL_at hi2, hw2]
  have hrn : inR i := ⟨by omega, by omega⟩
  have hcell : H[B + j]? = some (vp_cell (eC E k) (n, gRs f)) := h.2 j _ he
  have hz : ∀ (H1 : Heap), va_P (eD E) vwCl ((cL B N Wf).set j (B + j, .inl (eC E k, n, gRs (va_up f (Int32.ofInt i).toNatClampNeg (some (B + i2)))))) H1 → va_P (eD E) vwCl (cL B N (wU Wf j (.inl (eC E k, n, gRs (fun x => if x = i.toNat then some (B + i2) else f x))))) H1 := by
    intro H1 hP
    rw [i_clamp hrn, va_up_eq, cL_set] at hP
    exact hP
  refine va_astqS (r := r) C h.2 hS hA (by exact h.1) j t0 i2 ci he hK he2 hc (i_in hi.1 hi.2 (by omega)) hd (fun H1 locs1 hsz hP hS1 => kk H1 locs1 ⟨hsz, hz H1 hP⟩ hS1)
end GCT

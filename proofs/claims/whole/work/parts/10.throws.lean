/-! METHODS THAT MAY THROW, over the world: x = 0 it returns; else it throws the exception of that number, and the world is as told -/
def gExc (x : Int) : String := if x = 1 then "java/lang/IndexOutOfBoundsException" else if x = 2 then "java/lang/IllegalArgumentException" else "java/lang/IllegalStateException"
def gQiX (E : gEnv) (G : GS) (x r : Int) : Array Value → State → Outcome → State → Prop := va_Qi (fun (v : Int32) (u : GS) => x = 0 ∧ v = Int32.ofInt r ∧ u = G) (fun u t => gW E u t) (eF E)
def gQvX (E : gEnv) (G : GS) (x : Int) : Array Value → State → Outcome → State → Prop := va_Qv (fun (u : GS) => x = 0 ∧ u = G) (fun u t => gW E u t) (eF E)
def gXC (E : gEnv) (G : GS) (x : Int) : String → State → State → Prop := vx_X (fun (u : GS) => x ≠ 0 ∧ u = G) (fun En u t => En = gExc x ∧ gP E u t.heap) (eF E)
def gMetX (l : Launch) (y : MethodName) (b : ByteArray) (nL : Nat) (ret : Option FieldType) (f lo mc ms : Nat) (As : List Value) (E : gEnv) (G : GS) (Qc : Array Value → State → Outcome → State → Prop) (XC : String → State → State → Prop) : Prop :=
  vx_Met l y (.code y b nL ret :: gWords) (gRm f lo mc ms) (va_Pc As (gW E G)) Qc XC mc ms (eF E)
theorem g_metX {l : Launch} {y : MethodName} {b : ByteArray} {nL : Nat} {ret : Option FieldType} {f lo mc ms : Nat} {As : List Value} {E : gEnv} {G : GS} {Qc : Array Value → State → Outcome → State → Prop} {XC : String → State → State → Prop}
    (hy : plainName y.cls = true) (hn : (lg_sl As).length ≤ nL)
    (body : ∀ (p : Program) (e : Env) (s : State) (m : MethodId) (below : List Frame) (meth : Method) (c : Code), gC p s m As.toArray meth c y.cls b nL ret E → (∀ x ∈ c.exceptionTable.toList, False) → ∀ (H : Heap) (locs : List Loc), gH E s G H locs → ∀ ls, lv_has ls nL (lv_args 0 As) → W p l e (gRm f lo mc ms) s m As.toArray below meth c H locs 0 0 (vx_MQ below Qc XC As.toArray s mc ms (eF E)) (F0 m 0 ls [])) :
    gMetX l y b nL ret f lo mc ms As E G Qc XC := by
  refine vx_ofW (cc := b) (maxL := nL) (ret := ret) hy rfl ?_
  intro p e s m args below meth c s₁ B hml ht hv
  obtain ⟨rfl, hP, hK⟩ := hv
  have hts := atoms_spec B.pre
  rw [lg_entry_eq]
  exact body p e s m below meth c ⟨B.exec, B.bytes, B.returns, hml, findClass_of_methodNamed B.named, fun w hw => hts w (List.mem_cons_of_mem _ hw), B.notSynchronized, hK⟩ ht s.heap [] ⟨hP, va_S.rf⟩ _ (lv_entry As hn)
abbrev gXN : List String := ["java/lang/RuntimeException", "java/lang/Exception"]
section GX
variable {p : Program} {l : Launch} {e : Env} {R : Room} {s : State} {m : MethodId} {args : Array Value} {below : List Frame} {meth : Method} {c : Code} {H : Heap} {locs : List Loc} {cells slots : Nat} {Q : State → Prop}
variable {pc : Nat} {ls : Array Slot} {rest st : List Value} {own : String} {cc : ByteArray} {nL : Nat} {ret : Option FieldType} {E : gEnv} {G G1 : GS} {mc ms : Nat} {Qc : Array Value → State → Outcome → State → Prop} {XC : String → State → State → Prop}
theorem gP_grown {t : State} (h : gP E G H) (hk : ∀ q : Nat, q < H.size → t.heap[q]? = H[q]?) : gP E G t.heap := va_P.kept h fun k q hq => hk q.1 (h k q hq).lt
theorem g_throw (C : gC p s m args meth c own cc nL ret E) (hout : ∀ x ∈ c.exceptionTable.toList, False) (hst : l.stackTraces = false) (h : gH E s G H locs) {cls text : String} {ik is ic : Nat} {x : Int} (hcls : Bundle.fit cls = true) (wk : Cond.classLink own ik cls ∈ gWords) (wi : Cond.initialized cls ∈ gWords) (ws : (own, is, text) ∈ gStr)
    (wat : ∀ w ∈ vx_atS own ic cls gXN, w ∈ lw_tbl ∧ (w.onTables && w.keepsFace) = true) (wg : ∀ w ∈ Cond.classLink own ik cls :: Cond.initialized cls :: vx_atS own ic cls gXN, vx_ot w = true) (hls : ls.size = nL)
    (d0 : decode cc pc = .ok (.new ik, 3)) (d3 : decode cc (pc + 3) = .ok (.dup, 1)) (d4 : decode cc (pc + 4) = .ok (.ldc is, 2)) (d6 : decode cc (pc + 6) = .ok (.invokespecial ic, 3)) (d9 : decode cc (pc + 9) = .ok (.athrow, 1))
    (hR : 5 < R.frames ∧ 82 ≤ R.locals) (hR2 : cells + 1 ≤ R.cells ∧ slots + 6 ≤ R.slots) (hm : cells + 1 ≤ mc ∧ slots + 6 ≤ ms) (hx : x ≠ 0) (he : cls = gExc x) :
    W p l e R s m args below meth c H locs cells slots (vx_MQ below Qc (gXC E G x) args s mc ms (eF E)) (F0 m pc ls []) := by
  have hX := C.2.2.2.2.2.2.2.2.2.2
  obtain ⟨sa, hsa⟩ := hX.2.2.2.1 _ ws
  refine vx_throwS C.1 C.2.1 hst (names := gXN) (A := eF E) C.2.2.2.2.1 hcls (by decide +kernel) (C.2.2.2.2.2.1 _ wk) (C.2.2.2.2.2.1 _ wi) hsa (fun w hw => ?_) wg hX.2.2.2.2.1 hX.2.2.2.2.2.1 h.2 (hls.trans C.2.2.2.1.symm) d0 d3 d4 d6 d9 (fun z hz => absurd hz (fun q => hout z q)) hR.1 (by simpa using hR.2) hR2.1 hR2.2 C.2.2.2.2.2.2.1 (fun t ha hz hk => ⟨G, ⟨hx, rfl⟩, ⟨he, gP_grown h.1 hk⟩, Nat.le_trans h.2.1 hz, fun q h1 h2 => by rw [hk q (Nat.lt_of_lt_of_le h1 h.2.1)]; exact h.2.2.1 q h1 h2⟩) h.2.2.2 hm.1 hm.2
  have hw2 := wat w hw
  have ho : w.onTables = true := by
    have := hw2.2
    simp only [Bool.and_eq_true] at this
    exact this.1
  exact va_tabs ho rfl (hX.1 w (List.mem_filter.mpr hw2))
theorem g_xout (C : gC p s m args meth c own cc nL ret E) (hout : ∀ x ∈ c.exceptionTable.toList, False) (h : gH E s G H locs) {x : Int} {ce : Cell} {q : Addr} (hx : x ≠ 0) (hcell : H[q]? = some ce) (hv : ce.vm = .none) (hcl : s.vm.findClass (gExc x) = some ce.cls) (hm : cells ≤ mc ∧ slots ≤ ms) {G2 : GS} {x2 : Int} (e1 : G = G2) (e2 : x = x2) :
    vx_W p l e R s m args below meth c H locs cells slots (vx_MQ below Qc (gXC E G2 x2) args s mc ms (eF E)) (F0 m pc ls rest) q := by
  subst e1
  subst e2
  exact vx_out (fun z hz => absurd hz (fun q => hout z q)) C.2.2.2.2.2.2.1 hcell hv hcl (fun t ht ha => ⟨G, ⟨hx, rfl⟩, ⟨rfl, by rw [ht]; exact h.1⟩, h.2.F ht⟩) h.2.2.2 hm.1 hm.2
theorem g_xrunV (C : gC p s m args meth c own cc nL ret E) (h : gH E s G H locs) {k : Nat} {o : Int} (ho : gOk E k o) (hk9 : k < 9) {CN : String} {T : u_T} {N : Nat} (hc : vwCl[k]? = some (CN, T, N)) {ix n : Nat} {y : MethodName} {b : ByteArray} {nLy f lo mc ms : Nat} {rt : Option FieldType} {As : List Value}
    (hM : gMetX l y b nLy rt f lo mc ms (.ref (eA E k o) :: As) E G Qc XC) (w1 : Cond.methodLink own ix y ∈ gWords) (w2 : Cond.instanceMethod y ∈ gWords) (w3 : Cond.selects CN y y ∈ gWords) (w4 : Cond.initialized CN ∈ gWords) (w5 : Cond.code y b nLy rt ∈ gWords)
    (hyc : y.cls = CN) (hy : gNy y n) (hn : As.length = n) (hR : f + 1 ≤ R.frames ∧ 8 + (nLy + 11) + lo ≤ R.locals) (hls : ls.size = nL) (hst : st = As.reverse ++ .ref (eA E k o) :: rest) (hrest : (rest.map fun v => v.category).sum ≤ 8) (hd : decode cc pc = .ok (.invokevirtual ix, 3)) (hcs : cells + mc ≤ R.cells ∧ slots + ms ≤ R.slots) :
    vx_Run p l e R s m args below meth c H locs cells slots mc ms (F0 m pc ls st) rest (Qc (Value.ref (eA E k o) :: As).toArray) XC (eF E) := by
  obtain ⟨q0, h0, h1⟩ := wl_at E G ho
  rw [gCell_get hk9] at h1
  refine vx_runV (As := As) (rest := rest) ⟨C.1, C.2.1, C.2.2.2.1, C.2.2.2.2.1, C.2.2.2.2.2.1⟩ hM (cwV n C.2.2.2.2.2.1 (gwIn ?_) rfl rfl rfl ⟨hyc, hy⟩ hR) ⟨gW_blind, va_recv C.2.2.2.2.2.2.2.1 h.1 hc h1, fun U hU hW => ⟨rfl, gEnd C h hU hW⟩⟩ rfl hn hls hst (lv_room hrest) hd hcs
  intro w hw
  simp only [wsV, List.cons_append, List.nil_append, List.mem_cons] at hw
  rcases hw with rfl | rfl | rfl | rfl | rfl | hw
  · exact w1
  · exact w2
  · exact w3
  · exact w4
  · exact w5
  · exact hw
theorem g_xrunS (C : gC p s m args meth c own cc nL ret E) (h : gH E s G H locs) {ix n : Nat} {y : MethodName} {b : ByteArray} {nLy f lo mc ms : Nat} {rt : Option FieldType} {As : List Value}
    (hM : gMetX l y b nLy rt f lo mc ms As E G Qc XC) (w1 : Cond.methodLink own ix y ∈ gWords) (w2 : Cond.static y ∈ gWords) (w4 : Cond.initialized own ∈ gWords) (w5 : Cond.code y b nLy rt ∈ gWords)
    (hyc : y.cls = own) (hy : gNy y n) (hn : As.length = n) (hR : f + 1 ≤ R.frames ∧ 8 + (nLy + 11) + lo ≤ R.locals) (hls : ls.size = nL) (hst : st = As.reverse ++ rest) (hrest : (rest.map fun v => v.category).sum ≤ 8) (hd : decode cc pc = .ok (.invokestatic ix, 3)) (hcs : cells + mc ≤ R.cells ∧ slots + ms ≤ R.slots) :
    vx_Run p l e R s m args below meth c H locs cells slots mc ms (F0 m pc ls st) rest (Qc As.toArray) XC (eF E) := by
  refine vx_runS (As := As) (rest := rest) ⟨C.1, C.2.1, C.2.2.2.1, C.2.2.2.2.1, C.2.2.2.2.2.1⟩ hM (cwS n C.2.2.2.2.2.1 (gwIn ?_) rfl rfl rfl ⟨hyc, hy⟩ hR) ⟨gW_blind, fun U hU hW => ⟨rfl, gEnd C h hU hW⟩⟩ rfl hn hls hst (lv_room hrest) hd hcs
  intro w hw
  simp only [wsS, List.cons_append, List.nil_append, List.mem_cons] at hw
  rcases hw with rfl | rfl | rfl | rfl | hw
  · exact w1
  · exact w2
  · exact w4
  · exact w5
  · exact hw
variable {a : Array Value} {x r : Int}
theorem g_xci (h : gH E s G H locs) (hr : vx_Run p l e R s m args below meth c H locs cells slots mc ms (F0 m pc ls st) rest (gQiX E G1 x r a) (gXC E G1 x) (eF E))
    (kx : x ≠ 0 → ∀ (ce : Cell) (q9 : Addr) (H : Heap) (locs : List Loc), gH E s G1 H locs → H[q9]? = some ce → ce.vm = .none → s.vm.findClass (gExc x) = some ce.cls → vx_W p l e R s m args below meth c H locs (cells + mc) (slots + ms) Q (F0 m pc ls rest) q9)
    (kk : x = 0 → ∀ (H : Heap) (locs : List Loc), gH E s G1 H locs → W p l e R s m args below meth c H locs (cells + mc) (slots + ms) Q (F0 m (pc + 3) ls (vI r :: rest))) : W p l e R s m args below meth c H locs cells slots Q (F0 m pc ls st) := by
  refine vx_calli hr h.2 (fun q _ z => z) (fun q z => z) (fun q _ z => z) (fun En ce q9 u t H1 locs1 ht hvm hw hB hz1 hk1 hS hce hcv hcl => ?_) (fun r9 u t H1 locs1 ht hvm hw hB hz1 hk1 hS => ?_)
  · obtain ⟨hx, rfl⟩ := hw
    obtain ⟨rfl, hP⟩ := hB
    exact kx hx ce q9 H1 locs1 ⟨by rw [← ht]; exact hP, hS⟩ hce hcv hcl
  · obtain ⟨hx, rfl, rfl⟩ := hw
    exact kk hx H1 locs1 ⟨by rw [← ht]; exact hB.1, hS⟩
theorem g_xcv (h : gH E s G H locs) (hr : vx_Run p l e R s m args below meth c H locs cells slots mc ms (F0 m pc ls st) rest (gQvX E G1 x a) (gXC E G1 x) (eF E))
    (kx : x ≠ 0 → ∀ (ce : Cell) (q9 : Addr) (H : Heap) (locs : List Loc), gH E s G1 H locs → H[q9]? = some ce → ce.vm = .none → s.vm.findClass (gExc x) = some ce.cls → vx_W p l e R s m args below meth c H locs (cells + mc) (slots + ms) Q (F0 m pc ls rest) q9)
    (kk : x = 0 → ∀ (H : Heap) (locs : List Loc), gH E s G1 H locs → W p l e R s m args below meth c H locs (cells + mc) (slots + ms) Q (F0 m (pc + 3) ls rest)) : W p l e R s m args below meth c H locs cells slots Q (F0 m pc ls st) := by
  refine vx_callv hr h.2 (fun q _ z => z) (fun q z => z) (fun q _ z => z) (fun En ce q9 u t H1 locs1 ht hvm hw hB hz1 hk1 hS hce hcv hcl => ?_) (fun u t H1 locs1 ht hvm hw hB hz1 hk1 hS => ?_)
  · obtain ⟨hx, rfl⟩ := hw
    obtain ⟨rfl, hP⟩ := hB
    exact kx hx ce q9 H1 locs1 ⟨by rw [← ht]; exact hP, hS⟩ hce hcv hcl
  · obtain ⟨hx, rfl⟩ := hw
    exact kk hx H1 locs1 ⟨by rw [← ht]; exact hB.1, hS⟩
theorem g_xiret (C : gC p s m args meth c own cc nL (some .int) E) (h : gH E s G H locs) {r r1 x1 : Int} (he : some (G, ((0 : Int), r)) = some (G1, (x1, r1))) (hm : cells ≤ mc ∧ slots ≤ ms) (hd : decode cc pc = .ok (.ireturn, 1)) : W p l e R s m args below meth c H locs cells slots (vx_MQ below (gQiX E G1 x1 r1) XC args s mc ms (eF E)) (F0 m pc ls [vI r]) := by
  cases he
  refine W.widen hm.1 hm.2 (vx_ret ?_)
  exact W.iret C.1 C.2.1 C.2.2.1 (fun t ht hW => ⟨⟨_, G, rfl, ⟨rfl, rfl, rfl⟩, gEnd C h ht hW⟩, h.2.F ht⟩) h.2.2.2 hd C.2.2.2.2.2.2.1
theorem g_xvret (C : gC p s m args meth c own cc nL none E) (h : gH E s G H locs) {x1 : Int} (he : some (0 : Int) = some x1) (hm : cells ≤ mc ∧ slots ≤ ms) (hd : decode cc pc = .ok (.return_, 1)) : W p l e R s m args below meth c H locs cells slots (vx_MQ below (gQvX E G x1) XC args s mc ms (eF E)) (F0 m pc ls []) := by
  cases he
  refine W.widen hm.1 hm.2 (vx_ret ?_)
  exact W.vret C.1 C.2.1 C.2.2.1 (fun t ht hW => ⟨⟨G, rfl, ⟨rfl, rfl⟩, gEnd C h ht hW⟩, h.2.F ht⟩) h.2.2.2 hd C.2.2.2.2.2.2.1
end GX

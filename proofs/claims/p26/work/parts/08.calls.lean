/-! ENTRY, ENDS, CALLS over the world -/
def gQi (E : gEnv) (G : GS) (r : Int) : Array Value → State → Outcome → State → Prop := va_Qi (fun (x : Int32) (u : GS) => x = Int32.ofInt r ∧ u = G) (fun u t => gW E u t) (eF E)
def gQl (E : gEnv) (G : GS) (r : Int) : Array Value → State → Outcome → State → Prop := va_Ql (fun (x : Int64) (u : GS) => x = Int64.ofInt r ∧ u = G) (fun u t => gW E u t) (eF E)
def gQd (E : gEnv) (G : GS) (r : UInt64) : Array Value → State → Outcome → State → Prop := va_Qd (fun (x : UInt64) (u : GS) => x = r ∧ u = G) (fun u t => gW E u t) (eF E)
/-- an answer that is an object: kind k, number r -/
def gQr (E : gEnv) (G : GS) (k : Nat) (r : Int) : Array Value → State → Outcome → State → Prop := va_Qr (fun (u : GS) => u = G) (fun u a t => gW E u t ∧ a = eA E k r) (eF E)
def gQv (E : gEnv) (G : GS) : Array Value → State → Outcome → State → Prop := va_Qv (fun (u : GS) => u = G) (fun u t => gW E u t) (eF E)
abbrev gRm (f lo mc ms : Nat) : Room := { frames := f, cells := mc, slots := ms, locals := lo }
/-- a method's contract over the world -/
def gMet (l : Launch) (y : MethodName) (b : ByteArray) (nL : Nat) (ret : Option FieldType) (f lo mc ms : Nat) (As : List Value) (E : gEnv) (G : GS) (Qc : Array Value → State → Outcome → State → Prop) : Prop :=
  Met l y (.code y b nL ret :: gWords) (gRm f lo mc ms) (va_Pc As (gW E G)) Qc mc ms (eF E)
theorem gW_blind {As : List Value} {E : gEnv} {G : GS} : FrameBlind (va_Pc As (gW E G)) := fun a U g mk q => ⟨q.1, q.2.1, q.2.2.next (U := U.calling g mk a) (State.WarmedH.refl U) (Nat.le_refl _) (fun _ _ _ => rfl)⟩
theorem g_met {l : Launch} {y : MethodName} {b : ByteArray} {nL : Nat} {ret : Option FieldType} {f lo mc ms : Nat} {As : List Value} {E : gEnv} {G : GS} {Qc : Array Value → State → Outcome → State → Prop}
    (hy : plainName y.cls = true) (hn : (lg_sl As).length ≤ nL)
    (body : ∀ (p : Program) (e : Env) (s : State) (m : MethodId) (below : List Frame) (meth : Method) (c : Code), gC p s m As.toArray meth c y.cls b nL ret E → ∀ (H : Heap) (locs : List Loc), gH E s G H locs → ∀ ls, lv_has ls nL (lv_args 0 As) → W p l e (gRm f lo mc ms) s m As.toArray below meth c H locs 0 0 (MQ below Qc As.toArray s mc ms (eF E)) (F0 m 0 ls [])) :
    gMet l y b nL ret f lo mc ms As E G Qc := by
  refine Met.ofW (cc := b) (maxL := nL) (ret := ret) hy rfl ?_
  intro p e s m args below meth c s₁ B hml hv
  obtain ⟨rfl, hP, hK⟩ := hv
  have hts := atoms_spec B.pre
  rw [lg_entry_eq]
  exact body p e s m below meth c ⟨B.exec, B.bytes, B.returns, hml, findClass_of_methodNamed B.named, fun w hw => hts w (List.mem_cons_of_mem _ hw), B.notSynchronized, hK⟩ s.heap [] ⟨hP, va_S.rf⟩ _ (lv_entry As hn)
section GCALL
variable {p : Program} {l : Launch} {e : Env} {R : Room} {s : State} {m : MethodId} {args : Array Value} {below : List Frame} {meth : Method} {c : Code} {H : Heap} {locs : List Loc} {cells slots : Nat} {Q : State → Prop}
variable {pc : Nat} {ls : Array Slot} {rest st : List Value} {own : String} {cc : ByteArray} {nL : Nat} {ret : Option FieldType} {E : gEnv} {G G1 : GS}
theorem gEnd (C : gC p s m args meth c own cc nL ret E) (h : gH E s G H locs) {t : State} (ht : t.heap = H) (hW : s.WarmedH t.vm) : gW E G t :=
  ⟨by rw [ht]; exact h.1, C.2.2.2.2.2.2.2.next hW (by rw [ht]; exact h.2.1) (fun q h1 h2 => by rw [ht]; exact h.2.2.1 q h1 h2)⟩
theorem g_iret (C : gC p s m args meth c own cc nL (some .int) E) (h : gH E s G H locs) {r r1 : Int} (he : some (G, r) = some (G1, r1)) (hd : decode cc pc = .ok (.ireturn, 1)) : W p l e R s m args below meth c H locs cells slots (MQ below (gQi E G1 r1) args s cells slots (eF E)) (F0 m pc ls [vI r]) := by
  cases he
  exact W.iret C.1 C.2.1 C.2.2.1 (fun t ht hW => ⟨⟨_, G, rfl, ⟨rfl, rfl⟩, gEnd C h ht hW⟩, h.2.F ht⟩) h.2.2.2 hd C.2.2.2.2.2.2.1
theorem g_zret (C : gC p s m args meth c own cc nL (some .boolean) E) (h : gH E s G H locs) {r r1 : Int} (hz : r = 0 ∨ r = 1) (he : some (G, r) = some (G1, r1)) (hd : decode cc pc = .ok (.ireturn, 1)) : W p l e R s m args below meth c H locs cells slots (MQ below (gQi E G1 r1) args s cells slots (eF E)) (F0 m pc ls [vI r]) := by
  cases he
  exact W.zret C.1 C.2.1 C.2.2.1 (by rcases hz with rfl | rfl <;> rfl) (fun t ht hW => ⟨⟨_, G, rfl, ⟨rfl, rfl⟩, gEnd C h ht hW⟩, h.2.F ht⟩) h.2.2.2 hd C.2.2.2.2.2.2.1
theorem g_lret (C : gC p s m args meth c own cc nL (some .long) E) (h : gH E s G H locs) {r r1 : Int} (he : some (G, r) = some (G1, r1)) (hd : decode cc pc = .ok (.lreturn, 1)) : W p l e R s m args below meth c H locs cells slots (MQ below (gQl E G1 r1) args s cells slots (eF E)) (F0 m pc ls [vJ r]) := by
  cases he
  exact W.lret C.1 C.2.1 C.2.2.1 (fun t ht hW => ⟨⟨_, G, rfl, ⟨rfl, rfl⟩, gEnd C h ht hW⟩, h.2.F ht⟩) h.2.2.2 hd C.2.2.2.2.2.2.1
theorem g_dret (C : gC p s m args meth c own cc nL (some .double) E) (h : gH E s G H locs) {r r1 : UInt64} (he : some (G, r) = some (G1, r1)) (hd : decode cc pc = .ok (.dreturn, 1)) : W p l e R s m args below meth c H locs cells slots (MQ below (gQd E G1 r1) args s cells slots (eF E)) (F0 m pc ls [.double r]) := by
  cases he
  exact W.dret C.1 C.2.1 C.2.2.1 (fun t ht hW => ⟨⟨_, G, rfl, ⟨rfl, rfl⟩, gEnd C h ht hW⟩, h.2.F ht⟩) h.2.2.2 hd C.2.2.2.2.2.2.1
theorem g_aret {cn : String} {k : Nat} (C : gC p s m args meth c own cc nL (some (.object cn)) E) (h : gH E s G H locs) {r r1 : Int} (he : some (G, r) = some (G1, r1)) (hd : decode cc pc = .ok (.areturn, 1)) : W p l e R s m args below meth c H locs cells slots (MQ below (gQr E G1 k r1) args s cells slots (eF E)) (F0 m pc ls [.ref (eA E k r)]) := by
  cases he
  exact W.aret C.1 C.2.1 C.2.2.1 (Or.inl ⟨_, rfl⟩) (Or.inr ⟨_, rfl⟩) (fun t ht hW => ⟨⟨G, _, rfl, rfl, gEnd C h ht hW, rfl⟩, h.2.F ht⟩) h.2.2.2 hd C.2.2.2.2.2.2.1
theorem g_vret (C : gC p s m args meth c own cc nL none E) (h : gH E s G H locs) (he : some G = some G1) (hd : decode cc pc = .ok (.return_, 1)) : W p l e R s m args below meth c H locs cells slots (MQ below (gQv E G1) args s cells slots (eF E)) (F0 m pc ls []) := by
  cases he
  exact W.vret C.1 C.2.1 C.2.2.1 (fun t ht hW => ⟨⟨G, rfl, rfl, gEnd C h ht hW⟩, h.2.F ht⟩) h.2.2.2 hd C.2.2.2.2.2.2.1
/-- what a callee's name owes: its class isn't special, so many arguments -/
def gNy (y : MethodName) (n : Nat) : Prop := y.cls ≠ "java/lang/invoke/MethodHandle" ∧ y.cls ≠ "java/lang/invoke/VarHandle" ∧ (parseMethodDescriptor y.desc).map (fun d => d.parameters.length) = some n
theorem g_runV (C : gC p s m args meth c own cc nL ret E) (h : gH E s G H locs) {k : Nat} {o : Int} (ho : gOk E k o) (hk9 : k < 9) {CN : String} {T : u_T} {N : Nat} (hc : vwCl[k]? = some (CN, T, N)) {ix n : Nat} {y : MethodName} {b : ByteArray} {nLy f lo mc ms : Nat} {rt : Option FieldType} {As : List Value} {Qc : Array Value → State → Outcome → State → Prop}
    (hM : gMet l y b nLy rt f lo mc ms (.ref (eA E k o) :: As) E G Qc) (w1 : Cond.methodLink own ix y ∈ gWords) (w2 : Cond.instanceMethod y ∈ gWords) (w3 : Cond.selects CN y y ∈ gWords) (w4 : Cond.initialized CN ∈ gWords) (w5 : Cond.code y b nLy rt ∈ gWords)
    (hyc : y.cls = CN) (hy : gNy y n) (hn : As.length = n) (hR : f + 1 ≤ R.frames ∧ 8 + (nLy + 11) + lo ≤ R.locals) (hls : ls.size = nL) (hst : st = As.reverse ++ .ref (eA E k o) :: rest) (hrest : (rest.map fun v => v.category).sum ≤ 8) (hd : decode cc pc = .ok (.invokevirtual ix, 3)) (hcs : cells + mc ≤ R.cells ∧ slots + ms ≤ R.slots) :
    va_Run p l e R s m args below meth c H locs cells slots mc ms (F0 m pc ls st) rest (Qc (Value.ref (eA E k o) :: As).toArray) (eF E) := by
  obtain ⟨q0, h0, h1⟩ := wl_at E G ho
  rw [gCell_get hk9] at h1
  refine va_runV (As := As) (rest := rest) ⟨C.1, C.2.1, C.2.2.2.1, C.2.2.2.2.1, C.2.2.2.2.2.1⟩ hM (cwV n C.2.2.2.2.2.1 (gwIn ?_) rfl rfl rfl ⟨hyc, hy⟩ hR) ⟨gW_blind, va_recv C.2.2.2.2.2.2.2.1 h.1 hc h1, fun U hU hW => ⟨rfl, gEnd C h hU hW⟩⟩ rfl hn hls hst (lv_room hrest) hd hcs
  intro w hw
  simp only [wsV, List.cons_append, List.nil_append, List.mem_cons] at hw
  rcases hw with rfl | rfl | rfl | rfl | rfl | hw
  · exact w1
  · exact w2
  · exact w3
  · exact w4
  · exact w5
  · exact hw
theorem g_runS (C : gC p s m args meth c own cc nL ret E) (h : gH E s G H locs) {ix n : Nat} {y : MethodName} {b : ByteArray} {nLy f lo mc ms : Nat} {rt : Option FieldType} {As : List Value} {Qc : Array Value → State → Outcome → State → Prop}
    (hM : gMet l y b nLy rt f lo mc ms As E G Qc) (w1 : Cond.methodLink own ix y ∈ gWords) (w2 : Cond.static y ∈ gWords) (w4 : Cond.initialized own ∈ gWords) (w5 : Cond.code y b nLy rt ∈ gWords)
    (hyc : y.cls = own) (hy : gNy y n) (hn : As.length = n) (hR : f + 1 ≤ R.frames ∧ 8 + (nLy + 11) + lo ≤ R.locals) (hls : ls.size = nL) (hst : st = As.reverse ++ rest) (hrest : (rest.map fun v => v.category).sum ≤ 8) (hd : decode cc pc = .ok (.invokestatic ix, 3)) (hcs : cells + mc ≤ R.cells ∧ slots + ms ≤ R.slots) :
    va_Run p l e R s m args below meth c H locs cells slots mc ms (F0 m pc ls st) rest (Qc As.toArray) (eF E) := by
  refine va_runS (As := As) (rest := rest) ⟨C.1, C.2.1, C.2.2.2.1, C.2.2.2.2.1, C.2.2.2.2.2.1⟩ hM (cwS n C.2.2.2.2.2.1 (gwIn ?_) rfl rfl rfl ⟨hyc, hy⟩ hR) ⟨gW_blind, fun U hU hW => ⟨rfl, gEnd C h hU hW⟩⟩ rfl hn hls hst (lv_room hrest) hd hcs
  intro w hw
  simp only [wsS, List.cons_append, List.nil_append, List.mem_cons] at hw
  rcases hw with rfl | rfl | rfl | rfl | hw
  · exact w1
  · exact w2
  · exact w4
  · exact w5
  · exact hw
/-- a nest mate's static method -/
theorem g_runSN (C : gC p s m args meth c own cc nL ret E) (h : gH E s G H locs) {ix n : Nat} {host : String} {y : MethodName} {b : ByteArray} {nLy f lo mc ms : Nat} {rt : Option FieldType} {As : List Value} {Qc : Array Value → State → Outcome → State → Prop}
    (hM : gMet l y b nLy rt f lo mc ms As E G Qc) (w1 : (own, ix, y, host) ∈ gNest) (w2 : Cond.static y ∈ gWords) (w4 : Cond.initialized y.cls ∈ gWords) (w5 : Cond.code y b nLy rt ∈ gWords)
    (hy : gNy y n) (hn : As.length = n) (hR : f + 1 ≤ R.frames ∧ 8 + (nLy + 11) + lo ≤ R.locals) (hls : ls.size = nL) (hst : st = As.reverse ++ rest) (hrest : (rest.map fun v => v.category).sum ≤ 8) (hd : decode cc pc = .ok (.invokestatic ix, 3)) (hcs : cells + mc ≤ R.cells ∧ slots + ms ≤ R.slots) :
    va_Run p l e R s m args below meth c H locs cells slots mc ms (F0 m pc ls st) rest (Qc As.toArray) (eF E) := by
  refine va_runSN (As := As) (rest := rest) (host := host) ⟨C.1, C.2.1, C.2.2.2.1, C.2.2.2.2.1, C.2.2.2.2.2.1⟩ hM ⟨va_cnB n C.2.2.2.2.2.1 (gwIn ?_) rfl rfl rfl (C.2.2.2.2.2.2.2.2.2.2.2.1 _ w1) (C.2.2.2.2.2.1 _ w4) hy hR, C.2.2.2.2.2.1 _ w2, trivial⟩ ⟨gW_blind, fun U hU hW => ⟨rfl, gEnd C h hU hW⟩⟩ rfl hn hls hst (lv_room hrest) hd hcs
  intro w hw
  rcases List.mem_cons.mp hw with rfl | hw
  · exact w5
  · exact hw
variable {a : Array Value} {r : Int} {mc ms : Nat}
theorem g_ci (h : gH E s G H locs) (hr : va_Run p l e R s m args below meth c H locs cells slots mc ms (F0 m pc ls st) rest (gQi E G1 r a) (eF E)) (kk : ∀ (H : Heap) (locs : List Loc), gH E s G1 H locs → W p l e R s m args below meth c H locs (cells + mc) (slots + ms) Q (F0 m (pc + 3) ls (vI r :: rest))) : W p l e R s m args below meth c H locs cells slots Q (F0 m pc ls st) := by
  refine va_calli hr h.2 (fun q _ z => z) (fun q z => z) (fun r9 u t H1 locs1 ht hvm hw hB hz1 hk1 hS => ?_)
  obtain ⟨rfl, rfl⟩ := hw
  exact kk H1 locs1 ⟨by rw [← ht]; exact hB.1, hS⟩
theorem g_cl (h : gH E s G H locs) (hr : va_Run p l e R s m args below meth c H locs cells slots mc ms (F0 m pc ls st) rest (gQl E G1 r a) (eF E)) (kk : ∀ (H : Heap) (locs : List Loc), gH E s G1 H locs → W p l e R s m args below meth c H locs (cells + mc) (slots + ms) Q (F0 m (pc + 3) ls (vJ r :: rest))) : W p l e R s m args below meth c H locs cells slots Q (F0 m pc ls st) := by
  refine va_calll hr h.2 (fun q _ z => z) (fun q z => z) (fun r9 u t H1 locs1 ht hvm hw hB hz1 hk1 hS => ?_)
  obtain ⟨rfl, rfl⟩ := hw
  exact kk H1 locs1 ⟨by rw [← ht]; exact hB.1, hS⟩
theorem g_cd {d : UInt64} (h : gH E s G H locs) (hr : va_Run p l e R s m args below meth c H locs cells slots mc ms (F0 m pc ls st) rest (gQd E G1 d a) (eF E)) (kk : ∀ (H : Heap) (locs : List Loc), gH E s G1 H locs → W p l e R s m args below meth c H locs (cells + mc) (slots + ms) Q (F0 m (pc + 3) ls (.double d :: rest))) : W p l e R s m args below meth c H locs cells slots Q (F0 m pc ls st) := by
  refine va_calld hr h.2 (fun q _ z => z) (fun q z => z) (fun r9 u t H1 locs1 ht hvm hw hB hz1 hk1 hS => ?_)
  obtain ⟨rfl, rfl⟩ := hw
  exact kk H1 locs1 ⟨by rw [← ht]; exact hB.1, hS⟩
theorem g_cr {k : Nat} (h : gH E s G H locs) (hr : va_Run p l e R s m args below meth c H locs cells slots mc ms (F0 m pc ls st) rest (gQr E G1 k r a) (eF E)) (kk : ∀ (H : Heap) (locs : List Loc), gH E s G1 H locs → W p l e R s m args below meth c H locs (cells + mc) (slots + ms) Q (F0 m (pc + 3) ls (.ref (eA E k r) :: rest))) : W p l e R s m args below meth c H locs cells slots Q (F0 m pc ls st) := by
  refine va_callr hr h.2 (fun q _ z => z) (fun q z => z) (fun u ra t H1 locs1 ht hvm hw hB hz1 hk1 hS => ?_)
  obtain ⟨hB, rfl⟩ := hB
  subst hw
  exact kk H1 locs1 ⟨by rw [← ht]; exact hB.1, hS⟩
theorem g_cv (h : gH E s G H locs) (hr : va_Run p l e R s m args below meth c H locs cells slots mc ms (F0 m pc ls st) rest (gQv E G1 a) (eF E)) (kk : ∀ (H : Heap) (locs : List Loc), gH E s G1 H locs → W p l e R s m args below meth c H locs (cells + mc) (slots + ms) Q (F0 m (pc + 3) ls rest)) : W p l e R s m args below meth c H locs cells slots Q (F0 m pc ls st) := by
  refine va_callv hr h.2 (fun q _ z => z) (fun q z => z) (fun u t H1 locs1 ht hvm hw hB hz1 hk1 hS => ?_)
  subst hw
  exact kk H1 locs1 ⟨by rw [← ht]; exact hB.1, hS⟩
theorem g_max (C : gC p s m args meth c own cc nL ret E) {ix : Nat} {x y : Int} (hx : inR x) (hy : inR y) (w1 : Cond.methodLink own ix Lib.Math.max.name ∈ gWords) (w2 : Cond.static Lib.Math.max.name ∈ gWords) (w3 : Cond.initialized "java/lang/Math" ∈ gWords) (w4 : Cond.code Lib.Math.max.name Lib.Math.max.code 2 (some .int) ∈ gWords)
    (hls : ls.size = nL) (hf : 1 ≤ R.frames) (hlo : (rest.map fun v => v.category).sum + 13 ≤ R.locals) (hc : cells ≤ R.cells) (hs : slots ≤ R.slots) (hd : decode cc pc = .ok (.invokestatic ix, 3)) (kk : W p l e R s m args below meth c H locs cells slots Q (F0 m (pc + 3) ls (vI (if x < y then y else x) :: rest))) : W p l e R s m args below meth c H locs cells slots Q (F0 m pc ls (vI y :: vI x :: rest)) := by
  have ht := C.2.2.2.2.2.1
  refine va_mmax C.1 C.2.1 (C.2.2.2.1.trans hls.symm) C.2.2.2.2.1 (ht _ w1) (ht _ w2) (ht _ w3) (ht _ w4) hf hlo hc hs hd ?_
  by_cases q : x < y
  · rw [if_pos ((i_lt hx hy).mpr q)]
    rw [if_pos q] at kk
    exact kk
  · rw [if_neg (fun z => q ((i_lt hx hy).mp z))]
    rw [if_neg q] at kk
    exact kk
theorem g_min (C : gC p s m args meth c own cc nL ret E) {ix : Nat} {x y : Int} (hx : inR x) (hy : inR y) (w1 : Cond.methodLink own ix Lib.Math.min.name ∈ gWords) (w2 : Cond.static Lib.Math.min.name ∈ gWords) (w3 : Cond.initialized "java/lang/Math" ∈ gWords) (w4 : Cond.code Lib.Math.min.name Lib.Math.min.code 2 (some .int) ∈ gWords)
    (hls : ls.size = nL) (hf : 1 ≤ R.frames) (hlo : (rest.map fun v => v.category).sum + 13 ≤ R.locals) (hc : cells ≤ R.cells) (hs : slots ≤ R.slots) (hd : decode cc pc = .ok (.invokestatic ix, 3)) (kk : W p l e R s m args below meth c H locs cells slots Q (F0 m (pc + 3) ls (vI (if y < x then y else x) :: rest))) : W p l e R s m args below meth c H locs cells slots Q (F0 m pc ls (vI y :: vI x :: rest)) := by
  have ht := C.2.2.2.2.2.1
  refine va_mmin C.1 C.2.1 (C.2.2.2.1.trans hls.symm) C.2.2.2.2.1 (ht _ w1) (ht _ w2) (ht _ w3) (ht _ w4) hf hlo hc hs hd ?_
  by_cases q : y < x
  · rw [if_pos ((i_lt hy hx).mpr q)]
    rw [if_pos q] at kk
    exact kk
  · rw [if_neg (fun z => q ((i_lt hy hx).mp z))]
    rw [if_neg q] at kk
    exact kk
end GCALL

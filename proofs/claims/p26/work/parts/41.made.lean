/-! THE CONSTRUCTORS' CONTRACTS -/
theorem n_met {l : Launch} {y : MethodName} {b : ByteArray} {nL : Nat} {f lo mc ms : Nat} {As : List Value} {E : gEnv} {Pre : State → Prop} {Qc : Array Value → State → Outcome → State → Prop} {free : Addr → Prop}
    (hy : plainName y.cls = true) (hn : (lg_sl As).length ≤ nL) (hname : y.name = "<init>") (hPre : ∀ s, Pre s → gK E s)
    (body : ∀ (p : Program) (e : Env) (s : State) (m : MethodId) (below : List Frame) (meth : Method) (c : Code), gC p s m As.toArray meth c y.cls b nL none E → meth.name = "<init>" → Pre s → ∀ ls, lv_has ls nL (lv_args 0 As) → W p l e (gRm f lo mc ms) s m As.toArray below meth c s.heap [] 0 0 (MQ below Qc As.toArray s mc ms free) (F0 m 0 ls [])) :
    Met l y (.code y b nL none :: gWords) (gRm f lo mc ms) (va_Pc As Pre) Qc mc ms free := by
  refine Met.ofW (cc := b) (maxL := nL) (ret := none) hy rfl ?_
  intro p e s m args below meth c s₁ B hml hv
  obtain ⟨rfl, hP⟩ := hv
  have hts := atoms_spec B.pre
  rw [lg_entry_eq]
  exact body p e s m below meth c ⟨B.exec, B.bytes, B.returns, hml, findClass_of_methodNamed B.named, fun w hw => hts w (List.mem_cons_of_mem _ hw), B.notSynchronized, hPre _ hP⟩ ((name_of_methodNamed B.named B.method).1.trans hname) hP _ (lv_entry As hn)
theorem gK_blind {As : List Value} {E : gEnv} {Z : Heap → Prop} : FrameBlind (va_Pc As (fun U => gK E U ∧ Z U.heap)) := fun a U g mk q => ⟨q.1, q.2.1.next (U := U.calling g mk a) (State.WarmedH.refl U) (Nat.le_refl _) (fun _ _ _ => rfl), q.2.2⟩
theorem gK_nx {E : gEnv} {s U : State} {H : Heap} {locs : List Loc} (h : gK E s) (hS : va_S (eF E) s.heap H locs) (hU : U.heap = H) (hW : s.WarmedH U.vm) : gK E U := h.next hW (by rw [hU]; exact hS.1) (fun q h1 h2 => by rw [hU]; exact hS.2.1 q h1 h2)
section GC2
variable {p : Program} {l : Launch} {e : Env} {R : Room} {s : State} {m : MethodId} {args : Array Value} {below : List Frame} {meth : Method} {c : Code} {H : Heap} {locs : List Loc} {cells slots : Nat} {Q : State → Prop}
variable {pc : Nat} {ls : Array Slot} {rest st : List Value} {own : String} {cc : ByteArray} {nL : Nat} {ret : Option FieldType} {E : gEnv}
/-- the super constructor's call -/
theorem n_super (C : gC p s m args meth c own cc nL ret E) {ix b : Nat} (w1 : Cond.methodLink own ix ⟨"java/lang/Object", "<init>", "()V"⟩ ∈ gWords) (hls : ls.size = nL) (hR : 1 ≤ R.frames ∧ 12 ≤ R.locals) (hd : decode cc pc = .ok (.invokespecial ix, 3)) (kk : W p l e R s m args below meth c H locs cells slots Q (F0 m (pc + 3) ls [])) : W p l e R s m args below meth c H locs cells slots Q (F0 m pc ls [.ref b]) := by
  have ht := C.2.2.2.2.2.1
  refine W.objInit C.1 C.2.1 C.2.2.2.2.1 (ht _ w1) (ht _ wI__java_lang_Object_init_V_) (ht _ wC_objInit) rfl (hls.trans C.2.2.2.1.symm) rfl hd hR.1 (by simpa using hR.2) ?_
  exact W.eq rfl kk
abbrev nQ0 (H0 : Heap) : Array Value → State → Outcome → State → Prop := va_Qv (fun _ : Unit => True) (fun _ t => t.heap = H0) (fun _ => False)
/-- a nest mate's private constructor that does nothing -/
theorem n_initN (C : gC p s m args meth c own cc nL ret E) (hS : va_S (eF E) s.heap H locs) {ix b : Nat} {host : String} {y : MethodName} {bc : ByteArray} (hM : Met l y (.code y bc 1 none :: gWords) (gRm 1 12 0 0) (va_Pc [.ref b] (fun U => gK E U ∧ U.heap = H)) (nQ0 H) 0 0 (fun _ => False)) (w1 : (own, ix, y, host) ∈ gNest) (w2 : Cond.instanceMethod y ∈ gWords) (w4 : Cond.initialized y.cls ∈ gWords) (w5 : Cond.code y bc 1 none ∈ gWords) (hname : y.name = "<init>")
    (hy : gNy y 0) (hR : 2 ≤ R.frames ∧ 32 ≤ R.locals) (hls : ls.size = nL) (hrest : (rest.map fun v => v.category).sum ≤ 8) (hd : decode cc pc = .ok (.invokespecial ix, 3)) (hcs : cells ≤ R.cells ∧ slots ≤ R.slots) (kk : ∀ locs1, va_S (eF E) s.heap H locs1 → W p l e R s m args below meth c H locs1 cells slots Q (F0 m (pc + 3) ls rest)) :
    W p l e R s m args below meth c H locs cells slots Q (F0 m pc ls (.ref b :: rest)) := by
  refine va_callv (A1 := fun _ => False) (va_runIN (As := []) (rest := rest) (host := host) ⟨C.1, C.2.1, C.2.2.2.1, C.2.2.2.2.1, C.2.2.2.2.2.1⟩ hM ⟨va_cnB 0 C.2.2.2.2.2.1 (gwIn ?_) rfl rfl rfl (C.2.2.2.2.2.2.2.2.2.2.2.1 _ w1) (C.2.2.2.2.2.1 _ w4) hy hR, hname, C.2.2.2.2.2.1 _ w2⟩ ⟨gK_blind (Z := fun h9 => h9 = H), fun U hU hW => ⟨rfl, gK_nx C.2.2.2.2.2.2.2 hS hU hW, hU⟩⟩ rfl rfl hls rfl (lv_room hrest) hd hcs) hS (fun q _ z => z.elim) (fun q z => z.elim) (fun u t H1 locs1 ht hvm hw hB hz1 hk1 hS1 => ?_)
  · intro w hw
    rcases List.mem_cons.mp hw with rfl | hw
    · exact w5
    · exact hw
  · rw [← ht, hB] at hS1
    rw [← ht, hB]
    exact kk locs1 hS1
/-- a constructor by name -/
theorem n_init (C : gC p s m args meth c own cc nL ret E) (hS : va_S (eF E) s.heap H locs) {ix b n f lo mc ms : Nat} {y : MethodName} {bc : ByteArray} {Z : State → Prop} {S : Type} {post : S → Prop} {Bq : S → State → Prop} {A1 : Nat → Prop} (hM : Met l y (.code y bc n none :: gWords) (gRm f lo mc ms) (va_Pc [.ref b] Z) (va_Qv post Bq A1) mc ms A1) (hbl : FrameBlind (va_Pc [.ref b] Z)) (hZ : ∀ U : State, U.heap = H → s.WarmedH U.vm → Z U) (w1 : Cond.methodLink own ix y ∈ gWords) (w2 : Cond.instanceMethod y ∈ gWords) (w4 : Cond.initialized y.cls ∈ gWords) (w5 : Cond.code y bc n none ∈ gWords) (hname : y.name = "<init>")
    (hy : gNy y 0) (hR : f + 1 ≤ R.frames ∧ 8 + (n + 11) + lo ≤ R.locals) (hls : ls.size = nL) (hrest : (rest.map fun v => v.category).sum ≤ 8) (hA : ∀ q, A1 q → eF E q) (hd : decode cc pc = .ok (.invokespecial ix, 3)) (hcs : cells + mc ≤ R.cells ∧ slots + ms ≤ R.slots)
    (kk : ∀ (u : S) (t : State) (H1 : Heap) (locs1 : List Loc), t.heap = H1 → post u → Bq u t → H.size ≤ H1.size → (∀ q : Nat, q < H.size → ¬ A1 q → H1[q]? = H[q]?) → va_S (eF E) s.heap H1 locs1 → W p l e R s m args below meth c H1 locs1 (cells + mc) (slots + ms) Q (F0 m (pc + 3) ls rest)) :
    W p l e R s m args below meth c H locs cells slots Q (F0 m pc ls (.ref b :: rest)) := by
  refine va_callv (va_runI (As := []) (rest := rest) ⟨C.1, C.2.1, C.2.2.2.1, C.2.2.2.2.1, C.2.2.2.2.2.1⟩ hM (cwI 0 C.2.2.2.2.2.1 (gwIn ?_) rfl rfl rfl (C.2.2.2.2.2.1 _ w4) (C.2.2.2.2.2.1 _ w1) (C.2.2.2.2.2.1 _ w2) hname hy hR) ⟨hbl, fun U hU hW => ⟨rfl, hZ U hU hW⟩⟩ rfl rfl hls rfl (lv_room hrest) hd hcs) hS (fun q _ z => hA q z) hA (fun u t H1 locs1 ht hvm hw hB hz1 hk1 hS1 => kk u t H1 locs1 ht hw hB hz1 hk1 hS1)
  intro w hw
  rcases List.mem_cons.mp hw with rfl | hw
  · exact w5
  · exact hw
theorem W_size {g : JFrame} (k : H.size ≤ s.heap.size + cells → W p l e R s m args below meth c H locs cells slots Q g) : W p l e R s m args below meth c H locs cells slots Q g := fun T hT X => k (by rw [← hT]; exact X.heapSize) T hT X
theorem g_cvz {G1 : GS} {a : Array Value} {mc ms : Nat} {A : Nat → Prop} (hS : va_S A s.heap H locs) (hA : ∀ q, eF E q → A q) (hr : va_Run p l e R s m args below meth c H locs cells slots mc ms (F0 m pc ls st) rest (gQv E G1 a) (eF E)) (kk : ∀ (H1 : Heap) (locs1 : List Loc), H.size ≤ H1.size → (∀ q : Nat, q < H.size → ¬ eF E q → H1[q]? = H[q]?) → gP E G1 H1 → va_S A s.heap H1 locs1 → W p l e R s m args below meth c H1 locs1 (cells + mc) (slots + ms) Q (F0 m (pc + 3) ls rest)) : W p l e R s m args below meth c H locs cells slots Q (F0 m pc ls st) := by
  refine va_callv hr hS (fun q _ z => hA q z) hA (fun u t H1 locs1 ht hvm hw hB hz1 hk1 hS => ?_)
  subst hw
  exact kk H1 locs1 hz1 hk1 (by rw [← ht]; exact hB.1) hS
end GC2
set_option maxHeartbeats 4000000 in
theorem c_X5_init (l : Launch) (E : gEnv) (b : Nat) (H0 : Heap) : Met l yX5_init (.code yX5_init cX5_init 1 none :: gWords) (gRm 1 12 0 0) (va_Pc [.ref b] (fun U => gK E U ∧ U.heap = H0)) (nQ0 H0) 0 0 (fun _ => False) := by
  refine n_met (E := E) (by decide +kernel) (Nat.le_of_ble_eq_true rfl) rfl (fun s h => h.1) ?_
  intro p e s m below meth c C hin hp ls hl
  obtain ⟨-, rfl⟩ := hp
  have C : gC p s m _ meth c RX5 cX5_init 1 none E := C
  have hl : lv_has ls 1 [(0, .ref b)] := hl
  refine g_aload_n C hl 0 rfl rfl (gdec kX5_init 0 rfl) ?_
  refine n_super C wM_X5_1 hl.1 (by decide) (gdec kX5_init 1 rfl) ?_
  exact W.vret C.1 C.2.1 C.2.2.1 (fun t ht hW => ⟨⟨(), rfl, trivial, ht⟩, by rw [ht]; exact Nat.le_refl _, fun q _ _ => by rw [ht]⟩) (fun q hq => by cases hq) (gdec kX5_init 2 rfl) C.2.2.2.2.2.2.1
set_option maxHeartbeats 4000000 in
theorem c_X1_init (l : Launch) (E : gEnv) (b : Nat) (H0 : Heap) : Met l yX1_init (.code yX1_init cX1_init 1 none :: gWords) (gRm 1 12 0 0) (va_Pc [.ref b] (fun U => gK E U ∧ U.heap = H0)) (nQ0 H0) 0 0 (fun _ => False) := by
  refine n_met (E := E) (by decide +kernel) (Nat.le_of_ble_eq_true rfl) rfl (fun s h => h.1) ?_
  intro p e s m below meth c C hin hp ls hl
  obtain ⟨-, rfl⟩ := hp
  have C : gC p s m _ meth c RX1 cX1_init 1 none E := C
  have hl : lv_has ls 1 [(0, .ref b)] := hl
  refine g_aload_n C hl 0 rfl rfl (gdec kX1_init 0 rfl) ?_
  refine n_super C wM_X1_1 hl.1 (by decide) (gdec kX1_init 1 rfl) ?_
  exact W.vret C.1 C.2.1 C.2.2.1 (fun t ht hW => ⟨⟨(), rfl, trivial, ht⟩, by rw [ht]; exact Nat.le_refl _, fun q _ _ => by rw [ht]⟩) (fun q hq => by cases hq) (gdec kX1_init 2 rfl) C.2.2.2.2.2.2.1
set_option maxHeartbeats 4000000 in
theorem c_X6_init (l : Launch) (E : gEnv) (b : Nat) (H0 : Heap) : Met l yX6_init (.code yX6_init cX6_init 1 none :: gWords) (gRm 1 12 0 0) (va_Pc [.ref b] (fun U => gK E U ∧ U.heap = H0)) (nQ0 H0) 0 0 (fun _ => False) := by
  refine n_met (E := E) (by decide +kernel) (Nat.le_of_ble_eq_true rfl) rfl (fun s h => h.1) ?_
  intro p e s m below meth c C hin hp ls hl
  obtain ⟨-, rfl⟩ := hp
  have C : gC p s m _ meth c RX6 cX6_init 1 none E := C
  have hl : lv_has ls 1 [(0, .ref b)] := hl
  refine g_aload_n C hl 0 rfl rfl (gdec kX6_init 0 rfl) ?_
  refine n_super C wM_X6_3 hl.1 (by decide) (gdec kX6_init 1 rfl) ?_
  exact W.vret C.1 C.2.1 C.2.2.1 (fun t ht hW => ⟨⟨(), rfl, trivial, ht⟩, by rw [ht]; exact Nat.le_refl _, fun q _ _ => by rw [ht]⟩) (fun q hq => by cases hq) (gdec kX6_init 2 rfl) C.2.2.2.2.2.2.1
set_option maxHeartbeats 4000000 in
theorem c_X2_init (l : Launch) (E : gEnv) (b : Nat) (H0 : Heap) : Met l yX2_init (.code yX2_init cX2_init 1 none :: gWords) (gRm 1 12 0 0) (va_Pc [.ref b] (fun U => gK E U ∧ U.heap = H0)) (nQ0 H0) 0 0 (fun _ => False) := by
  refine n_met (E := E) (by decide +kernel) (Nat.le_of_ble_eq_true rfl) rfl (fun s h => h.1) ?_
  intro p e s m below meth c C hin hp ls hl
  obtain ⟨-, rfl⟩ := hp
  have C : gC p s m _ meth c RX2 cX2_init 1 none E := C
  have hl : lv_has ls 1 [(0, .ref b)] := hl
  refine g_aload_n C hl 0 rfl rfl (gdec kX2_init 0 rfl) ?_
  refine n_super C wM_X2_3 hl.1 (by decide) (gdec kX2_init 1 rfl) ?_
  exact W.vret C.1 C.2.1 C.2.2.1 (fun t ht hW => ⟨⟨(), rfl, trivial, ht⟩, by rw [ht]; exact Nat.le_refl _, fun q _ _ => by rw [ht]⟩) (fun q hq => by cases hq) (gdec kX2_init 2 rfl) C.2.2.2.2.2.2.1
/-- the cells of a road, in the order of their making -/
def rid (r : Int) (j : Nat) : Nat × Int := if j = 0 then (3, r) else if j = 1 then (14, r) else if j = 2 then (15, r) else if j = 3 then (16, r) else if j = 4 then (17, r) else if j < 12 then (5, 7 * r + ((j : Int) - 5)) else if j < 20 then (1, 8 * r + ((j : Int) - 12)) else if j < 30 then (6, 10 * r + ((j : Int) - 20)) else (2, 12 * r + ((j : Int) - 30))
def roff (r : Int) (k : Nat) (o : Int) : Nat := if k = 3 then 0 else if k = 14 then 1 else if k = 15 then 2 else if k = 16 then 3 else if k = 17 then 4 else if k = 5 then 5 + (o - 7 * r).toNat else if k = 1 then 12 + (o - 8 * r).toNat else if k = 6 then 20 + (o - 10 * r).toNat else 30 + (o - 12 * r).toNat
def eR (E : gEnv) (r : Int) (B : Nat) : gEnv := (eD E, eC E, fun k o => B + roff r k o, fun q => B ≤ q, (List.range 42).map (rid r), [])
theorem rid_mem {r : Int} {k : Nat} {o : Int} : (k, o) ∈ (List.range 42).map (rid r) ↔ ((k = 3 ∨ k = 14 ∨ k = 15 ∨ k = 16 ∨ k = 17) ∧ o = r) ∨ (k = 5 ∧ 7 * r ≤ o ∧ o < 7 * r + 7) ∨ (k = 1 ∧ 8 * r ≤ o ∧ o < 8 * r + 8) ∨ (k = 6 ∧ 10 * r ≤ o ∧ o < 10 * r + 10) ∨ (k = 2 ∧ 12 * r ≤ o ∧ o < 12 * r + 12) := by
  constructor
  · intro h
    obtain ⟨j, hj, e⟩ := List.mem_map.mp h
    have hj := List.mem_range.mp hj
    unfold rid at e
    repeat' split at e
    all_goals (simp only [Prod.mk.injEq] at e; omega)
  · intro h
    refine List.mem_map.mpr ⟨roff r k o, List.mem_range.mpr ?_, ?_⟩
    · unfold roff
      repeat' split
      all_goals omega
    · rcases h with ⟨hk, rfl⟩ | ⟨rfl, h1, h2⟩ | ⟨rfl, h1, h2⟩ | ⟨rfl, h1, h2⟩ | ⟨rfl, h1, h2⟩
      · rcases hk with rfl | rfl | rfl | rfl | rfl <;> rfl
      · obtain ⟨i, rfl⟩ : ∃ i : Nat, o = 7 * r + i := ⟨(o - 7 * r).toNat, by omega⟩
        have e : roff r 5 (7 * r + i) = 5 + i := by show 5 + (7 * r + (i : Int) - 7 * r).toNat = 5 + i; omega
        rw [e]
        unfold rid
        rw [if_neg (show ¬ 5 + i = 0 by omega), if_neg (show ¬ 5 + i = 1 by omega), if_neg (show ¬ 5 + i = 2 by omega), if_neg (show ¬ 5 + i = 3 by omega), if_neg (show ¬ 5 + i = 4 by omega), if_pos (show 5 + i < 12 by omega)]
        exact congrArg (Prod.mk (5 : Nat)) (by omega)
      · obtain ⟨i, rfl⟩ : ∃ i : Nat, o = 8 * r + i := ⟨(o - 8 * r).toNat, by omega⟩
        have e : roff r 1 (8 * r + i) = 12 + i := by show 12 + (8 * r + (i : Int) - 8 * r).toNat = 12 + i; omega
        rw [e]
        unfold rid
        rw [if_neg (show ¬ 12 + i = 0 by omega), if_neg (show ¬ 12 + i = 1 by omega), if_neg (show ¬ 12 + i = 2 by omega), if_neg (show ¬ 12 + i = 3 by omega), if_neg (show ¬ 12 + i = 4 by omega), if_neg (show ¬ 12 + i < 12 by omega), if_pos (show 12 + i < 20 by omega)]
        exact congrArg (Prod.mk (1 : Nat)) (by omega)
      · obtain ⟨i, rfl⟩ : ∃ i : Nat, o = 10 * r + i := ⟨(o - 10 * r).toNat, by omega⟩
        have e : roff r 6 (10 * r + i) = 20 + i := by show 20 + (10 * r + (i : Int) - 10 * r).toNat = 20 + i; omega
        rw [e]
        unfold rid
        rw [if_neg (show ¬ 20 + i = 0 by omega), if_neg (show ¬ 20 + i = 1 by omega), if_neg (show ¬ 20 + i = 2 by omega), if_neg (show ¬ 20 + i = 3 by omega), if_neg (show ¬ 20 + i = 4 by omega), if_neg (show ¬ 20 + i < 12 by omega), if_neg (show ¬ 20 + i < 20 by omega), if_pos (show 20 + i < 30 by omega)]
        exact congrArg (Prod.mk (6 : Nat)) (by omega)
      · obtain ⟨i, rfl⟩ : ∃ i : Nat, o = 12 * r + i := ⟨(o - 12 * r).toNat, by omega⟩
        have e : roff r 2 (12 * r + i) = 30 + i := by show 30 + (12 * r + (i : Int) - 12 * r).toNat = 30 + i; omega
        rw [e]
        unfold rid
        rw [if_neg (show ¬ 30 + i = 0 by omega), if_neg (show ¬ 30 + i = 1 by omega), if_neg (show ¬ 30 + i = 2 by omega), if_neg (show ¬ 30 + i = 3 by omega), if_neg (show ¬ 30 + i = 4 by omega), if_neg (show ¬ 30 + i < 12 by omega), if_neg (show ¬ 30 + i < 20 by omega), if_neg (show ¬ 30 + i < 30 by omega)]
        exact congrArg (Prod.mk (2 : Nat)) (by omega)
theorem roff_rid (r : Int) {j : Nat} (hj : j < 42) : roff r (rid r j).1 (rid r j).2 = j := by
  unfold rid
  repeat' split
  all_goals (simp only [roff]; simp; try omega)
theorem map_nodup {α : Type} {f : Nat → α} {g : α → Nat} {n : Nat} (h : ∀ j, j < n → g (f j) = j) : ((List.range n).map f).Nodup := by
  unfold List.Nodup
  rw [List.pairwise_map]
  refine List.Pairwise.imp_of_mem (R := fun a b => a ≠ b) (fun {a b} ha hb hne e => hne ?_) List.nodup_range
  rw [← h a (List.mem_range.mp ha), ← h b (List.mem_range.mp hb), e]
theorem range_at {α : Type} {f : Nat → α} {n i : Nat} {p : α} (h : ((List.range n).map f)[i]? = some p) : i < n ∧ p = f i := by
  have hl : i < n := by
    have := (List.getElem?_eq_some_iff.mp h).1
    rwa [List.length_map, List.length_range] at this
  rw [List.getElem?_map, List.getElem?_range hl] at h
  exact ⟨hl, (Option.some.inj h).symm⟩
theorem eR_dis (E : gEnv) (r : Int) (B : Nat) : gDis (eR E r B) := by
  have hm : ∀ (k : Nat) (o : Int), gOk (eR E r B) k o ↔ _ := fun k o => rid_mem (r := r) (k := k) (o := o)
  refine ⟨⟨fun i j p q hi hj e => ?_, gDiZ_nil rfl⟩, fun p _ => Nat.le_add_right _ _, map_nodup (g := fun q => roff r q.1 q.2) fun j hj => roff_rid r hj, ?_⟩
  · obtain ⟨li, rfl⟩ := range_at hi
    obtain ⟨lj, rfl⟩ := range_at hj
    have e2 : B + roff r (rid r i).1 (rid r i).2 = B + roff r (rid r j).1 (rid r j).2 := e
    rw [roff_rid r li, roff_rid r lj] at e2
    omega
  · refine ⟨fun r1 h => ?_, fun r1 i h hi => ?_, fun r1 i h hi => ?_, fun r1 i h hi => ?_, fun r1 i h hi => ?_, fun h => ?_, fun h => ?_, fun h => ?_, fun h => ?_⟩
    · have e : r1 = r := by rw [hm] at h; simpa using h
      rw [e]
      exact ⟨(hm _ _).mpr (Or.inl ⟨by decide, rfl⟩), (hm _ _).mpr (Or.inl ⟨by decide, rfl⟩), (hm _ _).mpr (Or.inl ⟨by decide, rfl⟩), (hm _ _).mpr (Or.inl ⟨by decide, rfl⟩)⟩
    · have e : r1 = r := by rw [hm] at h; simpa using h
      rw [e]
      exact (hm _ _).mpr (Or.inr (Or.inl ⟨rfl, by omega, by omega⟩))
    · have e : r1 = r := by rw [hm] at h; simpa using h
      rw [e]
      exact (hm _ _).mpr (Or.inr (Or.inr (Or.inl ⟨rfl, by omega, by omega⟩)))
    · have e : r1 = r := by rw [hm] at h; simpa using h
      rw [e]
      exact (hm _ _).mpr (Or.inr (Or.inr (Or.inr (Or.inl ⟨rfl, by omega, by omega⟩))))
    · have e : r1 = r := by rw [hm] at h; simpa using h
      rw [e]
      exact (hm _ _).mpr (Or.inr (Or.inr (Or.inr (Or.inr ⟨rfl, by omega, by omega⟩))))
    all_goals (rw [hm] at h; simp at h)
abbrev gD3 : List Value := [.null, .null, .null, .null, .int 0, .int 0, .int 0, .int 0, .int 0, .int 0, .int 0, .int 0, .int 0]
abbrev gZ : GS := fun _ _ _ => 0
/-- a road that is being made: so many stages, inns, teams, letters -/
def Wr (E : gEnv) (B i1 i2 i3 i4 : Nat) : Nat → va_E := fun j => if j = 0 then .inr (3, [.ref (B + 1), .ref (B + 2), .ref (B + 3), .ref (B + 4), .int 0, .int 0, .int 0, .int 0, .int 0, .int 0, .int 0, .int 0, .int 0]) else if j = 1 then .inl (eC E 14, 7, gRs fun x => if x < i1 then some (B + (5 + x)) else none) else if j = 2 then .inl (eC E 15, 8, gRs fun x => if x < i2 then some (B + (12 + x)) else none) else if j = 3 then .inl (eC E 16, 10, gRs fun x => if x < i3 then some (B + (20 + x)) else none) else if j = 4 then .inl (eC E 17, 12, gRs fun x => if x < i4 then some (B + (30 + x)) else none) else if j < 12 then .inr (5, [.int 0, .int 0, .int 0]) else if j < 20 then .inr (1, [.int 0, .int 0, .int 0]) else if j < 30 then .inr (6, [.int 0, .int 0, .int 0, .int 0, .int 0, .int 0, .int 0, .int 0, .int 0, .int 0, .int 0, .int 0]) else .inr (2, [.int 0, .int 0, .int 0, .int 0, .int 0, .int 0, .int 0, .int 0])
theorem wl_nil {E : gEnv} {G : GS} (h : eZ E = []) : wl E G = (eL E).map (fun q => (eA E q.1 q.2, gCell E G q.1 q.2)) := by
  unfold wl
  rw [h, List.append_nil]
  rfl

/-! THE LAW'S CALLS WITH HANDLERS -/
def lwB {β : Type} (o : Option (GS × (Int × Int))) (k : GS → Int → Int → Option β) : Option β := match o with
  | none => none
  | some q => k q.1 q.2.1 q.2.2
theorem lwB_s {β : Type} {o : Option (GS × (Int × Int))} {k : GS → Int → Int → Option β} {r : β} (h : lwB o k = some r) : ∃ G1 x r1, o = some (G1, (x, r1)) ∧ k G1 x r1 = some r := by
  cases o with
  | none => cases h
  | some q => exact ⟨q.1, q.2.1, q.2.2, rfl, h⟩
def lwP {β : Type} (o : Option (Int × Int)) (k : Int → Int → Option β) : Option β := match o with
  | none => none
  | some q => k q.1 q.2
theorem lwP_s {β : Type} {o : Option (Int × Int)} {k : Int → Int → Option β} {r : β} (h : lwP o k = some r) : ∃ x r1, o = some (x, r1) ∧ k x r1 = some r := by
  cases o with
  | none => cases h
  | some q => exact ⟨q.1, q.2, rfl, h⟩
theorem g_metW {l : Launch} {y : MethodName} {b : ByteArray} {nL : Nat} {ret : Option FieldType} {hh : List (Nat × Nat × Nat × Nat)} {f lo mc ms : Nat} {As : List Value} {E : gEnv} {G : GS} {Qc : Array Value → State → Outcome → State → Prop}
    (hy : plainName y.cls = true) (hn : (lg_sl As).length ≤ nL)
    (body : ∀ (p : Program) (e : Env) (s : State) (m : MethodId) (below : List Frame) (meth : Method) (c : Code), gC p s m As.toArray meth c y.cls b nL ret E → c.exceptionTable.toList = tableOf hh → ∀ (H : Heap) (locs : List Loc), gH E s G H locs → ∀ ls, lv_has ls nL (lv_args 0 As) → W p l e (gRm f lo mc ms) s m As.toArray below meth c H locs 0 0 (MQ below Qc As.toArray s mc ms (eF E)) (F0 m 0 ls [])) :
    Met l y (.codeWith y b nL ret hh :: gWords) (gRm f lo mc ms) (va_Pc As (gW E G)) Qc mc ms (eF E) := by
  refine MetFree.of_bodyS (code := b) (maxLocals := nL) (ret := ret) hy ?_ ?_
  · intro args s m h hn
    obtain ⟨m9, meth, c, hn9, h1, h2, h3, h4, -, h5, h6, -⟩ := Cond.codeWith_spec (atoms_spec (ws := .codeWith y b nL ret hh :: gWords) h _ List.mem_cons_self)
    cases hn.symm.trans hn9
    exact ⟨meth, c, h1, h2, h3, h4, h5, h6⟩
  · intro p e s m args below meth c s₁ B hml hv _
    have hh0 : s₁.heap = s.heap := by rw [B.state]; rfl
    obtain ⟨rfl, hP, hK⟩ := hv
    have hts := atoms_spec (ws := .codeWith y b nL ret hh :: gWords) B.pre
    have htab := vx_table (x := y) B (hts _ List.mem_cons_self)
    have K := body p e s m below meth c ⟨B.exec, B.bytes, B.returns, hml, findClass_of_methodNamed B.named, fun w hw => hts w (List.mem_cons_of_mem _ hw), B.notSynchronized, hK⟩ htab s.heap [] ⟨hP, va_S.rf⟩ _ (lv_entry As hn)
    have K2 : W p l e (gRm f lo mc ms) s m As.toArray below meth c s.heap [] 0 0 (MQ below Qc As.toArray s mc ms (eF E)) (entryFrame m As.toArray nL) := by
      rw [lg_entry_eq]
      exact K
    obtain ⟨t, a1, o, b1, b2, b3⟩ := K2 s₁ hh0 (Stand.of_body B)
    exact ⟨t, o, a1, b1, b2, b3⟩
section GLW
variable {p : Program} {l : Launch} {e : Env} {R : Room} {s : State} {m : MethodId} {args : Array Value} {below : List Frame} {meth : Method} {c : Code} {H : Heap} {locs : List Loc} {cells slots : Nat} {Q : State → Prop}
variable {pc : Nat} {ls : Array Slot} {rest st : List Value} {own : String} {cc : ByteArray} {nL : Nat} {ret : Option FieldType} {E : gEnv} {G G1 : GS}
theorem g_catch (C : gC p s m args meth c own cc nL ret E) {hh : List (Nat × Nat × Nat × Nat)} (htab : c.exceptionTable.toList = tableOf hh) {x : Int} {pre : List ExceptionTableEntry} {z : ExceptionTableEntry} {suf : List ExceptionTableEntry} (hs : tableOf hh = pre ++ z :: suf) (hpass : ∀ z' ∈ pre, z'.catchType ≠ 0 ∧ ∃ nm : String, Cond.classLink own z'.catchType nm ∈ gWords ∧ (gExc x, nm) ∈ gNcs) (hx : covers z pc = true) (h0 : z.catchType ≠ 0) (wk : Cond.classLink own z.catchType (gExc x) ∈ gWords) (wc : Cond.castable (gExc x) (gExc x) ∈ gFace) {ce : Cell} {q : Addr} (hcell : H[q]? = some ce) (hv : ce.vm = .none) (hcl : s.vm.findClass (gExc x) = some ce.cls)
    (kk : W p l e R s m args below meth c H locs cells slots Q (F0 m z.handlerPc ls [.ref q])) : vx_W p l e R s m args below meth c H locs cells slots Q (F0 m pc ls rest) q := by
  have hX := C.2.2.2.2.2.2.2.2.2.2
  refine vx_catch C.2.2.2.2.1 pre z suf (htab.trans hs) (fun z' hz => Or.inr ⟨(hpass z' hz).1, ?_⟩) hx h0 (C.2.2.2.2.2.1 _ wk) ?_ hcell hv hcl kk
  · obtain ⟨-, nm, h1, h2⟩ := hpass z' hz
    exact ⟨nm, C.2.2.2.2.2.1 _ h1, hX.2.2.1 _ h2⟩
  · have hb := (List.mem_filter.mp wc).2
    simp only [Bool.and_eq_true] at hb
    exact va_tabs hb.1 rfl (hX.1 _ wc)
theorem g_runSW (C : gC p s m args meth c own cc nL ret E) (h : gH E s G H locs) {ix n : Nat} {y : MethodName} {b : ByteArray} {nLy f lo mc ms : Nat} {rt : Option FieldType} {hh : List (Nat × Nat × Nat × Nat)} {As : List Value} {Qc : Array Value → State → Outcome → State → Prop}
    (hM : Met l y (.codeWith y b nLy rt hh :: gWords) (gRm f lo mc ms) (va_Pc As (gW E G)) Qc mc ms (eF E)) (w1 : Cond.methodLink own ix y ∈ gWords) (w2 : Cond.static y ∈ gWords) (w4 : Cond.initialized own ∈ gWords) (w5 : Cond.codeWith y b nLy rt hh ∈ gWords)
    (hyc : y.cls = own) (hy : gNy y n) (hn : As.length = n) (hR : f + 1 ≤ R.frames ∧ 8 + (nLy + 11) + lo ≤ R.locals) (hls : ls.size = nL) (hst : st = As.reverse ++ rest) (hrest : (rest.map fun v => v.category).sum ≤ 8) (hd : decode cc pc = .ok (.invokestatic ix, 3)) (hcs : cells + mc ≤ R.cells ∧ slots + ms ≤ R.slots) :
    va_Run p l e R s m args below meth c H locs cells slots mc ms (F0 m pc ls st) rest (Qc As.toArray) (eF E) := by
  refine vx_runSW (As := As) (rest := rest) (hh := hh) ⟨C.1, C.2.1, C.2.2.2.1, C.2.2.2.2.1, C.2.2.2.2.2.1⟩ hM (vx_cwSW n C.2.2.2.2.2.1 (gwIn ?_) rfl rfl rfl hy hR) ⟨gW_blind, fun U hU hW => ⟨rfl, gEnd C h hU hW⟩⟩ rfl hn hls hst (lv_room hrest) hd hcs
  intro w hw
  simp only [va_wsS, List.cons_append, List.nil_append, List.mem_cons] at hw
  rcases hw with rfl | rfl | rfl | rfl | hw
  · exact w1
  · exact w2
  · rw [hyc]; exact w4
  · exact w5
  · exact hw
end GLW
set_option maxRecDepth 100000 in
theorem gCast : ∀ w ∈ [Cond.castable "java/lang/IndexOutOfBoundsException" "java/lang/IndexOutOfBoundsException", Cond.castable "java/lang/IllegalArgumentException" "java/lang/IllegalArgumentException", Cond.castable "java/lang/IllegalStateException" "java/lang/IllegalStateException"], w ∈ lw_tbl ∧ (w.onTables && w.keepsFace) = true := by decide +kernel
theorem gCast1 : Cond.castable (gExc 1) (gExc 1) ∈ gFace := List.mem_filter.mpr (gCast _ (List.mem_of_getElem? (i := 0) rfl))
theorem gCast2 : Cond.castable (gExc 2) (gExc 2) ∈ gFace := List.mem_filter.mpr (gCast _ (List.mem_of_getElem? (i := 1) rfl))
theorem gCast3 : Cond.castable (gExc 3) (gExc 3) ∈ gFace := List.mem_filter.mpr (gCast _ (List.mem_of_getElem? (i := 2) rfl))
def f_L_setStage (G : GS) (p1 : Int) (p2 : Int) (p3 : Int) (p4 : Int) : Option (GS × Int) := lwB (f_X7_setStage G p1 p2 p3 p4) (fun G1 x r => if x = 0 then some (gup G1 13 0 0 (bm r), 0) else if x = 1 then some (G1, 1) else if x = 2 then some (G1, 2) else none)
theorem ny_L_setStage : gNy yL_setStage 6 := ⟨by decide, by decide, by decide +kernel⟩
set_option maxHeartbeats 4000000 in
set_option maxRecDepth 100000 in
theorem c_L_setStage (l : Launch) (hst : l.stackTraces = false) (E : gEnv) (G : GS) (p1 : Int) (p2 : Int) (p3 : Int) (p4 : Int) (ho : gOk E 7 0) (ho2 : gOk E 13 0) (Gz : GS) (rz : Int) (hf : f_L_setStage G p1 p2 p3 p4 = some (Gz, rz)) : Met l yL_setStage (.codeWith yL_setStage cL_setStage 7 (some .int) [(0, 14, 17, 13), (0, 14, 21, 15)] :: gWords) (gRm 8 130 3 18) (va_Pc [.ref (eA E 7 0), vI p1, vI p2, vI p3, vI p4, .ref (eA E 13 0)] (gW E G)) (gQi E Gz rz) 3 18 (eF E) := by
  refine g_metW (by decide +kernel) (Nat.le_of_ble_eq_true rfl) ?_
  intro p e s m below meth c C htab H locs h ls hl
  have C : gC p s m _ meth c RL cL_setStage 7 (some .int) E := C
  have hl : lv_has ls 7 [(0, .ref (eA E 7 0)), (1, vI p1), (2, vI p2), (3, vI p3), (4, vI p4), (5, .ref (eA E 13 0))] := hl
  unfold f_L_setStage at hf
  obtain ⟨G1, x, r, q, hf⟩ := lwB_s hf
  refine g_aload C hl 5 rfl (gdec kL_setStage 0 rfl) ?_
  refine g_iconst C (gdec kL_setStage 1 rfl) ?_
  refine g_aload_n C hl 0 rfl rfl (gdec kL_setStage 2 rfl) ?_
  refine g_iload_n C hl 1 rfl rfl (gdec kL_setStage 3 rfl) ?_
  refine g_iload_n C hl 2 rfl rfl (gdec kL_setStage 4 rfl) ?_
  refine g_iload_n C hl 3 rfl rfl (gdec kL_setStage 5 rfl) ?_
  refine g_iload C hl 4 rfl (gdec kL_setStage 6 rfl) ?_
  refine g_xci h (g_xrunV (rest := [vI 0, .ref (eA E 13 0)]) C h ho (by decide) rfl (c_X7_setStage l hst E _ _ _ _ _ ho _ _ _ q) wM_L_7 wI_X7_setStage wS_X7_setStage wN_X7 wC_X7_setStage rfl ny_X7_setStage rfl ⟨Nat.le_of_ble_eq_true rfl, Nat.le_of_ble_eq_true rfl⟩ hl.1 rfl (Nat.le_of_ble_eq_true rfl) (gdec kL_setStage 7 rfl) ⟨Nat.le_of_ble_eq_true rfl, Nat.le_of_ble_eq_true rfl⟩) (fun hx ce q9 H locs h hce hcv hcl => ?_) (fun hx H locs h => ?_)
  · rw [if_neg hx] at hf
    by_cases e1 : x = 1
    · subst e1
      rw [if_pos rfl] at hf
      refine g_catch C htab (x := 1) (pre := []) (z := ⟨0, 14, 17, 13⟩) (suf := [⟨0, 14, 21, 15⟩]) rfl (fun z hz => absurd hz List.not_mem_nil) (by decide) (by decide) wK_L_13 gCast1 hce hcv hcl ?_
      refine g_astore C ((6, Value.ref q9) :: [(0, .ref (eA E 7 0)), (1, vI p1), (2, vI p2), (3, vI p3), (4, vI p4), (5, .ref (eA E 13 0))]) hl (by decide) rfl (gdec kL_setStage 11 rfl) (fun ls hl => ?_)
      refine g_iconst C (gdec kL_setStage 12 rfl) ?_
      exact g_iret C h hf (gdec kL_setStage 13 rfl)
    rw [if_neg e1] at hf
    by_cases e2 : x = 2
    · subst e2
      rw [if_pos rfl] at hf
      refine g_catch C htab (x := 2) (pre := [⟨0, 14, 17, 13⟩]) (z := ⟨0, 14, 21, 15⟩) (suf := []) rfl (fun z hz => by
        simp only [List.mem_cons, List.mem_singleton, List.not_mem_nil, or_false] at hz
        subst hz
        exact ⟨by decide, _, wK_L_13, by decide⟩) (by decide) (by decide) wK_L_15 gCast2 hce hcv hcl ?_
      refine g_astore C ((6, Value.ref q9) :: [(0, .ref (eA E 7 0)), (1, vI p1), (2, vI p2), (3, vI p3), (4, vI p4), (5, .ref (eA E 13 0))]) hl (by decide) rfl (gdec kL_setStage 14 rfl) (fun ls hl => ?_)
      refine g_iconst C (gdec kL_setStage 15 rfl) ?_
      exact g_iret C h hf (gdec kL_setStage 16 rfl)
    rw [if_neg e2] at hf
    cases hf
  · subst hx
    rw [if_pos rfl] at hf
    refine g_i2l C (gdec kL_setStage 8 rfl) ?_
    refine g_last C h ho2 (by decide) (gdec kL_setStage 9 rfl) (fun H locs h => ?_)
    refine g_goto C (tgt := 25) (by decide) (gdec kL_setStage 10 rfl) ?_
    refine g_iconst C (gdec kL_setStage 17 rfl) ?_
    exact g_iret C h hf (gdec kL_setStage 18 rfl)
def f_L_setInn (G : GS) (p1 : Int) (p2 : Int) (p3 : Int) (p4 : Int) : Option (GS × Int) := lwB (f_X7_setInn G p1 p2 p3 p4) (fun G1 x r => if x = 0 then some (gup G1 13 0 0 (bm r), 0) else if x = 1 then some (G1, 1) else if x = 2 then some (G1, 2) else none)
theorem ny_L_setInn : gNy yL_setInn 6 := ⟨by decide, by decide, by decide +kernel⟩
set_option maxHeartbeats 4000000 in
set_option maxRecDepth 100000 in
theorem c_L_setInn (l : Launch) (hst : l.stackTraces = false) (E : gEnv) (G : GS) (p1 : Int) (p2 : Int) (p3 : Int) (p4 : Int) (ho : gOk E 7 0) (ho2 : gOk E 13 0) (Gz : GS) (rz : Int) (hf : f_L_setInn G p1 p2 p3 p4 = some (Gz, rz)) : Met l yL_setInn (.codeWith yL_setInn cL_setInn 7 (some .int) [(0, 14, 17, 13), (0, 14, 21, 15)] :: gWords) (gRm 8 130 3 18) (va_Pc [.ref (eA E 7 0), vI p1, vI p2, vI p3, vI p4, .ref (eA E 13 0)] (gW E G)) (gQi E Gz rz) 3 18 (eF E) := by
  refine g_metW (by decide +kernel) (Nat.le_of_ble_eq_true rfl) ?_
  intro p e s m below meth c C htab H locs h ls hl
  have C : gC p s m _ meth c RL cL_setInn 7 (some .int) E := C
  have hl : lv_has ls 7 [(0, .ref (eA E 7 0)), (1, vI p1), (2, vI p2), (3, vI p3), (4, vI p4), (5, .ref (eA E 13 0))] := hl
  unfold f_L_setInn at hf
  obtain ⟨G1, x, r, q, hf⟩ := lwB_s hf
  refine g_aload C hl 5 rfl (gdec kL_setInn 0 rfl) ?_
  refine g_iconst C (gdec kL_setInn 1 rfl) ?_
  refine g_aload_n C hl 0 rfl rfl (gdec kL_setInn 2 rfl) ?_
  refine g_iload_n C hl 1 rfl rfl (gdec kL_setInn 3 rfl) ?_
  refine g_iload_n C hl 2 rfl rfl (gdec kL_setInn 4 rfl) ?_
  refine g_iload_n C hl 3 rfl rfl (gdec kL_setInn 5 rfl) ?_
  refine g_iload C hl 4 rfl (gdec kL_setInn 6 rfl) ?_
  refine g_xci h (g_xrunV (rest := [vI 0, .ref (eA E 13 0)]) C h ho (by decide) rfl (c_X7_setInn l hst E _ _ _ _ _ ho _ _ _ q) wM_L_17 wI_X7_setInn wS_X7_setInn wN_X7 wC_X7_setInn rfl ny_X7_setInn rfl ⟨Nat.le_of_ble_eq_true rfl, Nat.le_of_ble_eq_true rfl⟩ hl.1 rfl (Nat.le_of_ble_eq_true rfl) (gdec kL_setInn 7 rfl) ⟨Nat.le_of_ble_eq_true rfl, Nat.le_of_ble_eq_true rfl⟩) (fun hx ce q9 H locs h hce hcv hcl => ?_) (fun hx H locs h => ?_)
  · rw [if_neg hx] at hf
    by_cases e1 : x = 1
    · subst e1
      rw [if_pos rfl] at hf
      refine g_catch C htab (x := 1) (pre := []) (z := ⟨0, 14, 17, 13⟩) (suf := [⟨0, 14, 21, 15⟩]) rfl (fun z hz => absurd hz List.not_mem_nil) (by decide) (by decide) wK_L_13 gCast1 hce hcv hcl ?_
      refine g_astore C ((6, Value.ref q9) :: [(0, .ref (eA E 7 0)), (1, vI p1), (2, vI p2), (3, vI p3), (4, vI p4), (5, .ref (eA E 13 0))]) hl (by decide) rfl (gdec kL_setInn 11 rfl) (fun ls hl => ?_)
      refine g_iconst C (gdec kL_setInn 12 rfl) ?_
      exact g_iret C h hf (gdec kL_setInn 13 rfl)
    rw [if_neg e1] at hf
    by_cases e2 : x = 2
    · subst e2
      rw [if_pos rfl] at hf
      refine g_catch C htab (x := 2) (pre := [⟨0, 14, 17, 13⟩]) (z := ⟨0, 14, 21, 15⟩) (suf := []) rfl (fun z hz => by
        simp only [List.mem_cons, List.mem_singleton, List.not_mem_nil, or_false] at hz
        subst hz
        exact ⟨by decide, _, wK_L_13, by decide⟩) (by decide) (by decide) wK_L_15 gCast2 hce hcv hcl ?_
      refine g_astore C ((6, Value.ref q9) :: [(0, .ref (eA E 7 0)), (1, vI p1), (2, vI p2), (3, vI p3), (4, vI p4), (5, .ref (eA E 13 0))]) hl (by decide) rfl (gdec kL_setInn 14 rfl) (fun ls hl => ?_)
      refine g_iconst C (gdec kL_setInn 15 rfl) ?_
      exact g_iret C h hf (gdec kL_setInn 16 rfl)
    rw [if_neg e2] at hf
    cases hf
  · subst hx
    rw [if_pos rfl] at hf
    refine g_i2l C (gdec kL_setInn 8 rfl) ?_
    refine g_last C h ho2 (by decide) (gdec kL_setInn 9 rfl) (fun H locs h => ?_)
    refine g_goto C (tgt := 25) (by decide) (gdec kL_setInn 10 rfl) ?_
    refine g_iconst C (gdec kL_setInn 17 rfl) ?_
    exact g_iret C h hf (gdec kL_setInn 18 rfl)
def f_L_addTeam (G : GS) (p1 : Int) (p2 : Int) : Option (GS × Int) := lwB (f_X7_addTeam G p1 p2) (fun G1 x r => if x = 0 then some (gup G1 13 0 0 (bm r), 0) else if x = 1 then some (G1, 1) else if x = 2 then some (G1, 2) else if x = 3 then some (G1, 3) else none)
theorem ny_L_addTeam : gNy yL_addTeam 4 := ⟨by decide, by decide, by decide +kernel⟩
set_option maxHeartbeats 4000000 in
set_option maxRecDepth 100000 in
theorem c_L_addTeam (l : Launch) (hst : l.stackTraces = false) (E : gEnv) (G : GS) (p1 : Int) (p2 : Int) (ho : gOk E 7 0) (ho2 : gOk E 13 0) (Gz : GS) (rz : Int) (hf : f_L_addTeam G p1 p2 = some (Gz, rz)) : Met l yL_addTeam (.codeWith yL_addTeam cL_addTeam 5 (some .int) [(0, 10, 13, 13), (0, 10, 17, 15), (0, 10, 21, 24)] :: gWords) (gRm 8 126 3 18) (va_Pc [.ref (eA E 7 0), vI p1, vI p2, .ref (eA E 13 0)] (gW E G)) (gQi E Gz rz) 3 18 (eF E) := by
  refine g_metW (by decide +kernel) (Nat.le_of_ble_eq_true rfl) ?_
  intro p e s m below meth c C htab H locs h ls hl
  have C : gC p s m _ meth c RL cL_addTeam 5 (some .int) E := C
  have hl : lv_has ls 5 [(0, .ref (eA E 7 0)), (1, vI p1), (2, vI p2), (3, .ref (eA E 13 0))] := hl
  unfold f_L_addTeam at hf
  obtain ⟨G1, x, r, q, hf⟩ := lwB_s hf
  refine g_aload_n C hl 3 rfl rfl (gdec kL_addTeam 0 rfl) ?_
  refine g_iconst C (gdec kL_addTeam 1 rfl) ?_
  refine g_aload_n C hl 0 rfl rfl (gdec kL_addTeam 2 rfl) ?_
  refine g_iload_n C hl 1 rfl rfl (gdec kL_addTeam 3 rfl) ?_
  refine g_iload_n C hl 2 rfl rfl (gdec kL_addTeam 4 rfl) ?_
  refine g_xci h (g_xrunV (rest := [vI 0, .ref (eA E 13 0)]) C h ho (by decide) rfl (c_X7_addTeam l hst E _ _ _ ho _ _ _ q) wM_L_20 wI_X7_addTeam wS_X7_addTeam wN_X7 wC_X7_addTeam rfl ny_X7_addTeam rfl ⟨Nat.le_of_ble_eq_true rfl, Nat.le_of_ble_eq_true rfl⟩ hl.1 rfl (Nat.le_of_ble_eq_true rfl) (gdec kL_addTeam 5 rfl) ⟨Nat.le_of_ble_eq_true rfl, Nat.le_of_ble_eq_true rfl⟩) (fun hx ce q9 H locs h hce hcv hcl => ?_) (fun hx H locs h => ?_)
  · rw [if_neg hx] at hf
    by_cases e1 : x = 1
    · subst e1
      rw [if_pos rfl] at hf
      refine g_catch C htab (x := 1) (pre := []) (z := ⟨0, 10, 13, 13⟩) (suf := [⟨0, 10, 17, 15⟩, ⟨0, 10, 21, 24⟩]) rfl (fun z hz => absurd hz List.not_mem_nil) (by decide) (by decide) wK_L_13 gCast1 hce hcv hcl ?_
      refine g_astore C ((4, Value.ref q9) :: [(0, .ref (eA E 7 0)), (1, vI p1), (2, vI p2), (3, .ref (eA E 13 0))]) hl (by decide) rfl (gdec kL_addTeam 9 rfl) (fun ls hl => ?_)
      refine g_iconst C (gdec kL_addTeam 10 rfl) ?_
      exact g_iret C h hf (gdec kL_addTeam 11 rfl)
    rw [if_neg e1] at hf
    by_cases e2 : x = 2
    · subst e2
      rw [if_pos rfl] at hf
      refine g_catch C htab (x := 2) (pre := [⟨0, 10, 13, 13⟩]) (z := ⟨0, 10, 17, 15⟩) (suf := [⟨0, 10, 21, 24⟩]) rfl (fun z hz => by
        simp only [List.mem_cons, List.mem_singleton, List.not_mem_nil, or_false] at hz
        subst hz
        exact ⟨by decide, _, wK_L_13, by decide⟩) (by decide) (by decide) wK_L_15 gCast2 hce hcv hcl ?_
      refine g_astore C ((4, Value.ref q9) :: [(0, .ref (eA E 7 0)), (1, vI p1), (2, vI p2), (3, .ref (eA E 13 0))]) hl (by decide) rfl (gdec kL_addTeam 12 rfl) (fun ls hl => ?_)
      refine g_iconst C (gdec kL_addTeam 13 rfl) ?_
      exact g_iret C h hf (gdec kL_addTeam 14 rfl)
    rw [if_neg e2] at hf
    by_cases e3 : x = 3
    · subst e3
      rw [if_pos rfl] at hf
      refine g_catch C htab (x := 3) (pre := [⟨0, 10, 13, 13⟩, ⟨0, 10, 17, 15⟩]) (z := ⟨0, 10, 21, 24⟩) (suf := []) rfl (fun z hz => by
        simp only [List.mem_cons, List.mem_singleton, List.not_mem_nil, or_false] at hz
        rcases hz with rfl | rfl
        · exact ⟨by decide, _, wK_L_13, by decide⟩
        · exact ⟨by decide, _, wK_L_15, by decide⟩) (by decide) (by decide) wK_L_24 gCast3 hce hcv hcl ?_
      refine g_astore C ((4, Value.ref q9) :: [(0, .ref (eA E 7 0)), (1, vI p1), (2, vI p2), (3, .ref (eA E 13 0))]) hl (by decide) rfl (gdec kL_addTeam 15 rfl) (fun ls hl => ?_)
      refine g_iconst C (gdec kL_addTeam 16 rfl) ?_
      exact g_iret C h hf (gdec kL_addTeam 17 rfl)
    rw [if_neg e3] at hf
    cases hf
  · subst hx
    rw [if_pos rfl] at hf
    refine g_i2l C (gdec kL_addTeam 6 rfl) ?_
    refine g_last C h ho2 (by decide) (gdec kL_addTeam 7 rfl) (fun H locs h => ?_)
    refine g_goto C (tgt := 25) (by decide) (gdec kL_addTeam 8 rfl) ?_
    refine g_iconst C (gdec kL_addTeam 18 rfl) ?_
    exact g_iret C h hf (gdec kL_addTeam 19 rfl)
def f_L_give (G : GS) (p1 : Int) (p2 : Int) (p3 : Int) : Option (GS × Int) := lwB (f_X7_give G p1 p2 p3) (fun G1 x r => if x = 0 then some (gup G1 13 0 0 (bm r), 0) else if x = 1 then some (G1, 1) else if x = 2 then some (G1, 2) else if x = 3 then some (G1, 3) else none)
theorem ny_L_give : gNy yL_give 5 := ⟨by decide, by decide, by decide +kernel⟩
set_option maxHeartbeats 4000000 in
set_option maxRecDepth 100000 in
theorem c_L_give (l : Launch) (hst : l.stackTraces = false) (E : gEnv) (G : GS) (p1 : Int) (p2 : Int) (p3 : Int) (ho : gOk E 7 0) (ho2 : gOk E 13 0) (Gz : GS) (rz : Int) (hf : f_L_give G p1 p2 p3 = some (Gz, rz)) : Met l yL_give (.codeWith yL_give cL_give 6 (some .int) [(0, 12, 15, 13), (0, 12, 19, 15), (0, 12, 23, 24)] :: gWords) (gRm 8 126 4 24) (va_Pc [.ref (eA E 7 0), vI p1, vI p2, vI p3, .ref (eA E 13 0)] (gW E G)) (gQi E Gz rz) 4 24 (eF E) := by
  refine g_metW (by decide +kernel) (Nat.le_of_ble_eq_true rfl) ?_
  intro p e s m below meth c C htab H locs h ls hl
  have C : gC p s m _ meth c RL cL_give 6 (some .int) E := C
  have hl : lv_has ls 6 [(0, .ref (eA E 7 0)), (1, vI p1), (2, vI p2), (3, vI p3), (4, .ref (eA E 13 0))] := hl
  unfold f_L_give at hf
  obtain ⟨G1, x, r, q, hf⟩ := lwB_s hf
  refine g_aload C hl 4 rfl (gdec kL_give 0 rfl) ?_
  refine g_iconst C (gdec kL_give 1 rfl) ?_
  refine g_aload_n C hl 0 rfl rfl (gdec kL_give 2 rfl) ?_
  refine g_iload_n C hl 1 rfl rfl (gdec kL_give 3 rfl) ?_
  refine g_iload_n C hl 2 rfl rfl (gdec kL_give 4 rfl) ?_
  refine g_iload_n C hl 3 rfl rfl (gdec kL_give 5 rfl) ?_
  refine g_xci h (g_xrunV (rest := [vI 0, .ref (eA E 13 0)]) C h ho (by decide) rfl (c_X7_give l hst E _ _ _ _ ho _ _ _ q) wM_L_26 wI_X7_give wS_X7_give wN_X7 wC_X7_give rfl ny_X7_give rfl ⟨Nat.le_of_ble_eq_true rfl, Nat.le_of_ble_eq_true rfl⟩ hl.1 rfl (Nat.le_of_ble_eq_true rfl) (gdec kL_give 6 rfl) ⟨Nat.le_of_ble_eq_true rfl, Nat.le_of_ble_eq_true rfl⟩) (fun hx ce q9 H locs h hce hcv hcl => ?_) (fun hx H locs h => ?_)
  · rw [if_neg hx] at hf
    by_cases e1 : x = 1
    · subst e1
      rw [if_pos rfl] at hf
      refine g_catch C htab (x := 1) (pre := []) (z := ⟨0, 12, 15, 13⟩) (suf := [⟨0, 12, 19, 15⟩, ⟨0, 12, 23, 24⟩]) rfl (fun z hz => absurd hz List.not_mem_nil) (by decide) (by decide) wK_L_13 gCast1 hce hcv hcl ?_
      refine g_astore C ((5, Value.ref q9) :: [(0, .ref (eA E 7 0)), (1, vI p1), (2, vI p2), (3, vI p3), (4, .ref (eA E 13 0))]) hl (by decide) rfl (gdec kL_give 10 rfl) (fun ls hl => ?_)
      refine g_iconst C (gdec kL_give 11 rfl) ?_
      exact g_iret C h hf (gdec kL_give 12 rfl)
    rw [if_neg e1] at hf
    by_cases e2 : x = 2
    · subst e2
      rw [if_pos rfl] at hf
      refine g_catch C htab (x := 2) (pre := [⟨0, 12, 15, 13⟩]) (z := ⟨0, 12, 19, 15⟩) (suf := [⟨0, 12, 23, 24⟩]) rfl (fun z hz => by
        simp only [List.mem_cons, List.mem_singleton, List.not_mem_nil, or_false] at hz
        subst hz
        exact ⟨by decide, _, wK_L_13, by decide⟩) (by decide) (by decide) wK_L_15 gCast2 hce hcv hcl ?_
      refine g_astore C ((5, Value.ref q9) :: [(0, .ref (eA E 7 0)), (1, vI p1), (2, vI p2), (3, vI p3), (4, .ref (eA E 13 0))]) hl (by decide) rfl (gdec kL_give 13 rfl) (fun ls hl => ?_)
      refine g_iconst C (gdec kL_give 14 rfl) ?_
      exact g_iret C h hf (gdec kL_give 15 rfl)
    rw [if_neg e2] at hf
    by_cases e3 : x = 3
    · subst e3
      rw [if_pos rfl] at hf
      refine g_catch C htab (x := 3) (pre := [⟨0, 12, 15, 13⟩, ⟨0, 12, 19, 15⟩]) (z := ⟨0, 12, 23, 24⟩) (suf := []) rfl (fun z hz => by
        simp only [List.mem_cons, List.mem_singleton, List.not_mem_nil, or_false] at hz
        rcases hz with rfl | rfl
        · exact ⟨by decide, _, wK_L_13, by decide⟩
        · exact ⟨by decide, _, wK_L_15, by decide⟩) (by decide) (by decide) wK_L_24 gCast3 hce hcv hcl ?_
      refine g_astore C ((5, Value.ref q9) :: [(0, .ref (eA E 7 0)), (1, vI p1), (2, vI p2), (3, vI p3), (4, .ref (eA E 13 0))]) hl (by decide) rfl (gdec kL_give 16 rfl) (fun ls hl => ?_)
      refine g_iconst C (gdec kL_give 17 rfl) ?_
      exact g_iret C h hf (gdec kL_give 18 rfl)
    rw [if_neg e3] at hf
    cases hf
  · subst hx
    rw [if_pos rfl] at hf
    refine g_i2l C (gdec kL_give 7 rfl) ?_
    refine g_last C h ho2 (by decide) (gdec kL_give 8 rfl) (fun H locs h => ?_)
    refine g_goto C (tgt := 27) (by decide) (gdec kL_give 9 rfl) ?_
    refine g_iconst C (gdec kL_give 19 rfl) ?_
    exact g_iret C h hf (gdec kL_give 20 rfl)
def f_L_pass (G : GS) (p1 : Int) : Option (GS × Int) := lwB (f_X7_pass G p1) (fun G1 x r => if x = 0 then some (gup G1 13 0 0 (bm r), 0) else if x = 2 then some (G1, 1) else if x = 3 then some (G1, 2) else none)
theorem ny_L_pass : gNy yL_pass 3 := ⟨by decide, by decide, by decide +kernel⟩
set_option maxHeartbeats 4000000 in
set_option maxRecDepth 100000 in
theorem c_L_pass (l : Launch) (hst : l.stackTraces = false) (E : gEnv) (G : GS) (p1 : Int) (ho : gOk E 7 0) (ho2 : gOk E 13 0) (Gz : GS) (rz : Int) (hf : f_L_pass G p1 = some (Gz, rz)) : Met l yL_pass (.codeWith yL_pass cL_pass 4 (some .int) [(0, 9, 12, 15), (0, 9, 15, 24)] :: gWords) (gRm 8 136 2 12) (va_Pc [.ref (eA E 7 0), vI p1, .ref (eA E 13 0)] (gW E G)) (gQi E Gz rz) 2 12 (eF E) := by
  refine g_metW (by decide +kernel) (Nat.le_of_ble_eq_true rfl) ?_
  intro p e s m below meth c C htab H locs h ls hl
  have C : gC p s m _ meth c RL cL_pass 4 (some .int) E := C
  have hl : lv_has ls 4 [(0, .ref (eA E 7 0)), (1, vI p1), (2, .ref (eA E 13 0))] := hl
  unfold f_L_pass at hf
  obtain ⟨G1, x, r, q, hf⟩ := lwB_s hf
  refine g_aload_n C hl 2 rfl rfl (gdec kL_pass 0 rfl) ?_
  refine g_iconst C (gdec kL_pass 1 rfl) ?_
  refine g_aload_n C hl 0 rfl rfl (gdec kL_pass 2 rfl) ?_
  refine g_iload_n C hl 1 rfl rfl (gdec kL_pass 3 rfl) ?_
  refine g_xci h (g_xrunV (rest := [vI 0, .ref (eA E 13 0)]) C h ho (by decide) rfl (c_X7_pass l hst E _ _ ho _ _ _ q) wM_L_30 wI_X7_pass wS_X7_pass wN_X7 wC_X7_pass rfl ny_X7_pass rfl ⟨Nat.le_of_ble_eq_true rfl, Nat.le_of_ble_eq_true rfl⟩ hl.1 rfl (Nat.le_of_ble_eq_true rfl) (gdec kL_pass 4 rfl) ⟨Nat.le_of_ble_eq_true rfl, Nat.le_of_ble_eq_true rfl⟩) (fun hx ce q9 H locs h hce hcv hcl => ?_) (fun hx H locs h => ?_)
  · rw [if_neg hx] at hf
    by_cases e2 : x = 2
    · subst e2
      rw [if_pos rfl] at hf
      refine g_catch C htab (x := 2) (pre := []) (z := ⟨0, 9, 12, 15⟩) (suf := [⟨0, 9, 15, 24⟩]) rfl (fun z hz => absurd hz List.not_mem_nil) (by decide) (by decide) wK_L_15 gCast2 hce hcv hcl ?_
      refine g_astore_n C ((3, Value.ref q9) :: [(0, .ref (eA E 7 0)), (1, vI p1), (2, .ref (eA E 13 0))]) hl rfl (by decide) rfl (gdec kL_pass 8 rfl) (fun ls hl => ?_)
      refine g_iconst C (gdec kL_pass 9 rfl) ?_
      exact g_iret C h hf (gdec kL_pass 10 rfl)
    rw [if_neg e2] at hf
    by_cases e3 : x = 3
    · subst e3
      rw [if_pos rfl] at hf
      refine g_catch C htab (x := 3) (pre := [⟨0, 9, 12, 15⟩]) (z := ⟨0, 9, 15, 24⟩) (suf := []) rfl (fun z hz => by
        simp only [List.mem_cons, List.mem_singleton, List.not_mem_nil, or_false] at hz
        subst hz
        exact ⟨by decide, _, wK_L_15, by decide⟩) (by decide) (by decide) wK_L_24 gCast3 hce hcv hcl ?_
      refine g_astore_n C ((3, Value.ref q9) :: [(0, .ref (eA E 7 0)), (1, vI p1), (2, .ref (eA E 13 0))]) hl rfl (by decide) rfl (gdec kL_pass 11 rfl) (fun ls hl => ?_)
      refine g_iconst C (gdec kL_pass 12 rfl) ?_
      exact g_iret C h hf (gdec kL_pass 13 rfl)
    rw [if_neg e3] at hf
    cases hf
  · subst hx
    rw [if_pos rfl] at hf
    refine g_i2l C (gdec kL_pass 5 rfl) ?_
    refine g_last C h ho2 (by decide) (gdec kL_pass 6 rfl) (fun H locs h => ?_)
    refine g_goto C (tgt := 18) (by decide) (gdec kL_pass 7 rfl) ?_
    refine g_iconst C (gdec kL_pass 14 rfl) ?_
    exact g_iret C h hf (gdec kL_pass 15 rfl)
def f_L_stage (G : GS) (p1 : Int) (p2 : Int) : Option (GS × Int) := lwP (f_X7_stage G p1 p2) (fun x r => if x = 0 then some (gup G 13 0 0 (bm r), 0) else if x = 1 then some (G, 1) else if x = 2 then some (G, 2) else none)
theorem ny_L_stage : gNy yL_stage 4 := ⟨by decide, by decide, by decide +kernel⟩
set_option maxHeartbeats 4000000 in
set_option maxRecDepth 100000 in
theorem c_L_stage (l : Launch) (hst : l.stackTraces = false) (E : gEnv) (G : GS) (p1 : Int) (p2 : Int) (ho : gOk E 7 0) (ho2 : gOk E 13 0) (Gz : GS) (rz : Int) (hf : f_L_stage G p1 p2 = some (Gz, rz)) : Met l yL_stage (.codeWith yL_stage cL_stage 5 (some .int) [(0, 10, 13, 13), (0, 10, 17, 15)] :: gWords) (gRm 8 126 2 12) (va_Pc [.ref (eA E 7 0), vI p1, vI p2, .ref (eA E 13 0)] (gW E G)) (gQi E Gz rz) 2 12 (eF E) := by
  refine g_metW (by decide +kernel) (Nat.le_of_ble_eq_true rfl) ?_
  intro p e s m below meth c C htab H locs h ls hl
  have C : gC p s m _ meth c RL cL_stage 5 (some .int) E := C
  have hl : lv_has ls 5 [(0, .ref (eA E 7 0)), (1, vI p1), (2, vI p2), (3, .ref (eA E 13 0))] := hl
  unfold f_L_stage at hf
  obtain ⟨x, r, q, hf⟩ := lwP_s hf
  refine g_aload_n C hl 3 rfl rfl (gdec kL_stage 0 rfl) ?_
  refine g_iconst C (gdec kL_stage 1 rfl) ?_
  refine g_aload_n C hl 0 rfl rfl (gdec kL_stage 2 rfl) ?_
  refine g_iload_n C hl 1 rfl rfl (gdec kL_stage 3 rfl) ?_
  refine g_iload_n C hl 2 rfl rfl (gdec kL_stage 4 rfl) ?_
  refine g_xci h (g_xrunV (rest := [vI 0, .ref (eA E 13 0)]) C h ho (by decide) rfl (c_X7_stage l hst E _ _ _ ho _ _ q) wM_L_34 wI_X7_stage wS_X7_stage wN_X7 wC_X7_stage rfl ny_X7_stage rfl ⟨Nat.le_of_ble_eq_true rfl, Nat.le_of_ble_eq_true rfl⟩ hl.1 rfl (Nat.le_of_ble_eq_true rfl) (gdec kL_stage 5 rfl) ⟨Nat.le_of_ble_eq_true rfl, Nat.le_of_ble_eq_true rfl⟩) (fun hx ce q9 H locs h hce hcv hcl => ?_) (fun hx H locs h => ?_)
  · rw [if_neg hx] at hf
    by_cases e1 : x = 1
    · subst e1
      rw [if_pos rfl] at hf
      refine g_catch C htab (x := 1) (pre := []) (z := ⟨0, 10, 13, 13⟩) (suf := [⟨0, 10, 17, 15⟩]) rfl (fun z hz => absurd hz List.not_mem_nil) (by decide) (by decide) wK_L_13 gCast1 hce hcv hcl ?_
      refine g_astore C ((4, Value.ref q9) :: [(0, .ref (eA E 7 0)), (1, vI p1), (2, vI p2), (3, .ref (eA E 13 0))]) hl (by decide) rfl (gdec kL_stage 9 rfl) (fun ls hl => ?_)
      refine g_iconst C (gdec kL_stage 10 rfl) ?_
      exact g_iret C h hf (gdec kL_stage 11 rfl)
    rw [if_neg e1] at hf
    by_cases e2 : x = 2
    · subst e2
      rw [if_pos rfl] at hf
      refine g_catch C htab (x := 2) (pre := [⟨0, 10, 13, 13⟩]) (z := ⟨0, 10, 17, 15⟩) (suf := []) rfl (fun z hz => by
        simp only [List.mem_cons, List.mem_singleton, List.not_mem_nil, or_false] at hz
        subst hz
        exact ⟨by decide, _, wK_L_13, by decide⟩) (by decide) (by decide) wK_L_15 gCast2 hce hcv hcl ?_
      refine g_astore C ((4, Value.ref q9) :: [(0, .ref (eA E 7 0)), (1, vI p1), (2, vI p2), (3, .ref (eA E 13 0))]) hl (by decide) rfl (gdec kL_stage 12 rfl) (fun ls hl => ?_)
      refine g_iconst C (gdec kL_stage 13 rfl) ?_
      exact g_iret C h hf (gdec kL_stage 14 rfl)
    rw [if_neg e2] at hf
    cases hf
  · subst hx
    rw [if_pos rfl] at hf
    refine g_i2l C (gdec kL_stage 6 rfl) ?_
    refine g_last C h ho2 (by decide) (gdec kL_stage 7 rfl) (fun H locs h => ?_)
    refine g_goto C (tgt := 21) (by decide) (gdec kL_stage 8 rfl) ?_
    refine g_iconst C (gdec kL_stage 15 rfl) ?_
    exact g_iret C h hf (gdec kL_stage 16 rfl)
def f_L_inn (G : GS) (p1 : Int) (p2 : Int) : Option (GS × Int) := lwP (f_X7_inn G p1 p2) (fun x r => if x = 0 then some (gup G 13 0 0 (bm r), 0) else if x = 1 then some (G, 1) else if x = 2 then some (G, 2) else none)
theorem ny_L_inn : gNy yL_inn 4 := ⟨by decide, by decide, by decide +kernel⟩
set_option maxHeartbeats 4000000 in
set_option maxRecDepth 100000 in
theorem c_L_inn (l : Launch) (hst : l.stackTraces = false) (E : gEnv) (G : GS) (p1 : Int) (p2 : Int) (ho : gOk E 7 0) (ho2 : gOk E 13 0) (Gz : GS) (rz : Int) (hf : f_L_inn G p1 p2 = some (Gz, rz)) : Met l yL_inn (.codeWith yL_inn cL_inn 5 (some .int) [(0, 10, 13, 13), (0, 10, 17, 15)] :: gWords) (gRm 8 126 2 12) (va_Pc [.ref (eA E 7 0), vI p1, vI p2, .ref (eA E 13 0)] (gW E G)) (gQi E Gz rz) 2 12 (eF E) := by
  refine g_metW (by decide +kernel) (Nat.le_of_ble_eq_true rfl) ?_
  intro p e s m below meth c C htab H locs h ls hl
  have C : gC p s m _ meth c RL cL_inn 5 (some .int) E := C
  have hl : lv_has ls 5 [(0, .ref (eA E 7 0)), (1, vI p1), (2, vI p2), (3, .ref (eA E 13 0))] := hl
  unfold f_L_inn at hf
  obtain ⟨x, r, q, hf⟩ := lwP_s hf
  refine g_aload_n C hl 3 rfl rfl (gdec kL_inn 0 rfl) ?_
  refine g_iconst C (gdec kL_inn 1 rfl) ?_
  refine g_aload_n C hl 0 rfl rfl (gdec kL_inn 2 rfl) ?_
  refine g_iload_n C hl 1 rfl rfl (gdec kL_inn 3 rfl) ?_
  refine g_iload_n C hl 2 rfl rfl (gdec kL_inn 4 rfl) ?_
  refine g_xci h (g_xrunV (rest := [vI 0, .ref (eA E 13 0)]) C h ho (by decide) rfl (c_X7_inn l hst E _ _ _ ho _ _ q) wM_L_37 wI_X7_inn wS_X7_inn wN_X7 wC_X7_inn rfl ny_X7_inn rfl ⟨Nat.le_of_ble_eq_true rfl, Nat.le_of_ble_eq_true rfl⟩ hl.1 rfl (Nat.le_of_ble_eq_true rfl) (gdec kL_inn 5 rfl) ⟨Nat.le_of_ble_eq_true rfl, Nat.le_of_ble_eq_true rfl⟩) (fun hx ce q9 H locs h hce hcv hcl => ?_) (fun hx H locs h => ?_)
  · rw [if_neg hx] at hf
    by_cases e1 : x = 1
    · subst e1
      rw [if_pos rfl] at hf
      refine g_catch C htab (x := 1) (pre := []) (z := ⟨0, 10, 13, 13⟩) (suf := [⟨0, 10, 17, 15⟩]) rfl (fun z hz => absurd hz List.not_mem_nil) (by decide) (by decide) wK_L_13 gCast1 hce hcv hcl ?_
      refine g_astore C ((4, Value.ref q9) :: [(0, .ref (eA E 7 0)), (1, vI p1), (2, vI p2), (3, .ref (eA E 13 0))]) hl (by decide) rfl (gdec kL_inn 9 rfl) (fun ls hl => ?_)
      refine g_iconst C (gdec kL_inn 10 rfl) ?_
      exact g_iret C h hf (gdec kL_inn 11 rfl)
    rw [if_neg e1] at hf
    by_cases e2 : x = 2
    · subst e2
      rw [if_pos rfl] at hf
      refine g_catch C htab (x := 2) (pre := [⟨0, 10, 13, 13⟩]) (z := ⟨0, 10, 17, 15⟩) (suf := []) rfl (fun z hz => by
        simp only [List.mem_cons, List.mem_singleton, List.not_mem_nil, or_false] at hz
        subst hz
        exact ⟨by decide, _, wK_L_13, by decide⟩) (by decide) (by decide) wK_L_15 gCast2 hce hcv hcl ?_
      refine g_astore C ((4, Value.ref q9) :: [(0, .ref (eA E 7 0)), (1, vI p1), (2, vI p2), (3, .ref (eA E 13 0))]) hl (by decide) rfl (gdec kL_inn 12 rfl) (fun ls hl => ?_)
      refine g_iconst C (gdec kL_inn 13 rfl) ?_
      exact g_iret C h hf (gdec kL_inn 14 rfl)
    rw [if_neg e2] at hf
    cases hf
  · subst hx
    rw [if_pos rfl] at hf
    refine g_i2l C (gdec kL_inn 6 rfl) ?_
    refine g_last C h ho2 (by decide) (gdec kL_inn 7 rfl) (fun H locs h => ?_)
    refine g_goto C (tgt := 21) (by decide) (gdec kL_inn 8 rfl) ?_
    refine g_iconst C (gdec kL_inn 15 rfl) ?_
    exact g_iret C h hf (gdec kL_inn 16 rfl)
def f_L_team (G : GS) (p1 : Int) (p2 : Int) : Option (GS × Int) := lwP (f_X7_team G p1 p2) (fun x r => if x = 0 then some (gup G 13 0 0 (bm r), 0) else if x = 1 then some (G, 1) else if x = 2 then some (G, 2) else none)
theorem ny_L_team : gNy yL_team 4 := ⟨by decide, by decide, by decide +kernel⟩
set_option maxHeartbeats 4000000 in
set_option maxRecDepth 100000 in
theorem c_L_team (l : Launch) (hst : l.stackTraces = false) (E : gEnv) (G : GS) (p1 : Int) (p2 : Int) (ho : gOk E 7 0) (ho2 : gOk E 13 0) (Gz : GS) (rz : Int) (hf : f_L_team G p1 p2 = some (Gz, rz)) : Met l yL_team (.codeWith yL_team cL_team 5 (some .int) [(0, 10, 13, 13), (0, 10, 17, 15)] :: gWords) (gRm 8 126 2 12) (va_Pc [.ref (eA E 7 0), vI p1, vI p2, .ref (eA E 13 0)] (gW E G)) (gQi E Gz rz) 2 12 (eF E) := by
  refine g_metW (by decide +kernel) (Nat.le_of_ble_eq_true rfl) ?_
  intro p e s m below meth c C htab H locs h ls hl
  have C : gC p s m _ meth c RL cL_team 5 (some .int) E := C
  have hl : lv_has ls 5 [(0, .ref (eA E 7 0)), (1, vI p1), (2, vI p2), (3, .ref (eA E 13 0))] := hl
  unfold f_L_team at hf
  obtain ⟨x, r, q, hf⟩ := lwP_s hf
  refine g_aload_n C hl 3 rfl rfl (gdec kL_team 0 rfl) ?_
  refine g_iconst C (gdec kL_team 1 rfl) ?_
  refine g_aload_n C hl 0 rfl rfl (gdec kL_team 2 rfl) ?_
  refine g_iload_n C hl 1 rfl rfl (gdec kL_team 3 rfl) ?_
  refine g_iload_n C hl 2 rfl rfl (gdec kL_team 4 rfl) ?_
  refine g_xci h (g_xrunV (rest := [vI 0, .ref (eA E 13 0)]) C h ho (by decide) rfl (c_X7_team l hst E _ _ _ ho _ _ q) wM_L_40 wI_X7_team wS_X7_team wN_X7 wC_X7_team rfl ny_X7_team rfl ⟨Nat.le_of_ble_eq_true rfl, Nat.le_of_ble_eq_true rfl⟩ hl.1 rfl (Nat.le_of_ble_eq_true rfl) (gdec kL_team 5 rfl) ⟨Nat.le_of_ble_eq_true rfl, Nat.le_of_ble_eq_true rfl⟩) (fun hx ce q9 H locs h hce hcv hcl => ?_) (fun hx H locs h => ?_)
  · rw [if_neg hx] at hf
    by_cases e1 : x = 1
    · subst e1
      rw [if_pos rfl] at hf
      refine g_catch C htab (x := 1) (pre := []) (z := ⟨0, 10, 13, 13⟩) (suf := [⟨0, 10, 17, 15⟩]) rfl (fun z hz => absurd hz List.not_mem_nil) (by decide) (by decide) wK_L_13 gCast1 hce hcv hcl ?_
      refine g_astore C ((4, Value.ref q9) :: [(0, .ref (eA E 7 0)), (1, vI p1), (2, vI p2), (3, .ref (eA E 13 0))]) hl (by decide) rfl (gdec kL_team 9 rfl) (fun ls hl => ?_)
      refine g_iconst C (gdec kL_team 10 rfl) ?_
      exact g_iret C h hf (gdec kL_team 11 rfl)
    rw [if_neg e1] at hf
    by_cases e2 : x = 2
    · subst e2
      rw [if_pos rfl] at hf
      refine g_catch C htab (x := 2) (pre := [⟨0, 10, 13, 13⟩]) (z := ⟨0, 10, 17, 15⟩) (suf := []) rfl (fun z hz => by
        simp only [List.mem_cons, List.mem_singleton, List.not_mem_nil, or_false] at hz
        subst hz
        exact ⟨by decide, _, wK_L_13, by decide⟩) (by decide) (by decide) wK_L_15 gCast2 hce hcv hcl ?_
      refine g_astore C ((4, Value.ref q9) :: [(0, .ref (eA E 7 0)), (1, vI p1), (2, vI p2), (3, .ref (eA E 13 0))]) hl (by decide) rfl (gdec kL_team 12 rfl) (fun ls hl => ?_)
      refine g_iconst C (gdec kL_team 13 rfl) ?_
      exact g_iret C h hf (gdec kL_team 14 rfl)
    rw [if_neg e2] at hf
    cases hf
  · subst hx
    rw [if_pos rfl] at hf
    refine g_i2l C (gdec kL_team 6 rfl) ?_
    refine g_last C h ho2 (by decide) (gdec kL_team 7 rfl) (fun H locs h => ?_)
    refine g_goto C (tgt := 21) (by decide) (gdec kL_team 8 rfl) ?_
    refine g_iconst C (gdec kL_team 15 rfl) ?_
    exact g_iret C h hf (gdec kL_team 16 rfl)
def f_L_letter (G : GS) (p1 : Int) (p2 : Int) : Option (GS × Int) := lwP (f_X7_letter G p1 p2) (fun x r => if x = 0 then some (gup G 13 0 0 (bm r), 0) else if x = 1 then some (G, 1) else if x = 2 then some (G, 2) else none)
theorem ny_L_letter : gNy yL_letter 4 := ⟨by decide, by decide, by decide +kernel⟩
set_option maxHeartbeats 4000000 in
set_option maxRecDepth 100000 in
theorem c_L_letter (l : Launch) (hst : l.stackTraces = false) (E : gEnv) (G : GS) (p1 : Int) (p2 : Int) (ho : gOk E 7 0) (ho2 : gOk E 13 0) (Gz : GS) (rz : Int) (hf : f_L_letter G p1 p2 = some (Gz, rz)) : Met l yL_letter (.codeWith yL_letter cL_letter 5 (some .int) [(0, 10, 13, 13), (0, 10, 17, 15)] :: gWords) (gRm 8 126 2 12) (va_Pc [.ref (eA E 7 0), vI p1, vI p2, .ref (eA E 13 0)] (gW E G)) (gQi E Gz rz) 2 12 (eF E) := by
  refine g_metW (by decide +kernel) (Nat.le_of_ble_eq_true rfl) ?_
  intro p e s m below meth c C htab H locs h ls hl
  have C : gC p s m _ meth c RL cL_letter 5 (some .int) E := C
  have hl : lv_has ls 5 [(0, .ref (eA E 7 0)), (1, vI p1), (2, vI p2), (3, .ref (eA E 13 0))] := hl
  unfold f_L_letter at hf
  obtain ⟨x, r, q, hf⟩ := lwP_s hf
  refine g_aload_n C hl 3 rfl rfl (gdec kL_letter 0 rfl) ?_
  refine g_iconst C (gdec kL_letter 1 rfl) ?_
  refine g_aload_n C hl 0 rfl rfl (gdec kL_letter 2 rfl) ?_
  refine g_iload_n C hl 1 rfl rfl (gdec kL_letter 3 rfl) ?_
  refine g_iload_n C hl 2 rfl rfl (gdec kL_letter 4 rfl) ?_
  refine g_xci h (g_xrunV (rest := [vI 0, .ref (eA E 13 0)]) C h ho (by decide) rfl (c_X7_letter l hst E _ _ _ ho _ _ q) wM_L_43 wI_X7_letter wS_X7_letter wN_X7 wC_X7_letter rfl ny_X7_letter rfl ⟨Nat.le_of_ble_eq_true rfl, Nat.le_of_ble_eq_true rfl⟩ hl.1 rfl (Nat.le_of_ble_eq_true rfl) (gdec kL_letter 5 rfl) ⟨Nat.le_of_ble_eq_true rfl, Nat.le_of_ble_eq_true rfl⟩) (fun hx ce q9 H locs h hce hcv hcl => ?_) (fun hx H locs h => ?_)
  · rw [if_neg hx] at hf
    by_cases e1 : x = 1
    · subst e1
      rw [if_pos rfl] at hf
      refine g_catch C htab (x := 1) (pre := []) (z := ⟨0, 10, 13, 13⟩) (suf := [⟨0, 10, 17, 15⟩]) rfl (fun z hz => absurd hz List.not_mem_nil) (by decide) (by decide) wK_L_13 gCast1 hce hcv hcl ?_
      refine g_astore C ((4, Value.ref q9) :: [(0, .ref (eA E 7 0)), (1, vI p1), (2, vI p2), (3, .ref (eA E 13 0))]) hl (by decide) rfl (gdec kL_letter 9 rfl) (fun ls hl => ?_)
      refine g_iconst C (gdec kL_letter 10 rfl) ?_
      exact g_iret C h hf (gdec kL_letter 11 rfl)
    rw [if_neg e1] at hf
    by_cases e2 : x = 2
    · subst e2
      rw [if_pos rfl] at hf
      refine g_catch C htab (x := 2) (pre := [⟨0, 10, 13, 13⟩]) (z := ⟨0, 10, 17, 15⟩) (suf := []) rfl (fun z hz => by
        simp only [List.mem_cons, List.mem_singleton, List.not_mem_nil, or_false] at hz
        subst hz
        exact ⟨by decide, _, wK_L_13, by decide⟩) (by decide) (by decide) wK_L_15 gCast2 hce hcv hcl ?_
      refine g_astore C ((4, Value.ref q9) :: [(0, .ref (eA E 7 0)), (1, vI p1), (2, vI p2), (3, .ref (eA E 13 0))]) hl (by decide) rfl (gdec kL_letter 12 rfl) (fun ls hl => ?_)
      refine g_iconst C (gdec kL_letter 13 rfl) ?_
      exact g_iret C h hf (gdec kL_letter 14 rfl)
    rw [if_neg e2] at hf
    cases hf
  · subst hx
    rw [if_pos rfl] at hf
    refine g_i2l C (gdec kL_letter 6 rfl) ?_
    refine g_last C h ho2 (by decide) (gdec kL_letter 7 rfl) (fun H locs h => ?_)
    refine g_goto C (tgt := 21) (by decide) (gdec kL_letter 8 rfl) ?_
    refine g_iconst C (gdec kL_letter 15 rfl) ?_
    exact g_iret C h hf (gdec kL_letter 16 rfl)
def f_L_value (G : GS) (p1 : Int) : Option (GS × Int) := lwP (f_X7_value G p1) (fun x r => if x = 0 then some (gup G 13 0 0 (bm r), 0) else if x = 2 then some (G, 1) else none)
theorem ny_L_value : gNy yL_value 3 := ⟨by decide, by decide, by decide +kernel⟩
set_option maxHeartbeats 4000000 in
set_option maxRecDepth 100000 in
theorem c_L_value (l : Launch) (hst : l.stackTraces = false) (E : gEnv) (G : GS) (p1 : Int) (ho : gOk E 7 0) (ho2 : gOk E 13 0) (Gz : GS) (rz : Int) (hf : f_L_value G p1 = some (Gz, rz)) : Met l yL_value (.codeWith yL_value cL_value 4 (some .int) [(0, 9, 12, 15)] :: gWords) (gRm 8 125 1 6) (va_Pc [.ref (eA E 7 0), vI p1, .ref (eA E 13 0)] (gW E G)) (gQi E Gz rz) 1 6 (eF E) := by
  refine g_metW (by decide +kernel) (Nat.le_of_ble_eq_true rfl) ?_
  intro p e s m below meth c C htab H locs h ls hl
  have C : gC p s m _ meth c RL cL_value 4 (some .int) E := C
  have hl : lv_has ls 4 [(0, .ref (eA E 7 0)), (1, vI p1), (2, .ref (eA E 13 0))] := hl
  unfold f_L_value at hf
  obtain ⟨x, r, q, hf⟩ := lwP_s hf
  refine g_aload_n C hl 2 rfl rfl (gdec kL_value 0 rfl) ?_
  refine g_iconst C (gdec kL_value 1 rfl) ?_
  refine g_aload_n C hl 0 rfl rfl (gdec kL_value 2 rfl) ?_
  refine g_iload_n C hl 1 rfl rfl (gdec kL_value 3 rfl) ?_
  refine g_xci h (g_xrunV (rest := [vI 0, .ref (eA E 13 0)]) C h ho (by decide) rfl (c_X7_value l hst E _ _ ho _ _ q) wM_L_46 wI_X7_value wS_X7_value wN_X7 wC_X7_value rfl ny_X7_value rfl ⟨Nat.le_of_ble_eq_true rfl, Nat.le_of_ble_eq_true rfl⟩ hl.1 rfl (Nat.le_of_ble_eq_true rfl) (gdec kL_value 4 rfl) ⟨Nat.le_of_ble_eq_true rfl, Nat.le_of_ble_eq_true rfl⟩) (fun hx ce q9 H locs h hce hcv hcl => ?_) (fun hx H locs h => ?_)
  · rw [if_neg hx] at hf
    by_cases e2 : x = 2
    · subst e2
      rw [if_pos rfl] at hf
      refine g_catch C htab (x := 2) (pre := []) (z := ⟨0, 9, 12, 15⟩) (suf := []) rfl (fun z hz => absurd hz List.not_mem_nil) (by decide) (by decide) wK_L_15 gCast2 hce hcv hcl ?_
      refine g_astore_n C ((3, Value.ref q9) :: [(0, .ref (eA E 7 0)), (1, vI p1), (2, .ref (eA E 13 0))]) hl rfl (by decide) rfl (gdec kL_value 8 rfl) (fun ls hl => ?_)
      refine g_iconst C (gdec kL_value 9 rfl) ?_
      exact g_iret C h hf (gdec kL_value 10 rfl)
    rw [if_neg e2] at hf
    cases hf
  · subst hx
    rw [if_pos rfl] at hf
    refine g_i2l C (gdec kL_value 5 rfl) ?_
    refine g_last C h ho2 (by decide) (gdec kL_value 6 rfl) (fun H locs h => ?_)
    refine g_goto C (tgt := 15) (by decide) (gdec kL_value 7 rfl) ?_
    refine g_iconst C (gdec kL_value 11 rfl) ?_
    exact g_iret C h hf (gdec kL_value 12 rfl)
def f_L_why (G : GS) (p1 : Int) : Option (GS × Int) := lwP (f_X7_why G p1) (fun x r => if x = 0 then some (gup G 13 0 0 (bm r), 0) else if x = 1 then some (G, 1) else none)
theorem ny_L_why : gNy yL_why 3 := ⟨by decide, by decide, by decide +kernel⟩
set_option maxHeartbeats 4000000 in
set_option maxRecDepth 100000 in
theorem c_L_why (l : Launch) (hst : l.stackTraces = false) (E : gEnv) (G : GS) (p1 : Int) (ho : gOk E 7 0) (ho2 : gOk E 13 0) (Gz : GS) (rz : Int) (hf : f_L_why G p1 = some (Gz, rz)) : Met l yL_why (.codeWith yL_why cL_why 4 (some .int) [(0, 9, 12, 13)] :: gWords) (gRm 8 124 1 6) (va_Pc [.ref (eA E 7 0), vI p1, .ref (eA E 13 0)] (gW E G)) (gQi E Gz rz) 1 6 (eF E) := by
  refine g_metW (by decide +kernel) (Nat.le_of_ble_eq_true rfl) ?_
  intro p e s m below meth c C htab H locs h ls hl
  have C : gC p s m _ meth c RL cL_why 4 (some .int) E := C
  have hl : lv_has ls 4 [(0, .ref (eA E 7 0)), (1, vI p1), (2, .ref (eA E 13 0))] := hl
  unfold f_L_why at hf
  obtain ⟨x, r, q, hf⟩ := lwP_s hf
  refine g_aload_n C hl 2 rfl rfl (gdec kL_why 0 rfl) ?_
  refine g_iconst C (gdec kL_why 1 rfl) ?_
  refine g_aload_n C hl 0 rfl rfl (gdec kL_why 2 rfl) ?_
  refine g_iload_n C hl 1 rfl rfl (gdec kL_why 3 rfl) ?_
  refine g_xci h (g_xrunV (rest := [vI 0, .ref (eA E 13 0)]) C h ho (by decide) rfl (c_X7_why l hst E _ _ ho _ _ q) wM_L_49 wI_X7_why wS_X7_why wN_X7 wC_X7_why rfl ny_X7_why rfl ⟨Nat.le_of_ble_eq_true rfl, Nat.le_of_ble_eq_true rfl⟩ hl.1 rfl (Nat.le_of_ble_eq_true rfl) (gdec kL_why 4 rfl) ⟨Nat.le_of_ble_eq_true rfl, Nat.le_of_ble_eq_true rfl⟩) (fun hx ce q9 H locs h hce hcv hcl => ?_) (fun hx H locs h => ?_)
  · rw [if_neg hx] at hf
    by_cases e1 : x = 1
    · subst e1
      rw [if_pos rfl] at hf
      refine g_catch C htab (x := 1) (pre := []) (z := ⟨0, 9, 12, 13⟩) (suf := []) rfl (fun z hz => absurd hz List.not_mem_nil) (by decide) (by decide) wK_L_13 gCast1 hce hcv hcl ?_
      refine g_astore_n C ((3, Value.ref q9) :: [(0, .ref (eA E 7 0)), (1, vI p1), (2, .ref (eA E 13 0))]) hl rfl (by decide) rfl (gdec kL_why 8 rfl) (fun ls hl => ?_)
      refine g_iconst C (gdec kL_why 9 rfl) ?_
      exact g_iret C h hf (gdec kL_why 10 rfl)
    rw [if_neg e1] at hf
    cases hf
  · subst hx
    rw [if_pos rfl] at hf
    refine g_i2l C (gdec kL_why 5 rfl) ?_
    refine g_last C h ho2 (by decide) (gdec kL_why 6 rfl) (fun H locs h => ?_)
    refine g_goto C (tgt := 15) (by decide) (gdec kL_why 7 rfl) ?_
    refine g_iconst C (gdec kL_why 11 rfl) ?_
    exact g_iret C h hf (gdec kL_why 12 rfl)
def f_L_hoursTo (G : GS) (p1 : Int) : Option (GS × Int) := lwB (f_X7_hoursTo G p1) (fun G1 x r => if x = 0 then some (gup G1 13 0 0 (bm r), 0) else if x = 1 then some (G1, 1) else none)
theorem ny_L_hoursTo : gNy yL_hoursTo 3 := ⟨by decide, by decide, by decide +kernel⟩
set_option maxHeartbeats 4000000 in
set_option maxRecDepth 100000 in
theorem c_L_hoursTo (l : Launch) (hst : l.stackTraces = false) (E : gEnv) (G : GS) (p1 : Int) (ho : gOk E 7 0) (ho2 : gOk E 13 0) (Gz : GS) (rz : Int) (hf : f_L_hoursTo G p1 = some (Gz, rz)) : Met l yL_hoursTo (.codeWith yL_hoursTo cL_hoursTo 4 (some .int) [(0, 9, 12, 13)] :: gWords) (gRm 8 158 1 6) (va_Pc [.ref (eA E 7 0), vI p1, .ref (eA E 13 0)] (gW E G)) (gQi E Gz rz) 1 6 (eF E) := by
  refine g_metW (by decide +kernel) (Nat.le_of_ble_eq_true rfl) ?_
  intro p e s m below meth c C htab H locs h ls hl
  have C : gC p s m _ meth c RL cL_hoursTo 4 (some .int) E := C
  have hl : lv_has ls 4 [(0, .ref (eA E 7 0)), (1, vI p1), (2, .ref (eA E 13 0))] := hl
  unfold f_L_hoursTo at hf
  obtain ⟨G1, x, r, q, hf⟩ := lwB_s hf
  refine g_aload_n C hl 2 rfl rfl (gdec kL_hoursTo 0 rfl) ?_
  refine g_iconst C (gdec kL_hoursTo 1 rfl) ?_
  refine g_aload_n C hl 0 rfl rfl (gdec kL_hoursTo 2 rfl) ?_
  refine g_iload_n C hl 1 rfl rfl (gdec kL_hoursTo 3 rfl) ?_
  refine g_xci h (g_xrunV (rest := [vI 0, .ref (eA E 13 0)]) C h ho (by decide) rfl (c_X7_hoursTo l hst E _ _ ho _ _ _ q) wM_L_52 wI_X7_hoursTo wS_X7_hoursTo wN_X7 wC_X7_hoursTo rfl ny_X7_hoursTo rfl ⟨Nat.le_of_ble_eq_true rfl, Nat.le_of_ble_eq_true rfl⟩ hl.1 rfl (Nat.le_of_ble_eq_true rfl) (gdec kL_hoursTo 4 rfl) ⟨Nat.le_of_ble_eq_true rfl, Nat.le_of_ble_eq_true rfl⟩) (fun hx ce q9 H locs h hce hcv hcl => ?_) (fun hx H locs h => ?_)
  · rw [if_neg hx] at hf
    by_cases e1 : x = 1
    · subst e1
      rw [if_pos rfl] at hf
      refine g_catch C htab (x := 1) (pre := []) (z := ⟨0, 9, 12, 13⟩) (suf := []) rfl (fun z hz => absurd hz List.not_mem_nil) (by decide) (by decide) wK_L_13 gCast1 hce hcv hcl ?_
      refine g_astore_n C ((3, Value.ref q9) :: [(0, .ref (eA E 7 0)), (1, vI p1), (2, .ref (eA E 13 0))]) hl rfl (by decide) rfl (gdec kL_hoursTo 8 rfl) (fun ls hl => ?_)
      refine g_iconst C (gdec kL_hoursTo 9 rfl) ?_
      exact g_iret C h hf (gdec kL_hoursTo 10 rfl)
    rw [if_neg e1] at hf
    cases hf
  · subst hx
    rw [if_pos rfl] at hf
    refine g_i2l C (gdec kL_hoursTo 5 rfl) ?_
    refine g_last C h ho2 (by decide) (gdec kL_hoursTo 6 rfl) (fun H locs h => ?_)
    refine g_goto C (tgt := 15) (by decide) (gdec kL_hoursTo 7 rfl) ?_
    refine g_iconst C (gdec kL_hoursTo 11 rfl) ?_
    exact g_iret C h hf (gdec kL_hoursTo 12 rfl)
def f_L_way (G : GS) (p1 : Int) (p2 : Int) : Option (GS × Int) := lwP (f_X7_way G p1 p2) (fun x r => if x = 0 then some (gup G 13 0 0 (bm r), 0) else if x = 1 then some (G, 1) else none)
theorem ny_L_way : gNy yL_way 4 := ⟨by decide, by decide, by decide +kernel⟩
set_option maxHeartbeats 4000000 in
set_option maxRecDepth 100000 in
theorem c_L_way (l : Launch) (hst : l.stackTraces = false) (E : gEnv) (G : GS) (p1 : Int) (p2 : Int) (ho : gOk E 7 0) (ho2 : gOk E 13 0) (Gz : GS) (rz : Int) (hf : f_L_way G p1 p2 = some (Gz, rz)) : Met l yL_way (.codeWith yL_way cL_way 5 (some .int) [(0, 10, 13, 13)] :: gWords) (gRm 8 125 2 12) (va_Pc [.ref (eA E 7 0), vI p1, vI p2, .ref (eA E 13 0)] (gW E G)) (gQi E Gz rz) 2 12 (eF E) := by
  refine g_metW (by decide +kernel) (Nat.le_of_ble_eq_true rfl) ?_
  intro p e s m below meth c C htab H locs h ls hl
  have C : gC p s m _ meth c RL cL_way 5 (some .int) E := C
  have hl : lv_has ls 5 [(0, .ref (eA E 7 0)), (1, vI p1), (2, vI p2), (3, .ref (eA E 13 0))] := hl
  unfold f_L_way at hf
  obtain ⟨x, r, q, hf⟩ := lwP_s hf
  refine g_aload_n C hl 3 rfl rfl (gdec kL_way 0 rfl) ?_
  refine g_iconst C (gdec kL_way 1 rfl) ?_
  refine g_aload_n C hl 0 rfl rfl (gdec kL_way 2 rfl) ?_
  refine g_iload_n C hl 1 rfl rfl (gdec kL_way 3 rfl) ?_
  refine g_iload_n C hl 2 rfl rfl (gdec kL_way 4 rfl) ?_
  refine g_xci h (g_xrunV (rest := [vI 0, .ref (eA E 13 0)]) C h ho (by decide) rfl (c_X7_way l hst E _ _ _ ho _ _ q) wM_L_55 wI_X7_way wS_X7_way wN_X7 wC_X7_way rfl ny_X7_way rfl ⟨Nat.le_of_ble_eq_true rfl, Nat.le_of_ble_eq_true rfl⟩ hl.1 rfl (Nat.le_of_ble_eq_true rfl) (gdec kL_way 5 rfl) ⟨Nat.le_of_ble_eq_true rfl, Nat.le_of_ble_eq_true rfl⟩) (fun hx ce q9 H locs h hce hcv hcl => ?_) (fun hx H locs h => ?_)
  · rw [if_neg hx] at hf
    by_cases e1 : x = 1
    · subst e1
      rw [if_pos rfl] at hf
      refine g_catch C htab (x := 1) (pre := []) (z := ⟨0, 10, 13, 13⟩) (suf := []) rfl (fun z hz => absurd hz List.not_mem_nil) (by decide) (by decide) wK_L_13 gCast1 hce hcv hcl ?_
      refine g_astore C ((4, Value.ref q9) :: [(0, .ref (eA E 7 0)), (1, vI p1), (2, vI p2), (3, .ref (eA E 13 0))]) hl (by decide) rfl (gdec kL_way 9 rfl) (fun ls hl => ?_)
      refine g_iconst C (gdec kL_way 10 rfl) ?_
      exact g_iret C h hf (gdec kL_way 11 rfl)
    rw [if_neg e1] at hf
    cases hf
  · subst hx
    rw [if_pos rfl] at hf
    refine g_i2l C (gdec kL_way 6 rfl) ?_
    refine g_last C h ho2 (by decide) (gdec kL_way 7 rfl) (fun H locs h => ?_)
    refine g_goto C (tgt := 17) (by decide) (gdec kL_way 8 rfl) ?_
    refine g_iconst C (gdec kL_way 12 rfl) ?_
    exact g_iret C h hf (gdec kL_way 13 rfl)
def f_L_effortHome (G : GS) (p1 : Int) : Option (GS × Int) := lwP (f_X7_effortHome G p1) (fun x r => if x = 0 then some (gup G 13 0 0 (bm r), 0) else if x = 1 then some (G, 1) else none)
theorem ny_L_effortHome : gNy yL_effortHome 3 := ⟨by decide, by decide, by decide +kernel⟩
set_option maxHeartbeats 4000000 in
set_option maxRecDepth 100000 in
theorem c_L_effortHome (l : Launch) (hst : l.stackTraces = false) (E : gEnv) (G : GS) (p1 : Int) (ho : gOk E 7 0) (ho2 : gOk E 13 0) (Gz : GS) (rz : Int) (hf : f_L_effortHome G p1 = some (Gz, rz)) : Met l yL_effortHome (.codeWith yL_effortHome cL_effortHome 4 (some .int) [(0, 9, 12, 13)] :: gWords) (gRm 8 125 1 6) (va_Pc [.ref (eA E 7 0), vI p1, .ref (eA E 13 0)] (gW E G)) (gQi E Gz rz) 1 6 (eF E) := by
  refine g_metW (by decide +kernel) (Nat.le_of_ble_eq_true rfl) ?_
  intro p e s m below meth c C htab H locs h ls hl
  have C : gC p s m _ meth c RL cL_effortHome 4 (some .int) E := C
  have hl : lv_has ls 4 [(0, .ref (eA E 7 0)), (1, vI p1), (2, .ref (eA E 13 0))] := hl
  unfold f_L_effortHome at hf
  obtain ⟨x, r, q, hf⟩ := lwP_s hf
  refine g_aload_n C hl 2 rfl rfl (gdec kL_effortHome 0 rfl) ?_
  refine g_iconst C (gdec kL_effortHome 1 rfl) ?_
  refine g_aload_n C hl 0 rfl rfl (gdec kL_effortHome 2 rfl) ?_
  refine g_iload_n C hl 1 rfl rfl (gdec kL_effortHome 3 rfl) ?_
  refine g_xci h (g_xrunV (rest := [vI 0, .ref (eA E 13 0)]) C h ho (by decide) rfl (c_X7_effortHome l hst E _ _ ho _ _ q) wM_L_58 wI_X7_effortHome wS_X7_effortHome wN_X7 wC_X7_effortHome rfl ny_X7_effortHome rfl ⟨Nat.le_of_ble_eq_true rfl, Nat.le_of_ble_eq_true rfl⟩ hl.1 rfl (Nat.le_of_ble_eq_true rfl) (gdec kL_effortHome 4 rfl) ⟨Nat.le_of_ble_eq_true rfl, Nat.le_of_ble_eq_true rfl⟩) (fun hx ce q9 H locs h hce hcv hcl => ?_) (fun hx H locs h => ?_)
  · rw [if_neg hx] at hf
    by_cases e1 : x = 1
    · subst e1
      rw [if_pos rfl] at hf
      refine g_catch C htab (x := 1) (pre := []) (z := ⟨0, 9, 12, 13⟩) (suf := []) rfl (fun z hz => absurd hz List.not_mem_nil) (by decide) (by decide) wK_L_13 gCast1 hce hcv hcl ?_
      refine g_astore_n C ((3, Value.ref q9) :: [(0, .ref (eA E 7 0)), (1, vI p1), (2, .ref (eA E 13 0))]) hl rfl (by decide) rfl (gdec kL_effortHome 8 rfl) (fun ls hl => ?_)
      refine g_iconst C (gdec kL_effortHome 9 rfl) ?_
      exact g_iret C h hf (gdec kL_effortHome 10 rfl)
    rw [if_neg e1] at hf
    cases hf
  · subst hx
    rw [if_pos rfl] at hf
    refine g_i2l C (gdec kL_effortHome 5 rfl) ?_
    refine g_last C h ho2 (by decide) (gdec kL_effortHome 6 rfl) (fun H locs h => ?_)
    refine g_goto C (tgt := 15) (by decide) (gdec kL_effortHome 7 rfl) ?_
    refine g_iconst C (gdec kL_effortHome 11 rfl) ?_
    exact g_iret C h hf (gdec kL_effortHome 12 rfl)
def f_L_append (G : GS) (p1 : Int) : Option (GS × Int) := lwB (f_X7_append G p1) (fun G1 x r => if x = 0 then some (gup G1 13 0 0 (bm r), 0) else if x = 2 then some (G1, 1) else if x = 3 then some (G1, 2) else none)
theorem ny_L_append : gNy yL_append 3 := ⟨by decide, by decide, by decide +kernel⟩
set_option maxHeartbeats 4000000 in
set_option maxRecDepth 100000 in
theorem c_L_append (l : Launch) (hst : l.stackTraces = false) (E : gEnv) (G : GS) (p1 : Int) (ho : gOk E 7 0) (ho2 : gOk E 13 0) (Gz : GS) (rz : Int) (hf : f_L_append G p1 = some (Gz, rz)) : Met l yL_append (.codeWith yL_append cL_append 4 (some .int) [(0, 9, 12, 15), (0, 9, 15, 24)] :: gWords) (gRm 8 125 2 12) (va_Pc [.ref (eA E 7 0), vI p1, .ref (eA E 13 0)] (gW E G)) (gQi E Gz rz) 2 12 (eF E) := by
  refine g_metW (by decide +kernel) (Nat.le_of_ble_eq_true rfl) ?_
  intro p e s m below meth c C htab H locs h ls hl
  have C : gC p s m _ meth c RL cL_append 4 (some .int) E := C
  have hl : lv_has ls 4 [(0, .ref (eA E 7 0)), (1, vI p1), (2, .ref (eA E 13 0))] := hl
  unfold f_L_append at hf
  obtain ⟨G1, x, r, q, hf⟩ := lwB_s hf
  refine g_aload_n C hl 2 rfl rfl (gdec kL_append 0 rfl) ?_
  refine g_iconst C (gdec kL_append 1 rfl) ?_
  refine g_aload_n C hl 0 rfl rfl (gdec kL_append 2 rfl) ?_
  refine g_iload_n C hl 1 rfl rfl (gdec kL_append 3 rfl) ?_
  refine g_xci h (g_xrunV (rest := [vI 0, .ref (eA E 13 0)]) C h ho (by decide) rfl (c_X7_append l hst E _ _ ho _ _ _ q) wM_L_61 wI_X7_append wS_X7_append wN_X7 wC_X7_append rfl ny_X7_append rfl ⟨Nat.le_of_ble_eq_true rfl, Nat.le_of_ble_eq_true rfl⟩ hl.1 rfl (Nat.le_of_ble_eq_true rfl) (gdec kL_append 4 rfl) ⟨Nat.le_of_ble_eq_true rfl, Nat.le_of_ble_eq_true rfl⟩) (fun hx ce q9 H locs h hce hcv hcl => ?_) (fun hx H locs h => ?_)
  · rw [if_neg hx] at hf
    by_cases e2 : x = 2
    · subst e2
      rw [if_pos rfl] at hf
      refine g_catch C htab (x := 2) (pre := []) (z := ⟨0, 9, 12, 15⟩) (suf := [⟨0, 9, 15, 24⟩]) rfl (fun z hz => absurd hz List.not_mem_nil) (by decide) (by decide) wK_L_15 gCast2 hce hcv hcl ?_
      refine g_astore_n C ((3, Value.ref q9) :: [(0, .ref (eA E 7 0)), (1, vI p1), (2, .ref (eA E 13 0))]) hl rfl (by decide) rfl (gdec kL_append 8 rfl) (fun ls hl => ?_)
      refine g_iconst C (gdec kL_append 9 rfl) ?_
      exact g_iret C h hf (gdec kL_append 10 rfl)
    rw [if_neg e2] at hf
    by_cases e3 : x = 3
    · subst e3
      rw [if_pos rfl] at hf
      refine g_catch C htab (x := 3) (pre := [⟨0, 9, 12, 15⟩]) (z := ⟨0, 9, 15, 24⟩) (suf := []) rfl (fun z hz => by
        simp only [List.mem_cons, List.mem_singleton, List.not_mem_nil, or_false] at hz
        subst hz
        exact ⟨by decide, _, wK_L_15, by decide⟩) (by decide) (by decide) wK_L_24 gCast3 hce hcv hcl ?_
      refine g_astore_n C ((3, Value.ref q9) :: [(0, .ref (eA E 7 0)), (1, vI p1), (2, .ref (eA E 13 0))]) hl rfl (by decide) rfl (gdec kL_append 11 rfl) (fun ls hl => ?_)
      refine g_iconst C (gdec kL_append 12 rfl) ?_
      exact g_iret C h hf (gdec kL_append 13 rfl)
    rw [if_neg e3] at hf
    cases hf
  · subst hx
    rw [if_pos rfl] at hf
    refine g_i2l C (gdec kL_append 5 rfl) ?_
    refine g_last C h ho2 (by decide) (gdec kL_append 6 rfl) (fun H locs h => ?_)
    refine g_goto C (tgt := 18) (by decide) (gdec kL_append 7 rfl) ?_
    refine g_iconst C (gdec kL_append 14 rfl) ?_
    exact g_iret C h hf (gdec kL_append 15 rfl)
def f_L_undo (G : GS) : Option (GS × Int) := lwB (f_X7_undo G) (fun G1 x r => if x = 0 then some (gup G1 13 0 0 (bm r), 0) else if x = 3 then some (G1, 1) else none)
theorem ny_L_undo : gNy yL_undo 2 := ⟨by decide, by decide, by decide +kernel⟩
set_option maxHeartbeats 4000000 in
set_option maxRecDepth 100000 in
theorem c_L_undo (l : Launch) (hst : l.stackTraces = false) (E : gEnv) (G : GS) (ho : gOk E 7 0) (ho2 : gOk E 13 0) (Gz : GS) (rz : Int) (hf : f_L_undo G = some (Gz, rz)) : Met l yL_undo (.codeWith yL_undo cL_undo 3 (some .int) [(0, 8, 11, 24)] :: gWords) (gRm 7 107 1 6) (va_Pc [.ref (eA E 7 0), .ref (eA E 13 0)] (gW E G)) (gQi E Gz rz) 1 6 (eF E) := by
  refine g_metW (by decide +kernel) (Nat.le_of_ble_eq_true rfl) ?_
  intro p e s m below meth c C htab H locs h ls hl
  have C : gC p s m _ meth c RL cL_undo 3 (some .int) E := C
  have hl : lv_has ls 3 [(0, .ref (eA E 7 0)), (1, .ref (eA E 13 0))] := hl
  unfold f_L_undo at hf
  obtain ⟨G1, x, r, q, hf⟩ := lwB_s hf
  refine g_aload_n C hl 1 rfl rfl (gdec kL_undo 0 rfl) ?_
  refine g_iconst C (gdec kL_undo 1 rfl) ?_
  refine g_aload_n C hl 0 rfl rfl (gdec kL_undo 2 rfl) ?_
  refine g_xci h (g_xrunV (rest := [vI 0, .ref (eA E 13 0)]) C h ho (by decide) rfl (c_X7_undo l hst E _  ho _ _ _ q) wM_L_64 wI_X7_undo wS_X7_undo wN_X7 wC_X7_undo rfl ny_X7_undo rfl ⟨Nat.le_of_ble_eq_true rfl, Nat.le_of_ble_eq_true rfl⟩ hl.1 rfl (Nat.le_of_ble_eq_true rfl) (gdec kL_undo 3 rfl) ⟨Nat.le_of_ble_eq_true rfl, Nat.le_of_ble_eq_true rfl⟩) (fun hx ce q9 H locs h hce hcv hcl => ?_) (fun hx H locs h => ?_)
  · rw [if_neg hx] at hf
    by_cases e3 : x = 3
    · subst e3
      rw [if_pos rfl] at hf
      refine g_catch C htab (x := 3) (pre := []) (z := ⟨0, 8, 11, 24⟩) (suf := []) rfl (fun z hz => absurd hz List.not_mem_nil) (by decide) (by decide) wK_L_24 gCast3 hce hcv hcl ?_
      refine g_astore_n C ((2, Value.ref q9) :: [(0, .ref (eA E 7 0)), (1, .ref (eA E 13 0))]) hl rfl (by decide) rfl (gdec kL_undo 7 rfl) (fun ls hl => ?_)
      refine g_iconst C (gdec kL_undo 8 rfl) ?_
      exact g_iret C h hf (gdec kL_undo 9 rfl)
    rw [if_neg e3] at hf
    cases hf
  · subst hx
    rw [if_pos rfl] at hf
    refine g_i2l C (gdec kL_undo 4 rfl) ?_
    refine g_last C h ho2 (by decide) (gdec kL_undo 5 rfl) (fun H locs h => ?_)
    refine g_goto C (tgt := 14) (by decide) (gdec kL_undo 6 rfl) ?_
    refine g_iconst C (gdec kL_undo 10 rfl) ?_
    exact g_iret C h hf (gdec kL_undo 11 rfl)

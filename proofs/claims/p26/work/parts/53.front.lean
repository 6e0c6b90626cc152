/-! THE CLAIM OUT OF ONE WALK OF THE LAW'S BODY. Your part is whole_start (and what it stands on); all else here is the same for every law, but numbers. -/
def R_law : String := "PostRoadLaw"
def lw_P (b : Addr) (xs : List Int32) (args : Array Value) (s : State) : Prop := args = #[.ref b] ∧ s.IntsAt b xs ∧ xs.length ≤ 260 ∧ (Jvm.Cond.and given_1 narrow_1).before args s = true
/-- what a walk over the start with the record d0 says of its end, said of the start itself -/
theorem lw_closed {s t : State} {o : Outcome} {d0 : Drawn} {L : List Loc} {k n : Nat} (hd0 : s.drawn.sameBut d0 lw_cs) (hv : ∃ v, o = .returned v) (hW : (s.setDrawn d0).WarmedH t.vm) (hs : (s.setDrawn d0).sameButNew ({ t with vm := s.vm } : State) L k n) : State.butDraws s t lw_cs (fun t1 => Framed s o t1 L k n) := by
  have h2 : t.drawn = d0 := congrArg State.drawn hs.1
  refine ⟨⟨hv, hW, State.sameButNew.setDrawn hs s.drawn⟩, ?_, by decide⟩
  rw [h2]
  exact hd0
def lw_Q (_ : Array Value) (s : State) (o : Outcome) (t : State) : Prop := o = .returned (some (.int 1)) ∧ State.butDraws s t lw_cs (fun t1 => Framed s o t1 [] 646098 7163329)
def lw_Z (below : List Frame) (a : Array Value) (s : State) : State → Prop := fun t => ∃ o, t.status = .running ∧ Ended t below o ∧ lw_Q a s o t
/-- the law's own end, with 1 on the stack, nothing written that was there before, its room as the claim has it; d0: the record of draws at this point (at the entry s.drawn: begin with 'refine W.base ?_' and 'have hd0 := Drawn.sameBut.refl s.drawn lw_cs') -/
theorem lw_ret {p : Program} {l : Launch} {e : Env} {s : State} {m : MethodId} {below : List Frame} {meth : Method} {c : Code} {b : Nat} {d0 : Drawn} (hd0 : s.drawn.sameBut d0 lw_cs) (hx : p.tables.exec = Jvm.exec) (hb : c.code = code) (hr : meth.sig.returnType = ret) (hlocks : meth.locks = false) {pc : Nat} {H : Heap} {ls : Array Slot} (hdg : decode code pc = .ok (.ireturn, 1)) : W p l e room_1 (s.setDrawn d0) m #[Value.ref b] below meth c H [] 646098 7163329 (lw_Z below #[Value.ref b] s) (F0 m pc ls [.int 1]) := by
  intro T hT X
  obtain ⟨fs, hret, hrun, hended, hW, hframe⟩ := X.leave (v := some (.int 1)) (hlocks := hlocks) (fun h => by rw [hr] at h; cases h)
  have hmeth' : T.vm.method? m = some meth := X.method'
  refine ⟨T.setFrames fs, ?_, .returned (some (.int 1)), hrun, hended, rfl, lw_closed hd0 ⟨_, rfl⟩ hW hframe⟩
  jvm_step X.here [X.here.top, hx, hb, hdg, hmeth', hr, ret, narrow_b1]
  (try refine ⟨rfl, ?_⟩); (try refine ⟨rfl, ?_⟩)
  first | (intro acts; rw [hret _ acts rfl rfl rfl]) | rw [hret _ _ rfl rfl rfl]
  exact Steps.refl _
/-- what holds at the law's entry: the machine, the code, the tables' words (any of lw_tbl by 'hts w (by decide +kernel)'), the script of L ints xs at the cell b, what the Statement gives of the start (any of its parts by flat_of_before) -/
def lw_At (p : Program) (s : State) (m : MethodId) (meth : Method) (c : Code) (b L : Nat) (xs : Nat → Int32) : Prop :=
  p.tables.exec = Jvm.exec ∧ c.code = code ∧ meth.sig.returnType = ret ∧ c.maxLocals = 8 ∧ s.vm.findClass R_law = some m.cls ∧ (∀ w ∈ lw_tbl, w.before #[Value.ref b] s = true) ∧ va_X b L xs s s.heap ∧ b < s.heap.size ∧ meth.locks = false ∧ (Jvm.Cond.and given_1 narrow_1).before #[Value.ref b] s = true
set_option maxHeartbeats 8000000 in
set_option maxRecDepth 100000 in
theorem st_start {p : Program} {e : Env} {s : State} {m : MethodId} {below : List Frame} {meth : Method} {c : Code} (l : Launch) {b L : Nat} {xs : Nat → Int32} (hL : L ≤ 260) (C0 : lw_At p s m meth c b L xs) (hgo : f_L_law (cv L xs) gI gI = some 1) : W p l e room_1 s m #[Value.ref b] below meth c s.heap [] 0 0 (lw_Z below #[Value.ref b] s) (entryFrame m ([Value.ref b] : List Value).toArray 8) := by
  obtain ⟨hx, hb, hr, hml, hown, hts, hX, hbl, hlocks, hgv⟩ := id C0
  obtain ⟨E0, hK⟩ := st_K hts
  obtain ⟨B, hB⟩ : ∃ B, B = s.heap.size := ⟨_, rfl⟩
  rw [← hB] at hK
  have hgw : ∀ w ∈ gWords, w.before #[Value.ref b] s = true := fun w hw => hts w (List.mem_filter.mp hw).1
  have hKH : gK (eH E0 B 0) s := gK_narrow hK rfl rfl (eH_dis E0 B 0) (fun q z => z) (fun q z => by rw [← hB] at z; exact z)
  have hKO : gK (eo E0 B gI) s := gK_narrow hK rfl rfl (eo_dis E0 B gI) (fun q z => z) (fun q z => by rw [← hB] at z; exact z)
  have C2 : gC p s m (#[Value.ref b] : Array Value) meth c RL cL_law 8 (some .boolean) (eo E0 B gI) := ⟨hx, hb, hr, hml, hown, hgw, hlocks, hKO⟩
  have C : gC p s m (#[Value.ref b] : Array Value) meth c RL cL_law 8 (some .boolean) (eH E0 B 0) := ⟨hx, hb, hr, hml, hown, hgw, hlocks, hKH⟩
  have hA : ∀ q, B ≤ q → eF (eH E0 B 0) q := fun q z => z
  have hS : va_S (eF (eH E0 B 0)) s.heap s.heap [] := va_S.rf
  have h : cP (eH E0 B 0) B 0 (fun _ => .inr (0, [])) s.heap := ⟨hB.symm, fun k q hk => by obtain ⟨hl, -⟩ := cL_in hk; omega⟩
  obtain ⟨Q, hQ⟩ : ∃ Q, Q = lw_Z below #[Value.ref b] s := ⟨_, rfl⟩
  rw [← hQ]
  have hl := lv_entry ([.ref b]) (n := 8) (Nat.le_of_ble_eq_true rfl)
  rw [lg_entry_eq]
  generalize (lg_sl ([.ref b]) ++ List.replicate (8 - (lg_sl ([.ref b])).length) Slot.unset).toArray = ls at hl ⊢
  have hl : lv_has ls 8 [(0, .ref b)] := hl
  refine n_new C h hS (k := 7) (T := TX7) (ty := tyX7) rfl tyX7_ok (fs := [.null, .null, .null, .null]) (by decide +kernel) wK_L_16 wB_X7 wN_X7 (by decide) (gdec kL_law 0 rfl) (fun H h hS => ?_)
  refine g_dup C rfl (gdec kL_law 1 rfl) ?_
  refine n_init C hS (c_X7_init l E0 B) gK_blind (fun U hU hW => ⟨gK_nx C.2.2.2.2.2.2.2 hS hU hW, by rw [hU]; exact cP_tail h rfl rfl⟩) wM_L_67 wI_X7_init wN_X7 wC_X7_init rfl ny_X7_init (by decide) hl.1 (Nat.le_of_ble_eq_true rfl) (fun q z => z) (gdec kL_law 2 rfl) (by decide) (fun u t H2 locs ht _ hB2 hz2 hk2 hS => ?_)
  have h : cP (eH E0 B 0) B 257 (Wi E0 B 0) H2 := by rw [← ht]; exact hB2
  clear hB2 ht hk2 hz2
  refine g_astore_n C [(1, .ref (B + 0)), (0, .ref b)] hl rfl (by decide) rfl (gdec kL_law 3 rfl) (fun ls hl => ?_)
  refine n_new C h hS (k := 7) (T := TX7) (ty := tyX7) rfl tyX7_ok (fs := [.null, .null, .null, .null]) (by decide +kernel) wK_L_16 wB_X7 wN_X7 (by decide) (gdec kL_law 4 rfl) (fun H h hS => ?_)
  refine g_dup C rfl (gdec kL_law 5 rfl) ?_
  refine n_init C hS (c_X7_init l E0 (B + 257)) gK_blind (fun U hU hW => ⟨gK_narrow (gK_nx C.2.2.2.2.2.2.2 hS hU hW) rfl rfl (eH_dis E0 (B + 257) 0) (fun q z => Nat.le_trans (Nat.le_add_right B 257) z) (fun q z => by rw [hU, h.1] at z; show B + 257 + 0 ≤ q; omega), by rw [hU]; exact cP_tail h rfl rfl⟩) wM_L_67 wI_X7_init wN_X7 wC_X7_init rfl ny_X7_init (by decide) hl.1 (Nat.le_of_ble_eq_true rfl) (fun q z => Nat.le_trans (Nat.le_add_right B 257) z) (gdec kL_law 6 rfl) (by decide) (fun u t H2 locs ht _ hB2 hz2 hk2 hS => ?_)
  have hB3 : cP E0 (B + 257) 257 (Wi E0 (B + 257) 0) H2 := by rw [← ht]; exact hB2
  have hP : gP (eo E0 B gI) gI H2 := two_start (E := eH E0 B 0) rfl (cP_join (E1 := E0) h hk2 rfl hB3)
  clear hB2 hB3 ht hk2 hz2
  refine g_astore_n C [(2, .ref (B + 257)), (1, .ref (B + 0)), (0, .ref b)] hl rfl (by decide) rfl (gdec kL_law 7 rfl) (fun ls hl => ?_)
  refine W.widen (k := 646098) (n := 7163329) (Nat.le_of_ble_eq_true rfl) (Nat.le_of_ble_eq_true rfl) ?_
  have hl : lv_has ls 8 [(2, rP B), (1, rO B), (0, .ref b)] := hl
  refine lw_main l E0 B gI gI (cv L xs) rfl C2 ⟨hX, hbl, by rw [hB]; exact hbl⟩ hL ⟨hP, hS⟩ hl hgo (fun _ G F H locs ls h => ?_)
  subst hQ
  refine va_forget (fun q hq => by rw [← hB]; exact h.2.2.2 q hq) ?_
  exact lw_ret (d0 := s.drawn) (Drawn.sameBut.refl s.drawn lw_cs) hx hb hr hlocks (gdec kL_law_2 36 rfl)

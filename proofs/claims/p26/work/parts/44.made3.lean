/-! WHAT THE CONSTRUCTORS OF THE CLASS LEAVE -/
def gI : GS := fun k o f => if k = 3 ∧ f = 4 then 2 else if k = 5 ∧ f = 0 then 2 else if k = 1 ∧ f = 0 then 2 else if k = 1 ∧ f = 1 then 100 else if k = 12 then f + 2 else if k = 10 ∧ o = 0 then (if f = 0 then 2 else if f = 9 then 2 else if f = 30 then 2 else if f = 31 then 100 else if f = 33 then 2 else if f = 34 then 100 else 0) else 0
theorem gd_t {α : Type} {z : Int} {k : Option α} (h : inR z) : gd z k = k := if_pos h
theorem ga_t {α : Type} {z n : Int} {k : Option α} (h : 0 ≤ z ∧ z < n) : ga z n k = k := if_pos h
theorem gb_t {α : Type} {z : Int} {k : Option α} (h : z = 0 ∨ z = 1) : gb z k = k := if_pos h
theorem r_restart2 {o : Int} {k : GS → Int → Option GS} : ∀ (d n : Nat) (G : GS) (i : Int), 0 ≤ i → i + d = 7 → d < n → f_X3_restart_L2 o n G i k = k (fun k' o' f => if k' = 5 ∧ 7 * o + i ≤ o' ∧ o' < 7 * o + 7 ∧ 0 ≤ f ∧ f ≤ 2 then (if f = 0 then 2 else 0) else G k' o' f) 7 := by
  intro d
  induction d with
  | zero =>
    intro n G i h0 h1 h2
    obtain ⟨n, rfl⟩ : ∃ m, n = m + 1 := ⟨n - 1, by omega⟩
    have : i = 7 := by omega
    subst this
    rw [f_X3_restart_L2, gd_t (by decide), if_neg (by omega)]
    congr 1
    funext k' o' f
    rw [if_neg (by omega)]
  | succ d ih =>
    intro n G i h0 h1 h2
    obtain ⟨n, rfl⟩ : ∃ m, n = m + 1 := ⟨n - 1, by omega⟩
    rw [f_X3_restart_L2, gd_t ⟨by omega, by omega⟩, if_pos (by omega), ga_t ⟨by omega, by omega⟩]
    unfold f_X5_set
    rw [gb_t (Or.inl rfl)]
    show f_X3_restart_L2 o n _ (i + 1) k = _
    rw [ih n _ (i + 1) (by omega) (by omega) (by omega)]
    congr 1
    funext k' o' f
    unfold gup
    repeat' split
    all_goals first | rfl | omega
theorem r_restart28 {o : Int} {k : GS → Int → Option GS} : ∀ (d n : Nat) (G : GS) (i : Int), 0 ≤ i → i + d = 8 → d < n → f_X3_restart_L28 o n G i k = k (fun k' o' f => if k' = 1 ∧ 8 * o + i ≤ o' ∧ o' < 8 * o + 8 ∧ 0 ≤ f ∧ f ≤ 2 then (if f = 0 then 2 else if f = 1 then 100 else 0) else G k' o' f) 8 := by
  intro d
  induction d with
  | zero =>
    intro n G i h0 h1 h2
    obtain ⟨n, rfl⟩ : ∃ m, n = m + 1 := ⟨n - 1, by omega⟩
    have : i = 8 := by omega
    subst this
    rw [f_X3_restart_L28, gd_t (by decide), if_neg (by omega)]
    congr 1
    funext k' o' f
    rw [if_neg (by omega)]
  | succ d ih =>
    intro n G i h0 h1 h2
    obtain ⟨n, rfl⟩ : ∃ m, n = m + 1 := ⟨n - 1, by omega⟩
    rw [f_X3_restart_L28, gd_t ⟨by omega, by omega⟩, if_pos (by omega), ga_t ⟨by omega, by omega⟩]
    unfold f_X1_set
    rw [gb_t (Or.inl rfl)]
    show f_X3_restart_L28 o n _ (i + 1) k = _
    rw [ih n _ (i + 1) (by omega) (by omega) (by omega)]
    congr 1
    funext k' o' f
    unfold gup
    repeat' split
    all_goals first | rfl | omega
/-- a road begun anew -/
def rsG (G : GS) (o : Int) : GS := fun k o' f => if k = 3 ∧ o' = o ∧ 4 ≤ f ∧ f ≤ 12 then (if f = 4 then 2 else 0) else if k = 1 ∧ 8 * o ≤ o' ∧ o' < 8 * o + 8 ∧ 0 ≤ f ∧ f ≤ 2 then (if f = 0 then 2 else if f = 1 then 100 else 0) else if k = 5 ∧ 7 * o ≤ o' ∧ o' < 7 * o + 7 ∧ 0 ≤ f ∧ f ≤ 2 then (if f = 0 then 2 else 0) else G k o' f
set_option maxHeartbeats 4000000 in
theorem r_restart (G : GS) (o : Int) : f_X3_restart G o = some (rsG G o) := by
  unfold f_X3_restart
  rw [r_restart2 7 gFuel G 0 (by decide) (by decide) (by decide), r_restart28 8 gFuel _ 0 (by decide) (by decide) (by decide)]
  refine congrArg some (funext fun k => funext fun o' => funext fun f => ?_)
  simp only [Int.add_zero]
  unfold gup rsG
  by_cases hk : k = 3 ∧ o' = o
  · obtain ⟨rfl, rfl⟩ := hk
    simp only [true_and]
    repeat' split
    all_goals first | rfl | omega
  · have e1 : ∀ i : Int, (k = 3 ∧ o' = o ∧ f = i) = False := fun i => eq_false fun z => hk ⟨z.1, z.2.1⟩
    have e2 : (k = 3 ∧ o' = o ∧ 4 ≤ f ∧ f ≤ 12) = False := eq_false fun z => hk ⟨z.1, z.2.1⟩
    simp only [e1, e2, if_false]
theorem gI_road' {r : Int} {kk : Nat} {o : Int} (hm : (kk, o) ∈ (List.range 42).map (rid r)) (f : Int) : (rsG gZ r) kk o f = gI kk o f := by
  unfold rsG gI gZ
  rcases rid_mem.mp hm with ⟨hk, rfl⟩ | ⟨rfl, h1, h2⟩ | ⟨rfl, h1, h2⟩ | ⟨rfl, h1, h2⟩ | ⟨rfl, h1, h2⟩
  · rcases hk with rfl | rfl | rfl | rfl | rfl
    · simp
      repeat' split
      all_goals omega
    all_goals simp
  · simp [h1, h2]
    omega
  · simp [h1, h2]
    repeat' split
    all_goals omega
  · simp
  · simp
def eH (E : gEnv) (B c : Nat) : gEnv := (eD E, eC E, fun k o => B + goff k o, fun q => B + c ≤ q, [], [])
theorem eH_dis (E : gEnv) (B c : Nat) : gDis (eH E B c) := by
  refine ⟨⟨fun i j p q hi => ?_, gDiZ_nil rfl⟩, fun p hp => absurd hp List.not_mem_nil, List.nodup_nil, fun r h => absurd h List.not_mem_nil, fun r i h => absurd h List.not_mem_nil, fun r i h => absurd h List.not_mem_nil, fun r i h => absurd h List.not_mem_nil, fun r i h => absurd h List.not_mem_nil, fun h => absurd h List.not_mem_nil, fun h => absurd h List.not_mem_nil, fun h => absurd h List.not_mem_nil, fun h => absurd h List.not_mem_nil⟩
  exact absurd (show ([] : List (Nat × Int))[i]? = some p from hi) (by simp)
def Wi (E0 : gEnv) (B c : Nat) : Nat → va_E := fun j => gCell (eG E0 B) gI (gid (c + j)).1 (gid (c + j)).2
theorem cP_tail {E E1 : gEnv} {B N : Nat} {Wf : Nat → va_E} {H : Heap} {x : va_E} (h : cP E B (N + 1) Wf H) (hD : eD E1 = eD E) (hx : Wf N = x) : cP E1 (B + N) 1 (fun _ => x) H := by
  refine ⟨h.1, fun k q hk => ?_⟩
  obtain ⟨hl, rfl⟩ := cL_in hk
  have hk0 : k = 0 := by omega
  subst hk0
  rw [hD, ← hx]
  exact h.2 N _ (cL_at (Nat.lt_succ_self N))
theorem cP_join {E E1 : gEnv} {B N M : Nat} {Wf Wg : Nat → va_E} {H H1 : Heap} (h : cP E B (N + 1) Wf H) (hk : ∀ q : Nat, q < H.size → ¬ (B + N ≤ q) → H1[q]? = H[q]?) (hD : eD E1 = eD E) (h1 : cP E1 (B + N) M Wg H1) : cP E B (N + M) (fun j => if j < N then Wf j else Wg (j - N)) H1 := by
  refine ⟨by rw [h1.1]; omega, fun k q hq => ?_⟩
  obtain ⟨hl, rfl⟩ := cL_in hq
  by_cases hn : k < N
  · simp only [if_pos hn]
    have h2 := h.2 k _ (cL_at (by omega))
    exact h2.kept (hk _ (by rw [h.1]; show B + k < _; omega) (by show ¬ B + N ≤ B + k; omega))
  · simp only [if_neg hn]
    have h2 := h1.2 (k - N) _ (cL_at (by omega))
    rw [hD] at h2
    have e : B + N + (k - N) = B + k := by omega
    rw [e] at h2
    exact h2
theorem cP_road {E0 : gEnv} {B : Nat} {r : Int} (hr : 0 ≤ r ∧ r < 6) {c : Nat} (hc : c = rst r) {b : Nat} (hb : b = B + c) {H : Heap} (h : gP (eR E0 r b) (rsG gZ r) H ∧ H.size = b + 42) : cP E0 b 42 (Wi E0 B c) H := by
  subst hc hb
  refine ⟨h.2, fun k q hk => ?_⟩
  obtain ⟨hl, rfl⟩ := cL_in hk
  exact road_cells hr (fun k o hm f => gI_road' hm f) h.1 hl
section GC4
variable {p : Program} {l : Launch} {e : Env} {R : Room} {s : State} {m : MethodId} {args : Array Value} {below : List Frame} {meth : Method} {c : Code} {H : Heap} {locs : List Loc} {cells slots : Nat} {Q : State → Prop}
variable {pc : Nat} {ls : Array Slot} {rest st : List Value} {own : String} {cc : ByteArray} {nL : Nat} {ret : Option FieldType} {E : gEnv}
/-- a nest mate's private constructor -/
theorem n_initM (C : gC p s m args meth c own cc nL ret E) (hS : va_S (eF E) s.heap H locs) {ix b n f lo mc ms : Nat} {y : MethodName} {host : String} {bc : ByteArray} {Z : State → Prop} {S : Type} {post : S → Prop} {Bq : S → State → Prop} {A1 : Nat → Prop} (hM : Met l y (.code y bc n none :: gWords) (gRm f lo mc ms) (va_Pc [.ref b] Z) (va_Qv post Bq A1) mc ms A1) (hbl : FrameBlind (va_Pc [.ref b] Z)) (hZ : ∀ U : State, U.heap = H → s.WarmedH U.vm → Z U) (w1 : (own, ix, y, host) ∈ gNest) (w2 : Cond.instanceMethod y ∈ gWords) (w4 : Cond.initialized y.cls ∈ gWords) (w5 : Cond.code y bc n none ∈ gWords) (hname : y.name = "<init>")
    (hy : gNy y 0) (hR : f + 1 ≤ R.frames ∧ 8 + (n + 11) + lo ≤ R.locals) (hls : ls.size = nL) (hrest : (rest.map fun v => v.category).sum ≤ 8) (hA : ∀ q, A1 q → eF E q) (hd : decode cc pc = .ok (.invokespecial ix, 3)) (hcs : cells + mc ≤ R.cells ∧ slots + ms ≤ R.slots)
    (kk : ∀ (u : S) (t : State) (H1 : Heap) (locs1 : List Loc), t.heap = H1 → post u → Bq u t → H.size ≤ H1.size → (∀ q : Nat, q < H.size → ¬ A1 q → H1[q]? = H[q]?) → va_S (eF E) s.heap H1 locs1 → W p l e R s m args below meth c H1 locs1 (cells + mc) (slots + ms) Q (F0 m (pc + 3) ls rest)) :
    W p l e R s m args below meth c H locs cells slots Q (F0 m pc ls (.ref b :: rest)) := by
  refine va_callv (va_runIN (As := []) (rest := rest) (host := host) ⟨C.1, C.2.1, C.2.2.2.1, C.2.2.2.2.1, C.2.2.2.2.2.1⟩ hM ⟨va_cnB 0 C.2.2.2.2.2.1 (gwIn ?_) rfl rfl rfl (C.2.2.2.2.2.2.2.2.2.2.2.1 _ w1) (C.2.2.2.2.2.1 _ w4) hy hR, hname, C.2.2.2.2.2.1 _ w2⟩ ⟨hbl, fun U hU hW => ⟨rfl, hZ U hU hW⟩⟩ rfl rfl hls rfl (lv_room hrest) hd hcs) hS (fun q _ z => hA q z) hA (fun u t H1 locs1 ht hvm hw hB hz1 hk1 hS1 => kk u t H1 locs1 ht hw hB hz1 hk1 hS1)
  intro w hw
  rcases List.mem_cons.mp hw with rfl | hw
  · exact w5
  · exact hw
/-- a road's making, from its cell -/
theorem n_roadZ (C : gC p s m args meth c own cc nL ret E) {E0 : gEnv} (hD : eD E = eD E0) (hC : eC E = eC E0) (hS : va_S (eF E) s.heap H locs) {B N : Nat} {Wf : Nat → va_E} (h : cP E B (N + 1) Wf H) (hw : Wf N = .inr (3, gD3)) (hA : ∀ q, B ≤ q → eF E q) (r : Int) : ∀ U : State, U.heap = H → s.WarmedH U.vm → gK (eR E0 r (B + N)) U ∧ cP (eR E0 r (B + N)) (B + N) 1 (fun _ => .inr (3, gD3)) U.heap := by
  intro U hU hW
  refine ⟨gK_narrow (gK_nx C.2.2.2.2.2.2.2 hS hU hW) hD.symm hC.symm (eR_dis E0 r (B + N)) (fun q z => hA q (Nat.le_trans (Nat.le_add_right _ _) z)) (fun q z => ?_), ?_⟩
  · rw [hU, h.1] at z
    show B + N ≤ q
    omega
  · rw [hU]
    exact cP_tail h hD.symm hw
end GC4
set_option maxHeartbeats 4000000 in
set_option maxRecDepth 100000 in
theorem c_X4_init (l : Launch) (E0 : gEnv) (B : Nat) : Met l yX4_init (.code yX4_init cX4_init 1 none :: gWords) (gRm 1 12 1 90) (va_Pc [.ref (B + 255)] (fun U => gK (eH E0 B 255) U ∧ cP (eH E0 B 255) (B + 255) 1 (fun _ => .inr (4, [.null, .int 0, .int 0])) U.heap)) (va_Qv (fun _ : Unit => True) (fun _ t => cP E0 (B + 255) 2 (Wi E0 B 255) t.heap) (fun q => B + 255 ≤ q)) 1 90 (fun q => B + 255 ≤ q) := by
  refine n_met (E := eH E0 B 255) (by decide +kernel) (Nat.le_of_ble_eq_true rfl) rfl (fun s h => h.1) ?_
  intro p e s m below meth c C hin hp ls hl
  have h := hp.2
  obtain ⟨E, hE⟩ : ∃ E, E = eH E0 B 255 := ⟨_, rfl⟩
  rw [← hE] at C h
  have hD : eD E = eD E0 := by rw [hE]; rfl
  have hC : eC E = eC E0 := by rw [hE]; rfl
  have hEf : eF E = fun q => B + 255 ≤ q := by rw [hE]; rfl
  have hA : ∀ q, B + 255 ≤ q → eF E q := fun q z => by rw [hEf]; exact z
  have hS : va_S (eF E) s.heap s.heap [] := va_S.rf
  have C : gC p s m _ meth c RX4 cX4_init 1 none E := C
  have hl : lv_has ls 1 [(0, .ref (B + 255))] := hl
  obtain ⟨Qr, hQr⟩ : ∃ Q, Q = va_Qv (fun _ : Unit => True) (fun _ t => cP E0 (B + 255) 2 (Wi E0 B 255) t.heap) (fun q => B + 255 ≤ q) := ⟨_, rfl⟩
  rw [← hQr]
  refine g_aload_n C hl 0 rfl rfl (gdec kX4_init 0 rfl) ?_
  refine n_super C wM_X4_3 hl.1 (by decide) (gdec kX4_init 1 rfl) ?_
  refine g_aload_n C hl 0 rfl rfl (gdec kX4_init 2 rfl) ?_
  refine g_bipush C (gdec kX4_init 3 rfl) rfl ?_
  refine n_newa C h hS (ty := .byte) rfl wA_byte 0 9 rfl (fun z => z) (n1 := 90) rfl (by decide) (x := .inl (fun _ => 0)) (fun _ => rfl) (by decide) (by decide) (gdec kX4_init 4 rfl) (fun H h hS => ?_)
  refine n_putF C h hS hA (k := 4) (j := 0) (by decide) rfl (T := TX4) rfl 0 (by decide) wF_X4_9 rfl hin rfl (ty := tyX4 0) (by decide +kernel) rfl rfl (by simp) (gdec kX4_init 5 rfl) (fun H locs h hS => ?_)
  have h : cP E0 (B + 255) 2 (Wi E0 B 255) H := by
    have h2 : cP E (B + 255) 2 (Wi E0 B 255) H := cP_eq h (fun j hj => by
      match j, hj with
      | 0, _ => rfl
      | 1, _ => show (.inl (eC E 9, _, _) : va_E) = _; rw [hC]; rfl)
    refine ⟨h2.1, ?_⟩
    rw [← hD]
    exact h2.2
  subst hQr
  exact W.vret C.1 C.2.1 C.2.2.1 (fun t ht hW => ⟨⟨(), rfl, trivial, by simpa only [ht] using h⟩, by have := hS.F ht; rw [hEf] at this; exact this⟩) (by have := hS.2.2; rw [hEf] at this; exact this) (gdec kX4_init 6 rfl) C.2.2.2.2.2.2.1
def Wh (E0 : gEnv) (B i : Nat) : Nat → va_E := fun j => if j = 0 then .inr (0, [.ref (B + 85 + 1), .int 0]) else if j = 1 then .inl (eC E0 12, 4, gRs fun x => if x < i then some (B + 85 + (2 + 42 * x)) else none) else Wi E0 B 85 j
set_option maxHeartbeats 4000000 in
set_option maxRecDepth 100000 in
theorem c_X0_init (l : Launch) (E0 : gEnv) (B : Nat) : Met l yX0_init (.code yX0_init cX0_init 2 none :: gWords) (gRm 5 330 169 1248) (va_Pc [.ref (B + 85)] (fun U => gK (eH E0 B 85) U ∧ cP (eH E0 B 85) (B + 85) 1 (fun _ => .inr (0, [.null, .int 0])) U.heap)) (va_Qv (fun _ : Unit => True) (fun _ t => cP E0 (B + 85) 170 (Wi E0 B 85) t.heap) (fun q => B + 85 ≤ q)) 169 1248 (fun q => B + 85 ≤ q) := by
  refine n_met (E := eH E0 B 85) (by decide +kernel) (Nat.le_of_ble_eq_true rfl) rfl (fun s h => h.1) ?_
  intro p e s m below meth c C hin hp ls hl
  have h := hp.2
  obtain ⟨E, hE⟩ : ∃ E, E = eH E0 B 85 := ⟨_, rfl⟩
  rw [← hE] at C h
  have hD : eD E = eD E0 := by rw [hE]; rfl
  have hC : eC E = eC E0 := by rw [hE]; rfl
  have hEf : eF E = fun q => B + 85 ≤ q := by rw [hE]; rfl
  have hA : ∀ q, B + 85 ≤ q → eF E q := fun q z => by rw [hEf]; exact z
  have hS : va_S (eF E) s.heap s.heap [] := va_S.rf
  have C : gC p s m _ meth c RX0 cX0_init 2 none E := C
  have hl : lv_has ls 2 [(0, .ref (B + 85))] := hl
  obtain ⟨Qr, hQr⟩ : ∃ Q, Q = va_Qv (fun _ : Unit => True) (fun _ t => cP E0 (B + 85) 170 (Wi E0 B 85) t.heap) (fun q => B + 85 ≤ q) := ⟨_, rfl⟩
  rw [← hQr]
  have L14 : ∀ (d i : Nat), i + d = 4 → (∀ (H : Heap) (locs : List Loc), cP E (B + 85) 170 (Wh E0 B 4) H → va_S (eF E) s.heap H locs → ∀ ls, lv_has ls 2 [(0, .ref (B + 85))] → W p l e (gRm 5 330 169 1248) s m ([.ref (B + 85)] : List Value).toArray below meth c H locs (1 + 42 * 4) (4 + 311 * 4) (MQ below Qr ([.ref (B + 85)] : List Value).toArray s 169 1248 (fun q => B + 85 ≤ q)) (F0 m 38 ls [])) → ∀ (H : Heap) (locs : List Loc), cP E (B + 85) (2 + 42 * i) (Wh E0 B i) H → va_S (eF E) s.heap H locs → ∀ ls, lv_has ls 2 [(1, vI i), (0, .ref (B + 85))] → W p l e (gRm 5 330 169 1248) s m ([.ref (B + 85)] : List Value).toArray below meth c H locs (1 + 42 * i) (4 + 311 * i) (MQ below Qr ([.ref (B + 85)] : List Value).toArray s 169 1248 (fun q => B + 85 ≤ q)) (F0 m 14 ls []) := by
    intro d
    induction d with
    | zero =>
      intro i hi hK H locs h hS ls hl
      have hi7 : i = 4 := by omega
      subst hi7
      refine g_iload_n C hl 0 rfl rfl (gdec kX0_init 8 rfl) ?_
      refine g_iconst C (gdec kX0_init 9 rfl) ?_
      refine g_icmp_ge C (tgt := 38) (by decide) (by decide) (by decide) (gdec kX0_init 10 rfl) (fun c1 => absurd c1 (by decide)) (fun c1 => ?_)
      exact hK H locs h hS ls (lv_sub hl [1] rfl)
    | succ d ih =>
      intro i hi hK H locs h hS ls hl
      refine g_iload_n C hl 0 rfl rfl (gdec kX0_init 8 rfl) ?_
      refine g_iconst C (gdec kX0_init 9 rfl) ?_
      refine g_icmp_ge C (tgt := 38) ⟨by omega, by omega⟩ (by decide) (by decide) (gdec kX0_init 10 rfl) (fun c1 => ?_) (fun c1 => absurd (by omega) c1)
      refine g_aload_n C hl 1 rfl rfl (gdec kX0_init 11 rfl) ?_
      refine n_get C h hS (j := 0) (by omega) (k := 0) rfl (T := TX0) rfl 0 (by decide) wF_X0_11 (v := .ref (B + 85 + 1)) rfl (gdec kX0_init 12 rfl) ?_
      refine g_iload_n C hl 0 rfl rfl (gdec kX0_init 13 rfl) ?_
      refine n_new C h hS (k := 3) (T := TX3) (ty := tyX3) rfl tyX3_ok (fs := gD3) (by decide +kernel) wK_X0_9 wB_X3 wN_X3 ⟨by show 1 + 42 * i + 1 ≤ 169; omega, by show 4 + 311 * i + 13 ≤ 1248; omega⟩ (gdec kX0_init 14 rfl) (fun H1 h1 hS1 => ?_)
      refine g_dup C rfl (gdec kX0_init 15 rfl) ?_
      have hNew : wU (Wh E0 B i) (2 + 42 * i) (.inr (3, gD3)) (2 + 42 * i) = .inr (3, gD3) := by unfold wU; rw [if_pos rfl]
      refine n_init C hS1 (c_X3_init l E0 ((i : Int) + 2) (B + 85 + (2 + 42 * i)) _ (r_restart gZ _)) gK_blind (n_roadZ C hD hC hS1 h1 hNew hA _) wM_X0_17 wI_X3_init wN_X3 wC_X3_init rfl ny_X3_init (by decide) hl.1 (Nat.le_of_ble_eq_true rfl) (fun q z => hA q (by omega)) (gdec kX0_init 16 rfl) ⟨by show 1 + 42 * i + 1 + 41 ≤ 169; omega, by show 4 + 311 * i + 13 + 298 ≤ 1248; omega⟩ (fun u t H2 locs2 ht _ hB hz2 hk2 hS2 => ?_)
      have hB2 : gP (eR E0 ((i : Int) + 2) (B + 85 + (2 + 42 * i))) (rsG gZ ((i : Int) + 2)) H2 ∧ H2.size = B + 85 + (2 + 42 * i) + 42 := by rw [← ht]; exact hB
      have h2 := cP_join (E1 := E0) h1 hk2 hD.symm (cP_road (B := B) ⟨by omega, by omega⟩ (c := 87 + 42 * i) (by unfold rst; rw [if_neg (by omega)]; omega) (by omega) hB2)
      refine n_aast C h2 hS2 hA (k := 12) (j := 1) (i2 := 2 + 42 * i) (ci := 3) (fs := [.ref (B + goff 14 ((i : Int) + 2)), .ref (B + goff 15 ((i : Int) + 2)), .ref (B + goff 16 ((i : Int) + 2)), .ref (B + goff 17 ((i : Int) + 2)), vI 2, vI 0, vI 0, vI 0, vI 0, vI 0, vI 0, vI 0, vI 0]) (r := (RX3, TX3, 13)) (n := 4) (f := fun x => if x < i then some (B + 85 + (2 + 42 * x)) else none) (by omega) (by omega) (by
          rw [if_pos (by omega)]
          unfold wU
          rw [if_neg (by omega), hC]
          rfl) 1 rfl (by
          rw [if_neg (by omega)]
          have e1 : 87 + 42 * i + (2 + 42 * i - (2 + 42 * i)) = rst ((i : Int) + 2) + 0 := by unfold rst; rw [if_neg (by omega)]; omega
          unfold Wi
          rw [e1, gid_rid' ⟨by omega, by omega⟩ (by decide)]
          rfl) rfl ⟨by omega, by omega⟩ (by decide) (gdec kX0_init 17 rfl) (fun H3 locs3 h3 hS3 => ?_)
      have h4 : cP E (B + 85) (2 + 42 * (i + 1)) (Wh E0 B (i + 1)) H3 := by
        have e0 : 2 + 42 * i + 42 = 2 + 42 * (i + 1) := by omega
        rw [e0] at h3
        refine cP_eq h3 (fun j hj => ?_)
        by_cases e1 : j = 1
        · subst e1
          show (.inl (eC E 12, 4, gRs _) : va_E) = .inl (eC E0 12, 4, gRs _)
          rw [hC]
          refine congrArg (fun g => (.inl (eC E0 12, 4, gRs g) : va_E)) (funext fun x => ?_)
          by_cases e2 : x = i
          · subst e2
            simp
          · have e3 : ¬ x = (i : Int).toNat := by omega
            have e4 : (x < i + 1) = (x < i) := propext (by omega)
            simp only [if_neg e3, e4]
        · have e9 : wU (fun j => if j < 2 + 42 * i then wU (Wh E0 B i) (2 + 42 * i) (.inr (3, gD3)) j else Wi E0 B (87 + 42 * i) (j - (2 + 42 * i))) 1 (.inl (eC E 12, 4, gRs (fun x => if x = (i : Int).toNat then some (B + 85 + (2 + 42 * i)) else if x < i then some (B + 85 + (2 + 42 * x)) else none))) j = if j < 2 + 42 * i then wU (Wh E0 B i) (2 + 42 * i) (.inr (3, gD3)) j else Wi E0 B (87 + 42 * i) (j - (2 + 42 * i)) := if_neg e1
          refine e9.trans ?_
          by_cases e2 : j < 2 + 42 * i
          · rw [if_pos e2]
            unfold wU
            rw [if_neg (by omega)]
            unfold Wh
            simp only [if_neg e1]
          · rw [if_neg e2]
            unfold Wh
            rw [if_neg (by omega), if_neg e1]
            unfold Wi
            rw [show 87 + 42 * i + (j - (2 + 42 * i)) = 85 + j by omega]
      refine g_iinc C (k := 0) [(1, vI ((i : Int) + 1)), (0, .ref (B + 85))] hl rfl (by decide) rfl (gdec kX0_init 18 rfl) (fun ls hl => ?_)
      refine g_goto C (tgt := 14) (by decide) (gdec kX0_init 19 rfl) ?_
      refine W.widen (k := 1 + 42 * (i + 1)) (n := 4 + 311 * (i + 1)) (by omega) (by omega) ?_
      exact ih (i + 1) (by omega) hK H3 locs3 h4 hS3 ls hl
  refine g_aload_n C hl 0 rfl rfl (gdec kX0_init 0 rfl) ?_
  refine n_super C wM_X0_3 hl.1 (by decide) (gdec kX0_init 1 rfl) ?_
  refine g_aload_n C hl 0 rfl rfl (gdec kX0_init 2 rfl) ?_
  refine g_iconst C (gdec kX0_init 3 rfl) ?_
  refine n_anew C h hS wK_X0_9 (by decide +kernel) 1 12 rfl (n1 := 4) rfl (by decide) (by decide) (gdec kX0_init 4 rfl) (fun H h hS => ?_)
  refine n_putF C h hS hA (k := 0) (j := 0) (by decide) rfl (T := TX0) rfl 0 (by decide) wF_X0_11 rfl hin rfl (ty := tyX0 0) (by decide +kernel) rfl rfl (by simp) (gdec kX0_init 5 rfl) (fun H locs h hS => ?_)
  have h : cP E (B + 85) (2 + 42 * 0) (Wh E0 B 0) H := cP_eq h (fun j hj => by
    match j, hj with
    | 0, _ => rfl
    | 1, _ => show (.inl (eC E 12, _, _) : va_E) = _; rw [hC]; rfl)
  refine g_iconst C (gdec kX0_init 6 rfl) ?_
  refine g_istore_n C [(1, vI 0), (0, .ref (B + 85))] hl rfl (by decide) rfl (gdec kX0_init 7 rfl) (fun ls hl => ?_)
  refine L14 4 0 rfl (fun H locs h hS ls hl => ?_) H locs h hS ls hl
  have h : cP E0 (B + 85) 170 (Wi E0 B 85) H := by
    refine ⟨h.1, fun k q hk => ?_⟩
    obtain ⟨hl9, rfl⟩ := cL_in hk
    have h9 := h.2 k _ (cL_at hl9)
    rw [hD] at h9
    by_cases k0 : k = 0
    · subst k0; exact h9
    by_cases k1 : k = 1
    · subst k1
      refine va_at_arr (fun x hx => ?_) h9
      rw [if_pos hx]
      refine congrArg some ?_
      show _ = B + goff 3 (gI 12 0 x)
      have e : gI 12 0 (x : Int) = (x : Int) + 2 := rfl
      have e2 : goff 3 ((x : Int) + 2) = rst ((x : Int) + 2) + 0 := rfl
      rw [e, e2]
      unfold rst
      rw [if_neg (by omega)]
      omega
    · have e : Wh E0 B 4 k = Wi E0 B 85 k := by unfold Wh; rw [if_neg k0, if_neg k1]
      rw [e] at h9
      exact h9
  subst hQr
  exact W.vret C.1 C.2.1 C.2.2.1 (fun t ht hW => ⟨⟨(), rfl, trivial, by simpa only [ht] using h⟩, by have := hS.F ht; rw [hEf] at this; exact this⟩) (by have := hS.2.2; rw [hEf] at this; exact this) (gdec kX0_init 20 rfl) C.2.2.2.2.2.2.1
/-- the class's object while it is made, and what stands behind it -/
def Wk (E0 : gEnv) (B : Nat) (fs : List Value) : Nat → va_E := fun j => if j = 0 then .inr (7, fs) else Wi E0 B 0 j
theorem Wk_join {E E0 : gEnv} {B N M : Nat} {fs : List Value} {x : va_E} {H1 : Heap} (hN : 0 < N) (h : cP E B (N + M) (fun j => if j < N then wU (Wk E0 B fs) N x j else Wi E0 B N (j - N)) H1) : cP E B (N + M) (Wk E0 B fs) H1 := cP_eq h fun j hj => by
  by_cases h1 : j < N
  · rw [if_pos h1]
    unfold wU
    rw [if_neg (by omega)]
  · rw [if_neg h1]
    unfold Wk Wi
    rw [if_neg (by omega), show N + (j - N) = 0 + j by omega]
theorem Wk_set {E E0 : gEnv} {B N : Nat} {fs gs : List Value} {H1 : Heap} (h : cP E B N (wU (Wk E0 B fs) 0 (.inr (7, gs))) H1) : cP E B N (Wk E0 B gs) H1 := cP_eq h fun j hj => by
  unfold wU Wk
  by_cases h1 : j = 0
  · rw [if_pos h1, if_pos h1]
  · rw [if_neg h1, if_neg h1, if_neg h1]
set_option maxHeartbeats 4000000 in
set_option maxRecDepth 100000 in
theorem c_X7_init (l : Launch) (E0 : gEnv) (B : Nat) : Met l yX7_init (.code yX7_init cX7_init 1 none :: gWords) (gRm 6 360 256 1965) (va_Pc [.ref B] (fun U => gK (eH E0 B 0) U ∧ cP (eH E0 B 0) B 1 (fun _ => .inr (7, [.null, .null, .null, .null])) U.heap)) (va_Qv (fun _ : Unit => True) (fun _ t => cP E0 B 257 (Wi E0 B 0) t.heap) (fun q => B ≤ q)) 256 1965 (fun q => B ≤ q) := by
  refine n_met (E := eH E0 B 0) (by decide +kernel) (Nat.le_of_ble_eq_true rfl) rfl (fun s h => h.1) ?_
  intro p e s m below meth c C hin hp ls hl
  have h := hp.2
  obtain ⟨E, hE⟩ : ∃ E, E = eH E0 B 0 := ⟨_, rfl⟩
  rw [← hE] at C h
  have hD : eD E = eD E0 := by rw [hE]; rfl
  have hC : eC E = eC E0 := by rw [hE]; rfl
  have hEf : eF E = fun q => B ≤ q := by rw [hE]; rfl
  have hA : ∀ q, B ≤ q → eF E q := fun q z => by rw [hEf]; exact z
  have hS : va_S (eF E) s.heap s.heap [] := va_S.rf
  have C : gC p s m _ meth c RX7 cX7_init 1 none E := C
  have hl : lv_has ls 1 [(0, .ref B)] := hl
  obtain ⟨Qr, hQr⟩ : ∃ Q, Q = va_Qv (fun _ : Unit => True) (fun _ t => cP E0 B 257 (Wi E0 B 0) t.heap) (fun q => B ≤ q) := ⟨_, rfl⟩
  rw [← hQr]
  have h : cP E B 1 (Wk E0 B [.null, .null, .null, .null]) s.heap := cP_eq h (fun j hj => by
    have : j = 0 := by omega
    subst this
    rfl)
  refine g_aload_n C hl 0 rfl rfl (gdec kX7_init 0 rfl) ?_
  refine n_super C wM_X7_3 hl.1 (by decide) (gdec kX7_init 1 rfl) ?_
  refine g_aload_n C hl 0 rfl rfl (gdec kX7_init 2 rfl) ?_
  refine n_new C h hS (k := 3) (T := TX3) (ty := tyX3) rfl tyX3_ok (fs := gD3) (by decide +kernel) wK_X7_9 wB_X3 wN_X3 (by decide) (gdec kX7_init 3 rfl) (fun H h hS => ?_)
  refine g_dup C rfl (gdec kX7_init 4 rfl) ?_
  refine n_init C hS (c_X3_init l E0 0 (B + 1) _ (r_restart gZ _)) gK_blind (n_roadZ C hD hC hS h rfl hA _) wM_X7_11 wI_X3_init wN_X3 wC_X3_init rfl ny_X3_init (by decide) hl.1 (Nat.le_of_ble_eq_true rfl) (fun q z => hA q (by omega)) (gdec kX7_init 5 rfl) (by decide) (fun u t H2 locs ht _ hB hz2 hk2 hS => ?_)
  have hB2 : gP (eR E0 0 (B + 1)) (rsG gZ 0) H2 ∧ H2.size = B + 1 + 42 := by rw [← ht]; exact hB
  have h := Wk_join (by decide) (cP_join (E1 := E0) h hk2 hD.symm (cP_road (B := B) (by decide) (c := 1) (by decide) rfl hB2))
  clear hB hB2 ht hk2 hz2
  refine n_putF C h hS hA (k := 7) (j := 0) (by decide) rfl (T := TX7) rfl 0 (by decide) wF_X7_12 rfl hin rfl (ty := tyX7 0) (by decide +kernel) rfl rfl (by simp) (gdec kX7_init 6 rfl) (fun H locs h hS => ?_)
  have h := Wk_set h
  refine g_aload_n C hl 0 rfl rfl (gdec kX7_init 7 rfl) ?_
  refine n_new C h hS (k := 3) (T := TX3) (ty := tyX3) rfl tyX3_ok (fs := gD3) (by decide +kernel) wK_X7_9 wB_X3 wN_X3 (by decide) (gdec kX7_init 8 rfl) (fun H h hS => ?_)
  refine g_dup C rfl (gdec kX7_init 9 rfl) ?_
  refine n_init C hS (c_X3_init l E0 1 (B + 43) _ (r_restart gZ _)) gK_blind (n_roadZ C hD hC hS h rfl hA _) wM_X7_11 wI_X3_init wN_X3 wC_X3_init rfl ny_X3_init (by decide) hl.1 (Nat.le_of_ble_eq_true rfl) (fun q z => hA q (by omega)) (gdec kX7_init 10 rfl) (by decide) (fun u t H2 locs ht _ hB hz2 hk2 hS => ?_)
  have hB2 : gP (eR E0 1 (B + 43)) (rsG gZ 1) H2 ∧ H2.size = B + 43 + 42 := by rw [← ht]; exact hB
  have h := Wk_join (by decide) (cP_join (E1 := E0) h hk2 hD.symm (cP_road (B := B) (by decide) (c := 43) (by decide) rfl hB2))
  clear hB hB2 ht hk2 hz2
  refine n_putF C h hS hA (k := 7) (j := 0) (by decide) rfl (T := TX7) rfl 1 (by decide) wF_X7_16 rfl hin rfl (ty := tyX7 1) (by decide +kernel) rfl rfl (by simp) (gdec kX7_init 11 rfl) (fun H locs h hS => ?_)
  have h := Wk_set h
  refine g_aload_n C hl 0 rfl rfl (gdec kX7_init 12 rfl) ?_
  refine n_new C h hS (k := 0) (T := TX0) (ty := tyX0) rfl tyX0_ok (fs := [.null, .int 0]) (by decide +kernel) wK_X7_19 wB_X0 wN_X0 (by decide) (gdec kX7_init 13 rfl) (fun H h hS => ?_)
  refine g_dup C rfl (gdec kX7_init 14 rfl) ?_
  refine n_init C hS (c_X0_init l E0 B) gK_blind (fun U hU hW => ⟨gK_narrow (gK_nx C.2.2.2.2.2.2.2 hS hU hW) hD.symm hC.symm (eH_dis E0 B 85) (fun q z => hA q (Nat.le_trans (Nat.le_add_right _ _) z)) (fun q z => by rw [hU, h.1] at z; show B + 85 ≤ q; omega), by rw [hU]; exact cP_tail h hD.symm rfl⟩) wM_X7_21 wI_X0_init wN_X0 wC_X0_init rfl ny_X0_init (by decide) hl.1 (Nat.le_of_ble_eq_true rfl) (fun q z => hA q (by omega)) (gdec kX7_init 15 rfl) (by decide) (fun u t H2 locs ht _ hB hz2 hk2 hS => ?_)
  have hB2 : cP E0 (B + 85) 170 (Wi E0 B 85) H2 := by rw [← ht]; exact hB
  have h := Wk_join (by decide) (cP_join (E1 := E0) h hk2 hD.symm hB2)
  clear hB hB2 ht hk2 hz2
  refine n_putF C h hS hA (k := 7) (j := 0) (by decide) rfl (T := TX7) rfl 2 (by decide) wF_X7_22 rfl hin rfl (ty := tyX7 2) (by decide +kernel) rfl rfl (by simp) (gdec kX7_init 16 rfl) (fun H locs h hS => ?_)
  have h := Wk_set h
  refine g_aload_n C hl 0 rfl rfl (gdec kX7_init 17 rfl) ?_
  refine n_new C h hS (k := 4) (T := TX4) (ty := tyX4) rfl tyX4_ok (fs := [.null, .int 0, .int 0]) (by decide +kernel) wK_X7_26 wB_X4 wN_X4 (by decide) (gdec kX7_init 18 rfl) (fun H h hS => ?_)
  refine g_dup C rfl (gdec kX7_init 19 rfl) ?_
  refine n_initM C hS (c_X4_init l E0 B) gK_blind (fun U hU hW => ⟨gK_narrow (gK_nx C.2.2.2.2.2.2.2 hS hU hW) hD.symm hC.symm (eH_dis E0 B 255) (fun q z => hA q (Nat.le_trans (Nat.le_add_right _ _) z)) (fun q z => by rw [hU, h.1] at z; show B + 255 ≤ q; omega), by rw [hU]; exact cP_tail h hD.symm rfl⟩) wNest_X7_28 wI_X4_init wN_X4 wC_X4_init rfl ny_X4_init (by decide) hl.1 (Nat.le_of_ble_eq_true rfl) (fun q z => hA q (by omega)) (gdec kX7_init 20 rfl) (by decide) (fun u t H2 locs ht _ hB hz2 hk2 hS => ?_)
  have hB2 : cP E0 (B + 255) 2 (Wi E0 B 255) H2 := by rw [← ht]; exact hB
  have h := Wk_join (by decide) (cP_join (E1 := E0) h hk2 hD.symm hB2)
  clear hB hB2 ht hk2 hz2
  refine n_putF C h hS hA (k := 7) (j := 0) (by decide) rfl (T := TX7) rfl 3 (by decide) wF_X7_29 rfl hin rfl (ty := tyX7 3) (by decide +kernel) rfl rfl (by simp) (gdec kX7_init 21 rfl) (fun H locs h hS => ?_)
  have h := Wk_set h
  have h : cP E0 B 257 (Wi E0 B 0) H := by
    have h2 : cP E B 257 (Wi E0 B 0) H := cP_eq h (fun j hj => by
      unfold Wk
      by_cases j0 : j = 0
      · subst j0; rfl
      · rw [if_neg j0])
    refine ⟨h2.1, ?_⟩
    rw [← hD]
    exact h2.2
  subst hQr
  exact W.vret C.1 C.2.1 C.2.2.1 (fun t ht hW => ⟨⟨(), rfl, trivial, by simpa only [ht] using h⟩, by have := hS.F ht; rw [hEf] at this; exact this⟩) (by have := hS.2.2; rw [hEf] at this; exact this) (gdec kX7_init 22 rfl) C.2.2.2.2.2.2.1

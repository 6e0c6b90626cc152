/-! THE WORLD: every object and array of the run, at fixed addresses; all that they hold is one function of kind, number and place -/
abbrev GS : Type := Nat → Int → Int → Int
def gup (G : GS) (k : Nat) (o f v : Int) : GS := fun k1 o1 f1 => if k1 = k ∧ o1 = o ∧ f1 = f then v else G k1 o1 f1
abbrev vI (z : Int) : Value := .int (Int32.ofInt z)
abbrev vJ (z : Int) : Value := .long (Int64.ofInt z)
abbrev inR (z : Int) : Prop := -2147483648 ≤ z ∧ z ≤ 2147483647
/-- the classes' numbers and slots, the array classes by kind, the addresses, the cells that may change, what is there -/
abbrev gEnv : Type := va_G × (Nat → ClassId) × (Nat → Int → Nat) × (Nat → Prop) × List (Nat × Int) × va_W
abbrev eD (E : gEnv) : va_G := E.1
abbrev eC (E : gEnv) : Nat → ClassId := E.2.1
abbrev eA (E : gEnv) : Nat → Int → Nat := E.2.2.1
abbrev eF (E : gEnv) : Nat → Prop := E.2.2.2.1
abbrev eL (E : gEnv) : List (Nat × Int) := E.2.2.2.2.1
/-- other cells, kept as they are -/
abbrev eZ (E : gEnv) : va_W := E.2.2.2.2.2
/-- how many of each kind -/
def gCt (k : Nat) : Nat := match k with
  | 1 => 48
  | 2 => 72
  | 3 => 6
  | 5 => 42
  | 6 => 60
  | 10 => 5
  | 14 => 6
  | 15 => 6
  | 16 => 6
  | 17 => 6
  | _ => 1
/-- how many fields -/
def gN (k : Nat) : Nat := match k with
  | 0 => 2
  | 1 => 3
  | 2 => 8
  | 3 => 13
  | 4 => 3
  | 5 => 3
  | 6 => 12
  | 7 => 4
  | _ => 11
def gLen (o : Int) : Nat := if o = 0 then 260 else if o = 1 then 1040 else if o = 2 then 260 else if o = 3 then 90 else 14
/-- the fields that hold a reference, and to what -/
def gRef (k : Nat) (o : Int) (f : Nat) : Option (Nat × Int) := match k, f with
  | 0, 0 => some (12, 0)
  | 3, 0 => some (14, o)
  | 3, 1 => some (15, o)
  | 3, 2 => some (16, o)
  | 3, 3 => some (17, o)
  | 4, 0 => some (9, 0)
  | 7, 0 => some (3, 0)
  | 7, 1 => some (3, 1)
  | 7, 2 => some (0, 0)
  | 7, 3 => some (4, 0)
  | 8, 0 => some (10, 0)
  | 8, 1 => some (10, 1)
  | 8, 2 => some (10, 2)
  | 8, 5 => some (11, 0)
  | 8, 6 => some (10, 3)
  | 8, 9 => some (10, 4)
  | _, _ => none
def gFld (E : gEnv) (G : GS) (k : Nat) (o : Int) (f : Nat) : Value := match gRef k o f with
  | some t => .ref (eA E t.1 t.2)
  | none => vI (G k o f)
abbrev gRs (f : Nat → Option Nat) : (Nat → Int32) ⊕ (Nat → Int64) ⊕ (Nat → UInt32) ⊕ (Nat → UInt64) ⊕ (Nat → Option Nat) := .inr (.inr (.inr (.inr f)))
def gCell (E : gEnv) (G : GS) (k : Nat) (o : Int) : va_E := match k with
  | 9 => .inl (eC E 9, 90, .inl (fun j => Int32.ofInt (G 9 o j)))
  | 10 => .inl (eC E 10, gLen o, .inl (fun j => Int32.ofInt (G 10 o j)))
  | 11 => .inl (eC E 11, 12, .inl (fun j => Int32.ofInt (G 11 o j)))
  | 12 => .inl (eC E 12, 4, gRs (fun j => some (eA E 3 (G 12 o j))))
  | 13 => .inl (eC E 13, 1, .inr (.inl (fun j => Int64.ofInt (G 13 o j))))
  | 14 => .inl (eC E 14, 7, gRs (fun j => some (eA E 5 (7 * o + j))))
  | 15 => .inl (eC E 15, 8, gRs (fun j => some (eA E 1 (8 * o + j))))
  | 16 => .inl (eC E 16, 10, gRs (fun j => some (eA E 6 (10 * o + j))))
  | 17 => .inl (eC E 17, 12, gRs (fun j => some (eA E 2 (12 * o + j))))
  | k => .inr (k, (List.range (gN k)).map (gFld E G k o))
/-- it is there -/
def gOk (E : gEnv) (k : Nat) (o : Int) : Prop := (k, o) ∈ eL E
/-- what is there holds what is there -/
def gClo (E : gEnv) : Prop := (∀ r, gOk E 3 r → gOk E 14 r ∧ gOk E 15 r ∧ gOk E 16 r ∧ gOk E 17 r) ∧ (∀ r i, gOk E 14 r → 0 ≤ i ∧ i < 7 → gOk E 5 (7 * r + i)) ∧ (∀ r i, gOk E 15 r → 0 ≤ i ∧ i < 8 → gOk E 1 (8 * r + i)) ∧ (∀ r i, gOk E 16 r → 0 ≤ i ∧ i < 10 → gOk E 6 (10 * r + i)) ∧ (∀ r i, gOk E 17 r → 0 ≤ i ∧ i < 12 → gOk E 2 (12 * r + i)) ∧ (gOk E 7 0 → gOk E 3 0 ∧ gOk E 3 1 ∧ gOk E 0 0 ∧ gOk E 4 0) ∧ (gOk E 0 0 → gOk E 12 0) ∧ (gOk E 12 0 → ∀ z, 0 ≤ z ∧ z < 6 → gOk E 3 z) ∧ (gOk E 4 0 → gOk E 9 0)
def wo (E : gEnv) (G : GS) : va_W := (eL E).map (fun q => (eA E q.1 q.2, gCell E G q.1 q.2))
def wl (E : gEnv) (G : GS) : va_W := wo E G ++ eZ E
def gP (E : gEnv) (G : GS) (H : Heap) : Prop := va_P (eD E) vwCl (wl E G) H
/-- the addresses are apart, and cells that may change -/
def gDiZ (E : gEnv) : Prop := (∀ (i j : Nat) (p q : Nat × va_E), (eZ E)[i]? = some p → (eZ E)[j]? = some q → p.1 = q.1 → i = j) ∧ (∀ a ∈ eL E, ∀ q ∈ eZ E, eA E a.1 a.2 ≠ q.1) ∧ ∀ q ∈ eZ E, eF E q.1
theorem gDiZ_nil {E : gEnv} (h : eZ E = []) : gDiZ E := by
  unfold gDiZ
  rw [h]
  exact ⟨fun i j p q hi => absurd hi (by simp), fun a _ q hq => absurd hq List.not_mem_nil, fun q hq => absurd hq List.not_mem_nil⟩
def gDis (E : gEnv) : Prop := ((∀ (i j : Nat) (p q : Nat × Int), (eL E)[i]? = some p → (eL E)[j]? = some q → eA E p.1 p.2 = eA E q.1 q.2 → i = j) ∧ gDiZ E) ∧ (∀ p ∈ eL E, eF E (eA E p.1 p.2)) ∧ (eL E).Nodup ∧ gClo E
theorem wl_in {E : gEnv} {G : GS} {k : Nat} {q : Nat × va_E} (hk : (wl E G)[k]? = some q) : (k < (eL E).length ∧ ∃ p, (eL E)[k]? = some p ∧ q.1 = eA E p.1 p.2) ∨ ((eL E).length ≤ k ∧ (eZ E)[k - (eL E).length]? = some q) := by
  unfold wl at hk
  have hl : (wo E G).length = (eL E).length := by unfold wo; rw [List.length_map]
  by_cases h : k < (eL E).length
  · rw [List.getElem?_append_left (by rw [hl]; exact h)] at hk
    unfold wo at hk
    rw [List.getElem?_map] at hk
    refine Or.inl ⟨h, ?_⟩
    cases hp : (eL E)[k]? with
    | none => rw [hp] at hk; cases hk
    | some p => rw [hp] at hk; cases hk; exact ⟨p, rfl, rfl⟩
  · rw [List.getElem?_append_right (by rw [hl]; omega), hl] at hk
    exact Or.inr ⟨by omega, hk⟩
theorem gD_of {E : gEnv} (G : GS) (h : gDis E) : va_D (eF E) (wl E G) := by
  obtain ⟨⟨h1, h2, h3, h4⟩, h5, -⟩ := h
  refine ⟨fun i j p q hi hj hpq => ?_, fun k q hk => ?_⟩
  · rcases wl_in hi with ⟨li, a, ha, ea⟩ | ⟨li, ha⟩ <;> rcases wl_in hj with ⟨lj, b, hb, eb⟩ | ⟨lj, hb⟩
    · exact h1 i j a b ha hb (by rw [← ea, ← eb]; exact hpq)
    · exact absurd (ea.symm.trans hpq) (h3 a (List.mem_of_getElem? ha) q (List.mem_of_getElem? hb))
    · exact absurd (eb.symm.trans hpq.symm) (h3 b (List.mem_of_getElem? hb) p (List.mem_of_getElem? ha))
    · have := h2 _ _ _ _ ha hb hpq
      omega
  · rcases wl_in hk with ⟨-, a, ha, ea⟩ | ⟨-, ha⟩
    · rw [ea]
      exact h5 a (List.mem_of_getElem? ha)
    · exact h4 q (List.mem_of_getElem? ha)
theorem wl_at (E : gEnv) (G : GS) {k : Nat} {o : Int} (h : gOk E k o) : ∃ q0 : Nat, (eL E)[q0]? = some (k, o) ∧ (wl E G)[q0]? = some (eA E k o, gCell E G k o) := by
  obtain ⟨q0, h0⟩ := List.getElem?_of_mem h
  refine ⟨q0, h0, ?_⟩
  have hl := (List.getElem?_eq_some_iff.mp h0).1
  unfold wl
  rw [List.getElem?_append_left (by unfold wo; rw [List.length_map]; exact hl)]
  unfold wo
  rw [List.getElem?_map, h0]
  rfl
theorem wo_set {E : gEnv} {G G1 : GS} {k q0 : Nat} {o : Int} (hnd : (eL E).Nodup) (hq : (eL E)[q0]? = some (k, o)) {x : va_E} (hx : gCell E G1 k o = x) (hne : ∀ (k' : Nat) (o' : Int), (k', o') ≠ (k, o) → gCell E G1 k' o' = gCell E G k' o') : (wo E G).set q0 (eA E k o, x) = wo E G1 := by
  subst hx
  have hl := (List.getElem?_eq_some_iff.mp hq).1
  refine List.ext_getElem? fun i => ?_
  unfold wo
  rw [List.getElem?_set]
  by_cases hi : q0 = i
  · subst hi
    rw [if_pos rfl, if_pos (by rw [List.length_map]; exact hl), List.getElem?_map, hq]
    rfl
  · rw [if_neg hi, List.getElem?_map, List.getElem?_map]
    cases hg : (eL E)[i]? with
    | none => rfl
    | some p =>
      have hp : (p.1, p.2) ≠ (k, o) := fun e => hi ((List.getElem?_inj hl hnd).mp (hq.trans (by rw [hg, ← e])))
      show some (eA E p.1 p.2, gCell E G p.1 p.2) = some (eA E p.1 p.2, gCell E G1 p.1 p.2)
      rw [hne _ _ hp]
theorem wl_set {E : gEnv} {G G1 : GS} {k q0 : Nat} {o : Int} (hnd : (eL E).Nodup) (hq : (eL E)[q0]? = some (k, o)) {x : va_E} (hx : gCell E G1 k o = x) (hne : ∀ (k' : Nat) (o' : Int), (k', o') ≠ (k, o) → gCell E G1 k' o' = gCell E G k' o') : (wl E G).set q0 (eA E k o, x) = wl E G1 := by
  have hl := (List.getElem?_eq_some_iff.mp hq).1
  unfold wl
  rw [List.set_append_left _ _ (by unfold wo; rw [List.length_map]; exact hl), wo_set hnd hq hx hne]
theorem gCell_congr {E : gEnv} {G G1 : GS} {k : Nat} {o : Int} (h : ∀ f, G1 k o f = G k o f) : gCell E G1 k o = gCell E G k o := by
  unfold gCell
  split <;> simp [h, gFld]
theorem gup_ne {G : GS} {k k' : Nat} {o o' f v : Int} (h : (k', o') ≠ (k, o)) (f' : Int) : gup G k o f v k' o' f' = G k' o' f' := by
  unfold gup
  rw [if_neg]
  rintro ⟨rfl, rfl, -⟩
  exact h rfl
theorem gup_same {G : GS} {k : Nat} {o f v : Int} : gup G k o f v k o f = v := by
  unfold gup
  rw [if_pos ⟨rfl, rfl, rfl⟩]
theorem gup_nf {G : GS} {k : Nat} {o f f' v : Int} (h : f' ≠ f) : gup G k o f v k o f' = G k o f' := by
  unfold gup
  rw [if_neg fun e => h e.2.2]
theorem gCell_put {E : gEnv} {G : GS} {k : Nat} {o : Int} {f : Nat} {v : Int} (hk : k < 9) (hr : gRef k o f = none) : gCell E (gup G k o f v) k o = .inr (k, ((List.range (gN k)).map (gFld E G k o)).set f (vI v)) := by
  have e1 : ∀ G1 : GS, gCell E G1 k o = .inr (k, (List.range (gN k)).map (gFld E G1 k o)) := by
    intro G1
    match k, hk with
    | 0, _ => rfl
    | 1, _ => rfl
    | 2, _ => rfl
    | 3, _ => rfl
    | 4, _ => rfl
    | 5, _ => rfl
    | 6, _ => rfl
    | 7, _ => rfl
    | 8, _ => rfl
  rw [e1]
  congr 2
  refine List.ext_getElem? fun i => ?_
  rw [List.getElem?_set, List.getElem?_map, List.getElem?_map]
  by_cases hi : f = i
  · subst hi
    rw [if_pos rfl, List.length_map, List.length_range]
    by_cases hf : f < gN k
    · rw [if_pos hf, List.getElem?_range hf]
      show some (gFld E _ k o f) = some (vI v)
      unfold gFld
      rw [hr]
      show some (vI (gup G k o f v k o f)) = _
      rw [gup_same]
    · rw [if_neg hf, List.getElem?_eq_none (by rw [List.length_range]; omega)]
      rfl
  · rw [if_neg hi]
    cases hx : (List.range (gN k))[i]? with
    | none => rfl
    | some j =>
      have hj : j = i := by
        obtain ⟨hl, he⟩ := List.getElem?_eq_some_iff.mp hx
        rw [List.getElem_range] at he
        exact he.symm
      subst hj
      show some (gFld E _ k o j) = some (gFld E G k o j)
      unfold gFld
      cases gRef k o j with
      | some t => rfl
      | none =>
        show some (vI (gup G k o f v k o j)) = some (vI (G k o j))
        rw [gup_nf (by omega)]
theorem gUp_arr {α : Type} {w : Int → α} {G : GS} {k : Nat} {o i v : Int} (h0 : 0 ≤ i) : (fun j : Nat => w (gup G k o i v k o j)) = (fun j : Nat => if j = i.toNat then w v else w (G k o j)) := by
  funext j
  by_cases h : j = i.toNat
  · rw [if_pos h]
    have : (j : Int) = i := by omega
    rw [this, gup_same]
  · rw [if_neg h, gup_nf (by omega)]
-- what never changes behind the heap: the tables' words, the links between nest mates, the constants
def gFace : List Cond := lw_tbl.filter fun w => w.onTables && w.keepsFace
def gNest : List (String × Nat × MethodName × String) := [(RX3, 35, yX5_init, RX7), (RX3, 36, yX1_init, RX7), (RX3, 37, yX6_init, RX7), (RX3, 38, yX2_init, RX7), (RX7, 28, yX4_init, RX7), (RX3, 212, yX7_nextInn, RX7), (RX3, 219, yX7_stageBetween, RX7), (RX6, 53, yX7_stageBetween, RX7), (RX6, 65, yX7_oneIf, RX7), (RX2, 44, yX7_oneIf, RX7), (RX3, 286, yX7_oneIf, RX7)]
def gAO : List String := [RX5, RX1, RX6, RX2, RX3]
def gTys (E : gEnv) : List (ClassId × FieldType) := [(eC E 9, .byte), (eC E 12, .object RX3), (eC E 14, .object RX5), (eC E 15, .object RX1), (eC E 16, .object RX6), (eC E 17, .object RX2)]
def gX (_ : Nat → Prop) (U : State) : Prop := (∀ w ∈ gFace, w.before #[] U = true) ∧ (∀ q ∈ gNest, va_Nw (.methodLinkNest q.1 q.2.1 q.2.2.1 q.2.2.2) U) ∧ ∀ c ∈ gAO, va_AO c U
theorem gX.next {A : Nat → Prop} {s U : State} (h : gX A s) (hW : s.WarmedH U.vm) : gX A U := by
  obtain ⟨h1, h2, h7⟩ := h
  refine ⟨fun w hw => ?_, fun q hq => va_Nw.warmM hW (h2 q hq), fun c hc => (h7 c hc).moved hW.alike⟩
  have hb := (List.mem_filter.mp hw).2
  simp only [Bool.and_eq_true] at hb
  exact va_tabs hb.1 (rfl : (s.setVm U.vm).vm = U.vm) (Cond.rides hW.wide hb.2 (h1 w hw))
def gK (E : gEnv) (U : State) : Prop := va_K (eD E) vwCl (gTys E) U ∧ gDis E ∧ (∀ q, U.heap.size ≤ q → eF E q) ∧ gX (eF E) U
theorem gK.next {E : gEnv} {s U : State} (h : gK E s) (hW : s.WarmedH U.vm) (hs : s.heap.size ≤ U.heap.size) (_ : ∀ q : Nat, q < s.heap.size → ¬ eF E q → U.heap[q]? = s.heap[q]?) : gK E U :=
  ⟨va_K.moved hW.alike h.1, h.2.1, fun q hq => h.2.2.1 q (Nat.le_trans hs hq), h.2.2.2.next hW⟩
def gW (E : gEnv) (G : GS) (U : State) : Prop := gP E G U.heap ∧ gK E U
/-- what holds all through a walk -/
def gC (p : Program) (s : State) (m : MethodId) (args : Array Value) (meth : Method) (c : Code) (own : String) (cc : ByteArray) (nL : Nat) (ret : Option FieldType) (E : gEnv) : Prop :=
  p.tables.exec = Jvm.exec ∧ c.code = cc ∧ meth.sig.returnType = ret ∧ c.maxLocals = nL ∧ s.vm.findClass own = some m.cls ∧ (∀ w ∈ gWords, w.before args s = true) ∧ meth.locks = false ∧ gK E s
/-- what holds at a point of it -/
def gH (E : gEnv) (s : State) (G : GS) (H : Heap) (locs : List Loc) : Prop := gP E G H ∧ va_S (eF E) s.heap H locs

/-! TWO ROADS IN ONE HEAP: the first at the address B, the second behind it; each one's world keeps the other's cells as they are -/
def e1 (E : gEnv) (A b : Nat) (Wz : va_W) : gEnv := (eD E, eC E, fun k o => b + goff k o, fun q => A ≤ q, gL, Wz)
def w1 (E : gEnv) (b : Nat) (G : GS) : va_W := wo (e1 E 0 b []) G
abbrev eo (E : gEnv) (B : Nat) (F : GS) : gEnv := e1 E B B (w1 E (B + 257) F)
abbrev ep (E : gEnv) (B : Nat) (G : GS) : gEnv := e1 E B (B + 257) (w1 E B G)
theorem va_P_mem {D : va_G} {ws : va_W} {H : Heap} : va_P D vwCl ws H ↔ ∀ q ∈ ws, va_at D vwCl q H := by
  refine ⟨fun h q hq => ?_, fun h k q hk => h q (List.mem_of_getElem? hk)⟩
  obtain ⟨k, hk⟩ := List.getElem?_of_mem hq
  exact h k q hk
theorem gP_two {E : gEnv} {B : Nat} {G F : GS} {H : Heap} : gP (eo E B F) G H ↔ gP (ep E B G) F H := by
  show va_P (eD E) vwCl (w1 E B G ++ w1 E (B + 257) F) H ↔ va_P (eD E) vwCl (w1 E (B + 257) F ++ w1 E B G) H
  rw [va_P_mem, va_P_mem]
  constructor
  · intro h q hq
    exact h q (List.mem_append.mpr (List.mem_append.mp hq).symm)
  · intro h q hq
    exact h q (List.mem_append.mpr (List.mem_append.mp hq).symm)
theorem g_sw {E : gEnv} {B : Nat} {G F : GS} {s : State} {H : Heap} {locs : List Loc} (h : gH (eo E B F) s G H locs) : gH (ep E B G) s F H locs := ⟨gP_two.mp h.1, h.2⟩
theorem g_ws {E : gEnv} {B : Nat} {G F : GS} {s : State} {H : Heap} {locs : List Loc} (h : gH (ep E B G) s F H locs) : gH (eo E B F) s G H locs := ⟨gP_two.mpr h.1, h.2⟩
theorem goff_lt {q : Nat × Int} (h : q ∈ gL) : goff q.1 q.2 < 257 := by
  obtain ⟨j, hj, rfl⟩ := gL_at h
  rw [goff_gid j hj]
  exact hj
theorem w1_at {E : gEnv} {b k : Nat} {G : GS} {p : Nat × va_E} (h : (w1 E b G)[k]? = some p) : k < 257 ∧ p.1 = b + k := by
  unfold w1 wo at h
  rw [List.getElem?_map] at h
  cases hq : (eL (e1 E 0 b []))[k]? with
  | none => rw [hq] at h; cases h
  | some q =>
    rw [hq] at h
    cases h
    obtain ⟨li, rfl⟩ := range_at hq
    exact ⟨li, congrArg (b + ·) (goff_gid k li)⟩
theorem e1_dis (E : gEnv) {A b b2 : Nat} (h1 : A ≤ b) (h2 : A ≤ b2) (h3 : b + 257 ≤ b2 ∨ b2 + 257 ≤ b) (F : GS) : gDis (e1 E A b (w1 E b2 F)) := by
  refine ⟨⟨fun i j p q hi hj e => ?_, fun i j p q hi hj e => ?_, fun a ha q hq e => ?_, fun q hq => ?_⟩, fun p _ => Nat.le_trans h1 (Nat.le_add_right _ _), map_nodup (g := fun q => goff q.1 q.2) goff_gid, eG_clo E 0⟩
  · obtain ⟨li, rfl⟩ := range_at hi
    obtain ⟨lj, rfl⟩ := range_at hj
    have e2 : b + goff (gid i).1 (gid i).2 = b + goff (gid j).1 (gid j).2 := e
    rw [goff_gid i li, goff_gid j lj] at e2
    omega
  · have a1 := w1_at hi
    have a2 := w1_at hj
    omega
  · have a1 := goff_lt ha
    obtain ⟨k, hk⟩ := List.getElem?_of_mem hq
    have a2 := w1_at hk
    have e2 : b + goff a.1 a.2 = q.1 := e
    omega
  · obtain ⟨k, hk⟩ := List.getElem?_of_mem hq
    have a2 := w1_at hk
    show A ≤ q.1
    omega
theorem gK_two {E1 E2 : gEnv} {U : State} (h : gK E1 U) (hD : eD E2 = eD E1) (hC : eC E2 = eC E1) (hF : eF E2 = eF E1) (hd : gDis E2) : gK E2 U := by
  have ht : gTys E2 = gTys E1 := by unfold gTys; rw [hC]
  refine ⟨by rw [hD, ht]; exact h.1, hd, fun q hq => by rw [hF]; exact h.2.2.1 q hq, ?_⟩
  exact h.2.2.2
theorem eo_dis (E : gEnv) (B : Nat) (F : GS) : gDis (eo E B F) := e1_dis E (Nat.le_refl _) (Nat.le_add_right _ _) (Or.inl (Nat.le_refl _)) F
theorem ep_dis (E : gEnv) (B : Nat) (G : GS) : gDis (ep E B G) := e1_dis E (Nat.le_add_right _ _) (Nat.le_refl _) (Or.inr (Nat.le_refl _)) G
theorem gC_o {p : Program} {s : State} {m : MethodId} {args : Array Value} {meth : Method} {c : Code} {own : String} {cc : ByteArray} {nL : Nat} {ret : Option FieldType} {E : gEnv} {B : Nat} {F : GS} (C : gC p s m args meth c own cc nL ret (eo E B F)) (F' : GS) : gC p s m args meth c own cc nL ret (eo E B F') :=
  ⟨C.1, C.2.1, C.2.2.1, C.2.2.2.1, C.2.2.2.2.1, C.2.2.2.2.2.1, C.2.2.2.2.2.2.1, gK_two C.2.2.2.2.2.2.2 rfl rfl rfl (eo_dis E B F')⟩
theorem gC_p {p : Program} {s : State} {m : MethodId} {args : Array Value} {meth : Method} {c : Code} {own : String} {cc : ByteArray} {nL : Nat} {ret : Option FieldType} {E : gEnv} {B : Nat} {F : GS} (C : gC p s m args meth c own cc nL ret (eo E B F)) (G' : GS) : gC p s m args meth c own cc nL ret (ep E B G') :=
  ⟨C.1, C.2.1, C.2.2.1, C.2.2.2.1, C.2.2.2.2.1, C.2.2.2.2.2.1, C.2.2.2.2.2.2.1, gK_two C.2.2.2.2.2.2.2 rfl rfl rfl (ep_dis E B G')⟩
theorem gL_7 : (7, (0 : Int)) ∈ gL := List.mem_map.mpr ⟨0, List.mem_range.mpr (by decide), by decide +kernel⟩
abbrev rO (B : Nat) : Value := .ref (B + goff 7 0)
abbrev rP (B : Nat) : Value := .ref (B + 257 + goff 7 0)
theorem ok_o {E : gEnv} {B : Nat} {F : GS} : gOk (eo E B F) 7 0 := gL_7
theorem ok_p {E : gEnv} {B : Nat} {G : GS} : gOk (ep E B G) 7 0 := gL_7
/-- a call that doesn't throw -/
def bxr {β : Type} (m : Option (Int × Int)) (k : Int → Option β) : Option β := match m with
  | some (x, r) => if x = 0 then k r else none
  | none => none
def bxw {β : Type} (m : Option (GS × (Int × Int))) (k : GS → Int → Option β) : Option β := match m with
  | some (g, (x, r)) => if x = 0 then k g r else none
  | none => none
theorem bxr_s {β : Type} {m : Option (Int × Int)} {k : Int → Option β} {r : β} (h : bxr m k = some r) : ∃ v, m = some (0, v) ∧ k v = some r := by
  unfold bxr at h
  split at h
  · rename_i x v
    split at h
    · rename_i hx
      exact ⟨v, by rw [hx], h⟩
    · cases h
  · cases h
theorem bxw_s {β : Type} {m : Option (GS × (Int × Int))} {k : GS → Int → Option β} {r : β} (h : bxw m k = some r) : ∃ g v, m = some (g, (0, v)) ∧ k g v = some r := by
  unfold bxw at h
  split at h
  · rename_i g x v
    split at h
    · rename_i hx
      exact ⟨g, v, by rw [hx], h⟩
    · cases h
  · cases h
def gq {α : Type} (z : Int) (k : Option α) : Option α := if 0 < z ∧ z ≤ 2147483647 then k else none
theorem gq_s {α : Type} {z : Int} {k : Option α} {r : α} (h : gq z k = some r) : (0 < z ∧ z ≤ 2147483647) ∧ k = some r := by
  unfold gq at h
  split at h
  · exact ⟨by assumption, h⟩
  · cases h
/-- the doubles are equal -/
def gdq (a b : UInt64) : Prop := FP.dcmp a b = some .eq
theorem dcmp_op {x y : UInt64} {op : CmpOp} (hx : FP.dcmp x y = some .eq) : Op.cmpValue (FP.dcmp x y) op = Int32.ofInt 0 := by
  rw [hx]
  rfl

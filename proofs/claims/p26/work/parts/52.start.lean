/-! FROM THE ENTRY -/
theorem st_prim {s : State} {A : Array Value} {ty : FieldType} (hne : ∀ C, ty ≠ .object C) (h : (Cond.arrayClass ty).before A s = true) : ∃ cA, ArrOfT s cA ty ∧ va_RA s cA ty := by
  obtain ⟨cA, kA, comp, h1, h2, h3⟩ := Cond.arrayClass_spec h
  refine ⟨cA, fun n z => ⟨fun k h => (by cases h), kA, h2, comp, h3⟩, ?_⟩
  cases ty with
  | object C => exact absurd rfl (hne C)
  | _ => exact h1
theorem st_obj {s : State} {A : Array Value} {n : String} (h : (Cond.arrayOver (.object n)).before A s = true) : ∃ cA, ArrOfT s cA (.object n) ∧ va_RA s cA (.object n) := by
  obtain ⟨comp, cA, kA, h1, -, h2, h3, h4⟩ := Cond.arrayOver_spec h
  exact ⟨cA, fun n z => ⟨fun k h => (by cases h), kA, h2, comp, h3⟩, kA, comp, h2, h3, h1, h4⟩
set_option maxRecDepth 100000 in
theorem st_ao : ∀ c ∈ gAO, Cond.arrayOver (.object c) ∈ lw_tbl := by decide +kernel
set_option maxRecDepth 100000 in
theorem st_nest : ∀ q ∈ gNest, Cond.methodLinkNest q.1 q.2.1 q.2.2.1 q.2.2.2 ∈ lw_tbl := by decide +kernel
set_option maxRecDepth 100000 in
theorem st_inst : ∀ k < 8, ∀ q, vwCl[k]? = some q → Cond.instantiable q.1 q.2.2 ∈ gWords := by
  intro k hk q hq
  match k, hk with
  | 0, _ => cases hq; exact wB_X0
  | 1, _ => cases hq; exact wB_X1
  | 2, _ => cases hq; exact wB_X2
  | 3, _ => cases hq; exact wB_X3
  | 4, _ => cases hq; exact wB_X4
  | 5, _ => cases hq; exact wB_X5
  | 6, _ => cases hq; exact wB_X6
  | 7, _ => cases hq; exact wB_X7
theorem st_K {s : State} {b : Nat} (hts : ∀ w ∈ lw_tbl, w.before #[Value.ref b] s = true) : ∃ E0 : gEnv, gK (eG E0 s.heap.size) s := by
  have hgw : ∀ w ∈ gWords, w.before #[Value.ref b] s = true := fun w hw => hts w (List.mem_filter.mp hw).1
  have hcl : ∀ k : Nat, ∃ D : ClassId × (Nat → Nat), ∀ q, vwCl[k]? = some q → u_Kn s q.1 q.2.1 q.2.2 D.1 D.2 := by
    intro k
    cases hq : vwCl[k]? with
    | none => exact ⟨(0, fun _ => 0), fun q h => by cases h⟩
    | some q =>
      have hk : k < 8 := (List.getElem?_eq_some_iff.mp hq).1
      obtain ⟨C, T, N⟩ := q
      obtain ⟨cC, iS, hK⟩ := u_known (C := C) (T := T) (N := N) (n := N) hgw (gLay hq).2 (hgw _ (st_inst k hk _ hq))
      exact ⟨(cC, iS), fun q h => by cases h; exact hK⟩
  obtain ⟨D, hD⟩ := Classical.axiomOfChoice hcl
  obtain ⟨c9, h9⟩ := st_prim (ty := .byte) (fun _ z => by cases z) (hgw _ wA_byte)
  obtain ⟨c12, h12⟩ := st_obj (n := RX3) (hts _ (st_ao _ (by decide)))
  obtain ⟨c14, h14⟩ := st_obj (n := RX5) (hts _ (st_ao _ (by decide)))
  obtain ⟨c15, h15⟩ := st_obj (n := RX1) (hts _ (st_ao _ (by decide)))
  obtain ⟨c16, h16⟩ := st_obj (n := RX6) (hts _ (st_ao _ (by decide)))
  obtain ⟨c17, h17⟩ := st_obj (n := RX2) (hts _ (st_ao _ (by decide)))
  refine ⟨((fun k => (D k).1, fun k => (D k).2), fun k => if k = 9 then c9 else if k = 12 then c12 else if k = 14 then c14 else if k = 15 then c15 else if k = 16 then c16 else c17, fun _ _ => 0, fun _ => True, [], []), ⟨fun c q hq => hD c q hq, fun k q hq => ?_⟩, eG_dis _ _, fun q hq => hq, ?_⟩
  · match k, hq with
    | 0, hq => cases hq; exact h9
    | 1, hq => cases hq; exact h12
    | 2, hq => cases hq; exact h14
    | 3, hq => cases hq; exact h15
    | 4, hq => cases hq; exact h16
    | 5, hq => cases hq; exact h17
    | k + 6, hq => simp [gTys] at hq
  · refine ⟨fun w hw => ?_, fun q hq => va_Nw.of rfl (hts _ (st_nest q hq)), fun c hc => va_AO.of (hts _ (st_ao c hc))⟩
    have hb := (List.mem_filter.mp hw).2
    simp only [Bool.and_eq_true] at hb
    exact va_tabs hb.1 rfl (hts w (List.mem_filter.mp hw).1)
theorem w1_mem {E : gEnv} {b : Nat} {G : GS} {q : Nat × va_E} (h : q ∈ w1 E b G) : ∃ k, k < 257 ∧ q = (b + k, gCell (eG E b) G (gid k).1 (gid k).2) := by
  unfold w1 wo at h
  obtain ⟨a, ha, rfl⟩ := List.mem_map.mp h
  obtain ⟨k, hk, rfl⟩ := gL_at ha
  refine ⟨k, hk, ?_⟩
  have e := goff_gid k hk
  show (b + goff (gid k).1 (gid k).2, gCell (eG E b) G (gid k).1 (gid k).2) = _
  rw [e]
theorem two_start {E E0 : gEnv} (hD : eD E = eD E0) {B : Nat} {x : va_E} {H : Heap} (h : cP E B 514 (fun j => if j < 257 then wU (Wi E0 B 0) 257 x j else Wi E0 (B + 257) 0 (j - 257)) H) : gP (eo E0 B gI) gI H := by
  show va_P (eD E0) vwCl (w1 E0 B gI ++ w1 E0 (B + 257) gI) H
  rw [va_P_mem]
  intro q hq
  rcases List.mem_append.mp hq with hq | hq
  · obtain ⟨k, hk, rfl⟩ := w1_mem hq
    have h1 := h.2 k _ (cL_at (show k < 514 by omega))
    rw [if_pos hk] at h1
    unfold wU at h1
    rw [if_neg (by omega)] at h1
    unfold Wi at h1
    rw [Nat.zero_add, hD] at h1
    exact h1
  · obtain ⟨k, hk, rfl⟩ := w1_mem hq
    have h1 := h.2 (257 + k) _ (cL_at (show 257 + k < 514 by omega))
    rw [if_neg (by omega)] at h1
    unfold Wi at h1
    rw [show 0 + (257 + k - 257) = k by omega, hD, ← Nat.add_assoc] at h1
    exact h1


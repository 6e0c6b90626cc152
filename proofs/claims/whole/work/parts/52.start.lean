/-! FROM THE ENTRY -/
theorem st_prim {s : State} {A : Array Value} {ty : FieldType} (hne : ∀ C, ty ≠ .object C) (h : (Cond.arrayClass ty).before A s = true) : ∃ cA, ArrOfT s cA ty ∧ va_RA s cA ty := by
  obtain ⟨cA, kA, comp, h1, h2, h3⟩ := Cond.arrayClass_spec h
  refine ⟨cA, fun n z => ⟨fun k h => (by cases h), kA, h2, comp, h3⟩, ?_⟩
  cases ty with
  | object C => exact absurd rfl (hne C)
  | _ => exact h1
theorem st_obj {s : State} {A : Array Value} {n : String} (h : (Cond.arrayOver (.object n)).before A s = true) : ∃ cA, ArrOfT s cA (.object n) ∧ va_RA s cA (.object n) := by
  obtain ⟨comp, cA, kA, h1, -, h2, h3, h4⟩ := Cond.arrayOver_spec h
  exact ⟨cA, fun n z => ⟨fun k h => (by cases h), kA, h2, comp, h3⟩, kA, comp, h2, h3, h1, h4⟩
set_option maxRecDepth 100000 in
theorem st_ao : ∀ c ∈ gAO, Cond.arrayOver (.object c) ∈ lw_tbl := by decide +kernel
set_option maxRecDepth 100000 in
theorem st_nest : ∀ q ∈ gNest, Cond.methodLinkNest q.1 q.2.1 q.2.2.1 q.2.2.2 ∈ lw_tbl := by decide +kernel
set_option maxRecDepth 100000 in
theorem st_str : ∀ q ∈ gStr, Cond.stringRef q.1 q.2.1 q.2.2 ∈ lw_tbl ∧ q.1 = RX7 := by decide +kernel
set_option maxRecDepth 100000 in
theorem st_ste : Cond.laysStatic Bundle.tN "UNASSIGNED_STACK" Bundle.steD ∈ lw_tbl := by decide +kernel
set_option maxRecDepth 100000 in
theorem st_sup : Cond.laysStatic Bundle.tN "SUPPRESSED_SENTINEL" Bundle.listD ∈ lw_tbl := by decide +kernel
set_option maxRecDepth 100000 in
theorem st_inst : ∀ k < 9, ∀ q, vwCl[k]? = some q → Cond.instantiable q.1 q.2.2 ∈ gWords := by
  intro k hk q hq
  match k, hk with
  | 0, _ => cases hq; exact wB_X0
  | 1, _ => cases hq; exact wB_X1
  | 2, _ => cases hq; exact wB_X2
  | 3, _ => cases hq; exact wB_X3
  | 4, _ => cases hq; exact wB_X4
  | 5, _ => cases hq; exact wB_X5
  | 6, _ => cases hq; exact wB_X6
  | 7, _ => cases hq; exact wB_X7
  | 8, _ => cases hq; exact wB_X8
theorem st_given {s : State} {b : Nat} (h : (Jvm.Cond.and given_1 narrow_1).before #[Value.ref b] s = true) : (∀ q ∈ gNcs, va_Nc q.1 q.2 s) ∧ (Cond.isRef (.static Bundle.tN "UNASSIGNED_STACK" Bundle.steD)).before #[Value.ref b] s = true ∧ (Cond.isRef (.static Bundle.tN "SUPPRESSED_SENTINEL" Bundle.listD)).before #[Value.ref b] s = true := by
  have hs := flat_of_before _ h
  refine ⟨fun q hq => ?_, hs _ (by decide +kernel), hs _ (by decide +kernel)⟩
  have hd : ∀ q ∈ gNcs, Cond.not (.castable q.1 q.2) ∈ flatC (Jvm.Cond.and given_1 narrow_1) := by decide +kernel
  exact va_Nc.of (hs _ (hd q hq))
theorem st_K {s : State} {b : Nat} (hts : ∀ w ∈ lw_tbl, w.before #[Value.ref b] s = true) (hg : (Jvm.Cond.and given_1 narrow_1).before #[Value.ref b] s = true) : ∃ E0 : gEnv, gK (eG E0 s.heap.size) s := by
  have hgw : ∀ w ∈ gWords, w.before #[Value.ref b] s = true := fun w hw => hts w (List.mem_filter.mp hw).1
  have hcl : ∀ k : Nat, ∃ D : ClassId × (Nat → Nat), ∀ q, vwCl[k]? = some q → u_Kn s q.1 q.2.1 q.2.2 D.1 D.2 := by
    intro k
    cases hq : vwCl[k]? with
    | none => exact ⟨(0, fun _ => 0), fun q h => by cases h⟩
    | some q =>
      have hk : k < 9 := (List.getElem?_eq_some_iff.mp hq).1
      obtain ⟨C, T, N⟩ := q
      obtain ⟨cC, iS, hK⟩ := u_known (C := C) (T := T) (N := N) (n := N) hgw (gLay hq).2 (hgw _ (st_inst k hk _ hq))
      exact ⟨(cC, iS), fun q h => by cases h; exact hK⟩
  obtain ⟨D, hD⟩ := Classical.axiomOfChoice hcl
  obtain ⟨c9, h9⟩ := st_prim (ty := .byte) (fun _ z => by cases z) (hgw _ wA_byte)
  obtain ⟨c10, h10⟩ := st_prim (ty := .int) (fun _ z => by cases z) (hgw _ wA_int)
  obtain ⟨c11, h11⟩ := st_prim (ty := .boolean) (fun _ z => by cases z) (hgw _ wA_boolean)
  obtain ⟨c13, h13⟩ := st_prim (ty := .long) (fun _ z => by cases z) (hgw _ wA_long)
  obtain ⟨c12, h12⟩ := st_obj (n := RX3) (hts _ (st_ao _ (by decide)))
  obtain ⟨c14, h14⟩ := st_obj (n := RX5) (hts _ (st_ao _ (by decide)))
  obtain ⟨c15, h15⟩ := st_obj (n := RX1) (hts _ (st_ao _ (by decide)))
  obtain ⟨c16, h16⟩ := st_obj (n := RX6) (hts _ (st_ao _ (by decide)))
  obtain ⟨c17, h17⟩ := st_obj (n := RX2) (hts _ (st_ao _ (by decide)))
  refine ⟨((fun k => (D k).1, fun k => (D k).2), fun k => if k = 9 then c9 else if k = 10 then c10 else if k = 11 then c11 else if k = 12 then c12 else if k = 13 then c13 else if k = 14 then c14 else if k = 15 then c15 else if k = 16 then c16 else c17, fun _ _ => 0, fun _ => True, []), ⟨fun c q hq => hD c q hq, fun k q hq => ?_⟩, eG_dis _ _, fun q hq => hq, ?_⟩
  · match k, hq with
    | 0, hq => cases hq; exact h9
    | 1, hq => cases hq; exact h10
    | 2, hq => cases hq; exact h11
    | 3, hq => cases hq; exact h12
    | 4, hq => cases hq; exact h13
    | 5, hq => cases hq; exact h14
    | 6, hq => cases hq; exact h15
    | 7, hq => cases hq; exact h16
    | 8, hq => cases hq; exact h17
    | k + 9, hq => simp [gTys] at hq
  · obtain ⟨g1, g2, g3⟩ := st_given hg
    refine ⟨fun w hw => ?_, fun q hq => va_Nw.of rfl (hts _ (st_nest q hq)), g1, fun q hq => ?_, ?_, ?_, fun c hc => ?_⟩
    · have hb := (List.mem_filter.mp hw).2
      simp only [Bool.and_eq_true] at hb
      exact va_tabs hb.1 rfl (hts w (List.mem_filter.mp hw).1)
    · obtain ⟨w1, e1⟩ := st_str q hq
      have h1 := hts _ w1
      obtain ⟨-, hfc, -⟩ := hD 7 _ rfl
      obtain ⟨k, cf, i, a, -, -, -, -, -, h2⟩ := Cond.stringRef_spec (e1 ▸ hfc) h1
      exact ⟨a, vk_R.of h1 h2⟩
    · exact vx_Zqof (hts _ st_ste) (hgw _ wN_java_lang_Throwable) g2 (fun a h1 h2 => Nat.not_le.mpr h1 h2)
    · exact vx_Zqof (hts _ st_sup) (hgw _ wN_java_lang_Throwable) g3 (fun a h1 h2 => Nat.not_le.mpr h1 h2)
    · exact va_AO.of (hts _ (st_ao c hc))


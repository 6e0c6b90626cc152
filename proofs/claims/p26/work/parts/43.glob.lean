/-! THE WHOLE WORLD'S PLACES, from the address B on: PostRoad, its road and trial, the history with its row and four roads, the text and its row, the model and its rows, the law's row -/
def rst (r : Int) : Nat := if r < 2 then 1 + 42 * r.toNat else 87 + 42 * (r - 2).toNat
def goff (k : Nat) (o : Int) : Nat := if k = 7 then 0 else if k = 0 then 85 else if k = 12 then 86 else if k = 4 then 255 else if k = 9 then 256 else if k = 8 then 257 else if k = 11 then 261 else if k = 13 then 264 else if k = 10 then (if o = 0 then 258 else if o = 1 then 259 else if o = 2 then 260 else if o = 3 then 262 else 263) else if k = 5 then rst (o / 7) + roff (o / 7) 5 o else if k = 1 then rst (o / 8) + roff (o / 8) 1 o else if k = 6 then rst (o / 10) + roff (o / 10) 6 o else if k = 2 then rst (o / 12) + roff (o / 12) 2 o else rst o + roff o k o
def gid (j : Nat) : Nat × Int := if j = 0 then (7, 0) else if j < 85 then rid ((((j - 1) / 42 : Nat) : Int)) ((j - 1) % 42) else if j = 85 then (0, 0) else if j = 86 then (12, 0) else if j < 255 then rid (((2 + (j - 87) / 42 : Nat) : Int)) ((j - 87) % 42) else if j = 255 then (4, 0) else if j = 256 then (9, 0) else if j = 257 then (8, 0) else if j = 258 then (10, 0) else if j = 259 then (10, 1) else if j = 260 then (10, 2) else if j = 261 then (11, 0) else if j = 262 then (10, 3) else if j = 263 then (10, 4) else (13, 0)
set_option maxRecDepth 100000 in
theorem goff_gid : ∀ j, j < 257 → goff (gid j).1 (gid j).2 = j := by decide +kernel
def gL : List (Nat × Int) := (List.range 257).map gid
def eG (E : gEnv) (B : Nat) : gEnv := (eD E, eC E, fun k o => B + goff k o, fun q => B ≤ q, gL, [])
theorem gL_at {q : Nat × Int} (h : q ∈ gL) : ∃ j, j < 257 ∧ q = gid j := by
  obtain ⟨j, hj, rfl⟩ := List.mem_map.mp h
  exact ⟨j, List.mem_range.mp hj, rfl⟩
set_option maxRecDepth 100000 in
theorem gL_c3 : ∀ j, j < 257 → ¬ (gid j).1 = 3 ∨ ((14, (gid j).2) ∈ gL ∧ (15, (gid j).2) ∈ gL ∧ (16, (gid j).2) ∈ gL ∧ (17, (gid j).2) ∈ gL) := by decide +kernel
set_option maxRecDepth 100000 in
theorem gL_c14 : ∀ j, j < 257 → ¬ (gid j).1 = 14 ∨ (∀ i : Nat, i < 7 → (5, 7 * (gid j).2 + (i : Int)) ∈ gL) := by decide +kernel
set_option maxRecDepth 100000 in
theorem gL_c15 : ∀ j, j < 257 → ¬ (gid j).1 = 15 ∨ (∀ i : Nat, i < 8 → (1, 8 * (gid j).2 + (i : Int)) ∈ gL) := by decide +kernel
set_option maxRecDepth 100000 in
theorem gL_c16 : ∀ j, j < 257 → ¬ (gid j).1 = 16 ∨ (∀ i : Nat, i < 10 → (6, 10 * (gid j).2 + (i : Int)) ∈ gL) := by decide +kernel
set_option maxRecDepth 100000 in
theorem gL_c17 : ∀ j, j < 257 → ¬ (gid j).1 = 17 ∨ (∀ i : Nat, i < 12 → (2, 12 * (gid j).2 + (i : Int)) ∈ gL) := by decide +kernel
set_option maxRecDepth 100000 in
theorem gL_3 : ∀ z : Nat, z < 6 → (3, (z : Int)) ∈ gL := by decide +kernel
theorem eG_clo (E : gEnv) (B : Nat) : gClo (eG E B) := by
  have get : ∀ {k : Nat} {o : Int}, gOk (eG E B) k o → ∃ j, j < 257 ∧ (gid j).1 = k ∧ (gid j).2 = o := by
    intro k o h
    obtain ⟨j, hj, e⟩ := gL_at h
    exact ⟨j, hj, by rw [← e], by rw [← e]⟩
  refine ⟨fun r h => ?_, fun r i h hi => ?_, fun r i h hi => ?_, fun r i h hi => ?_, fun r i h hi => ?_, fun _ => ?_, fun _ => ?_, fun _ z hz => ?_, fun _ => ?_⟩
  · obtain ⟨j, hj, e1, rfl⟩ := get h
    exact (gL_c3 j hj).resolve_left (fun h => h e1)
  · obtain ⟨j, hj, e1, rfl⟩ := get h
    have := (gL_c14 j hj).resolve_left (fun h => h e1) i.toNat (by omega)
    rw [Int.toNat_of_nonneg hi.1] at this
    exact this
  · obtain ⟨j, hj, e1, rfl⟩ := get h
    have := (gL_c15 j hj).resolve_left (fun h => h e1) i.toNat (by omega)
    rw [Int.toNat_of_nonneg hi.1] at this
    exact this
  · obtain ⟨j, hj, e1, rfl⟩ := get h
    have := (gL_c16 j hj).resolve_left (fun h => h e1) i.toNat (by omega)
    rw [Int.toNat_of_nonneg hi.1] at this
    exact this
  · obtain ⟨j, hj, e1, rfl⟩ := get h
    have := (gL_c17 j hj).resolve_left (fun h => h e1) i.toNat (by omega)
    rw [Int.toNat_of_nonneg hi.1] at this
    exact this
  · exact ⟨gL_3 0 (by decide), gL_3 1 (by decide), List.mem_map.mpr ⟨85, List.mem_range.mpr (by decide), by decide +kernel⟩, List.mem_map.mpr ⟨255, List.mem_range.mpr (by decide), by decide +kernel⟩⟩
  · exact List.mem_map.mpr ⟨86, List.mem_range.mpr (by decide), by decide +kernel⟩
  · have := gL_3 z.toNat (by omega)
    rw [Int.toNat_of_nonneg hz.1] at this
    exact this
  · exact List.mem_map.mpr ⟨256, List.mem_range.mpr (by decide), by decide +kernel⟩
theorem eG_dis (E : gEnv) (B : Nat) : gDis (eG E B) := by
  refine ⟨⟨fun i j p q hi hj e => ?_, gDiZ_nil rfl⟩, fun p _ => Nat.le_add_right _ _, map_nodup (g := fun q => goff q.1 q.2) goff_gid, eG_clo E B⟩
  obtain ⟨li, rfl⟩ := range_at hi
  obtain ⟨lj, rfl⟩ := range_at hj
  have e2 : B + goff (gid i).1 (gid i).2 = B + goff (gid j).1 (gid j).2 := e
  rw [goff_gid i li, goff_gid j lj] at e2
  omega
/-- the world made, from its cells -/
theorem gP_of {E : gEnv} {B : Nat} {G : GS} {H : Heap} (h : ∀ j, j < 257 → va_at (eD E) vwCl (B + j, gCell (eG E B) G (gid j).1 (gid j).2) H) : gP (eG E B) G H := by
  intro k q hk
  rw [wl_nil rfl] at hk
  rw [List.getElem?_map] at hk
  cases hp : (eL (eG E B))[k]? with
  | none => rw [hp] at hk; cases hk
  | some p =>
    rw [hp] at hk
    obtain ⟨hl, rfl⟩ := range_at hp
    have e : q = (B + k, gCell (eG E B) G (gid k).1 (gid k).2) := by
      have := (Option.some.inj hk).symm
      rw [this]
      show (B + goff (gid k).1 (gid k).2, _) = _
      rw [goff_gid k hl]
    rw [e]
    exact h k hl
/-- narrowing the cells that may change, and what is there -/
theorem gK_narrow {E E1 : gEnv} {U : State} (h : gK E U) (hD : eD E1 = eD E) (hC : eC E1 = eC E) (hd : gDis E1) (hA : ∀ q, eF E1 q → eF E q) (hsz : ∀ q, U.heap.size ≤ q → eF E1 q) : gK E1 U := by
  obtain ⟨h1, h2, h3, h4⟩ := h
  refine ⟨?_, hd, hsz, h4⟩
  have : gTys E1 = gTys E := by unfold gTys; rw [hC]
  rw [hD, this]
  exact h1
set_option maxRecDepth 100000 in
/-- a road's cells among the world's -/
theorem gid_rid : ∀ r : Nat, r < 6 → ∀ j, j < 42 → gid (rst (r : Int) + j) = rid (r : Int) j := by decide +kernel
theorem gid_rid' {r : Int} (hr : 0 ≤ r ∧ r < 6) {j : Nat} (hj : j < 42) : gid (rst r + j) = rid r j := by
  have := gid_rid r.toNat (by omega) j hj
  rwa [Int.toNat_of_nonneg hr.1] at this
theorem goff_rid {r : Int} (hr : 0 ≤ r ∧ r < 6) {j : Nat} (hj : j < 42) : goff (rid r j).1 (rid r j).2 = rst r + j := by
  rw [← gid_rid' hr hj]
  refine goff_gid _ ?_
  unfold rst
  split <;> omega
theorem goff_road {r : Int} (hr : 0 ≤ r ∧ r < 6) {k : Nat} {o : Int} (h : (k, o) ∈ (List.range 42).map (rid r)) : goff k o = rst r + roff r k o := by
  obtain ⟨j, hj, e⟩ := List.mem_map.mp h
  have hj := List.mem_range.mp hj
  have e1 : (rid r j).1 = k := by rw [e]
  have e2 : (rid r j).2 = o := by rw [e]
  have h1 := goff_rid hr hj
  have h2 := roff_rid r hj
  rw [e1, e2] at h1 h2
  rw [h1, h2]
/-- a road's cell, seen from the whole world -/
theorem road_cell {E : gEnv} {B a0 : Nat} {r : Int} (hr : 0 ≤ r ∧ r < 6) (ha : a0 = B + rst r) {G G1 : GS} {q k : Nat} {o : Int} {H : Heap} (hm : (k, o) ∈ (List.range 42).map (rid r)) (hG : ∀ f, G1 k o f = G k o f) (h : va_at (eD E) vwCl (q, gCell (eR E r a0) G1 k o) H) : va_at (eD E) vwCl (q, gCell (eG E B) G k o) H := by
  have ad : ∀ {k2 : Nat} {o2 : Int}, (k2, o2) ∈ (List.range 42).map (rid r) → eA (eR E r a0) k2 o2 = eA (eG E B) k2 o2 := by
    intro k2 o2 h2
    show a0 + roff r k2 o2 = B + goff k2 o2
    rw [goff_road hr h2, ha]
    omega
  have e1 : gCell (eR E r a0) G1 k o = gCell (eR E r a0) G k o := gCell_congr hG
  rw [e1] at h
  rcases rid_mem.mp hm with ⟨hk, rfl⟩ | ⟨rfl, h1, h2⟩ | ⟨rfl, h1, h2⟩ | ⟨rfl, h1, h2⟩ | ⟨rfl, h1, h2⟩
  · rcases hk with rfl | rfl | rfl | rfl | rfl
    · have e2 : gCell (eR E o a0) G 3 o = gCell (eG E B) G 3 o := by
        have e3 := ad (k2 := 14) (o2 := o) (rid_mem.mpr (Or.inl ⟨by decide, rfl⟩))
        have e4 := ad (k2 := 15) (o2 := o) (rid_mem.mpr (Or.inl ⟨by decide, rfl⟩))
        have e5 := ad (k2 := 16) (o2 := o) (rid_mem.mpr (Or.inl ⟨by decide, rfl⟩))
        have e6 := ad (k2 := 17) (o2 := o) (rid_mem.mpr (Or.inl ⟨by decide, rfl⟩))
        show (Sum.inr (3, [.ref _, .ref _, .ref _, .ref _, _, _, _, _, _, _, _, _, _]) : va_E) = Sum.inr (3, [.ref _, .ref _, .ref _, .ref _, _, _, _, _, _, _, _, _, _])
        rw [e3, e4, e5, e6]
        rfl
      rw [← e2]
      exact h
    · exact va_at_arr (fun x hx => congrArg some (ad (rid_mem.mpr (Or.inr (Or.inl ⟨rfl, by omega, by omega⟩))))) h
    · exact va_at_arr (fun x hx => congrArg some (ad (rid_mem.mpr (Or.inr (Or.inr (Or.inl ⟨rfl, by omega, by omega⟩)))))) h
    · exact va_at_arr (fun x hx => congrArg some (ad (rid_mem.mpr (Or.inr (Or.inr (Or.inr (Or.inl ⟨rfl, by omega, by omega⟩))))))) h
    · exact va_at_arr (fun x hx => congrArg some (ad (rid_mem.mpr (Or.inr (Or.inr (Or.inr (Or.inr ⟨rfl, by omega, by omega⟩))))))) h
  · exact h
  · exact h
  · exact h
  · exact h
/-- a road that stands alone, cell by cell of the whole world -/
theorem road_cells {E : gEnv} {B : Nat} {r : Int} (hr : 0 ≤ r ∧ r < 6) {G G1 : GS} {H : Heap} (hG : ∀ k o, (k, o) ∈ (List.range 42).map (rid r) → ∀ f, G1 k o f = G k o f) (h : gP (eR E r (B + rst r)) G1 H) {j : Nat} (hj : j < 42) : va_at (eD E) vwCl (B + rst r + j, gCell (eG E B) G (gid (rst r + j)).1 (gid (rst r + j)).2) H := by
  rw [gid_rid' hr hj]
  have hm : ((rid r j).1, (rid r j).2) ∈ (List.range 42).map (rid r) := List.mem_map.mpr ⟨j, List.mem_range.mpr hj, rfl⟩
  refine road_cell hr rfl hm (hG _ _ hm) ?_
  have h1 := h j (B + rst r + j, gCell (eR E r (B + rst r)) G1 (rid r j).1 (rid r j).2) (by
    rw [wl_nil rfl]
    show (((List.range 42).map (rid r)).map _)[j]? = _
    rw [List.map_map, List.getElem?_map, List.getElem?_range hj]
    show some (B + rst r + roff r (rid r j).1 (rid r j).2, _) = _
    rw [roff_rid r hj])
  exact h1

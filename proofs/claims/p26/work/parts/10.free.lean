/-! METHODS THAT MAY THROW, where they don't -/
theorem gx_n1 {x : Int} (hx : ¬ x = 0) : ¬ some x = some (0 : Int) := fun h => hx (Option.some.inj h)
theorem gx_nw {G Gz : GS} {x r rz : Int} (hx : ¬ x = 0) : ¬ some (G, (x, r)) = some (Gz, ((0 : Int), rz)) := fun h => hx (congrArg (fun q => q.2.1) (Option.some.inj h))
theorem gx_nr {x r rz : Int} (hx : ¬ x = 0) : ¬ some (x, r) = some ((0 : Int), rz) := fun h => hx (congrArg (fun q => q.1) (Option.some.inj h))
theorem gx_w {G Gz : GS} {r rz : Int} (h : some (G, ((0 : Int), r)) = some (Gz, ((0 : Int), rz))) : some (G, r) = some (Gz, rz) := by
  cases h
  rfl
theorem gx_r {G : GS} {r rz : Int} (h : some ((0 : Int), r) = some ((0 : Int), rz)) : some (G, r) = some (G, rz) := by
  cases h
  rfl

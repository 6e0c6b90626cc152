/-! a name of the laws on doubles, so that all is read over the whole library from the first part on -/
theorem fl_first {i : Int} {a : UInt64} (h : Jvm.FP.Core.DInt i a) : Jvm.FP.Core.DInt i a := by
  have _ := @Jvm.FP.Core.i2d_int
  exact h

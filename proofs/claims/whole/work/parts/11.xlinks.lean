/-! the words of the throws, by their sites -/
set_option maxRecDepth 100000 in
theorem gAt_X7_214 : ∀ w ∈ vx_atS RX7 214 "java/lang/IndexOutOfBoundsException" gXN, w ∈ lw_tbl ∧ (w.onTables && w.keepsFace) = true := by decide +kernel
set_option maxRecDepth 100000 in
theorem gVo_X7_214 : ∀ w ∈ Cond.classLink RX7 210 "java/lang/IndexOutOfBoundsException" :: Cond.initialized "java/lang/IndexOutOfBoundsException" :: vx_atS RX7 214 "java/lang/IndexOutOfBoundsException" gXN, vx_ot w = true := by decide +kernel
theorem wStr_X7_212 : (RX7, 212, "there is no such number") ∈ gStr := List.mem_of_getElem? (i := 0) rfl
set_option maxRecDepth 100000 in
theorem gAt_X7_86 : ∀ w ∈ vx_atS RX7 86 "java/lang/IllegalArgumentException" gXN, w ∈ lw_tbl ∧ (w.onTables && w.keepsFace) = true := by decide +kernel
set_option maxRecDepth 100000 in
theorem gVo_X7_86 : ∀ w ∈ Cond.classLink RX7 82 "java/lang/IllegalArgumentException" :: Cond.initialized "java/lang/IllegalArgumentException" :: vx_atS RX7 86 "java/lang/IllegalArgumentException" gXN, vx_ot w = true := by decide +kernel
theorem wStr_X7_215 : (RX7, 215, "a value is out of range") ∈ gStr := List.mem_of_getElem? (i := 1) rfl
set_option maxRecDepth 100000 in
theorem gAt_X7_107 : ∀ w ∈ vx_atS RX7 107 "java/lang/IllegalStateException" gXN, w ∈ lw_tbl ∧ (w.onTables && w.keepsFace) = true := by decide +kernel
set_option maxRecDepth 100000 in
theorem gVo_X7_107 : ∀ w ∈ Cond.classLink RX7 103 "java/lang/IllegalStateException" :: Cond.initialized "java/lang/IllegalStateException" :: vx_atS RX7 107 "java/lang/IllegalStateException" gXN, vx_ot w = true := by decide +kernel
theorem wStr_X7_217 : (RX7, 217, "there is no room for one more") ∈ gStr := List.mem_of_getElem? (i := 2) rfl
theorem wStr_X7_84 : (RX7, 84, "a letter goes to another inn") ∈ gStr := List.mem_of_getElem? (i := 3) rfl
theorem wStr_X7_105 : (RX7, 105, "the hour would be too late") ∈ gStr := List.mem_of_getElem? (i := 4) rfl
theorem wStr_X7_176 : (RX7, 176, "the text is full") ∈ gStr := List.mem_of_getElem? (i := 5) rfl
theorem wStr_X7_191 : (RX7, 191, "there is no saved state") ∈ gStr := List.mem_of_getElem? (i := 6) rfl

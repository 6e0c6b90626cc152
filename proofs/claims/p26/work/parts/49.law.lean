theorem g_ci2 {p : Program} {l : Launch} {e : Env} {R : Room} {s : State} {m : MethodId} {args : Array Value} {below : List Frame} {meth : Method} {c : Code} {H : Heap} {locs : List Loc} {cells slots : Nat} {Q : State → Prop} {pc : Nat} {ls : Array Slot} {rest st : List Value} {E0 : gEnv} {B : Nat} {G F Gz Fz : GS} {a : Array Value} {r : Int} {mc ms : Nat} (h : gH (eo E0 B F) s G H locs) (hr : va_Run p l e R s m args below meth c H locs cells slots mc ms (F0 m pc ls st) rest (gQi (eo E0 B Fz) Gz r a) (eF (eo E0 B F))) (kk : ∀ (H : Heap) (locs : List Loc), gH (eo E0 B Fz) s Gz H locs → W p l e R s m args below meth c H locs (cells + mc) (slots + ms) Q (F0 m (pc + 3) ls (vI r :: rest))) : W p l e R s m args below meth c H locs cells slots Q (F0 m pc ls st) := by
  refine va_calli (A1 := eF (eo E0 B F)) hr h.2 (fun q _ z => z) (fun q z => z) (fun r9 u t H1 locs1 ht hvm hw hB hz1 hk1 hS => ?_)
  obtain ⟨rfl, rfl⟩ := hw
  exact kk H1 locs1 ⟨by rw [← ht]; exact hB.1, hS⟩
theorem g_cell {p : Program} {e : Env} {R : Room} {s : State} {m : MethodId} {args : Array Value} {below : List Frame} {meth : Method} {c : Code} {H : Heap} {locs : List Loc} {cells slots : Nat} {Q : State → Prop} {pc : Nat} {ls : Array Slot} {rest : List Value} {cc : ByteArray} {nL : Nat} {ret : Option FieldType} {E0 : gEnv} {B b L : Nat} {xs : Nat → Int32} {G F : GS} (l : Launch) (C : gC p s m args meth c RL cc nL ret (eo E0 B F)) (h : gH (eo E0 B F) s G H locs) (X : va_X b L xs s s.heap ∧ b < s.heap.size ∧ b < B) {sc : Int → Int} (hsc : sc = cv L xs) {k : Int} (hk : 0 ≤ k ∧ k < 2147480000) (hL : L ≤ 260) {ix : Nat} (w1 : Cond.methodLink RL ix yL_cell ∈ gWords) (hR : 1 ≤ R.frames ∧ 21 ≤ R.locals) (hls : ls.size = nL) (hrest : (rest.map fun v => v.category).sum ≤ 8) (hd : decode cc pc = .ok (.invokestatic ix, 3)) (hcs : cells + 0 ≤ R.cells ∧ slots + 0 ≤ R.slots) (kk : ∀ (H : Heap) (locs : List Loc), gH (eo E0 B F) s G H locs → W p l e R s m args below meth c H locs (cells + 0) (slots + 0) Q (F0 m (pc + 3) ls (vI (sc k) :: rest))) : W p l e R s m args below meth c H locs cells slots Q (F0 m pc ls (vI k :: .ref b :: rest)) := by
  subst hsc
  obtain ⟨X1, X2, X3⟩ := X
  have hb : ¬ eF (eo E0 B F) b := fun z => Nat.not_le.mpr X3 z
  refine g_ci h (va_runS (As := [.ref b, vI k]) (rest := rest) ⟨C.1, C.2.1, C.2.2.2.1, C.2.2.2.2.1, C.2.2.2.2.2.1⟩ (c_L_cell l (eo E0 B F) G b L xs k hk hL hb) (cwS 2 C.2.2.2.2.2.1 (gwIn ?_) rfl rfl rfl ⟨rfl, ny_L_cell⟩ hR) ⟨cell_blind, fun U hU hW => ⟨rfl, gEnd C h hU hW, ?_, ?_⟩⟩ rfl rfl hls rfl (lv_room hrest) hd hcs) kk
  · intro w hw
    simp only [wsS, List.cons_append, List.nil_append, List.mem_cons] at hw
    rcases hw with rfl | rfl | rfl | rfl | hw
    · exact w1
    · exact wT_L_cell
    · exact wN_L
    · exact wC_L_cell
    · exact hw
  · rw [hU]
    exact va_X.moved hW.alike (X1.kept (h.2.2.1 b X2 hb))
  · rw [hU]
    exact Nat.lt_of_lt_of_le X2 h.2.1
def f_L_law_L35 (sc : Int → Int) : Nat → GS → GS → Int → Int → Int → (GS → GS → Int → Int → Int → Option (Int)) → Option (Int)
  | 0, _, _, _, _, _, _ => none
  | n + 1, G, F, x3, x4, x5, k => gd x5 (gd (x3 - 1) (if x5 < (x3 - 1) then gd x4 (if x4 = 0 then f_L_law_L35 sc n G F x3 0 (x5 + 1) k else bxw (f_X7_append G 50) (fun G11 r9 => gd r9 (if 0 < r9 then bxw (f_X7_append G11 59) (fun G16 r14 => gd r14 (if 0 < r14 then bxw (f_X7_append F 50) (fun F21 r19 => gd r19 (if 0 < r19 then bxw (f_X7_append F21 59) (fun F26 r24 => gd r24 (if 0 < r24 then f_L_law_L35 sc n G16 F26 x3 1 (x5 + 1) k else f_L_law_L35 sc n G16 F26 x3 0 (x5 + 1) k)) else f_L_law_L35 sc n G16 F21 x3 0 (x5 + 1) k)) else f_L_law_L35 sc n G16 F x3 0 (x5 + 1) k)) else f_L_law_L35 sc n G11 F x3 0 (x5 + 1) k))) else k G F x3 x4 x5))
def f_L_law_L128 (sc : Int → Int) : Nat → GS → GS → Int → Int → Int → (GS → GS → Int → Int → Int → Option (Int)) → Option (Int)
  | 0, _, _, _, _, _, _ => none
  | n + 1, G, F, x3, x4, x5, k => gd x5 (if x5 < 44 then gd x4 (if x4 = 0 then k G F x3 x4 x5 else ga x5 2147480000 (bn3 (f_L_isStep G F x3 (sc x5)) (fun G39 F40 r41 => gd r41 (if r41 = 0 then f_L_law_L128 sc n G39 F40 x3 0 (x5 + 1) k else bn3 (f_L_areAlike G39 F40 x3) (fun G45 F46 r47 => gd r47 (if r47 = 0 then f_L_law_L128 sc n G45 F46 x3 0 (x5 + 1) k else bn1 (f_L_isSound G45 F46 x3) (fun r51 => gd r51 (if r51 = 0 then f_L_law_L128 sc n G45 F46 x3 0 (x5 + 1) k else f_L_law_L128 sc n G45 F46 x3 1 (x5 + 1) k)))))))) else k G F x3 x4 x5)
def f_L_law (sc : Int → Int) (G F : GS) : Option Int :=
  ga 0 2147480000 (bn1 (f_L_up (sc 0) 7) (fun r2 => f_L_law_L35 sc gFuel G F (2 + r2) 1 0 (fun G30 F31 y3_29 y4_29 y5_29 => gd y4_29 (if y4_29 = 0 then f_L_law_L128 sc gFuel G30 F31 y3_29 0 1 (fun G56 F57 y3_55 y4_55 y5_55 => bxr (f_X7_value G56 3) (fun r58 => bnd (f_X7_hoursToAll G56) (fun G62 r60 => gd y4_55 (if y4_55 = 0 then bxr (f_X7_value G62 9) (fun r65 => bxr (f_X7_value G62 10) (fun r67 => some 0)) else bxw (f_X7_pass G62 5) (fun G72 r70 => gd r70 (if r70 < 0 then bxr (f_X7_value G72 9) (fun r75 => bxr (f_X7_value G72 10) (fun r77 => some 0)) else bxr (f_X7_value G72 3) (fun r80 => gd r80 (gd (r58 + 5) (if r80 = (r58 + 5) then bxw (f_X7_undo G72) (fun G87 r85 => gd r85 (if r85 < 0 then bxr (f_X7_value G87 9) (fun r90 => bxr (f_X7_value G87 10) (fun r92 => some 0)) else bxr (f_X7_value G87 3) (fun r95 => gd r95 (gd r58 (if r95 = r58 then bnd (f_X7_hoursToAll G87) (fun G102 r100 => gd r100 (gd r60 (if r100 = r60 then bxr (f_X7_value G102 9) (fun r106 => bxr (f_X7_value G102 10) (fun r108 => if r60 < 1 then some 1 else if 200 < r60 then some 1 else bxw (f_X7_pass G102 r60) (fun G115 r113 => gd r113 (gd (r106 + r108) (if r113 = (r106 + r108) then bnd (f_X7_hoursToAll G115) (fun G121 r119 => gd r119 (if r119 = 0 then some 1 else some 0)) else some 0))))) else bxr (f_X7_value G102 9) (fun r124 => bxr (f_X7_value G102 10) (fun r126 => some 0))))) else bxr (f_X7_value G87 9) (fun r129 => bxr (f_X7_value G87 10) (fun r131 => some 0))))))) else bxr (f_X7_value G72 9) (fun r134 => bxr (f_X7_value G72 10) (fun r136 => some 0))))))))))) else bnd (f_X7_parse G30) (fun G141 r139 => gd r139 (gd y3_29 (if r139 = y3_29 then bnd (f_X7_parse F31) (fun F147 r145 => gd r145 (if r145 = y3_29 then f_L_law_L128 sc gFuel G141 F147 y3_29 1 1 (fun G151 F152 y3_150 y4_150 y5_150 => bxr (f_X7_value G151 3) (fun r153 => bnd (f_X7_hoursToAll G151) (fun G157 r155 => gd y4_150 (if y4_150 = 0 then bxr (f_X7_value G157 9) (fun r160 => bxr (f_X7_value G157 10) (fun r162 => some 0)) else bxw (f_X7_pass G157 5) (fun G167 r165 => gd r165 (if r165 < 0 then bxr (f_X7_value G167 9) (fun r170 => bxr (f_X7_value G167 10) (fun r172 => some 0)) else bxr (f_X7_value G167 3) (fun r175 => gd r175 (gd (r153 + 5) (if r175 = (r153 + 5) then bxw (f_X7_undo G167) (fun G182 r180 => gd r180 (if r180 < 0 then bxr (f_X7_value G182 9) (fun r185 => bxr (f_X7_value G182 10) (fun r187 => some 0)) else bxr (f_X7_value G182 3) (fun r190 => gd r190 (gd r153 (if r190 = r153 then bnd (f_X7_hoursToAll G182) (fun G197 r195 => gd r195 (gd r155 (if r195 = r155 then bxr (f_X7_value G197 9) (fun r201 => bxr (f_X7_value G197 10) (fun r203 => if r155 < 1 then some 1 else if 200 < r155 then some 1 else bxw (f_X7_pass G197 r155) (fun G210 r208 => gd r208 (gd (r201 + r203) (if r208 = (r201 + r203) then bnd (f_X7_hoursToAll G210) (fun G216 r214 => gd r214 (if r214 = 0 then some 1 else some 0)) else some 0))))) else bxr (f_X7_value G197 9) (fun r219 => bxr (f_X7_value G197 10) (fun r221 => some 0))))) else bxr (f_X7_value G182 9) (fun r224 => bxr (f_X7_value G182 10) (fun r226 => some 0))))))) else bxr (f_X7_value G167 9) (fun r229 => bxr (f_X7_value G167 10) (fun r231 => some 0))))))))))) else f_L_law_L128 sc gFuel G141 F147 y3_29 0 1 (fun G235 F236 y3_234 y4_234 y5_234 => bxr (f_X7_value G235 3) (fun r237 => bnd (f_X7_hoursToAll G235) (fun G241 r239 => gd y4_234 (if y4_234 = 0 then bxr (f_X7_value G241 9) (fun r244 => bxr (f_X7_value G241 10) (fun r246 => some 0)) else bxw (f_X7_pass G241 5) (fun G251 r249 => gd r249 (if r249 < 0 then bxr (f_X7_value G251 9) (fun r254 => bxr (f_X7_value G251 10) (fun r256 => some 0)) else bxr (f_X7_value G251 3) (fun r259 => gd r259 (gd (r237 + 5) (if r259 = (r237 + 5) then bxw (f_X7_undo G251) (fun G266 r264 => gd r264 (if r264 < 0 then bxr (f_X7_value G266 9) (fun r269 => bxr (f_X7_value G266 10) (fun r271 => some 0)) else bxr (f_X7_value G266 3) (fun r274 => gd r274 (gd r237 (if r274 = r237 then bnd (f_X7_hoursToAll G266) (fun G281 r279 => gd r279 (gd r239 (if r279 = r239 then bxr (f_X7_value G281 9) (fun r285 => bxr (f_X7_value G281 10) (fun r287 => if r239 < 1 then some 1 else if 200 < r239 then some 1 else bxw (f_X7_pass G281 r239) (fun G294 r292 => gd r292 (gd (r285 + r287) (if r292 = (r285 + r287) then bnd (f_X7_hoursToAll G294) (fun G300 r298 => gd r298 (if r298 = 0 then some 1 else some 0)) else some 0))))) else bxr (f_X7_value G281 9) (fun r303 => bxr (f_X7_value G281 10) (fun r305 => some 0))))) else bxr (f_X7_value G266 9) (fun r308 => bxr (f_X7_value G266 10) (fun r310 => some 0))))))) else bxr (f_X7_value G251 9) (fun r313 => bxr (f_X7_value G251 10) (fun r315 => some 0))))))))))))) else f_L_law_L128 sc gFuel G141 F31 y3_29 0 1 (fun G319 F320 y3_318 y4_318 y5_318 => bxr (f_X7_value G319 3) (fun r321 => bnd (f_X7_hoursToAll G319) (fun G325 r323 => gd y4_318 (if y4_318 = 0 then bxr (f_X7_value G325 9) (fun r328 => bxr (f_X7_value G325 10) (fun r330 => some 0)) else bxw (f_X7_pass G325 5) (fun G335 r333 => gd r333 (if r333 < 0 then bxr (f_X7_value G335 9) (fun r338 => bxr (f_X7_value G335 10) (fun r340 => some 0)) else bxr (f_X7_value G335 3) (fun r343 => gd r343 (gd (r321 + 5) (if r343 = (r321 + 5) then bxw (f_X7_undo G335) (fun G350 r348 => gd r348 (if r348 < 0 then bxr (f_X7_value G350 9) (fun r353 => bxr (f_X7_value G350 10) (fun r355 => some 0)) else bxr (f_X7_value G350 3) (fun r358 => gd r358 (gd r321 (if r358 = r321 then bnd (f_X7_hoursToAll G350) (fun G365 r363 => gd r363 (gd r323 (if r363 = r323 then bxr (f_X7_value G365 9) (fun r369 => bxr (f_X7_value G365 10) (fun r371 => if r323 < 1 then some 1 else if 200 < r323 then some 1 else bxw (f_X7_pass G365 r323) (fun G378 r376 => gd r376 (gd (r369 + r371) (if r376 = (r369 + r371) then bnd (f_X7_hoursToAll G378) (fun G384 r382 => gd r382 (if r382 = 0 then some 1 else some 0)) else some 0))))) else bxr (f_X7_value G365 9) (fun r387 => bxr (f_X7_value G365 10) (fun r389 => some 0))))) else bxr (f_X7_value G350 9) (fun r392 => bxr (f_X7_value G350 10) (fun r394 => some 0))))))) else bxr (f_X7_value G335 9) (fun r397 => bxr (f_X7_value G335 10) (fun r399 => some 0))))))))))))))))))
set_option maxHeartbeats 8000000 in
set_option maxRecDepth 100000 in
theorem lw_main {p : Program} {e : Env} {s : State} {m : MethodId} {below : List Frame} {meth : Method} {c : Code} {b L : Nat} {xs : Nat → Int32} {Q : State → Prop} {H : Heap} {locs : List Loc} {ls : Array Slot} (l : Launch) (E0 : gEnv) (B : Nat) (G F : GS) (sc : Int → Int) (hsc : sc = cv L xs) (C : gC p s m (#[Value.ref b] : Array Value) meth c RL cL_law 8 (some .boolean) (eo E0 B F)) (X : va_X b L xs s s.heap ∧ b < s.heap.size ∧ b < B) (hL : L ≤ 260) (h : gH (eo E0 B F) s G H locs) (hl : lv_has ls 8 [(2, rP B), (1, rO B), (0, .ref b)]) (hf : f_L_law sc G F = some 1) (hK : ∀ (_ : Nat) (G F : GS) (H : Heap) (locs : List Loc) (ls : Array Slot), gH (eo E0 B F) s G H locs → W p l e room_1 s m #[Value.ref b] below meth c H locs 646098 7163329 Q (F0 m 313 ls [vI 1])) : W p l e room_1 s m #[Value.ref b] below meth c H locs 646098 7163329 Q (F0 m 16 ls []) := by
  have CO := gC_o C
  have CP := gC_p C
  have L35 : ∀ (n : Nat) (G F : GS) (x3 : Int) (x4 : Int) (x5 : Int) (k : (GS → GS → Int → Int → Int → Option (Int))) (hK : ∀ (G F : GS) (x3 : Int) (x4 : Int) (x5 : Int), k G F x3 x4 x5 = some 1 → ∀ (H : Heap) (locs : List Loc), gH (eo E0 B F) s G H locs → ∀ ls, lv_has ls 8 [(0, .ref b), (1, rO B), (2, rP B), (3, vI x3), (4, vI x4), (5, vI x5)] → W p l e room_1 s m #[Value.ref b] below meth c H locs 646098 7163329 Q (F0 m 97 ls [])), ∀ (H : Heap) (locs : List Loc), gH (eo E0 B F) s G H locs → ∀ ls, lv_has ls 8 [(0, .ref b), (1, rO B), (2, rP B), (3, vI x3), (4, vI x4), (5, vI x5)] → f_L_law_L35 sc n G F x3 x4 x5 k = some 1 → W p l e room_1 s m #[Value.ref b] below meth c H locs 646098 7163329 Q (F0 m 35 ls []) := by
    intro n
    induction n with
    | zero =>
      intro G F x3 x4 x5 k hK H locs h ls hl hf
      exact absurd hf (by simp [f_L_law_L35])
    | succ n ih =>
      intro G F x3 x4 x5 k hK H locs h ls hl hf
      unfold f_L_law_L35 at hf
      refine g_iload C hl 5 rfl (gdec kL_law 20 rfl) ?_
      refine g_iload_n C hl 3 rfl rfl (gdec kL_law 21 rfl) ?_
      refine g_iconst C (gdec kL_law 22 rfl) ?_
      refine g_isub C (gdec kL_law 23 rfl) ?_
      obtain ⟨h4, hf⟩ := gd_s hf
      obtain ⟨h5, hf⟩ := gd_s hf
      refine g_icmp_ge C (tgt := 97) h4 h5 (by decide) (gdec kL_law 24 rfl) (fun c6 => ?_) (fun c6 => ?_)
      · replace hf := ifp c6 hf
        refine g_iload C hl 4 rfl (gdec kL_law 25 rfl) ?_
        obtain ⟨h7, hf⟩ := gd_s hf
        refine g_if_eq C (tgt := 88) h7 (by decide) (gdec kL_law 26 rfl) (fun c8 => ?_) (fun c8 => ?_)
        · replace hf := ifp c8 hf
          refine g_iconst C (gdec kL_law 45 rfl) ?_
          refine g_istore C [(4, vI 0), (0, .ref b), (1, rO B), (2, rP B), (3, vI x3), (5, vI x5)] hl (by decide) rfl (gdec kL_law 46 rfl) (fun ls hl => ?_)
          refine g_iinc C (k := 5) [(5, vI (x5 + 1)), (4, vI 0), (0, .ref b), (1, rO B), (2, rP B), (3, vI x3)] hl rfl (by decide) rfl (gdec kL_law 47 rfl) (fun ls hl => ?_)
          refine g_goto C (tgt := 35) (by decide) (gdec kL_law 48 rfl) ?_
          exact ih _ _ _ _ _ k hK H locs h ls (lv_sub hl [2, 3, 4, 5, 1, 0] rfl) hf
        · replace hf := ifn c8 hf
          refine g_aload_n C hl 1 rfl rfl (gdec kL_law 27 rfl) ?_
          refine g_bipush C (gdec kL_law 28 rfl) rfl ?_
          obtain ⟨G11, r9, q10, hf⟩ := bxw_s hf
          refine g_ci h (g_runV (CO F) h ok_o (by decide) rfl (c_X7_append l (eo E0 B F) G 50 ok_o _ _ q10) wM_L_72 wI_X7_append wS_X7_append wN_X7 wC_X7_append rfl ny_X7_append rfl ⟨Nat.le_of_ble_eq_true rfl, Nat.le_of_ble_eq_true rfl⟩ hl.1 rfl (Nat.le_of_ble_eq_true rfl) (gdec kL_law 29 rfl) (by decide)) (fun H locs h => ?_)
          obtain ⟨h12, hf⟩ := gd_s hf
          refine g_if_le C (tgt := 88) h12 (by decide) (gdec kL_law 30 rfl) (fun c13 => ?_) (fun c13 => ?_)
          · replace hf := ifp c13 hf
            refine g_aload_n C hl 1 rfl rfl (gdec kL_law 31 rfl) ?_
            refine g_bipush C (gdec kL_law 32 rfl) rfl ?_
            obtain ⟨G16, r14, q15, hf⟩ := bxw_s hf
            refine g_ci h (g_runV (CO F) h ok_o (by decide) rfl (c_X7_append l (eo E0 B F) G11 59 ok_o _ _ q15) wM_L_72 wI_X7_append wS_X7_append wN_X7 wC_X7_append rfl ny_X7_append rfl ⟨Nat.le_of_ble_eq_true rfl, Nat.le_of_ble_eq_true rfl⟩ hl.1 rfl (Nat.le_of_ble_eq_true rfl) (gdec kL_law 33 rfl) (by decide)) (fun H locs h => ?_)
            obtain ⟨h17, hf⟩ := gd_s hf
            refine g_if_le C (tgt := 88) h17 (by decide) (gdec kL_law 34 rfl) (fun c18 => ?_) (fun c18 => ?_)
            · replace hf := ifp c18 hf
              refine g_aload_n C hl 2 rfl rfl (gdec kL_law 35 rfl) ?_
              refine g_bipush C (gdec kL_law 36 rfl) rfl ?_
              obtain ⟨F21, r19, q20, hf⟩ := bxw_s hf
              refine g_ci (g_sw h) (g_runV (CP G16) (g_sw h) ok_p (by decide) rfl (c_X7_append l (ep E0 B G16) F 50 ok_p _ _ q20) wM_L_72 wI_X7_append wS_X7_append wN_X7 wC_X7_append rfl ny_X7_append rfl ⟨Nat.le_of_ble_eq_true rfl, Nat.le_of_ble_eq_true rfl⟩ hl.1 rfl (Nat.le_of_ble_eq_true rfl) (gdec kL_law 37 rfl) (by decide)) (fun H locs h => ?_)
              replace h := g_ws h
              obtain ⟨h22, hf⟩ := gd_s hf
              refine g_if_le C (tgt := 88) h22 (by decide) (gdec kL_law 38 rfl) (fun c23 => ?_) (fun c23 => ?_)
              · replace hf := ifp c23 hf
                refine g_aload_n C hl 2 rfl rfl (gdec kL_law 39 rfl) ?_
                refine g_bipush C (gdec kL_law 40 rfl) rfl ?_
                obtain ⟨F26, r24, q25, hf⟩ := bxw_s hf
                refine g_ci (g_sw h) (g_runV (CP G16) (g_sw h) ok_p (by decide) rfl (c_X7_append l (ep E0 B G16) F21 59 ok_p _ _ q25) wM_L_72 wI_X7_append wS_X7_append wN_X7 wC_X7_append rfl ny_X7_append rfl ⟨Nat.le_of_ble_eq_true rfl, Nat.le_of_ble_eq_true rfl⟩ hl.1 rfl (Nat.le_of_ble_eq_true rfl) (gdec kL_law 41 rfl) (by decide)) (fun H locs h => ?_)
                replace h := g_ws h
                obtain ⟨h27, hf⟩ := gd_s hf
                refine g_if_le C (tgt := 88) h27 (by decide) (gdec kL_law 42 rfl) (fun c28 => ?_) (fun c28 => ?_)
                · replace hf := ifp c28 hf
                  refine g_iconst C (gdec kL_law 43 rfl) ?_
                  refine g_goto C (tgt := 89) (by decide) (gdec kL_law 44 rfl) ?_
                  refine g_istore C [(4, vI 1), (0, .ref b), (1, rO B), (2, rP B), (3, vI x3), (5, vI x5)] hl (by decide) rfl (gdec kL_law 46 rfl) (fun ls hl => ?_)
                  refine g_iinc C (k := 5) [(5, vI (x5 + 1)), (4, vI 1), (0, .ref b), (1, rO B), (2, rP B), (3, vI x3)] hl rfl (by decide) rfl (gdec kL_law 47 rfl) (fun ls hl => ?_)
                  refine g_goto C (tgt := 35) (by decide) (gdec kL_law 48 rfl) ?_
                  exact ih _ _ _ _ _ k hK H locs h ls (lv_sub hl [2, 3, 4, 5, 1, 0] rfl) hf
                · replace hf := ifn c28 hf
                  refine g_iconst C (gdec kL_law 45 rfl) ?_
                  refine g_istore C [(4, vI 0), (0, .ref b), (1, rO B), (2, rP B), (3, vI x3), (5, vI x5)] hl (by decide) rfl (gdec kL_law 46 rfl) (fun ls hl => ?_)
                  refine g_iinc C (k := 5) [(5, vI (x5 + 1)), (4, vI 0), (0, .ref b), (1, rO B), (2, rP B), (3, vI x3)] hl rfl (by decide) rfl (gdec kL_law 47 rfl) (fun ls hl => ?_)
                  refine g_goto C (tgt := 35) (by decide) (gdec kL_law 48 rfl) ?_
                  exact ih _ _ _ _ _ k hK H locs h ls (lv_sub hl [2, 3, 4, 5, 1, 0] rfl) hf
              · replace hf := ifn c23 hf
                refine g_iconst C (gdec kL_law 45 rfl) ?_
                refine g_istore C [(4, vI 0), (0, .ref b), (1, rO B), (2, rP B), (3, vI x3), (5, vI x5)] hl (by decide) rfl (gdec kL_law 46 rfl) (fun ls hl => ?_)
                refine g_iinc C (k := 5) [(5, vI (x5 + 1)), (4, vI 0), (0, .ref b), (1, rO B), (2, rP B), (3, vI x3)] hl rfl (by decide) rfl (gdec kL_law 47 rfl) (fun ls hl => ?_)
                refine g_goto C (tgt := 35) (by decide) (gdec kL_law 48 rfl) ?_
                exact ih _ _ _ _ _ k hK H locs h ls (lv_sub hl [2, 3, 4, 5, 1, 0] rfl) hf
            · replace hf := ifn c18 hf
              refine g_iconst C (gdec kL_law 45 rfl) ?_
              refine g_istore C [(4, vI 0), (0, .ref b), (1, rO B), (2, rP B), (3, vI x3), (5, vI x5)] hl (by decide) rfl (gdec kL_law 46 rfl) (fun ls hl => ?_)
              refine g_iinc C (k := 5) [(5, vI (x5 + 1)), (4, vI 0), (0, .ref b), (1, rO B), (2, rP B), (3, vI x3)] hl rfl (by decide) rfl (gdec kL_law 47 rfl) (fun ls hl => ?_)
              refine g_goto C (tgt := 35) (by decide) (gdec kL_law 48 rfl) ?_
              exact ih _ _ _ _ _ k hK H locs h ls (lv_sub hl [2, 3, 4, 5, 1, 0] rfl) hf
          · replace hf := ifn c13 hf
            refine g_iconst C (gdec kL_law 45 rfl) ?_
            refine g_istore C [(4, vI 0), (0, .ref b), (1, rO B), (2, rP B), (3, vI x3), (5, vI x5)] hl (by decide) rfl (gdec kL_law 46 rfl) (fun ls hl => ?_)
            refine g_iinc C (k := 5) [(5, vI (x5 + 1)), (4, vI 0), (0, .ref b), (1, rO B), (2, rP B), (3, vI x3)] hl rfl (by decide) rfl (gdec kL_law 47 rfl) (fun ls hl => ?_)
            refine g_goto C (tgt := 35) (by decide) (gdec kL_law 48 rfl) ?_
            exact ih _ _ _ _ _ k hK H locs h ls (lv_sub hl [2, 3, 4, 5, 1, 0] rfl) hf
      · replace hf := ifn c6 hf
        exact hK _ _ _ _ _ hf H locs h ls (lv_sub hl [0, 1, 2, 3, 4, 5] rfl)
  have L128 : ∀ (n : Nat) (G F : GS) (x3 : Int) (x4 : Int) (x5 : Int) (k : (GS → GS → Int → Int → Int → Option (Int))) (hK : ∀ (G F : GS) (x3 : Int) (x4 : Int) (x5 : Int), k G F x3 x4 x5 = some 1 → ∀ (H : Heap) (locs : List Loc), gH (eo E0 B F) s G H locs → ∀ ls, lv_has ls 8 [(0, .ref b), (1, rO B), (2, rP B), (3, vI x3), (4, vI x4), (5, vI x5)] → W p l e room_1 s m #[Value.ref b] below meth c H locs 646098 7163329 Q (F0 m 185 ls [])), ∀ (H : Heap) (locs : List Loc), gH (eo E0 B F) s G H locs → ∀ ls, lv_has ls 8 [(0, .ref b), (1, rO B), (2, rP B), (3, vI x3), (4, vI x4), (5, vI x5)] → f_L_law_L128 sc n G F x3 x4 x5 k = some 1 → W p l e room_1 s m #[Value.ref b] below meth c H locs 646098 7163329 Q (F0 m 128 ls []) := by
    intro n
    induction n with
    | zero =>
      intro G F x3 x4 x5 k hK H locs h ls hl hf
      exact absurd hf (by simp [f_L_law_L128])
    | succ n ih =>
      intro G F x3 x4 x5 k hK H locs h ls hl hf
      unfold f_L_law_L128 at hf
      refine g_iload C hl 5 rfl (gdec kL_law_1 5 rfl) ?_
      refine g_bipush C (gdec kL_law_1 6 rfl) rfl ?_
      obtain ⟨h34, hf⟩ := gd_s hf
      refine g_icmp_ge C (tgt := 185) h34 (by decide) (by decide) (gdec kL_law_1 7 rfl) (fun c35 => ?_) (fun c35 => ?_)
      · replace hf := ifp c35 hf
        refine g_iload C hl 4 rfl (gdec kL_law_1 8 rfl) ?_
        obtain ⟨h36, hf⟩ := gd_s hf
        refine g_if_eq C (tgt := 185) h36 (by decide) (gdec kL_law_1 9 rfl) (fun c37 => ?_) (fun c37 => ?_)
        · replace hf := ifp c37 hf
          exact hK _ _ _ _ _ hf H locs h ls (lv_sub hl [0, 1, 2, 3, 4, 5] rfl)
        · replace hf := ifn c37 hf
          refine g_aload_n C hl 1 rfl rfl (gdec kL_law_1 10 rfl) ?_
          refine g_aload_n C hl 2 rfl rfl (gdec kL_law_1 11 rfl) ?_
          refine g_iload_n C hl 3 rfl rfl (gdec kL_law_1 12 rfl) ?_
          refine g_aload_n C hl 0 rfl rfl (gdec kL_law_1 13 rfl) ?_
          refine g_iload C hl 5 rfl (gdec kL_law_1 14 rfl) ?_
          obtain ⟨h38, hf⟩ := ga_s hf
          refine g_cell l (CO F) h X hsc h38 hL wM_L_68 (by decide) hl.1 (Nat.le_of_ble_eq_true rfl) (gdec kL_law_1 15 rfl) (by decide) (fun H locs h => ?_)
          obtain ⟨G39, F40, r41, q42, hf⟩ := bn3_s hf
          refine g_ci2 h (g_runS (CO F) h (c_L_isStep l E0 B G F x3 (sc x5) _ _ _ q42) wM_L_78 wT_L_isStep wN_L wC_L_isStep rfl ny_L_isStep rfl ⟨Nat.le_of_ble_eq_true rfl, Nat.le_of_ble_eq_true rfl⟩ hl.1 rfl (Nat.le_of_ble_eq_true rfl) (gdec kL_law_1 16 rfl) (by decide)) (fun H locs h => ?_)
          obtain ⟨h43, hf⟩ := gd_s hf
          refine g_if_eq C (tgt := 176) h43 (by decide) (gdec kL_law_1 17 rfl) (fun c44 => ?_) (fun c44 => ?_)
          · replace hf := ifp c44 hf
            refine g_iconst C (gdec kL_law_1 29 rfl) ?_
            refine g_istore C [(4, vI 0), (0, .ref b), (1, rO B), (2, rP B), (3, vI x3), (5, vI x5)] hl (by decide) rfl (gdec kL_law_1 30 rfl) (fun ls hl => ?_)
            refine g_iinc C (k := 5) [(5, vI (x5 + 1)), (4, vI 0), (0, .ref b), (1, rO B), (2, rP B), (3, vI x3)] hl rfl (by decide) rfl (gdec kL_law_1 31 rfl) (fun ls hl => ?_)
            refine g_goto C (tgt := 128) (by decide) (gdec kL_law_1 32 rfl) ?_
            exact ih _ _ _ _ _ k hK H locs h ls (lv_sub hl [2, 3, 4, 5, 1, 0] rfl) hf
          · replace hf := ifn c44 hf
            refine g_aload_n C hl 1 rfl rfl (gdec kL_law_1 18 rfl) ?_
            refine g_aload_n C hl 2 rfl rfl (gdec kL_law_1 19 rfl) ?_
            refine g_iload_n C hl 3 rfl rfl (gdec kL_law_1 20 rfl) ?_
            obtain ⟨G45, F46, r47, q48, hf⟩ := bn3_s hf
            refine g_ci2 h (g_runS (CO F40) h (c_L_areAlike l E0 B G39 F40 x3 _ _ _ q48) wM_L_82 wT_L_areAlike wN_L wC_L_areAlike rfl ny_L_areAlike rfl ⟨Nat.le_of_ble_eq_true rfl, Nat.le_of_ble_eq_true rfl⟩ hl.1 rfl (Nat.le_of_ble_eq_true rfl) (gdec kL_law_1 21 rfl) (by decide)) (fun H locs h => ?_)
            obtain ⟨h49, hf⟩ := gd_s hf
            refine g_if_eq C (tgt := 176) h49 (by decide) (gdec kL_law_1 22 rfl) (fun c50 => ?_) (fun c50 => ?_)
            · replace hf := ifp c50 hf
              refine g_iconst C (gdec kL_law_1 29 rfl) ?_
              refine g_istore C [(4, vI 0), (0, .ref b), (1, rO B), (2, rP B), (3, vI x3), (5, vI x5)] hl (by decide) rfl (gdec kL_law_1 30 rfl) (fun ls hl => ?_)
              refine g_iinc C (k := 5) [(5, vI (x5 + 1)), (4, vI 0), (0, .ref b), (1, rO B), (2, rP B), (3, vI x3)] hl rfl (by decide) rfl (gdec kL_law_1 31 rfl) (fun ls hl => ?_)
              refine g_goto C (tgt := 128) (by decide) (gdec kL_law_1 32 rfl) ?_
              exact ih _ _ _ _ _ k hK H locs h ls (lv_sub hl [2, 3, 4, 5, 1, 0] rfl) hf
            · replace hf := ifn c50 hf
              refine g_aload_n C hl 1 rfl rfl (gdec kL_law_1 23 rfl) ?_
              refine g_iload_n C hl 3 rfl rfl (gdec kL_law_1 24 rfl) ?_
              obtain ⟨r51, q52, hf⟩ := bn1_s hf
              refine g_ci h (g_runS (CO F46) h (c_L_isSound l E0 B G45 F46 x3 _ q52) wM_L_86 wT_L_isSound wN_L wC_L_isSound rfl ny_L_isSound rfl ⟨Nat.le_of_ble_eq_true rfl, Nat.le_of_ble_eq_true rfl⟩ hl.1 rfl (Nat.le_of_ble_eq_true rfl) (gdec kL_law_1 25 rfl) (by decide)) (fun H locs h => ?_)
              obtain ⟨h53, hf⟩ := gd_s hf
              refine g_if_eq C (tgt := 176) h53 (by decide) (gdec kL_law_1 26 rfl) (fun c54 => ?_) (fun c54 => ?_)
              · replace hf := ifp c54 hf
                refine g_iconst C (gdec kL_law_1 29 rfl) ?_
                refine g_istore C [(4, vI 0), (0, .ref b), (1, rO B), (2, rP B), (3, vI x3), (5, vI x5)] hl (by decide) rfl (gdec kL_law_1 30 rfl) (fun ls hl => ?_)
                refine g_iinc C (k := 5) [(5, vI (x5 + 1)), (4, vI 0), (0, .ref b), (1, rO B), (2, rP B), (3, vI x3)] hl rfl (by decide) rfl (gdec kL_law_1 31 rfl) (fun ls hl => ?_)
                refine g_goto C (tgt := 128) (by decide) (gdec kL_law_1 32 rfl) ?_
                exact ih _ _ _ _ _ k hK H locs h ls (lv_sub hl [2, 3, 4, 5, 1, 0] rfl) hf
              · replace hf := ifn c54 hf
                refine g_iconst C (gdec kL_law_1 27 rfl) ?_
                refine g_goto C (tgt := 177) (by decide) (gdec kL_law_1 28 rfl) ?_
                refine g_istore C [(4, vI 1), (0, .ref b), (1, rO B), (2, rP B), (3, vI x3), (5, vI x5)] hl (by decide) rfl (gdec kL_law_1 30 rfl) (fun ls hl => ?_)
                refine g_iinc C (k := 5) [(5, vI (x5 + 1)), (4, vI 1), (0, .ref b), (1, rO B), (2, rP B), (3, vI x3)] hl rfl (by decide) rfl (gdec kL_law_1 31 rfl) (fun ls hl => ?_)
                refine g_goto C (tgt := 128) (by decide) (gdec kL_law_1 32 rfl) ?_
                exact ih _ _ _ _ _ k hK H locs h ls (lv_sub hl [2, 3, 4, 5, 1, 0] rfl) hf
      · replace hf := ifn c35 hf
        exact hK _ _ _ _ _ hf H locs h ls (lv_sub hl [0, 1, 2, 3, 4, 5] rfl)
  unfold f_L_law at hf
  refine g_iconst C (gdec kL_law 8 rfl) ?_
  refine g_aload_n C hl 2 rfl rfl (gdec kL_law 9 rfl) ?_
  refine g_iconst C (gdec kL_law 10 rfl) ?_
  obtain ⟨h1, hf⟩ := ga_s hf
  refine g_cell l (CO F) h X hsc h1 hL wM_L_68 (by decide) hl.1 (Nat.le_of_ble_eq_true rfl) (gdec kL_law 11 rfl) (by decide) (fun H locs h => ?_)
  refine g_bipush C (gdec kL_law 12 rfl) rfl ?_
  obtain ⟨r2, q3, hf⟩ := bn1_s hf
  refine g_ci h (g_runS (CO F) h (c_L_up l (eo E0 B F) G (sc 0) 7 _ q3) wM_L_9 wT_L_up wN_L wC_L_up rfl ny_L_up rfl ⟨Nat.le_of_ble_eq_true rfl, Nat.le_of_ble_eq_true rfl⟩ hl.1 rfl (Nat.le_of_ble_eq_true rfl) (gdec kL_law 13 rfl) (by decide)) (fun H locs h => ?_)
  refine g_iadd C (gdec kL_law 14 rfl) ?_
  refine g_istore_n C [(3, vI (2 + r2)), (2, rP B), (1, rO B), (0, .ref b)] hl rfl (by decide) rfl (gdec kL_law 15 rfl) (fun ls hl => ?_)
  refine g_iconst C (gdec kL_law 16 rfl) ?_
  refine g_istore C [(4, vI 1), (3, vI (2 + r2)), (2, rP B), (1, rO B), (0, .ref b)] hl (by decide) rfl (gdec kL_law 17 rfl) (fun ls hl => ?_)
  refine g_iconst C (gdec kL_law 18 rfl) ?_
  refine g_istore C [(5, vI 0), (4, vI 1), (3, vI (2 + r2)), (2, rP B), (1, rO B), (0, .ref b)] hl (by decide) rfl (gdec kL_law 19 rfl) (fun ls hl => ?_)
  refine L35 gFuel _ _ _ _ _ _ (fun G30 F31 y3_29 y4_29 y5_29 hf H locs h ls hl => ?_) H locs h ls (lv_sub hl [5, 4, 3, 2, 1, 0] rfl) hf
  refine g_iload C hl 4 rfl (gdec kL_law 49 rfl) ?_
  obtain ⟨h32, hf⟩ := gd_s hf
  refine g_if_eq C (tgt := 122) h32 (by decide) (gdec kL_law 50 rfl) (fun c33 => ?_) (fun c33 => ?_)
  · replace hf := ifp c33 hf
    refine g_iconst C (gdec kL_law_1 1 rfl) ?_
    refine g_istore C [(4, vI 0), (0, .ref b), (1, rO B), (2, rP B), (3, vI y3_29), (5, vI y5_29)] hl (by decide) rfl (gdec kL_law_1 2 rfl) (fun ls hl => ?_)
    refine g_iconst C (gdec kL_law_1 3 rfl) ?_
    refine g_istore C [(5, vI 1), (4, vI 0), (0, .ref b), (1, rO B), (2, rP B), (3, vI y3_29)] hl (by decide) rfl (gdec kL_law_1 4 rfl) (fun ls hl => ?_)
    refine L128 gFuel _ _ _ _ _ _ (fun G56 F57 y3_55 y4_55 y5_55 hf H locs h ls hl => ?_) H locs h ls (lv_sub hl [2, 3, 4, 5, 1, 0] rfl) hf
    refine g_aload_n C hl 1 rfl rfl (gdec kL_law_1 33 rfl) ?_
    refine g_iconst C (gdec kL_law_1 34 rfl) ?_
    obtain ⟨r58, q59, hf⟩ := bxr_s hf
    refine g_ci h (g_runV (CO F57) h ok_o (by decide) rfl (c_X7_value l (eo E0 B F57) G56 3 ok_o _ q59) wM_L_24 wI_X7_value wS_X7_value wN_X7 wC_X7_value rfl ny_X7_value rfl ⟨Nat.le_of_ble_eq_true rfl, Nat.le_of_ble_eq_true rfl⟩ hl.1 rfl (Nat.le_of_ble_eq_true rfl) (gdec kL_law_1 35 rfl) (by decide)) (fun H locs h => ?_)
    refine g_istore C [(5, vI r58), (0, .ref b), (1, rO B), (2, rP B), (3, vI y3_55), (4, vI y4_55)] hl (by decide) rfl (gdec kL_law_1 36 rfl) (fun ls hl => ?_)
    refine g_aload_n C hl 2 rfl rfl (gdec kL_law_1 37 rfl) ?_
    obtain ⟨G62, r60, q61, hf⟩ := bnd_s hf
    refine g_ci h (g_runV (CO F57) h ok_o (by decide) rfl (c_X7_hoursToAll l (eo E0 B F57) G56 ok_o _ _ q61) wM_L_46 wI_X7_hoursToAll wS_X7_hoursToAll wN_X7 wC_X7_hoursToAll rfl ny_X7_hoursToAll rfl ⟨Nat.le_of_ble_eq_true rfl, Nat.le_of_ble_eq_true rfl⟩ hl.1 rfl (Nat.le_of_ble_eq_true rfl) (gdec kL_law_1 38 rfl) (by decide)) (fun H locs h => ?_)
    refine g_istore C [(6, vI r60), (5, vI r58), (0, .ref b), (1, rO B), (2, rP B), (3, vI y3_55), (4, vI y4_55)] hl (by decide) rfl (gdec kL_law_1 39 rfl) (fun ls hl => ?_)
    refine g_iload C hl 6 rfl (gdec kL_law_1 40 rfl) ?_
    obtain ⟨h63, hf⟩ := gd_s hf
    refine g_if_eq C (tgt := 253) h63 (by decide) (gdec kL_law_1 41 rfl) (fun c64 => ?_) (fun c64 => ?_)
    · replace hf := ifp c64 hf
      refine g_iconst C (gdec kL_law_2 7 rfl) ?_
      refine g_istore C [(4, vI 0), (6, vI r60), (5, vI r58), (0, .ref b), (1, rO B), (2, rP B), (3, vI y3_55)] hl (by decide) rfl (gdec kL_law_2 8 rfl) (fun ls hl => ?_)
      refine g_aload_n C hl 4 rfl rfl (gdec kL_law_2 9 rfl) ?_
      refine g_bipush C (gdec kL_law_2 10 rfl) rfl ?_
      obtain ⟨r65, q66, hf⟩ := bxr_s hf
      refine g_ci h (g_runV (CO F57) h ok_o (by decide) rfl (c_X7_value l (eo E0 B F57) G62 9 ok_o _ q66) wM_L_24 wI_X7_value wS_X7_value wN_X7 wC_X7_value rfl ny_X7_value rfl ⟨Nat.le_of_ble_eq_true rfl, Nat.le_of_ble_eq_true rfl⟩ hl.1 rfl (Nat.le_of_ble_eq_true rfl) (gdec kL_law_2 11 rfl) (by decide)) (fun H locs h => ?_)
      refine g_aload_n C hl 4 rfl rfl (gdec kL_law_2 12 rfl) ?_
      refine g_bipush C (gdec kL_law_2 13 rfl) rfl ?_
      obtain ⟨r67, q68, hf⟩ := bxr_s hf
      refine g_ci h (g_runV (CO F57) h ok_o (by decide) rfl (c_X7_value l (eo E0 B F57) G62 10 ok_o _ q68) wM_L_24 wI_X7_value wS_X7_value wN_X7 wC_X7_value rfl ny_X7_value rfl ⟨Nat.le_of_ble_eq_true rfl, Nat.le_of_ble_eq_true rfl⟩ hl.1 rfl (Nat.le_of_ble_eq_true rfl) (gdec kL_law_2 14 rfl) (by decide)) (fun H locs h => ?_)
      refine g_iadd C (gdec kL_law_2 15 rfl) ?_
      refine g_istore C [(7, vI (r65 + r67)), (4, vI 0), (6, vI r60), (5, vI r58), (0, .ref b), (1, rO B), (2, rP B), (3, vI y3_55)] hl (by decide) rfl (gdec kL_law_2 16 rfl) (fun ls hl => ?_)
      refine g_iload C hl 1 rfl (gdec kL_law_2 17 rfl) ?_
      refine g_if_eq C (tgt := 312) (by decide) (by decide) (gdec kL_law_2 18 rfl) (fun c69 => ?_) (fun c69 => absurd (by decide) c69)
      refine g_iconst C (gdec kL_law_2 35 rfl) ?_
      exact absurd hf (by decide)
    · replace hf := ifn c64 hf
      refine g_aload_n C hl 3 rfl rfl (gdec kL_law_1 42 rfl) ?_
      refine g_iconst C (gdec kL_law_1 43 rfl) ?_
      obtain ⟨G72, r70, q71, hf⟩ := bxw_s hf
      refine g_ci h (g_runV (CO F57) h ok_o (by decide) rfl (c_X7_pass l (eo E0 B F57) G62 5 ok_o _ _ q71) wM_L_39 wI_X7_pass wS_X7_pass wN_X7 wC_X7_pass rfl ny_X7_pass rfl ⟨Nat.le_of_ble_eq_true rfl, Nat.le_of_ble_eq_true rfl⟩ hl.1 rfl (Nat.le_of_ble_eq_true rfl) (gdec kL_law_1 44 rfl) (by decide)) (fun H locs h => ?_)
      obtain ⟨h73, hf⟩ := gd_s hf
      refine g_if_lt C (tgt := 253) h73 (by decide) (gdec kL_law_1 45 rfl) (fun c74 => ?_) (fun c74 => ?_)
      · replace hf := ifp c74 hf
        refine g_iconst C (gdec kL_law_2 7 rfl) ?_
        refine g_istore C [(4, vI 0), (6, vI r60), (5, vI r58), (0, .ref b), (1, rO B), (2, rP B), (3, vI y3_55)] hl (by decide) rfl (gdec kL_law_2 8 rfl) (fun ls hl => ?_)
        refine g_aload_n C hl 4 rfl rfl (gdec kL_law_2 9 rfl) ?_
        refine g_bipush C (gdec kL_law_2 10 rfl) rfl ?_
        obtain ⟨r75, q76, hf⟩ := bxr_s hf
        refine g_ci h (g_runV (CO F57) h ok_o (by decide) rfl (c_X7_value l (eo E0 B F57) G72 9 ok_o _ q76) wM_L_24 wI_X7_value wS_X7_value wN_X7 wC_X7_value rfl ny_X7_value rfl ⟨Nat.le_of_ble_eq_true rfl, Nat.le_of_ble_eq_true rfl⟩ hl.1 rfl (Nat.le_of_ble_eq_true rfl) (gdec kL_law_2 11 rfl) (by decide)) (fun H locs h => ?_)
        refine g_aload_n C hl 4 rfl rfl (gdec kL_law_2 12 rfl) ?_
        refine g_bipush C (gdec kL_law_2 13 rfl) rfl ?_
        obtain ⟨r77, q78, hf⟩ := bxr_s hf
        refine g_ci h (g_runV (CO F57) h ok_o (by decide) rfl (c_X7_value l (eo E0 B F57) G72 10 ok_o _ q78) wM_L_24 wI_X7_value wS_X7_value wN_X7 wC_X7_value rfl ny_X7_value rfl ⟨Nat.le_of_ble_eq_true rfl, Nat.le_of_ble_eq_true rfl⟩ hl.1 rfl (Nat.le_of_ble_eq_true rfl) (gdec kL_law_2 14 rfl) (by decide)) (fun H locs h => ?_)
        refine g_iadd C (gdec kL_law_2 15 rfl) ?_
        refine g_istore C [(7, vI (r75 + r77)), (4, vI 0), (6, vI r60), (5, vI r58), (0, .ref b), (1, rO B), (2, rP B), (3, vI y3_55)] hl (by decide) rfl (gdec kL_law_2 16 rfl) (fun ls hl => ?_)
        refine g_iload C hl 1 rfl (gdec kL_law_2 17 rfl) ?_
        refine g_if_eq C (tgt := 312) (by decide) (by decide) (gdec kL_law_2 18 rfl) (fun c79 => ?_) (fun c79 => absurd (by decide) c79)
        refine g_iconst C (gdec kL_law_2 35 rfl) ?_
        exact absurd hf (by decide)
      · replace hf := ifn c74 hf
        refine g_aload_n C hl 3 rfl rfl (gdec kL_law_1 46 rfl) ?_
        refine g_iconst C (gdec kL_law_1 47 rfl) ?_
        obtain ⟨r80, q81, hf⟩ := bxr_s hf
        refine g_ci h (g_runV (CO F57) h ok_o (by decide) rfl (c_X7_value l (eo E0 B F57) G72 3 ok_o _ q81) wM_L_24 wI_X7_value wS_X7_value wN_X7 wC_X7_value rfl ny_X7_value rfl ⟨Nat.le_of_ble_eq_true rfl, Nat.le_of_ble_eq_true rfl⟩ hl.1 rfl (Nat.le_of_ble_eq_true rfl) (gdec kL_law_1 48 rfl) (by decide)) (fun H locs h => ?_)
        refine g_iload C hl 1 rfl (gdec kL_law_1 49 rfl) ?_
        refine g_iconst C (gdec kL_law_1 50 rfl) ?_
        refine g_iadd C (gdec kL_law_1 51 rfl) ?_
        obtain ⟨h82, hf⟩ := gd_s hf
        obtain ⟨h83, hf⟩ := gd_s hf
        refine g_icmp_ne C (tgt := 253) h82 h83 (by decide) (gdec kL_law_1 52 rfl) (fun c84 => ?_) (fun c84 => ?_)
        · replace hf := ifp c84 hf
          refine g_aload_n C hl 3 rfl rfl (gdec kL_law_1 53 rfl) ?_
          obtain ⟨G87, r85, q86, hf⟩ := bxw_s hf
          refine g_ci h (g_runV (CO F57) h ok_o (by decide) rfl (c_X7_undo l (eo E0 B F57) G72 ok_o _ _ q86) wM_L_90 wI_X7_undo wS_X7_undo wN_X7 wC_X7_undo rfl ny_X7_undo rfl ⟨Nat.le_of_ble_eq_true rfl, Nat.le_of_ble_eq_true rfl⟩ hl.1 rfl (Nat.le_of_ble_eq_true rfl) (gdec kL_law_1 54 rfl) (by decide)) (fun H locs h => ?_)
          obtain ⟨h88, hf⟩ := gd_s hf
          refine g_if_lt C (tgt := 253) h88 (by decide) (gdec kL_law_1 55 rfl) (fun c89 => ?_) (fun c89 => ?_)
          · replace hf := ifp c89 hf
            refine g_iconst C (gdec kL_law_2 7 rfl) ?_
            refine g_istore C [(4, vI 0), (6, vI r60), (5, vI r58), (0, .ref b), (1, rO B), (2, rP B), (3, vI y3_55)] hl (by decide) rfl (gdec kL_law_2 8 rfl) (fun ls hl => ?_)
            refine g_aload_n C hl 4 rfl rfl (gdec kL_law_2 9 rfl) ?_
            refine g_bipush C (gdec kL_law_2 10 rfl) rfl ?_
            obtain ⟨r90, q91, hf⟩ := bxr_s hf
            refine g_ci h (g_runV (CO F57) h ok_o (by decide) rfl (c_X7_value l (eo E0 B F57) G87 9 ok_o _ q91) wM_L_24 wI_X7_value wS_X7_value wN_X7 wC_X7_value rfl ny_X7_value rfl ⟨Nat.le_of_ble_eq_true rfl, Nat.le_of_ble_eq_true rfl⟩ hl.1 rfl (Nat.le_of_ble_eq_true rfl) (gdec kL_law_2 11 rfl) (by decide)) (fun H locs h => ?_)
            refine g_aload_n C hl 4 rfl rfl (gdec kL_law_2 12 rfl) ?_
            refine g_bipush C (gdec kL_law_2 13 rfl) rfl ?_
            obtain ⟨r92, q93, hf⟩ := bxr_s hf
            refine g_ci h (g_runV (CO F57) h ok_o (by decide) rfl (c_X7_value l (eo E0 B F57) G87 10 ok_o _ q93) wM_L_24 wI_X7_value wS_X7_value wN_X7 wC_X7_value rfl ny_X7_value rfl ⟨Nat.le_of_ble_eq_true rfl, Nat.le_of_ble_eq_true rfl⟩ hl.1 rfl (Nat.le_of_ble_eq_true rfl) (gdec kL_law_2 14 rfl) (by decide)) (fun H locs h => ?_)
            refine g_iadd C (gdec kL_law_2 15 rfl) ?_
            refine g_istore C [(7, vI (r90 + r92)), (4, vI 0), (6, vI r60), (5, vI r58), (0, .ref b), (1, rO B), (2, rP B), (3, vI y3_55)] hl (by decide) rfl (gdec kL_law_2 16 rfl) (fun ls hl => ?_)
            refine g_iload C hl 1 rfl (gdec kL_law_2 17 rfl) ?_
            refine g_if_eq C (tgt := 312) (by decide) (by decide) (gdec kL_law_2 18 rfl) (fun c94 => ?_) (fun c94 => absurd (by decide) c94)
            refine g_iconst C (gdec kL_law_2 35 rfl) ?_
            exact absurd hf (by decide)
          · replace hf := ifn c89 hf
            refine g_aload_n C hl 3 rfl rfl (gdec kL_law_1 56 rfl) ?_
            refine g_iconst C (gdec kL_law_1 57 rfl) ?_
            obtain ⟨r95, q96, hf⟩ := bxr_s hf
            refine g_ci h (g_runV (CO F57) h ok_o (by decide) rfl (c_X7_value l (eo E0 B F57) G87 3 ok_o _ q96) wM_L_24 wI_X7_value wS_X7_value wN_X7 wC_X7_value rfl ny_X7_value rfl ⟨Nat.le_of_ble_eq_true rfl, Nat.le_of_ble_eq_true rfl⟩ hl.1 rfl (Nat.le_of_ble_eq_true rfl) (gdec kL_law_1 58 rfl) (by decide)) (fun H locs h => ?_)
            refine g_iload C hl 1 rfl (gdec kL_law_1 59 rfl) ?_
            obtain ⟨h97, hf⟩ := gd_s hf
            obtain ⟨h98, hf⟩ := gd_s hf
            refine g_icmp_ne C (tgt := 253) h97 h98 (by decide) (gdec kL_law_2 0 rfl) (fun c99 => ?_) (fun c99 => ?_)
            · replace hf := ifp c99 hf
              refine g_aload_n C hl 3 rfl rfl (gdec kL_law_2 1 rfl) ?_
              obtain ⟨G102, r100, q101, hf⟩ := bnd_s hf
              refine g_ci h (g_runV (CO F57) h ok_o (by decide) rfl (c_X7_hoursToAll l (eo E0 B F57) G87 ok_o _ _ q101) wM_L_46 wI_X7_hoursToAll wS_X7_hoursToAll wN_X7 wC_X7_hoursToAll rfl ny_X7_hoursToAll rfl ⟨Nat.le_of_ble_eq_true rfl, Nat.le_of_ble_eq_true rfl⟩ hl.1 rfl (Nat.le_of_ble_eq_true rfl) (gdec kL_law_2 2 rfl) (by decide)) (fun H locs h => ?_)
              refine g_iload C hl 0 rfl (gdec kL_law_2 3 rfl) ?_
              obtain ⟨h103, hf⟩ := gd_s hf
              obtain ⟨h104, hf⟩ := gd_s hf
              refine g_icmp_ne C (tgt := 253) h103 h104 (by decide) (gdec kL_law_2 4 rfl) (fun c105 => ?_) (fun c105 => ?_)
              · replace hf := ifp c105 hf
                refine g_iconst C (gdec kL_law_2 5 rfl) ?_
                refine g_goto C (tgt := 254) (by decide) (gdec kL_law_2 6 rfl) ?_
                refine g_istore C [(4, vI 1), (6, vI r60), (5, vI r58), (0, .ref b), (1, rO B), (2, rP B), (3, vI y3_55)] hl (by decide) rfl (gdec kL_law_2 8 rfl) (fun ls hl => ?_)
                refine g_aload_n C hl 4 rfl rfl (gdec kL_law_2 9 rfl) ?_
                refine g_bipush C (gdec kL_law_2 10 rfl) rfl ?_
                obtain ⟨r106, q107, hf⟩ := bxr_s hf
                refine g_ci h (g_runV (CO F57) h ok_o (by decide) rfl (c_X7_value l (eo E0 B F57) G102 9 ok_o _ q107) wM_L_24 wI_X7_value wS_X7_value wN_X7 wC_X7_value rfl ny_X7_value rfl ⟨Nat.le_of_ble_eq_true rfl, Nat.le_of_ble_eq_true rfl⟩ hl.1 rfl (Nat.le_of_ble_eq_true rfl) (gdec kL_law_2 11 rfl) (by decide)) (fun H locs h => ?_)
                refine g_aload_n C hl 4 rfl rfl (gdec kL_law_2 12 rfl) ?_
                refine g_bipush C (gdec kL_law_2 13 rfl) rfl ?_
                obtain ⟨r108, q109, hf⟩ := bxr_s hf
                refine g_ci h (g_runV (CO F57) h ok_o (by decide) rfl (c_X7_value l (eo E0 B F57) G102 10 ok_o _ q109) wM_L_24 wI_X7_value wS_X7_value wN_X7 wC_X7_value rfl ny_X7_value rfl ⟨Nat.le_of_ble_eq_true rfl, Nat.le_of_ble_eq_true rfl⟩ hl.1 rfl (Nat.le_of_ble_eq_true rfl) (gdec kL_law_2 14 rfl) (by decide)) (fun H locs h => ?_)
                refine g_iadd C (gdec kL_law_2 15 rfl) ?_
                refine g_istore C [(7, vI (r106 + r108)), (4, vI 1), (6, vI r60), (5, vI r58), (0, .ref b), (1, rO B), (2, rP B), (3, vI y3_55)] hl (by decide) rfl (gdec kL_law_2 16 rfl) (fun ls hl => ?_)
                refine g_iload C hl 1 rfl (gdec kL_law_2 17 rfl) ?_
                refine g_if_eq C (tgt := 312) (by decide) (by decide) (gdec kL_law_2 18 rfl) (fun c110 => absurd c110 (by decide)) (fun c110 => ?_)
                refine g_iload C hl 2 rfl (gdec kL_law_2 19 rfl) ?_
                refine g_iconst C (gdec kL_law_2 20 rfl) ?_
                refine g_icmp_lt C (tgt := 308) h104 (by decide) (by decide) (gdec kL_law_2 21 rfl) (fun c111 => ?_) (fun c111 => ?_)
                · replace hf := ifp c111 hf
                  refine g_iconst C (gdec kL_law_2 33 rfl) ?_
                  refine g_goto C (tgt := 313) (by decide) (gdec kL_law_2 34 rfl) ?_
                  exact hK 0 _ _ H locs ls h
                · replace hf := ifn c111 hf
                  refine g_iload C hl 2 rfl (gdec kL_law_2 22 rfl) ?_
                  refine g_sipush C (gdec kL_law_2 23 rfl) rfl ?_
                  refine g_icmp_gt C (tgt := 308) h104 (by decide) (by decide) (gdec kL_law_2 24 rfl) (fun c112 => ?_) (fun c112 => ?_)
                  · replace hf := ifp c112 hf
                    refine g_iconst C (gdec kL_law_2 33 rfl) ?_
                    refine g_goto C (tgt := 313) (by decide) (gdec kL_law_2 34 rfl) ?_
                    exact hK 0 _ _ H locs ls h
                  · replace hf := ifn c112 hf
                    refine g_aload_n C hl 5 rfl rfl (gdec kL_law_2 25 rfl) ?_
                    refine g_iload C hl 2 rfl (gdec kL_law_2 26 rfl) ?_
                    obtain ⟨G115, r113, q114, hf⟩ := bxw_s hf
                    refine g_ci h (g_runV (CO F57) h ok_o (by decide) rfl (c_X7_pass l (eo E0 B F57) G102 r60 ok_o _ _ q114) wM_L_39 wI_X7_pass wS_X7_pass wN_X7 wC_X7_pass rfl ny_X7_pass rfl ⟨Nat.le_of_ble_eq_true rfl, Nat.le_of_ble_eq_true rfl⟩ hl.1 rfl (Nat.le_of_ble_eq_true rfl) (gdec kL_law_2 27 rfl) (by decide)) (fun H locs h => ?_)
                    refine g_iload C hl 0 rfl (gdec kL_law_2 28 rfl) ?_
                    obtain ⟨h116, hf⟩ := gd_s hf
                    obtain ⟨h117, hf⟩ := gd_s hf
                    refine g_icmp_ne C (tgt := 312) h116 h117 (by decide) (gdec kL_law_2 29 rfl) (fun c118 => ?_) (fun c118 => ?_)
                    · replace hf := ifp c118 hf
                      refine g_aload_n C hl 5 rfl rfl (gdec kL_law_2 30 rfl) ?_
                      obtain ⟨G121, r119, q120, hf⟩ := bnd_s hf
                      refine g_ci h (g_runV (CO F57) h ok_o (by decide) rfl (c_X7_hoursToAll l (eo E0 B F57) G115 ok_o _ _ q120) wM_L_46 wI_X7_hoursToAll wS_X7_hoursToAll wN_X7 wC_X7_hoursToAll rfl ny_X7_hoursToAll rfl ⟨Nat.le_of_ble_eq_true rfl, Nat.le_of_ble_eq_true rfl⟩ hl.1 rfl (Nat.le_of_ble_eq_true rfl) (gdec kL_law_2 31 rfl) (by decide)) (fun H locs h => ?_)
                      obtain ⟨h122, hf⟩ := gd_s hf
                      refine g_if_ne C (tgt := 312) h122 (by decide) (gdec kL_law_2 32 rfl) (fun c123 => ?_) (fun c123 => ?_)
                      · replace hf := ifp c123 hf
                        refine g_iconst C (gdec kL_law_2 33 rfl) ?_
                        refine g_goto C (tgt := 313) (by decide) (gdec kL_law_2 34 rfl) ?_
                        exact hK 0 _ _ H locs ls h
                      · replace hf := ifn c123 hf
                        refine g_iconst C (gdec kL_law_2 35 rfl) ?_
                        exact absurd hf (by decide)
                    · replace hf := ifn c118 hf
                      refine g_iconst C (gdec kL_law_2 35 rfl) ?_
                      exact absurd hf (by decide)
              · replace hf := ifn c105 hf
                refine g_iconst C (gdec kL_law_2 7 rfl) ?_
                refine g_istore C [(4, vI 0), (6, vI r60), (5, vI r58), (0, .ref b), (1, rO B), (2, rP B), (3, vI y3_55)] hl (by decide) rfl (gdec kL_law_2 8 rfl) (fun ls hl => ?_)
                refine g_aload_n C hl 4 rfl rfl (gdec kL_law_2 9 rfl) ?_
                refine g_bipush C (gdec kL_law_2 10 rfl) rfl ?_
                obtain ⟨r124, q125, hf⟩ := bxr_s hf
                refine g_ci h (g_runV (CO F57) h ok_o (by decide) rfl (c_X7_value l (eo E0 B F57) G102 9 ok_o _ q125) wM_L_24 wI_X7_value wS_X7_value wN_X7 wC_X7_value rfl ny_X7_value rfl ⟨Nat.le_of_ble_eq_true rfl, Nat.le_of_ble_eq_true rfl⟩ hl.1 rfl (Nat.le_of_ble_eq_true rfl) (gdec kL_law_2 11 rfl) (by decide)) (fun H locs h => ?_)
                refine g_aload_n C hl 4 rfl rfl (gdec kL_law_2 12 rfl) ?_
                refine g_bipush C (gdec kL_law_2 13 rfl) rfl ?_
                obtain ⟨r126, q127, hf⟩ := bxr_s hf
                refine g_ci h (g_runV (CO F57) h ok_o (by decide) rfl (c_X7_value l (eo E0 B F57) G102 10 ok_o _ q127) wM_L_24 wI_X7_value wS_X7_value wN_X7 wC_X7_value rfl ny_X7_value rfl ⟨Nat.le_of_ble_eq_true rfl, Nat.le_of_ble_eq_true rfl⟩ hl.1 rfl (Nat.le_of_ble_eq_true rfl) (gdec kL_law_2 14 rfl) (by decide)) (fun H locs h => ?_)
                refine g_iadd C (gdec kL_law_2 15 rfl) ?_
                refine g_istore C [(7, vI (r124 + r126)), (4, vI 0), (6, vI r60), (5, vI r58), (0, .ref b), (1, rO B), (2, rP B), (3, vI y3_55)] hl (by decide) rfl (gdec kL_law_2 16 rfl) (fun ls hl => ?_)
                refine g_iload C hl 1 rfl (gdec kL_law_2 17 rfl) ?_
                refine g_if_eq C (tgt := 312) (by decide) (by decide) (gdec kL_law_2 18 rfl) (fun c128 => ?_) (fun c128 => absurd (by decide) c128)
                refine g_iconst C (gdec kL_law_2 35 rfl) ?_
                exact absurd hf (by decide)
            · replace hf := ifn c99 hf
              refine g_iconst C (gdec kL_law_2 7 rfl) ?_
              refine g_istore C [(4, vI 0), (6, vI r60), (5, vI r58), (0, .ref b), (1, rO B), (2, rP B), (3, vI y3_55)] hl (by decide) rfl (gdec kL_law_2 8 rfl) (fun ls hl => ?_)
              refine g_aload_n C hl 4 rfl rfl (gdec kL_law_2 9 rfl) ?_
              refine g_bipush C (gdec kL_law_2 10 rfl) rfl ?_
              obtain ⟨r129, q130, hf⟩ := bxr_s hf
              refine g_ci h (g_runV (CO F57) h ok_o (by decide) rfl (c_X7_value l (eo E0 B F57) G87 9 ok_o _ q130) wM_L_24 wI_X7_value wS_X7_value wN_X7 wC_X7_value rfl ny_X7_value rfl ⟨Nat.le_of_ble_eq_true rfl, Nat.le_of_ble_eq_true rfl⟩ hl.1 rfl (Nat.le_of_ble_eq_true rfl) (gdec kL_law_2 11 rfl) (by decide)) (fun H locs h => ?_)
              refine g_aload_n C hl 4 rfl rfl (gdec kL_law_2 12 rfl) ?_
              refine g_bipush C (gdec kL_law_2 13 rfl) rfl ?_
              obtain ⟨r131, q132, hf⟩ := bxr_s hf
              refine g_ci h (g_runV (CO F57) h ok_o (by decide) rfl (c_X7_value l (eo E0 B F57) G87 10 ok_o _ q132) wM_L_24 wI_X7_value wS_X7_value wN_X7 wC_X7_value rfl ny_X7_value rfl ⟨Nat.le_of_ble_eq_true rfl, Nat.le_of_ble_eq_true rfl⟩ hl.1 rfl (Nat.le_of_ble_eq_true rfl) (gdec kL_law_2 14 rfl) (by decide)) (fun H locs h => ?_)
              refine g_iadd C (gdec kL_law_2 15 rfl) ?_
              refine g_istore C [(7, vI (r129 + r131)), (4, vI 0), (6, vI r60), (5, vI r58), (0, .ref b), (1, rO B), (2, rP B), (3, vI y3_55)] hl (by decide) rfl (gdec kL_law_2 16 rfl) (fun ls hl => ?_)
              refine g_iload C hl 1 rfl (gdec kL_law_2 17 rfl) ?_
              refine g_if_eq C (tgt := 312) (by decide) (by decide) (gdec kL_law_2 18 rfl) (fun c133 => ?_) (fun c133 => absurd (by decide) c133)
              refine g_iconst C (gdec kL_law_2 35 rfl) ?_
              exact absurd hf (by decide)
        · replace hf := ifn c84 hf
          refine g_iconst C (gdec kL_law_2 7 rfl) ?_
          refine g_istore C [(4, vI 0), (6, vI r60), (5, vI r58), (0, .ref b), (1, rO B), (2, rP B), (3, vI y3_55)] hl (by decide) rfl (gdec kL_law_2 8 rfl) (fun ls hl => ?_)
          refine g_aload_n C hl 4 rfl rfl (gdec kL_law_2 9 rfl) ?_
          refine g_bipush C (gdec kL_law_2 10 rfl) rfl ?_
          obtain ⟨r134, q135, hf⟩ := bxr_s hf
          refine g_ci h (g_runV (CO F57) h ok_o (by decide) rfl (c_X7_value l (eo E0 B F57) G72 9 ok_o _ q135) wM_L_24 wI_X7_value wS_X7_value wN_X7 wC_X7_value rfl ny_X7_value rfl ⟨Nat.le_of_ble_eq_true rfl, Nat.le_of_ble_eq_true rfl⟩ hl.1 rfl (Nat.le_of_ble_eq_true rfl) (gdec kL_law_2 11 rfl) (by decide)) (fun H locs h => ?_)
          refine g_aload_n C hl 4 rfl rfl (gdec kL_law_2 12 rfl) ?_
          refine g_bipush C (gdec kL_law_2 13 rfl) rfl ?_
          obtain ⟨r136, q137, hf⟩ := bxr_s hf
          refine g_ci h (g_runV (CO F57) h ok_o (by decide) rfl (c_X7_value l (eo E0 B F57) G72 10 ok_o _ q137) wM_L_24 wI_X7_value wS_X7_value wN_X7 wC_X7_value rfl ny_X7_value rfl ⟨Nat.le_of_ble_eq_true rfl, Nat.le_of_ble_eq_true rfl⟩ hl.1 rfl (Nat.le_of_ble_eq_true rfl) (gdec kL_law_2 14 rfl) (by decide)) (fun H locs h => ?_)
          refine g_iadd C (gdec kL_law_2 15 rfl) ?_
          refine g_istore C [(7, vI (r134 + r136)), (4, vI 0), (6, vI r60), (5, vI r58), (0, .ref b), (1, rO B), (2, rP B), (3, vI y3_55)] hl (by decide) rfl (gdec kL_law_2 16 rfl) (fun ls hl => ?_)
          refine g_iload C hl 1 rfl (gdec kL_law_2 17 rfl) ?_
          refine g_if_eq C (tgt := 312) (by decide) (by decide) (gdec kL_law_2 18 rfl) (fun c138 => ?_) (fun c138 => absurd (by decide) c138)
          refine g_iconst C (gdec kL_law_2 35 rfl) ?_
          exact absurd hf (by decide)
  · replace hf := ifn c33 hf
    refine g_aload_n C hl 1 rfl rfl (gdec kL_law 51 rfl) ?_
    obtain ⟨G141, r139, q140, hf⟩ := bnd_s hf
    refine g_ci h (g_runV (CO F31) h ok_o (by decide) rfl (c_X7_parse l (eo E0 B F31) G30 ok_o _ _ q140) wM_L_75 wI_X7_parse wS_X7_parse wN_X7 wC_X7_parse rfl ny_X7_parse rfl ⟨Nat.le_of_ble_eq_true rfl, Nat.le_of_ble_eq_true rfl⟩ hl.1 rfl (Nat.le_of_ble_eq_true rfl) (gdec kL_law 52 rfl) (by decide)) (fun H locs h => ?_)
    refine g_iload_n C hl 3 rfl rfl (gdec kL_law 53 rfl) ?_
    obtain ⟨h142, hf⟩ := gd_s hf
    obtain ⟨h143, hf⟩ := gd_s hf
    refine g_icmp_ne C (tgt := 122) h142 h143 (by decide) (gdec kL_law 54 rfl) (fun c144 => ?_) (fun c144 => ?_)
    · replace hf := ifp c144 hf
      refine g_aload_n C hl 2 rfl rfl (gdec kL_law 55 rfl) ?_
      obtain ⟨F147, r145, q146, hf⟩ := bnd_s hf
      refine g_ci (g_sw h) (g_runV (CP G141) (g_sw h) ok_p (by decide) rfl (c_X7_parse l (ep E0 B G141) F31 ok_p _ _ q146) wM_L_75 wI_X7_parse wS_X7_parse wN_X7 wC_X7_parse rfl ny_X7_parse rfl ⟨Nat.le_of_ble_eq_true rfl, Nat.le_of_ble_eq_true rfl⟩ hl.1 rfl (Nat.le_of_ble_eq_true rfl) (gdec kL_law 56 rfl) (by decide)) (fun H locs h => ?_)
      replace h := g_ws h
      refine g_iload_n C hl 3 rfl rfl (gdec kL_law 57 rfl) ?_
      obtain ⟨h148, hf⟩ := gd_s hf
      refine g_icmp_ne C (tgt := 122) h148 h143 (by decide) (gdec kL_law 58 rfl) (fun c149 => ?_) (fun c149 => ?_)
      · replace hf := ifp c149 hf
        refine g_iconst C (gdec kL_law 59 rfl) ?_
        refine g_goto C (tgt := 123) (by decide) (gdec kL_law_1 0 rfl) ?_
        refine g_istore C [(4, vI 1), (0, .ref b), (1, rO B), (2, rP B), (3, vI y3_29), (5, vI y5_29)] hl (by decide) rfl (gdec kL_law_1 2 rfl) (fun ls hl => ?_)
        refine g_iconst C (gdec kL_law_1 3 rfl) ?_
        refine g_istore C [(5, vI 1), (4, vI 1), (0, .ref b), (1, rO B), (2, rP B), (3, vI y3_29)] hl (by decide) rfl (gdec kL_law_1 4 rfl) (fun ls hl => ?_)
        refine L128 gFuel _ _ _ _ _ _ (fun G151 F152 y3_150 y4_150 y5_150 hf H locs h ls hl => ?_) H locs h ls (lv_sub hl [2, 3, 4, 5, 1, 0] rfl) hf
        refine g_aload_n C hl 1 rfl rfl (gdec kL_law_1 33 rfl) ?_
        refine g_iconst C (gdec kL_law_1 34 rfl) ?_
        obtain ⟨r153, q154, hf⟩ := bxr_s hf
        refine g_ci h (g_runV (CO F152) h ok_o (by decide) rfl (c_X7_value l (eo E0 B F152) G151 3 ok_o _ q154) wM_L_24 wI_X7_value wS_X7_value wN_X7 wC_X7_value rfl ny_X7_value rfl ⟨Nat.le_of_ble_eq_true rfl, Nat.le_of_ble_eq_true rfl⟩ hl.1 rfl (Nat.le_of_ble_eq_true rfl) (gdec kL_law_1 35 rfl) (by decide)) (fun H locs h => ?_)
        refine g_istore C [(5, vI r153), (0, .ref b), (1, rO B), (2, rP B), (3, vI y3_150), (4, vI y4_150)] hl (by decide) rfl (gdec kL_law_1 36 rfl) (fun ls hl => ?_)
        refine g_aload_n C hl 2 rfl rfl (gdec kL_law_1 37 rfl) ?_
        obtain ⟨G157, r155, q156, hf⟩ := bnd_s hf
        refine g_ci h (g_runV (CO F152) h ok_o (by decide) rfl (c_X7_hoursToAll l (eo E0 B F152) G151 ok_o _ _ q156) wM_L_46 wI_X7_hoursToAll wS_X7_hoursToAll wN_X7 wC_X7_hoursToAll rfl ny_X7_hoursToAll rfl ⟨Nat.le_of_ble_eq_true rfl, Nat.le_of_ble_eq_true rfl⟩ hl.1 rfl (Nat.le_of_ble_eq_true rfl) (gdec kL_law_1 38 rfl) (by decide)) (fun H locs h => ?_)
        refine g_istore C [(6, vI r155), (5, vI r153), (0, .ref b), (1, rO B), (2, rP B), (3, vI y3_150), (4, vI y4_150)] hl (by decide) rfl (gdec kL_law_1 39 rfl) (fun ls hl => ?_)
        refine g_iload C hl 6 rfl (gdec kL_law_1 40 rfl) ?_
        obtain ⟨h158, hf⟩ := gd_s hf
        refine g_if_eq C (tgt := 253) h158 (by decide) (gdec kL_law_1 41 rfl) (fun c159 => ?_) (fun c159 => ?_)
        · replace hf := ifp c159 hf
          refine g_iconst C (gdec kL_law_2 7 rfl) ?_
          refine g_istore C [(4, vI 0), (6, vI r155), (5, vI r153), (0, .ref b), (1, rO B), (2, rP B), (3, vI y3_150)] hl (by decide) rfl (gdec kL_law_2 8 rfl) (fun ls hl => ?_)
          refine g_aload_n C hl 4 rfl rfl (gdec kL_law_2 9 rfl) ?_
          refine g_bipush C (gdec kL_law_2 10 rfl) rfl ?_
          obtain ⟨r160, q161, hf⟩ := bxr_s hf
          refine g_ci h (g_runV (CO F152) h ok_o (by decide) rfl (c_X7_value l (eo E0 B F152) G157 9 ok_o _ q161) wM_L_24 wI_X7_value wS_X7_value wN_X7 wC_X7_value rfl ny_X7_value rfl ⟨Nat.le_of_ble_eq_true rfl, Nat.le_of_ble_eq_true rfl⟩ hl.1 rfl (Nat.le_of_ble_eq_true rfl) (gdec kL_law_2 11 rfl) (by decide)) (fun H locs h => ?_)
          refine g_aload_n C hl 4 rfl rfl (gdec kL_law_2 12 rfl) ?_
          refine g_bipush C (gdec kL_law_2 13 rfl) rfl ?_
          obtain ⟨r162, q163, hf⟩ := bxr_s hf
          refine g_ci h (g_runV (CO F152) h ok_o (by decide) rfl (c_X7_value l (eo E0 B F152) G157 10 ok_o _ q163) wM_L_24 wI_X7_value wS_X7_value wN_X7 wC_X7_value rfl ny_X7_value rfl ⟨Nat.le_of_ble_eq_true rfl, Nat.le_of_ble_eq_true rfl⟩ hl.1 rfl (Nat.le_of_ble_eq_true rfl) (gdec kL_law_2 14 rfl) (by decide)) (fun H locs h => ?_)
          refine g_iadd C (gdec kL_law_2 15 rfl) ?_
          refine g_istore C [(7, vI (r160 + r162)), (4, vI 0), (6, vI r155), (5, vI r153), (0, .ref b), (1, rO B), (2, rP B), (3, vI y3_150)] hl (by decide) rfl (gdec kL_law_2 16 rfl) (fun ls hl => ?_)
          refine g_iload C hl 1 rfl (gdec kL_law_2 17 rfl) ?_
          refine g_if_eq C (tgt := 312) (by decide) (by decide) (gdec kL_law_2 18 rfl) (fun c164 => ?_) (fun c164 => absurd (by decide) c164)
          refine g_iconst C (gdec kL_law_2 35 rfl) ?_
          exact absurd hf (by decide)
        · replace hf := ifn c159 hf
          refine g_aload_n C hl 3 rfl rfl (gdec kL_law_1 42 rfl) ?_
          refine g_iconst C (gdec kL_law_1 43 rfl) ?_
          obtain ⟨G167, r165, q166, hf⟩ := bxw_s hf
          refine g_ci h (g_runV (CO F152) h ok_o (by decide) rfl (c_X7_pass l (eo E0 B F152) G157 5 ok_o _ _ q166) wM_L_39 wI_X7_pass wS_X7_pass wN_X7 wC_X7_pass rfl ny_X7_pass rfl ⟨Nat.le_of_ble_eq_true rfl, Nat.le_of_ble_eq_true rfl⟩ hl.1 rfl (Nat.le_of_ble_eq_true rfl) (gdec kL_law_1 44 rfl) (by decide)) (fun H locs h => ?_)
          obtain ⟨h168, hf⟩ := gd_s hf
          refine g_if_lt C (tgt := 253) h168 (by decide) (gdec kL_law_1 45 rfl) (fun c169 => ?_) (fun c169 => ?_)
          · replace hf := ifp c169 hf
            refine g_iconst C (gdec kL_law_2 7 rfl) ?_
            refine g_istore C [(4, vI 0), (6, vI r155), (5, vI r153), (0, .ref b), (1, rO B), (2, rP B), (3, vI y3_150)] hl (by decide) rfl (gdec kL_law_2 8 rfl) (fun ls hl => ?_)
            refine g_aload_n C hl 4 rfl rfl (gdec kL_law_2 9 rfl) ?_
            refine g_bipush C (gdec kL_law_2 10 rfl) rfl ?_
            obtain ⟨r170, q171, hf⟩ := bxr_s hf
            refine g_ci h (g_runV (CO F152) h ok_o (by decide) rfl (c_X7_value l (eo E0 B F152) G167 9 ok_o _ q171) wM_L_24 wI_X7_value wS_X7_value wN_X7 wC_X7_value rfl ny_X7_value rfl ⟨Nat.le_of_ble_eq_true rfl, Nat.le_of_ble_eq_true rfl⟩ hl.1 rfl (Nat.le_of_ble_eq_true rfl) (gdec kL_law_2 11 rfl) (by decide)) (fun H locs h => ?_)
            refine g_aload_n C hl 4 rfl rfl (gdec kL_law_2 12 rfl) ?_
            refine g_bipush C (gdec kL_law_2 13 rfl) rfl ?_
            obtain ⟨r172, q173, hf⟩ := bxr_s hf
            refine g_ci h (g_runV (CO F152) h ok_o (by decide) rfl (c_X7_value l (eo E0 B F152) G167 10 ok_o _ q173) wM_L_24 wI_X7_value wS_X7_value wN_X7 wC_X7_value rfl ny_X7_value rfl ⟨Nat.le_of_ble_eq_true rfl, Nat.le_of_ble_eq_true rfl⟩ hl.1 rfl (Nat.le_of_ble_eq_true rfl) (gdec kL_law_2 14 rfl) (by decide)) (fun H locs h => ?_)
            refine g_iadd C (gdec kL_law_2 15 rfl) ?_
            refine g_istore C [(7, vI (r170 + r172)), (4, vI 0), (6, vI r155), (5, vI r153), (0, .ref b), (1, rO B), (2, rP B), (3, vI y3_150)] hl (by decide) rfl (gdec kL_law_2 16 rfl) (fun ls hl => ?_)
            refine g_iload C hl 1 rfl (gdec kL_law_2 17 rfl) ?_
            refine g_if_eq C (tgt := 312) (by decide) (by decide) (gdec kL_law_2 18 rfl) (fun c174 => ?_) (fun c174 => absurd (by decide) c174)
            refine g_iconst C (gdec kL_law_2 35 rfl) ?_
            exact absurd hf (by decide)
          · replace hf := ifn c169 hf
            refine g_aload_n C hl 3 rfl rfl (gdec kL_law_1 46 rfl) ?_
            refine g_iconst C (gdec kL_law_1 47 rfl) ?_
            obtain ⟨r175, q176, hf⟩ := bxr_s hf
            refine g_ci h (g_runV (CO F152) h ok_o (by decide) rfl (c_X7_value l (eo E0 B F152) G167 3 ok_o _ q176) wM_L_24 wI_X7_value wS_X7_value wN_X7 wC_X7_value rfl ny_X7_value rfl ⟨Nat.le_of_ble_eq_true rfl, Nat.le_of_ble_eq_true rfl⟩ hl.1 rfl (Nat.le_of_ble_eq_true rfl) (gdec kL_law_1 48 rfl) (by decide)) (fun H locs h => ?_)
            refine g_iload C hl 1 rfl (gdec kL_law_1 49 rfl) ?_
            refine g_iconst C (gdec kL_law_1 50 rfl) ?_
            refine g_iadd C (gdec kL_law_1 51 rfl) ?_
            obtain ⟨h177, hf⟩ := gd_s hf
            obtain ⟨h178, hf⟩ := gd_s hf
            refine g_icmp_ne C (tgt := 253) h177 h178 (by decide) (gdec kL_law_1 52 rfl) (fun c179 => ?_) (fun c179 => ?_)
            · replace hf := ifp c179 hf
              refine g_aload_n C hl 3 rfl rfl (gdec kL_law_1 53 rfl) ?_
              obtain ⟨G182, r180, q181, hf⟩ := bxw_s hf
              refine g_ci h (g_runV (CO F152) h ok_o (by decide) rfl (c_X7_undo l (eo E0 B F152) G167 ok_o _ _ q181) wM_L_90 wI_X7_undo wS_X7_undo wN_X7 wC_X7_undo rfl ny_X7_undo rfl ⟨Nat.le_of_ble_eq_true rfl, Nat.le_of_ble_eq_true rfl⟩ hl.1 rfl (Nat.le_of_ble_eq_true rfl) (gdec kL_law_1 54 rfl) (by decide)) (fun H locs h => ?_)
              obtain ⟨h183, hf⟩ := gd_s hf
              refine g_if_lt C (tgt := 253) h183 (by decide) (gdec kL_law_1 55 rfl) (fun c184 => ?_) (fun c184 => ?_)
              · replace hf := ifp c184 hf
                refine g_iconst C (gdec kL_law_2 7 rfl) ?_
                refine g_istore C [(4, vI 0), (6, vI r155), (5, vI r153), (0, .ref b), (1, rO B), (2, rP B), (3, vI y3_150)] hl (by decide) rfl (gdec kL_law_2 8 rfl) (fun ls hl => ?_)
                refine g_aload_n C hl 4 rfl rfl (gdec kL_law_2 9 rfl) ?_
                refine g_bipush C (gdec kL_law_2 10 rfl) rfl ?_
                obtain ⟨r185, q186, hf⟩ := bxr_s hf
                refine g_ci h (g_runV (CO F152) h ok_o (by decide) rfl (c_X7_value l (eo E0 B F152) G182 9 ok_o _ q186) wM_L_24 wI_X7_value wS_X7_value wN_X7 wC_X7_value rfl ny_X7_value rfl ⟨Nat.le_of_ble_eq_true rfl, Nat.le_of_ble_eq_true rfl⟩ hl.1 rfl (Nat.le_of_ble_eq_true rfl) (gdec kL_law_2 11 rfl) (by decide)) (fun H locs h => ?_)
                refine g_aload_n C hl 4 rfl rfl (gdec kL_law_2 12 rfl) ?_
                refine g_bipush C (gdec kL_law_2 13 rfl) rfl ?_
                obtain ⟨r187, q188, hf⟩ := bxr_s hf
                refine g_ci h (g_runV (CO F152) h ok_o (by decide) rfl (c_X7_value l (eo E0 B F152) G182 10 ok_o _ q188) wM_L_24 wI_X7_value wS_X7_value wN_X7 wC_X7_value rfl ny_X7_value rfl ⟨Nat.le_of_ble_eq_true rfl, Nat.le_of_ble_eq_true rfl⟩ hl.1 rfl (Nat.le_of_ble_eq_true rfl) (gdec kL_law_2 14 rfl) (by decide)) (fun H locs h => ?_)
                refine g_iadd C (gdec kL_law_2 15 rfl) ?_
                refine g_istore C [(7, vI (r185 + r187)), (4, vI 0), (6, vI r155), (5, vI r153), (0, .ref b), (1, rO B), (2, rP B), (3, vI y3_150)] hl (by decide) rfl (gdec kL_law_2 16 rfl) (fun ls hl => ?_)
                refine g_iload C hl 1 rfl (gdec kL_law_2 17 rfl) ?_
                refine g_if_eq C (tgt := 312) (by decide) (by decide) (gdec kL_law_2 18 rfl) (fun c189 => ?_) (fun c189 => absurd (by decide) c189)
                refine g_iconst C (gdec kL_law_2 35 rfl) ?_
                exact absurd hf (by decide)
              · replace hf := ifn c184 hf
                refine g_aload_n C hl 3 rfl rfl (gdec kL_law_1 56 rfl) ?_
                refine g_iconst C (gdec kL_law_1 57 rfl) ?_
                obtain ⟨r190, q191, hf⟩ := bxr_s hf
                refine g_ci h (g_runV (CO F152) h ok_o (by decide) rfl (c_X7_value l (eo E0 B F152) G182 3 ok_o _ q191) wM_L_24 wI_X7_value wS_X7_value wN_X7 wC_X7_value rfl ny_X7_value rfl ⟨Nat.le_of_ble_eq_true rfl, Nat.le_of_ble_eq_true rfl⟩ hl.1 rfl (Nat.le_of_ble_eq_true rfl) (gdec kL_law_1 58 rfl) (by decide)) (fun H locs h => ?_)
                refine g_iload C hl 1 rfl (gdec kL_law_1 59 rfl) ?_
                obtain ⟨h192, hf⟩ := gd_s hf
                obtain ⟨h193, hf⟩ := gd_s hf
                refine g_icmp_ne C (tgt := 253) h192 h193 (by decide) (gdec kL_law_2 0 rfl) (fun c194 => ?_) (fun c194 => ?_)
                · replace hf := ifp c194 hf
                  refine g_aload_n C hl 3 rfl rfl (gdec kL_law_2 1 rfl) ?_
                  obtain ⟨G197, r195, q196, hf⟩ := bnd_s hf
                  refine g_ci h (g_runV (CO F152) h ok_o (by decide) rfl (c_X7_hoursToAll l (eo E0 B F152) G182 ok_o _ _ q196) wM_L_46 wI_X7_hoursToAll wS_X7_hoursToAll wN_X7 wC_X7_hoursToAll rfl ny_X7_hoursToAll rfl ⟨Nat.le_of_ble_eq_true rfl, Nat.le_of_ble_eq_true rfl⟩ hl.1 rfl (Nat.le_of_ble_eq_true rfl) (gdec kL_law_2 2 rfl) (by decide)) (fun H locs h => ?_)
                  refine g_iload C hl 0 rfl (gdec kL_law_2 3 rfl) ?_
                  obtain ⟨h198, hf⟩ := gd_s hf
                  obtain ⟨h199, hf⟩ := gd_s hf
                  refine g_icmp_ne C (tgt := 253) h198 h199 (by decide) (gdec kL_law_2 4 rfl) (fun c200 => ?_) (fun c200 => ?_)
                  · replace hf := ifp c200 hf
                    refine g_iconst C (gdec kL_law_2 5 rfl) ?_
                    refine g_goto C (tgt := 254) (by decide) (gdec kL_law_2 6 rfl) ?_
                    refine g_istore C [(4, vI 1), (6, vI r155), (5, vI r153), (0, .ref b), (1, rO B), (2, rP B), (3, vI y3_150)] hl (by decide) rfl (gdec kL_law_2 8 rfl) (fun ls hl => ?_)
                    refine g_aload_n C hl 4 rfl rfl (gdec kL_law_2 9 rfl) ?_
                    refine g_bipush C (gdec kL_law_2 10 rfl) rfl ?_
                    obtain ⟨r201, q202, hf⟩ := bxr_s hf
                    refine g_ci h (g_runV (CO F152) h ok_o (by decide) rfl (c_X7_value l (eo E0 B F152) G197 9 ok_o _ q202) wM_L_24 wI_X7_value wS_X7_value wN_X7 wC_X7_value rfl ny_X7_value rfl ⟨Nat.le_of_ble_eq_true rfl, Nat.le_of_ble_eq_true rfl⟩ hl.1 rfl (Nat.le_of_ble_eq_true rfl) (gdec kL_law_2 11 rfl) (by decide)) (fun H locs h => ?_)
                    refine g_aload_n C hl 4 rfl rfl (gdec kL_law_2 12 rfl) ?_
                    refine g_bipush C (gdec kL_law_2 13 rfl) rfl ?_
                    obtain ⟨r203, q204, hf⟩ := bxr_s hf
                    refine g_ci h (g_runV (CO F152) h ok_o (by decide) rfl (c_X7_value l (eo E0 B F152) G197 10 ok_o _ q204) wM_L_24 wI_X7_value wS_X7_value wN_X7 wC_X7_value rfl ny_X7_value rfl ⟨Nat.le_of_ble_eq_true rfl, Nat.le_of_ble_eq_true rfl⟩ hl.1 rfl (Nat.le_of_ble_eq_true rfl) (gdec kL_law_2 14 rfl) (by decide)) (fun H locs h => ?_)
                    refine g_iadd C (gdec kL_law_2 15 rfl) ?_
                    refine g_istore C [(7, vI (r201 + r203)), (4, vI 1), (6, vI r155), (5, vI r153), (0, .ref b), (1, rO B), (2, rP B), (3, vI y3_150)] hl (by decide) rfl (gdec kL_law_2 16 rfl) (fun ls hl => ?_)
                    refine g_iload C hl 1 rfl (gdec kL_law_2 17 rfl) ?_
                    refine g_if_eq C (tgt := 312) (by decide) (by decide) (gdec kL_law_2 18 rfl) (fun c205 => absurd c205 (by decide)) (fun c205 => ?_)
                    refine g_iload C hl 2 rfl (gdec kL_law_2 19 rfl) ?_
                    refine g_iconst C (gdec kL_law_2 20 rfl) ?_
                    refine g_icmp_lt C (tgt := 308) h199 (by decide) (by decide) (gdec kL_law_2 21 rfl) (fun c206 => ?_) (fun c206 => ?_)
                    · replace hf := ifp c206 hf
                      refine g_iconst C (gdec kL_law_2 33 rfl) ?_
                      refine g_goto C (tgt := 313) (by decide) (gdec kL_law_2 34 rfl) ?_
                      exact hK 0 _ _ H locs ls h
                    · replace hf := ifn c206 hf
                      refine g_iload C hl 2 rfl (gdec kL_law_2 22 rfl) ?_
                      refine g_sipush C (gdec kL_law_2 23 rfl) rfl ?_
                      refine g_icmp_gt C (tgt := 308) h199 (by decide) (by decide) (gdec kL_law_2 24 rfl) (fun c207 => ?_) (fun c207 => ?_)
                      · replace hf := ifp c207 hf
                        refine g_iconst C (gdec kL_law_2 33 rfl) ?_
                        refine g_goto C (tgt := 313) (by decide) (gdec kL_law_2 34 rfl) ?_
                        exact hK 0 _ _ H locs ls h
                      · replace hf := ifn c207 hf
                        refine g_aload_n C hl 5 rfl rfl (gdec kL_law_2 25 rfl) ?_
                        refine g_iload C hl 2 rfl (gdec kL_law_2 26 rfl) ?_
                        obtain ⟨G210, r208, q209, hf⟩ := bxw_s hf
                        refine g_ci h (g_runV (CO F152) h ok_o (by decide) rfl (c_X7_pass l (eo E0 B F152) G197 r155 ok_o _ _ q209) wM_L_39 wI_X7_pass wS_X7_pass wN_X7 wC_X7_pass rfl ny_X7_pass rfl ⟨Nat.le_of_ble_eq_true rfl, Nat.le_of_ble_eq_true rfl⟩ hl.1 rfl (Nat.le_of_ble_eq_true rfl) (gdec kL_law_2 27 rfl) (by decide)) (fun H locs h => ?_)
                        refine g_iload C hl 0 rfl (gdec kL_law_2 28 rfl) ?_
                        obtain ⟨h211, hf⟩ := gd_s hf
                        obtain ⟨h212, hf⟩ := gd_s hf
                        refine g_icmp_ne C (tgt := 312) h211 h212 (by decide) (gdec kL_law_2 29 rfl) (fun c213 => ?_) (fun c213 => ?_)
                        · replace hf := ifp c213 hf
                          refine g_aload_n C hl 5 rfl rfl (gdec kL_law_2 30 rfl) ?_
                          obtain ⟨G216, r214, q215, hf⟩ := bnd_s hf
                          refine g_ci h (g_runV (CO F152) h ok_o (by decide) rfl (c_X7_hoursToAll l (eo E0 B F152) G210 ok_o _ _ q215) wM_L_46 wI_X7_hoursToAll wS_X7_hoursToAll wN_X7 wC_X7_hoursToAll rfl ny_X7_hoursToAll rfl ⟨Nat.le_of_ble_eq_true rfl, Nat.le_of_ble_eq_true rfl⟩ hl.1 rfl (Nat.le_of_ble_eq_true rfl) (gdec kL_law_2 31 rfl) (by decide)) (fun H locs h => ?_)
                          obtain ⟨h217, hf⟩ := gd_s hf
                          refine g_if_ne C (tgt := 312) h217 (by decide) (gdec kL_law_2 32 rfl) (fun c218 => ?_) (fun c218 => ?_)
                          · replace hf := ifp c218 hf
                            refine g_iconst C (gdec kL_law_2 33 rfl) ?_
                            refine g_goto C (tgt := 313) (by decide) (gdec kL_law_2 34 rfl) ?_
                            exact hK 0 _ _ H locs ls h
                          · replace hf := ifn c218 hf
                            refine g_iconst C (gdec kL_law_2 35 rfl) ?_
                            exact absurd hf (by decide)
                        · replace hf := ifn c213 hf
                          refine g_iconst C (gdec kL_law_2 35 rfl) ?_
                          exact absurd hf (by decide)
                  · replace hf := ifn c200 hf
                    refine g_iconst C (gdec kL_law_2 7 rfl) ?_
                    refine g_istore C [(4, vI 0), (6, vI r155), (5, vI r153), (0, .ref b), (1, rO B), (2, rP B), (3, vI y3_150)] hl (by decide) rfl (gdec kL_law_2 8 rfl) (fun ls hl => ?_)
                    refine g_aload_n C hl 4 rfl rfl (gdec kL_law_2 9 rfl) ?_
                    refine g_bipush C (gdec kL_law_2 10 rfl) rfl ?_
                    obtain ⟨r219, q220, hf⟩ := bxr_s hf
                    refine g_ci h (g_runV (CO F152) h ok_o (by decide) rfl (c_X7_value l (eo E0 B F152) G197 9 ok_o _ q220) wM_L_24 wI_X7_value wS_X7_value wN_X7 wC_X7_value rfl ny_X7_value rfl ⟨Nat.le_of_ble_eq_true rfl, Nat.le_of_ble_eq_true rfl⟩ hl.1 rfl (Nat.le_of_ble_eq_true rfl) (gdec kL_law_2 11 rfl) (by decide)) (fun H locs h => ?_)
                    refine g_aload_n C hl 4 rfl rfl (gdec kL_law_2 12 rfl) ?_
                    refine g_bipush C (gdec kL_law_2 13 rfl) rfl ?_
                    obtain ⟨r221, q222, hf⟩ := bxr_s hf
                    refine g_ci h (g_runV (CO F152) h ok_o (by decide) rfl (c_X7_value l (eo E0 B F152) G197 10 ok_o _ q222) wM_L_24 wI_X7_value wS_X7_value wN_X7 wC_X7_value rfl ny_X7_value rfl ⟨Nat.le_of_ble_eq_true rfl, Nat.le_of_ble_eq_true rfl⟩ hl.1 rfl (Nat.le_of_ble_eq_true rfl) (gdec kL_law_2 14 rfl) (by decide)) (fun H locs h => ?_)
                    refine g_iadd C (gdec kL_law_2 15 rfl) ?_
                    refine g_istore C [(7, vI (r219 + r221)), (4, vI 0), (6, vI r155), (5, vI r153), (0, .ref b), (1, rO B), (2, rP B), (3, vI y3_150)] hl (by decide) rfl (gdec kL_law_2 16 rfl) (fun ls hl => ?_)
                    refine g_iload C hl 1 rfl (gdec kL_law_2 17 rfl) ?_
                    refine g_if_eq C (tgt := 312) (by decide) (by decide) (gdec kL_law_2 18 rfl) (fun c223 => ?_) (fun c223 => absurd (by decide) c223)
                    refine g_iconst C (gdec kL_law_2 35 rfl) ?_
                    exact absurd hf (by decide)
                · replace hf := ifn c194 hf
                  refine g_iconst C (gdec kL_law_2 7 rfl) ?_
                  refine g_istore C [(4, vI 0), (6, vI r155), (5, vI r153), (0, .ref b), (1, rO B), (2, rP B), (3, vI y3_150)] hl (by decide) rfl (gdec kL_law_2 8 rfl) (fun ls hl => ?_)
                  refine g_aload_n C hl 4 rfl rfl (gdec kL_law_2 9 rfl) ?_
                  refine g_bipush C (gdec kL_law_2 10 rfl) rfl ?_
                  obtain ⟨r224, q225, hf⟩ := bxr_s hf
                  refine g_ci h (g_runV (CO F152) h ok_o (by decide) rfl (c_X7_value l (eo E0 B F152) G182 9 ok_o _ q225) wM_L_24 wI_X7_value wS_X7_value wN_X7 wC_X7_value rfl ny_X7_value rfl ⟨Nat.le_of_ble_eq_true rfl, Nat.le_of_ble_eq_true rfl⟩ hl.1 rfl (Nat.le_of_ble_eq_true rfl) (gdec kL_law_2 11 rfl) (by decide)) (fun H locs h => ?_)
                  refine g_aload_n C hl 4 rfl rfl (gdec kL_law_2 12 rfl) ?_
                  refine g_bipush C (gdec kL_law_2 13 rfl) rfl ?_
                  obtain ⟨r226, q227, hf⟩ := bxr_s hf
                  refine g_ci h (g_runV (CO F152) h ok_o (by decide) rfl (c_X7_value l (eo E0 B F152) G182 10 ok_o _ q227) wM_L_24 wI_X7_value wS_X7_value wN_X7 wC_X7_value rfl ny_X7_value rfl ⟨Nat.le_of_ble_eq_true rfl, Nat.le_of_ble_eq_true rfl⟩ hl.1 rfl (Nat.le_of_ble_eq_true rfl) (gdec kL_law_2 14 rfl) (by decide)) (fun H locs h => ?_)
                  refine g_iadd C (gdec kL_law_2 15 rfl) ?_
                  refine g_istore C [(7, vI (r224 + r226)), (4, vI 0), (6, vI r155), (5, vI r153), (0, .ref b), (1, rO B), (2, rP B), (3, vI y3_150)] hl (by decide) rfl (gdec kL_law_2 16 rfl) (fun ls hl => ?_)
                  refine g_iload C hl 1 rfl (gdec kL_law_2 17 rfl) ?_
                  refine g_if_eq C (tgt := 312) (by decide) (by decide) (gdec kL_law_2 18 rfl) (fun c228 => ?_) (fun c228 => absurd (by decide) c228)
                  refine g_iconst C (gdec kL_law_2 35 rfl) ?_
                  exact absurd hf (by decide)
            · replace hf := ifn c179 hf
              refine g_iconst C (gdec kL_law_2 7 rfl) ?_
              refine g_istore C [(4, vI 0), (6, vI r155), (5, vI r153), (0, .ref b), (1, rO B), (2, rP B), (3, vI y3_150)] hl (by decide) rfl (gdec kL_law_2 8 rfl) (fun ls hl => ?_)
              refine g_aload_n C hl 4 rfl rfl (gdec kL_law_2 9 rfl) ?_
              refine g_bipush C (gdec kL_law_2 10 rfl) rfl ?_
              obtain ⟨r229, q230, hf⟩ := bxr_s hf
              refine g_ci h (g_runV (CO F152) h ok_o (by decide) rfl (c_X7_value l (eo E0 B F152) G167 9 ok_o _ q230) wM_L_24 wI_X7_value wS_X7_value wN_X7 wC_X7_value rfl ny_X7_value rfl ⟨Nat.le_of_ble_eq_true rfl, Nat.le_of_ble_eq_true rfl⟩ hl.1 rfl (Nat.le_of_ble_eq_true rfl) (gdec kL_law_2 11 rfl) (by decide)) (fun H locs h => ?_)
              refine g_aload_n C hl 4 rfl rfl (gdec kL_law_2 12 rfl) ?_
              refine g_bipush C (gdec kL_law_2 13 rfl) rfl ?_
              obtain ⟨r231, q232, hf⟩ := bxr_s hf
              refine g_ci h (g_runV (CO F152) h ok_o (by decide) rfl (c_X7_value l (eo E0 B F152) G167 10 ok_o _ q232) wM_L_24 wI_X7_value wS_X7_value wN_X7 wC_X7_value rfl ny_X7_value rfl ⟨Nat.le_of_ble_eq_true rfl, Nat.le_of_ble_eq_true rfl⟩ hl.1 rfl (Nat.le_of_ble_eq_true rfl) (gdec kL_law_2 14 rfl) (by decide)) (fun H locs h => ?_)
              refine g_iadd C (gdec kL_law_2 15 rfl) ?_
              refine g_istore C [(7, vI (r229 + r231)), (4, vI 0), (6, vI r155), (5, vI r153), (0, .ref b), (1, rO B), (2, rP B), (3, vI y3_150)] hl (by decide) rfl (gdec kL_law_2 16 rfl) (fun ls hl => ?_)
              refine g_iload C hl 1 rfl (gdec kL_law_2 17 rfl) ?_
              refine g_if_eq C (tgt := 312) (by decide) (by decide) (gdec kL_law_2 18 rfl) (fun c233 => ?_) (fun c233 => absurd (by decide) c233)
              refine g_iconst C (gdec kL_law_2 35 rfl) ?_
              exact absurd hf (by decide)
      · replace hf := ifn c149 hf
        refine g_iconst C (gdec kL_law_1 1 rfl) ?_
        refine g_istore C [(4, vI 0), (0, .ref b), (1, rO B), (2, rP B), (3, vI y3_29), (5, vI y5_29)] hl (by decide) rfl (gdec kL_law_1 2 rfl) (fun ls hl => ?_)
        refine g_iconst C (gdec kL_law_1 3 rfl) ?_
        refine g_istore C [(5, vI 1), (4, vI 0), (0, .ref b), (1, rO B), (2, rP B), (3, vI y3_29)] hl (by decide) rfl (gdec kL_law_1 4 rfl) (fun ls hl => ?_)
        refine L128 gFuel _ _ _ _ _ _ (fun G235 F236 y3_234 y4_234 y5_234 hf H locs h ls hl => ?_) H locs h ls (lv_sub hl [2, 3, 4, 5, 1, 0] rfl) hf
        refine g_aload_n C hl 1 rfl rfl (gdec kL_law_1 33 rfl) ?_
        refine g_iconst C (gdec kL_law_1 34 rfl) ?_
        obtain ⟨r237, q238, hf⟩ := bxr_s hf
        refine g_ci h (g_runV (CO F236) h ok_o (by decide) rfl (c_X7_value l (eo E0 B F236) G235 3 ok_o _ q238) wM_L_24 wI_X7_value wS_X7_value wN_X7 wC_X7_value rfl ny_X7_value rfl ⟨Nat.le_of_ble_eq_true rfl, Nat.le_of_ble_eq_true rfl⟩ hl.1 rfl (Nat.le_of_ble_eq_true rfl) (gdec kL_law_1 35 rfl) (by decide)) (fun H locs h => ?_)
        refine g_istore C [(5, vI r237), (0, .ref b), (1, rO B), (2, rP B), (3, vI y3_234), (4, vI y4_234)] hl (by decide) rfl (gdec kL_law_1 36 rfl) (fun ls hl => ?_)
        refine g_aload_n C hl 2 rfl rfl (gdec kL_law_1 37 rfl) ?_
        obtain ⟨G241, r239, q240, hf⟩ := bnd_s hf
        refine g_ci h (g_runV (CO F236) h ok_o (by decide) rfl (c_X7_hoursToAll l (eo E0 B F236) G235 ok_o _ _ q240) wM_L_46 wI_X7_hoursToAll wS_X7_hoursToAll wN_X7 wC_X7_hoursToAll rfl ny_X7_hoursToAll rfl ⟨Nat.le_of_ble_eq_true rfl, Nat.le_of_ble_eq_true rfl⟩ hl.1 rfl (Nat.le_of_ble_eq_true rfl) (gdec kL_law_1 38 rfl) (by decide)) (fun H locs h => ?_)
        refine g_istore C [(6, vI r239), (5, vI r237), (0, .ref b), (1, rO B), (2, rP B), (3, vI y3_234), (4, vI y4_234)] hl (by decide) rfl (gdec kL_law_1 39 rfl) (fun ls hl => ?_)
        refine g_iload C hl 6 rfl (gdec kL_law_1 40 rfl) ?_
        obtain ⟨h242, hf⟩ := gd_s hf
        refine g_if_eq C (tgt := 253) h242 (by decide) (gdec kL_law_1 41 rfl) (fun c243 => ?_) (fun c243 => ?_)
        · replace hf := ifp c243 hf
          refine g_iconst C (gdec kL_law_2 7 rfl) ?_
          refine g_istore C [(4, vI 0), (6, vI r239), (5, vI r237), (0, .ref b), (1, rO B), (2, rP B), (3, vI y3_234)] hl (by decide) rfl (gdec kL_law_2 8 rfl) (fun ls hl => ?_)
          refine g_aload_n C hl 4 rfl rfl (gdec kL_law_2 9 rfl) ?_
          refine g_bipush C (gdec kL_law_2 10 rfl) rfl ?_
          obtain ⟨r244, q245, hf⟩ := bxr_s hf
          refine g_ci h (g_runV (CO F236) h ok_o (by decide) rfl (c_X7_value l (eo E0 B F236) G241 9 ok_o _ q245) wM_L_24 wI_X7_value wS_X7_value wN_X7 wC_X7_value rfl ny_X7_value rfl ⟨Nat.le_of_ble_eq_true rfl, Nat.le_of_ble_eq_true rfl⟩ hl.1 rfl (Nat.le_of_ble_eq_true rfl) (gdec kL_law_2 11 rfl) (by decide)) (fun H locs h => ?_)
          refine g_aload_n C hl 4 rfl rfl (gdec kL_law_2 12 rfl) ?_
          refine g_bipush C (gdec kL_law_2 13 rfl) rfl ?_
          obtain ⟨r246, q247, hf⟩ := bxr_s hf
          refine g_ci h (g_runV (CO F236) h ok_o (by decide) rfl (c_X7_value l (eo E0 B F236) G241 10 ok_o _ q247) wM_L_24 wI_X7_value wS_X7_value wN_X7 wC_X7_value rfl ny_X7_value rfl ⟨Nat.le_of_ble_eq_true rfl, Nat.le_of_ble_eq_true rfl⟩ hl.1 rfl (Nat.le_of_ble_eq_true rfl) (gdec kL_law_2 14 rfl) (by decide)) (fun H locs h => ?_)
          refine g_iadd C (gdec kL_law_2 15 rfl) ?_
          refine g_istore C [(7, vI (r244 + r246)), (4, vI 0), (6, vI r239), (5, vI r237), (0, .ref b), (1, rO B), (2, rP B), (3, vI y3_234)] hl (by decide) rfl (gdec kL_law_2 16 rfl) (fun ls hl => ?_)
          refine g_iload C hl 1 rfl (gdec kL_law_2 17 rfl) ?_
          refine g_if_eq C (tgt := 312) (by decide) (by decide) (gdec kL_law_2 18 rfl) (fun c248 => ?_) (fun c248 => absurd (by decide) c248)
          refine g_iconst C (gdec kL_law_2 35 rfl) ?_
          exact absurd hf (by decide)
        · replace hf := ifn c243 hf
          refine g_aload_n C hl 3 rfl rfl (gdec kL_law_1 42 rfl) ?_
          refine g_iconst C (gdec kL_law_1 43 rfl) ?_
          obtain ⟨G251, r249, q250, hf⟩ := bxw_s hf
          refine g_ci h (g_runV (CO F236) h ok_o (by decide) rfl (c_X7_pass l (eo E0 B F236) G241 5 ok_o _ _ q250) wM_L_39 wI_X7_pass wS_X7_pass wN_X7 wC_X7_pass rfl ny_X7_pass rfl ⟨Nat.le_of_ble_eq_true rfl, Nat.le_of_ble_eq_true rfl⟩ hl.1 rfl (Nat.le_of_ble_eq_true rfl) (gdec kL_law_1 44 rfl) (by decide)) (fun H locs h => ?_)
          obtain ⟨h252, hf⟩ := gd_s hf
          refine g_if_lt C (tgt := 253) h252 (by decide) (gdec kL_law_1 45 rfl) (fun c253 => ?_) (fun c253 => ?_)
          · replace hf := ifp c253 hf
            refine g_iconst C (gdec kL_law_2 7 rfl) ?_
            refine g_istore C [(4, vI 0), (6, vI r239), (5, vI r237), (0, .ref b), (1, rO B), (2, rP B), (3, vI y3_234)] hl (by decide) rfl (gdec kL_law_2 8 rfl) (fun ls hl => ?_)
            refine g_aload_n C hl 4 rfl rfl (gdec kL_law_2 9 rfl) ?_
            refine g_bipush C (gdec kL_law_2 10 rfl) rfl ?_
            obtain ⟨r254, q255, hf⟩ := bxr_s hf
            refine g_ci h (g_runV (CO F236) h ok_o (by decide) rfl (c_X7_value l (eo E0 B F236) G251 9 ok_o _ q255) wM_L_24 wI_X7_value wS_X7_value wN_X7 wC_X7_value rfl ny_X7_value rfl ⟨Nat.le_of_ble_eq_true rfl, Nat.le_of_ble_eq_true rfl⟩ hl.1 rfl (Nat.le_of_ble_eq_true rfl) (gdec kL_law_2 11 rfl) (by decide)) (fun H locs h => ?_)
            refine g_aload_n C hl 4 rfl rfl (gdec kL_law_2 12 rfl) ?_
            refine g_bipush C (gdec kL_law_2 13 rfl) rfl ?_
            obtain ⟨r256, q257, hf⟩ := bxr_s hf
            refine g_ci h (g_runV (CO F236) h ok_o (by decide) rfl (c_X7_value l (eo E0 B F236) G251 10 ok_o _ q257) wM_L_24 wI_X7_value wS_X7_value wN_X7 wC_X7_value rfl ny_X7_value rfl ⟨Nat.le_of_ble_eq_true rfl, Nat.le_of_ble_eq_true rfl⟩ hl.1 rfl (Nat.le_of_ble_eq_true rfl) (gdec kL_law_2 14 rfl) (by decide)) (fun H locs h => ?_)
            refine g_iadd C (gdec kL_law_2 15 rfl) ?_
            refine g_istore C [(7, vI (r254 + r256)), (4, vI 0), (6, vI r239), (5, vI r237), (0, .ref b), (1, rO B), (2, rP B), (3, vI y3_234)] hl (by decide) rfl (gdec kL_law_2 16 rfl) (fun ls hl => ?_)
            refine g_iload C hl 1 rfl (gdec kL_law_2 17 rfl) ?_
            refine g_if_eq C (tgt := 312) (by decide) (by decide) (gdec kL_law_2 18 rfl) (fun c258 => ?_) (fun c258 => absurd (by decide) c258)
            refine g_iconst C (gdec kL_law_2 35 rfl) ?_
            exact absurd hf (by decide)
          · replace hf := ifn c253 hf
            refine g_aload_n C hl 3 rfl rfl (gdec kL_law_1 46 rfl) ?_
            refine g_iconst C (gdec kL_law_1 47 rfl) ?_
            obtain ⟨r259, q260, hf⟩ := bxr_s hf
            refine g_ci h (g_runV (CO F236) h ok_o (by decide) rfl (c_X7_value l (eo E0 B F236) G251 3 ok_o _ q260) wM_L_24 wI_X7_value wS_X7_value wN_X7 wC_X7_value rfl ny_X7_value rfl ⟨Nat.le_of_ble_eq_true rfl, Nat.le_of_ble_eq_true rfl⟩ hl.1 rfl (Nat.le_of_ble_eq_true rfl) (gdec kL_law_1 48 rfl) (by decide)) (fun H locs h => ?_)
            refine g_iload C hl 1 rfl (gdec kL_law_1 49 rfl) ?_
            refine g_iconst C (gdec kL_law_1 50 rfl) ?_
            refine g_iadd C (gdec kL_law_1 51 rfl) ?_
            obtain ⟨h261, hf⟩ := gd_s hf
            obtain ⟨h262, hf⟩ := gd_s hf
            refine g_icmp_ne C (tgt := 253) h261 h262 (by decide) (gdec kL_law_1 52 rfl) (fun c263 => ?_) (fun c263 => ?_)
            · replace hf := ifp c263 hf
              refine g_aload_n C hl 3 rfl rfl (gdec kL_law_1 53 rfl) ?_
              obtain ⟨G266, r264, q265, hf⟩ := bxw_s hf
              refine g_ci h (g_runV (CO F236) h ok_o (by decide) rfl (c_X7_undo l (eo E0 B F236) G251 ok_o _ _ q265) wM_L_90 wI_X7_undo wS_X7_undo wN_X7 wC_X7_undo rfl ny_X7_undo rfl ⟨Nat.le_of_ble_eq_true rfl, Nat.le_of_ble_eq_true rfl⟩ hl.1 rfl (Nat.le_of_ble_eq_true rfl) (gdec kL_law_1 54 rfl) (by decide)) (fun H locs h => ?_)
              obtain ⟨h267, hf⟩ := gd_s hf
              refine g_if_lt C (tgt := 253) h267 (by decide) (gdec kL_law_1 55 rfl) (fun c268 => ?_) (fun c268 => ?_)
              · replace hf := ifp c268 hf
                refine g_iconst C (gdec kL_law_2 7 rfl) ?_
                refine g_istore C [(4, vI 0), (6, vI r239), (5, vI r237), (0, .ref b), (1, rO B), (2, rP B), (3, vI y3_234)] hl (by decide) rfl (gdec kL_law_2 8 rfl) (fun ls hl => ?_)
                refine g_aload_n C hl 4 rfl rfl (gdec kL_law_2 9 rfl) ?_
                refine g_bipush C (gdec kL_law_2 10 rfl) rfl ?_
                obtain ⟨r269, q270, hf⟩ := bxr_s hf
                refine g_ci h (g_runV (CO F236) h ok_o (by decide) rfl (c_X7_value l (eo E0 B F236) G266 9 ok_o _ q270) wM_L_24 wI_X7_value wS_X7_value wN_X7 wC_X7_value rfl ny_X7_value rfl ⟨Nat.le_of_ble_eq_true rfl, Nat.le_of_ble_eq_true rfl⟩ hl.1 rfl (Nat.le_of_ble_eq_true rfl) (gdec kL_law_2 11 rfl) (by decide)) (fun H locs h => ?_)
                refine g_aload_n C hl 4 rfl rfl (gdec kL_law_2 12 rfl) ?_
                refine g_bipush C (gdec kL_law_2 13 rfl) rfl ?_
                obtain ⟨r271, q272, hf⟩ := bxr_s hf
                refine g_ci h (g_runV (CO F236) h ok_o (by decide) rfl (c_X7_value l (eo E0 B F236) G266 10 ok_o _ q272) wM_L_24 wI_X7_value wS_X7_value wN_X7 wC_X7_value rfl ny_X7_value rfl ⟨Nat.le_of_ble_eq_true rfl, Nat.le_of_ble_eq_true rfl⟩ hl.1 rfl (Nat.le_of_ble_eq_true rfl) (gdec kL_law_2 14 rfl) (by decide)) (fun H locs h => ?_)
                refine g_iadd C (gdec kL_law_2 15 rfl) ?_
                refine g_istore C [(7, vI (r269 + r271)), (4, vI 0), (6, vI r239), (5, vI r237), (0, .ref b), (1, rO B), (2, rP B), (3, vI y3_234)] hl (by decide) rfl (gdec kL_law_2 16 rfl) (fun ls hl => ?_)
                refine g_iload C hl 1 rfl (gdec kL_law_2 17 rfl) ?_
                refine g_if_eq C (tgt := 312) (by decide) (by decide) (gdec kL_law_2 18 rfl) (fun c273 => ?_) (fun c273 => absurd (by decide) c273)
                refine g_iconst C (gdec kL_law_2 35 rfl) ?_
                exact absurd hf (by decide)
              · replace hf := ifn c268 hf
                refine g_aload_n C hl 3 rfl rfl (gdec kL_law_1 56 rfl) ?_
                refine g_iconst C (gdec kL_law_1 57 rfl) ?_
                obtain ⟨r274, q275, hf⟩ := bxr_s hf
                refine g_ci h (g_runV (CO F236) h ok_o (by decide) rfl (c_X7_value l (eo E0 B F236) G266 3 ok_o _ q275) wM_L_24 wI_X7_value wS_X7_value wN_X7 wC_X7_value rfl ny_X7_value rfl ⟨Nat.le_of_ble_eq_true rfl, Nat.le_of_ble_eq_true rfl⟩ hl.1 rfl (Nat.le_of_ble_eq_true rfl) (gdec kL_law_1 58 rfl) (by decide)) (fun H locs h => ?_)
                refine g_iload C hl 1 rfl (gdec kL_law_1 59 rfl) ?_
                obtain ⟨h276, hf⟩ := gd_s hf
                obtain ⟨h277, hf⟩ := gd_s hf
                refine g_icmp_ne C (tgt := 253) h276 h277 (by decide) (gdec kL_law_2 0 rfl) (fun c278 => ?_) (fun c278 => ?_)
                · replace hf := ifp c278 hf
                  refine g_aload_n C hl 3 rfl rfl (gdec kL_law_2 1 rfl) ?_
                  obtain ⟨G281, r279, q280, hf⟩ := bnd_s hf
                  refine g_ci h (g_runV (CO F236) h ok_o (by decide) rfl (c_X7_hoursToAll l (eo E0 B F236) G266 ok_o _ _ q280) wM_L_46 wI_X7_hoursToAll wS_X7_hoursToAll wN_X7 wC_X7_hoursToAll rfl ny_X7_hoursToAll rfl ⟨Nat.le_of_ble_eq_true rfl, Nat.le_of_ble_eq_true rfl⟩ hl.1 rfl (Nat.le_of_ble_eq_true rfl) (gdec kL_law_2 2 rfl) (by decide)) (fun H locs h => ?_)
                  refine g_iload C hl 0 rfl (gdec kL_law_2 3 rfl) ?_
                  obtain ⟨h282, hf⟩ := gd_s hf
                  obtain ⟨h283, hf⟩ := gd_s hf
                  refine g_icmp_ne C (tgt := 253) h282 h283 (by decide) (gdec kL_law_2 4 rfl) (fun c284 => ?_) (fun c284 => ?_)
                  · replace hf := ifp c284 hf
                    refine g_iconst C (gdec kL_law_2 5 rfl) ?_
                    refine g_goto C (tgt := 254) (by decide) (gdec kL_law_2 6 rfl) ?_
                    refine g_istore C [(4, vI 1), (6, vI r239), (5, vI r237), (0, .ref b), (1, rO B), (2, rP B), (3, vI y3_234)] hl (by decide) rfl (gdec kL_law_2 8 rfl) (fun ls hl => ?_)
                    refine g_aload_n C hl 4 rfl rfl (gdec kL_law_2 9 rfl) ?_
                    refine g_bipush C (gdec kL_law_2 10 rfl) rfl ?_
                    obtain ⟨r285, q286, hf⟩ := bxr_s hf
                    refine g_ci h (g_runV (CO F236) h ok_o (by decide) rfl (c_X7_value l (eo E0 B F236) G281 9 ok_o _ q286) wM_L_24 wI_X7_value wS_X7_value wN_X7 wC_X7_value rfl ny_X7_value rfl ⟨Nat.le_of_ble_eq_true rfl, Nat.le_of_ble_eq_true rfl⟩ hl.1 rfl (Nat.le_of_ble_eq_true rfl) (gdec kL_law_2 11 rfl) (by decide)) (fun H locs h => ?_)
                    refine g_aload_n C hl 4 rfl rfl (gdec kL_law_2 12 rfl) ?_
                    refine g_bipush C (gdec kL_law_2 13 rfl) rfl ?_
                    obtain ⟨r287, q288, hf⟩ := bxr_s hf
                    refine g_ci h (g_runV (CO F236) h ok_o (by decide) rfl (c_X7_value l (eo E0 B F236) G281 10 ok_o _ q288) wM_L_24 wI_X7_value wS_X7_value wN_X7 wC_X7_value rfl ny_X7_value rfl ⟨Nat.le_of_ble_eq_true rfl, Nat.le_of_ble_eq_true rfl⟩ hl.1 rfl (Nat.le_of_ble_eq_true rfl) (gdec kL_law_2 14 rfl) (by decide)) (fun H locs h => ?_)
                    refine g_iadd C (gdec kL_law_2 15 rfl) ?_
                    refine g_istore C [(7, vI (r285 + r287)), (4, vI 1), (6, vI r239), (5, vI r237), (0, .ref b), (1, rO B), (2, rP B), (3, vI y3_234)] hl (by decide) rfl (gdec kL_law_2 16 rfl) (fun ls hl => ?_)
                    refine g_iload C hl 1 rfl (gdec kL_law_2 17 rfl) ?_
                    refine g_if_eq C (tgt := 312) (by decide) (by decide) (gdec kL_law_2 18 rfl) (fun c289 => absurd c289 (by decide)) (fun c289 => ?_)
                    refine g_iload C hl 2 rfl (gdec kL_law_2 19 rfl) ?_
                    refine g_iconst C (gdec kL_law_2 20 rfl) ?_
                    refine g_icmp_lt C (tgt := 308) h283 (by decide) (by decide) (gdec kL_law_2 21 rfl) (fun c290 => ?_) (fun c290 => ?_)
                    · replace hf := ifp c290 hf
                      refine g_iconst C (gdec kL_law_2 33 rfl) ?_
                      refine g_goto C (tgt := 313) (by decide) (gdec kL_law_2 34 rfl) ?_
                      exact hK 0 _ _ H locs ls h
                    · replace hf := ifn c290 hf
                      refine g_iload C hl 2 rfl (gdec kL_law_2 22 rfl) ?_
                      refine g_sipush C (gdec kL_law_2 23 rfl) rfl ?_
                      refine g_icmp_gt C (tgt := 308) h283 (by decide) (by decide) (gdec kL_law_2 24 rfl) (fun c291 => ?_) (fun c291 => ?_)
                      · replace hf := ifp c291 hf
                        refine g_iconst C (gdec kL_law_2 33 rfl) ?_
                        refine g_goto C (tgt := 313) (by decide) (gdec kL_law_2 34 rfl) ?_
                        exact hK 0 _ _ H locs ls h
                      · replace hf := ifn c291 hf
                        refine g_aload_n C hl 5 rfl rfl (gdec kL_law_2 25 rfl) ?_
                        refine g_iload C hl 2 rfl (gdec kL_law_2 26 rfl) ?_
                        obtain ⟨G294, r292, q293, hf⟩ := bxw_s hf
                        refine g_ci h (g_runV (CO F236) h ok_o (by decide) rfl (c_X7_pass l (eo E0 B F236) G281 r239 ok_o _ _ q293) wM_L_39 wI_X7_pass wS_X7_pass wN_X7 wC_X7_pass rfl ny_X7_pass rfl ⟨Nat.le_of_ble_eq_true rfl, Nat.le_of_ble_eq_true rfl⟩ hl.1 rfl (Nat.le_of_ble_eq_true rfl) (gdec kL_law_2 27 rfl) (by decide)) (fun H locs h => ?_)
                        refine g_iload C hl 0 rfl (gdec kL_law_2 28 rfl) ?_
                        obtain ⟨h295, hf⟩ := gd_s hf
                        obtain ⟨h296, hf⟩ := gd_s hf
                        refine g_icmp_ne C (tgt := 312) h295 h296 (by decide) (gdec kL_law_2 29 rfl) (fun c297 => ?_) (fun c297 => ?_)
                        · replace hf := ifp c297 hf
                          refine g_aload_n C hl 5 rfl rfl (gdec kL_law_2 30 rfl) ?_
                          obtain ⟨G300, r298, q299, hf⟩ := bnd_s hf
                          refine g_ci h (g_runV (CO F236) h ok_o (by decide) rfl (c_X7_hoursToAll l (eo E0 B F236) G294 ok_o _ _ q299) wM_L_46 wI_X7_hoursToAll wS_X7_hoursToAll wN_X7 wC_X7_hoursToAll rfl ny_X7_hoursToAll rfl ⟨Nat.le_of_ble_eq_true rfl, Nat.le_of_ble_eq_true rfl⟩ hl.1 rfl (Nat.le_of_ble_eq_true rfl) (gdec kL_law_2 31 rfl) (by decide)) (fun H locs h => ?_)
                          obtain ⟨h301, hf⟩ := gd_s hf
                          refine g_if_ne C (tgt := 312) h301 (by decide) (gdec kL_law_2 32 rfl) (fun c302 => ?_) (fun c302 => ?_)
                          · replace hf := ifp c302 hf
                            refine g_iconst C (gdec kL_law_2 33 rfl) ?_
                            refine g_goto C (tgt := 313) (by decide) (gdec kL_law_2 34 rfl) ?_
                            exact hK 0 _ _ H locs ls h
                          · replace hf := ifn c302 hf
                            refine g_iconst C (gdec kL_law_2 35 rfl) ?_
                            exact absurd hf (by decide)
                        · replace hf := ifn c297 hf
                          refine g_iconst C (gdec kL_law_2 35 rfl) ?_
                          exact absurd hf (by decide)
                  · replace hf := ifn c284 hf
                    refine g_iconst C (gdec kL_law_2 7 rfl) ?_
                    refine g_istore C [(4, vI 0), (6, vI r239), (5, vI r237), (0, .ref b), (1, rO B), (2, rP B), (3, vI y3_234)] hl (by decide) rfl (gdec kL_law_2 8 rfl) (fun ls hl => ?_)
                    refine g_aload_n C hl 4 rfl rfl (gdec kL_law_2 9 rfl) ?_
                    refine g_bipush C (gdec kL_law_2 10 rfl) rfl ?_
                    obtain ⟨r303, q304, hf⟩ := bxr_s hf
                    refine g_ci h (g_runV (CO F236) h ok_o (by decide) rfl (c_X7_value l (eo E0 B F236) G281 9 ok_o _ q304) wM_L_24 wI_X7_value wS_X7_value wN_X7 wC_X7_value rfl ny_X7_value rfl ⟨Nat.le_of_ble_eq_true rfl, Nat.le_of_ble_eq_true rfl⟩ hl.1 rfl (Nat.le_of_ble_eq_true rfl) (gdec kL_law_2 11 rfl) (by decide)) (fun H locs h => ?_)
                    refine g_aload_n C hl 4 rfl rfl (gdec kL_law_2 12 rfl) ?_
                    refine g_bipush C (gdec kL_law_2 13 rfl) rfl ?_
                    obtain ⟨r305, q306, hf⟩ := bxr_s hf
                    refine g_ci h (g_runV (CO F236) h ok_o (by decide) rfl (c_X7_value l (eo E0 B F236) G281 10 ok_o _ q306) wM_L_24 wI_X7_value wS_X7_value wN_X7 wC_X7_value rfl ny_X7_value rfl ⟨Nat.le_of_ble_eq_true rfl, Nat.le_of_ble_eq_true rfl⟩ hl.1 rfl (Nat.le_of_ble_eq_true rfl) (gdec kL_law_2 14 rfl) (by decide)) (fun H locs h => ?_)
                    refine g_iadd C (gdec kL_law_2 15 rfl) ?_
                    refine g_istore C [(7, vI (r303 + r305)), (4, vI 0), (6, vI r239), (5, vI r237), (0, .ref b), (1, rO B), (2, rP B), (3, vI y3_234)] hl (by decide) rfl (gdec kL_law_2 16 rfl) (fun ls hl => ?_)
                    refine g_iload C hl 1 rfl (gdec kL_law_2 17 rfl) ?_
                    refine g_if_eq C (tgt := 312) (by decide) (by decide) (gdec kL_law_2 18 rfl) (fun c307 => ?_) (fun c307 => absurd (by decide) c307)
                    refine g_iconst C (gdec kL_law_2 35 rfl) ?_
                    exact absurd hf (by decide)
                · replace hf := ifn c278 hf
                  refine g_iconst C (gdec kL_law_2 7 rfl) ?_
                  refine g_istore C [(4, vI 0), (6, vI r239), (5, vI r237), (0, .ref b), (1, rO B), (2, rP B), (3, vI y3_234)] hl (by decide) rfl (gdec kL_law_2 8 rfl) (fun ls hl => ?_)
                  refine g_aload_n C hl 4 rfl rfl (gdec kL_law_2 9 rfl) ?_
                  refine g_bipush C (gdec kL_law_2 10 rfl) rfl ?_
                  obtain ⟨r308, q309, hf⟩ := bxr_s hf
                  refine g_ci h (g_runV (CO F236) h ok_o (by decide) rfl (c_X7_value l (eo E0 B F236) G266 9 ok_o _ q309) wM_L_24 wI_X7_value wS_X7_value wN_X7 wC_X7_value rfl ny_X7_value rfl ⟨Nat.le_of_ble_eq_true rfl, Nat.le_of_ble_eq_true rfl⟩ hl.1 rfl (Nat.le_of_ble_eq_true rfl) (gdec kL_law_2 11 rfl) (by decide)) (fun H locs h => ?_)
                  refine g_aload_n C hl 4 rfl rfl (gdec kL_law_2 12 rfl) ?_
                  refine g_bipush C (gdec kL_law_2 13 rfl) rfl ?_
                  obtain ⟨r310, q311, hf⟩ := bxr_s hf
                  refine g_ci h (g_runV (CO F236) h ok_o (by decide) rfl (c_X7_value l (eo E0 B F236) G266 10 ok_o _ q311) wM_L_24 wI_X7_value wS_X7_value wN_X7 wC_X7_value rfl ny_X7_value rfl ⟨Nat.le_of_ble_eq_true rfl, Nat.le_of_ble_eq_true rfl⟩ hl.1 rfl (Nat.le_of_ble_eq_true rfl) (gdec kL_law_2 14 rfl) (by decide)) (fun H locs h => ?_)
                  refine g_iadd C (gdec kL_law_2 15 rfl) ?_
                  refine g_istore C [(7, vI (r308 + r310)), (4, vI 0), (6, vI r239), (5, vI r237), (0, .ref b), (1, rO B), (2, rP B), (3, vI y3_234)] hl (by decide) rfl (gdec kL_law_2 16 rfl) (fun ls hl => ?_)
                  refine g_iload C hl 1 rfl (gdec kL_law_2 17 rfl) ?_
                  refine g_if_eq C (tgt := 312) (by decide) (by decide) (gdec kL_law_2 18 rfl) (fun c312 => ?_) (fun c312 => absurd (by decide) c312)
                  refine g_iconst C (gdec kL_law_2 35 rfl) ?_
                  exact absurd hf (by decide)
            · replace hf := ifn c263 hf
              refine g_iconst C (gdec kL_law_2 7 rfl) ?_
              refine g_istore C [(4, vI 0), (6, vI r239), (5, vI r237), (0, .ref b), (1, rO B), (2, rP B), (3, vI y3_234)] hl (by decide) rfl (gdec kL_law_2 8 rfl) (fun ls hl => ?_)
              refine g_aload_n C hl 4 rfl rfl (gdec kL_law_2 9 rfl) ?_
              refine g_bipush C (gdec kL_law_2 10 rfl) rfl ?_
              obtain ⟨r313, q314, hf⟩ := bxr_s hf
              refine g_ci h (g_runV (CO F236) h ok_o (by decide) rfl (c_X7_value l (eo E0 B F236) G251 9 ok_o _ q314) wM_L_24 wI_X7_value wS_X7_value wN_X7 wC_X7_value rfl ny_X7_value rfl ⟨Nat.le_of_ble_eq_true rfl, Nat.le_of_ble_eq_true rfl⟩ hl.1 rfl (Nat.le_of_ble_eq_true rfl) (gdec kL_law_2 11 rfl) (by decide)) (fun H locs h => ?_)
              refine g_aload_n C hl 4 rfl rfl (gdec kL_law_2 12 rfl) ?_
              refine g_bipush C (gdec kL_law_2 13 rfl) rfl ?_
              obtain ⟨r315, q316, hf⟩ := bxr_s hf
              refine g_ci h (g_runV (CO F236) h ok_o (by decide) rfl (c_X7_value l (eo E0 B F236) G251 10 ok_o _ q316) wM_L_24 wI_X7_value wS_X7_value wN_X7 wC_X7_value rfl ny_X7_value rfl ⟨Nat.le_of_ble_eq_true rfl, Nat.le_of_ble_eq_true rfl⟩ hl.1 rfl (Nat.le_of_ble_eq_true rfl) (gdec kL_law_2 14 rfl) (by decide)) (fun H locs h => ?_)
              refine g_iadd C (gdec kL_law_2 15 rfl) ?_
              refine g_istore C [(7, vI (r313 + r315)), (4, vI 0), (6, vI r239), (5, vI r237), (0, .ref b), (1, rO B), (2, rP B), (3, vI y3_234)] hl (by decide) rfl (gdec kL_law_2 16 rfl) (fun ls hl => ?_)
              refine g_iload C hl 1 rfl (gdec kL_law_2 17 rfl) ?_
              refine g_if_eq C (tgt := 312) (by decide) (by decide) (gdec kL_law_2 18 rfl) (fun c317 => ?_) (fun c317 => absurd (by decide) c317)
              refine g_iconst C (gdec kL_law_2 35 rfl) ?_
              exact absurd hf (by decide)
    · replace hf := ifn c144 hf
      refine g_iconst C (gdec kL_law_1 1 rfl) ?_
      refine g_istore C [(4, vI 0), (0, .ref b), (1, rO B), (2, rP B), (3, vI y3_29), (5, vI y5_29)] hl (by decide) rfl (gdec kL_law_1 2 rfl) (fun ls hl => ?_)
      refine g_iconst C (gdec kL_law_1 3 rfl) ?_
      refine g_istore C [(5, vI 1), (4, vI 0), (0, .ref b), (1, rO B), (2, rP B), (3, vI y3_29)] hl (by decide) rfl (gdec kL_law_1 4 rfl) (fun ls hl => ?_)
      refine L128 gFuel _ _ _ _ _ _ (fun G319 F320 y3_318 y4_318 y5_318 hf H locs h ls hl => ?_) H locs h ls (lv_sub hl [2, 3, 4, 5, 1, 0] rfl) hf
      refine g_aload_n C hl 1 rfl rfl (gdec kL_law_1 33 rfl) ?_
      refine g_iconst C (gdec kL_law_1 34 rfl) ?_
      obtain ⟨r321, q322, hf⟩ := bxr_s hf
      refine g_ci h (g_runV (CO F320) h ok_o (by decide) rfl (c_X7_value l (eo E0 B F320) G319 3 ok_o _ q322) wM_L_24 wI_X7_value wS_X7_value wN_X7 wC_X7_value rfl ny_X7_value rfl ⟨Nat.le_of_ble_eq_true rfl, Nat.le_of_ble_eq_true rfl⟩ hl.1 rfl (Nat.le_of_ble_eq_true rfl) (gdec kL_law_1 35 rfl) (by decide)) (fun H locs h => ?_)
      refine g_istore C [(5, vI r321), (0, .ref b), (1, rO B), (2, rP B), (3, vI y3_318), (4, vI y4_318)] hl (by decide) rfl (gdec kL_law_1 36 rfl) (fun ls hl => ?_)
      refine g_aload_n C hl 2 rfl rfl (gdec kL_law_1 37 rfl) ?_
      obtain ⟨G325, r323, q324, hf⟩ := bnd_s hf
      refine g_ci h (g_runV (CO F320) h ok_o (by decide) rfl (c_X7_hoursToAll l (eo E0 B F320) G319 ok_o _ _ q324) wM_L_46 wI_X7_hoursToAll wS_X7_hoursToAll wN_X7 wC_X7_hoursToAll rfl ny_X7_hoursToAll rfl ⟨Nat.le_of_ble_eq_true rfl, Nat.le_of_ble_eq_true rfl⟩ hl.1 rfl (Nat.le_of_ble_eq_true rfl) (gdec kL_law_1 38 rfl) (by decide)) (fun H locs h => ?_)
      refine g_istore C [(6, vI r323), (5, vI r321), (0, .ref b), (1, rO B), (2, rP B), (3, vI y3_318), (4, vI y4_318)] hl (by decide) rfl (gdec kL_law_1 39 rfl) (fun ls hl => ?_)
      refine g_iload C hl 6 rfl (gdec kL_law_1 40 rfl) ?_
      obtain ⟨h326, hf⟩ := gd_s hf
      refine g_if_eq C (tgt := 253) h326 (by decide) (gdec kL_law_1 41 rfl) (fun c327 => ?_) (fun c327 => ?_)
      · replace hf := ifp c327 hf
        refine g_iconst C (gdec kL_law_2 7 rfl) ?_
        refine g_istore C [(4, vI 0), (6, vI r323), (5, vI r321), (0, .ref b), (1, rO B), (2, rP B), (3, vI y3_318)] hl (by decide) rfl (gdec kL_law_2 8 rfl) (fun ls hl => ?_)
        refine g_aload_n C hl 4 rfl rfl (gdec kL_law_2 9 rfl) ?_
        refine g_bipush C (gdec kL_law_2 10 rfl) rfl ?_
        obtain ⟨r328, q329, hf⟩ := bxr_s hf
        refine g_ci h (g_runV (CO F320) h ok_o (by decide) rfl (c_X7_value l (eo E0 B F320) G325 9 ok_o _ q329) wM_L_24 wI_X7_value wS_X7_value wN_X7 wC_X7_value rfl ny_X7_value rfl ⟨Nat.le_of_ble_eq_true rfl, Nat.le_of_ble_eq_true rfl⟩ hl.1 rfl (Nat.le_of_ble_eq_true rfl) (gdec kL_law_2 11 rfl) (by decide)) (fun H locs h => ?_)
        refine g_aload_n C hl 4 rfl rfl (gdec kL_law_2 12 rfl) ?_
        refine g_bipush C (gdec kL_law_2 13 rfl) rfl ?_
        obtain ⟨r330, q331, hf⟩ := bxr_s hf
        refine g_ci h (g_runV (CO F320) h ok_o (by decide) rfl (c_X7_value l (eo E0 B F320) G325 10 ok_o _ q331) wM_L_24 wI_X7_value wS_X7_value wN_X7 wC_X7_value rfl ny_X7_value rfl ⟨Nat.le_of_ble_eq_true rfl, Nat.le_of_ble_eq_true rfl⟩ hl.1 rfl (Nat.le_of_ble_eq_true rfl) (gdec kL_law_2 14 rfl) (by decide)) (fun H locs h => ?_)
        refine g_iadd C (gdec kL_law_2 15 rfl) ?_
        refine g_istore C [(7, vI (r328 + r330)), (4, vI 0), (6, vI r323), (5, vI r321), (0, .ref b), (1, rO B), (2, rP B), (3, vI y3_318)] hl (by decide) rfl (gdec kL_law_2 16 rfl) (fun ls hl => ?_)
        refine g_iload C hl 1 rfl (gdec kL_law_2 17 rfl) ?_
        refine g_if_eq C (tgt := 312) (by decide) (by decide) (gdec kL_law_2 18 rfl) (fun c332 => ?_) (fun c332 => absurd (by decide) c332)
        refine g_iconst C (gdec kL_law_2 35 rfl) ?_
        exact absurd hf (by decide)
      · replace hf := ifn c327 hf
        refine g_aload_n C hl 3 rfl rfl (gdec kL_law_1 42 rfl) ?_
        refine g_iconst C (gdec kL_law_1 43 rfl) ?_
        obtain ⟨G335, r333, q334, hf⟩ := bxw_s hf
        refine g_ci h (g_runV (CO F320) h ok_o (by decide) rfl (c_X7_pass l (eo E0 B F320) G325 5 ok_o _ _ q334) wM_L_39 wI_X7_pass wS_X7_pass wN_X7 wC_X7_pass rfl ny_X7_pass rfl ⟨Nat.le_of_ble_eq_true rfl, Nat.le_of_ble_eq_true rfl⟩ hl.1 rfl (Nat.le_of_ble_eq_true rfl) (gdec kL_law_1 44 rfl) (by decide)) (fun H locs h => ?_)
        obtain ⟨h336, hf⟩ := gd_s hf
        refine g_if_lt C (tgt := 253) h336 (by decide) (gdec kL_law_1 45 rfl) (fun c337 => ?_) (fun c337 => ?_)
        · replace hf := ifp c337 hf
          refine g_iconst C (gdec kL_law_2 7 rfl) ?_
          refine g_istore C [(4, vI 0), (6, vI r323), (5, vI r321), (0, .ref b), (1, rO B), (2, rP B), (3, vI y3_318)] hl (by decide) rfl (gdec kL_law_2 8 rfl) (fun ls hl => ?_)
          refine g_aload_n C hl 4 rfl rfl (gdec kL_law_2 9 rfl) ?_
          refine g_bipush C (gdec kL_law_2 10 rfl) rfl ?_
          obtain ⟨r338, q339, hf⟩ := bxr_s hf
          refine g_ci h (g_runV (CO F320) h ok_o (by decide) rfl (c_X7_value l (eo E0 B F320) G335 9 ok_o _ q339) wM_L_24 wI_X7_value wS_X7_value wN_X7 wC_X7_value rfl ny_X7_value rfl ⟨Nat.le_of_ble_eq_true rfl, Nat.le_of_ble_eq_true rfl⟩ hl.1 rfl (Nat.le_of_ble_eq_true rfl) (gdec kL_law_2 11 rfl) (by decide)) (fun H locs h => ?_)
          refine g_aload_n C hl 4 rfl rfl (gdec kL_law_2 12 rfl) ?_
          refine g_bipush C (gdec kL_law_2 13 rfl) rfl ?_
          obtain ⟨r340, q341, hf⟩ := bxr_s hf
          refine g_ci h (g_runV (CO F320) h ok_o (by decide) rfl (c_X7_value l (eo E0 B F320) G335 10 ok_o _ q341) wM_L_24 wI_X7_value wS_X7_value wN_X7 wC_X7_value rfl ny_X7_value rfl ⟨Nat.le_of_ble_eq_true rfl, Nat.le_of_ble_eq_true rfl⟩ hl.1 rfl (Nat.le_of_ble_eq_true rfl) (gdec kL_law_2 14 rfl) (by decide)) (fun H locs h => ?_)
          refine g_iadd C (gdec kL_law_2 15 rfl) ?_
          refine g_istore C [(7, vI (r338 + r340)), (4, vI 0), (6, vI r323), (5, vI r321), (0, .ref b), (1, rO B), (2, rP B), (3, vI y3_318)] hl (by decide) rfl (gdec kL_law_2 16 rfl) (fun ls hl => ?_)
          refine g_iload C hl 1 rfl (gdec kL_law_2 17 rfl) ?_
          refine g_if_eq C (tgt := 312) (by decide) (by decide) (gdec kL_law_2 18 rfl) (fun c342 => ?_) (fun c342 => absurd (by decide) c342)
          refine g_iconst C (gdec kL_law_2 35 rfl) ?_
          exact absurd hf (by decide)
        · replace hf := ifn c337 hf
          refine g_aload_n C hl 3 rfl rfl (gdec kL_law_1 46 rfl) ?_
          refine g_iconst C (gdec kL_law_1 47 rfl) ?_
          obtain ⟨r343, q344, hf⟩ := bxr_s hf
          refine g_ci h (g_runV (CO F320) h ok_o (by decide) rfl (c_X7_value l (eo E0 B F320) G335 3 ok_o _ q344) wM_L_24 wI_X7_value wS_X7_value wN_X7 wC_X7_value rfl ny_X7_value rfl ⟨Nat.le_of_ble_eq_true rfl, Nat.le_of_ble_eq_true rfl⟩ hl.1 rfl (Nat.le_of_ble_eq_true rfl) (gdec kL_law_1 48 rfl) (by decide)) (fun H locs h => ?_)
          refine g_iload C hl 1 rfl (gdec kL_law_1 49 rfl) ?_
          refine g_iconst C (gdec kL_law_1 50 rfl) ?_
          refine g_iadd C (gdec kL_law_1 51 rfl) ?_
          obtain ⟨h345, hf⟩ := gd_s hf
          obtain ⟨h346, hf⟩ := gd_s hf
          refine g_icmp_ne C (tgt := 253) h345 h346 (by decide) (gdec kL_law_1 52 rfl) (fun c347 => ?_) (fun c347 => ?_)
          · replace hf := ifp c347 hf
            refine g_aload_n C hl 3 rfl rfl (gdec kL_law_1 53 rfl) ?_
            obtain ⟨G350, r348, q349, hf⟩ := bxw_s hf
            refine g_ci h (g_runV (CO F320) h ok_o (by decide) rfl (c_X7_undo l (eo E0 B F320) G335 ok_o _ _ q349) wM_L_90 wI_X7_undo wS_X7_undo wN_X7 wC_X7_undo rfl ny_X7_undo rfl ⟨Nat.le_of_ble_eq_true rfl, Nat.le_of_ble_eq_true rfl⟩ hl.1 rfl (Nat.le_of_ble_eq_true rfl) (gdec kL_law_1 54 rfl) (by decide)) (fun H locs h => ?_)
            obtain ⟨h351, hf⟩ := gd_s hf
            refine g_if_lt C (tgt := 253) h351 (by decide) (gdec kL_law_1 55 rfl) (fun c352 => ?_) (fun c352 => ?_)
            · replace hf := ifp c352 hf
              refine g_iconst C (gdec kL_law_2 7 rfl) ?_
              refine g_istore C [(4, vI 0), (6, vI r323), (5, vI r321), (0, .ref b), (1, rO B), (2, rP B), (3, vI y3_318)] hl (by decide) rfl (gdec kL_law_2 8 rfl) (fun ls hl => ?_)
              refine g_aload_n C hl 4 rfl rfl (gdec kL_law_2 9 rfl) ?_
              refine g_bipush C (gdec kL_law_2 10 rfl) rfl ?_
              obtain ⟨r353, q354, hf⟩ := bxr_s hf
              refine g_ci h (g_runV (CO F320) h ok_o (by decide) rfl (c_X7_value l (eo E0 B F320) G350 9 ok_o _ q354) wM_L_24 wI_X7_value wS_X7_value wN_X7 wC_X7_value rfl ny_X7_value rfl ⟨Nat.le_of_ble_eq_true rfl, Nat.le_of_ble_eq_true rfl⟩ hl.1 rfl (Nat.le_of_ble_eq_true rfl) (gdec kL_law_2 11 rfl) (by decide)) (fun H locs h => ?_)
              refine g_aload_n C hl 4 rfl rfl (gdec kL_law_2 12 rfl) ?_
              refine g_bipush C (gdec kL_law_2 13 rfl) rfl ?_
              obtain ⟨r355, q356, hf⟩ := bxr_s hf
              refine g_ci h (g_runV (CO F320) h ok_o (by decide) rfl (c_X7_value l (eo E0 B F320) G350 10 ok_o _ q356) wM_L_24 wI_X7_value wS_X7_value wN_X7 wC_X7_value rfl ny_X7_value rfl ⟨Nat.le_of_ble_eq_true rfl, Nat.le_of_ble_eq_true rfl⟩ hl.1 rfl (Nat.le_of_ble_eq_true rfl) (gdec kL_law_2 14 rfl) (by decide)) (fun H locs h => ?_)
              refine g_iadd C (gdec kL_law_2 15 rfl) ?_
              refine g_istore C [(7, vI (r353 + r355)), (4, vI 0), (6, vI r323), (5, vI r321), (0, .ref b), (1, rO B), (2, rP B), (3, vI y3_318)] hl (by decide) rfl (gdec kL_law_2 16 rfl) (fun ls hl => ?_)
              refine g_iload C hl 1 rfl (gdec kL_law_2 17 rfl) ?_
              refine g_if_eq C (tgt := 312) (by decide) (by decide) (gdec kL_law_2 18 rfl) (fun c357 => ?_) (fun c357 => absurd (by decide) c357)
              refine g_iconst C (gdec kL_law_2 35 rfl) ?_
              exact absurd hf (by decide)
            · replace hf := ifn c352 hf
              refine g_aload_n C hl 3 rfl rfl (gdec kL_law_1 56 rfl) ?_
              refine g_iconst C (gdec kL_law_1 57 rfl) ?_
              obtain ⟨r358, q359, hf⟩ := bxr_s hf
              refine g_ci h (g_runV (CO F320) h ok_o (by decide) rfl (c_X7_value l (eo E0 B F320) G350 3 ok_o _ q359) wM_L_24 wI_X7_value wS_X7_value wN_X7 wC_X7_value rfl ny_X7_value rfl ⟨Nat.le_of_ble_eq_true rfl, Nat.le_of_ble_eq_true rfl⟩ hl.1 rfl (Nat.le_of_ble_eq_true rfl) (gdec kL_law_1 58 rfl) (by decide)) (fun H locs h => ?_)
              refine g_iload C hl 1 rfl (gdec kL_law_1 59 rfl) ?_
              obtain ⟨h360, hf⟩ := gd_s hf
              obtain ⟨h361, hf⟩ := gd_s hf
              refine g_icmp_ne C (tgt := 253) h360 h361 (by decide) (gdec kL_law_2 0 rfl) (fun c362 => ?_) (fun c362 => ?_)
              · replace hf := ifp c362 hf
                refine g_aload_n C hl 3 rfl rfl (gdec kL_law_2 1 rfl) ?_
                obtain ⟨G365, r363, q364, hf⟩ := bnd_s hf
                refine g_ci h (g_runV (CO F320) h ok_o (by decide) rfl (c_X7_hoursToAll l (eo E0 B F320) G350 ok_o _ _ q364) wM_L_46 wI_X7_hoursToAll wS_X7_hoursToAll wN_X7 wC_X7_hoursToAll rfl ny_X7_hoursToAll rfl ⟨Nat.le_of_ble_eq_true rfl, Nat.le_of_ble_eq_true rfl⟩ hl.1 rfl (Nat.le_of_ble_eq_true rfl) (gdec kL_law_2 2 rfl) (by decide)) (fun H locs h => ?_)
                refine g_iload C hl 0 rfl (gdec kL_law_2 3 rfl) ?_
                obtain ⟨h366, hf⟩ := gd_s hf
                obtain ⟨h367, hf⟩ := gd_s hf
                refine g_icmp_ne C (tgt := 253) h366 h367 (by decide) (gdec kL_law_2 4 rfl) (fun c368 => ?_) (fun c368 => ?_)
                · replace hf := ifp c368 hf
                  refine g_iconst C (gdec kL_law_2 5 rfl) ?_
                  refine g_goto C (tgt := 254) (by decide) (gdec kL_law_2 6 rfl) ?_
                  refine g_istore C [(4, vI 1), (6, vI r323), (5, vI r321), (0, .ref b), (1, rO B), (2, rP B), (3, vI y3_318)] hl (by decide) rfl (gdec kL_law_2 8 rfl) (fun ls hl => ?_)
                  refine g_aload_n C hl 4 rfl rfl (gdec kL_law_2 9 rfl) ?_
                  refine g_bipush C (gdec kL_law_2 10 rfl) rfl ?_
                  obtain ⟨r369, q370, hf⟩ := bxr_s hf
                  refine g_ci h (g_runV (CO F320) h ok_o (by decide) rfl (c_X7_value l (eo E0 B F320) G365 9 ok_o _ q370) wM_L_24 wI_X7_value wS_X7_value wN_X7 wC_X7_value rfl ny_X7_value rfl ⟨Nat.le_of_ble_eq_true rfl, Nat.le_of_ble_eq_true rfl⟩ hl.1 rfl (Nat.le_of_ble_eq_true rfl) (gdec kL_law_2 11 rfl) (by decide)) (fun H locs h => ?_)
                  refine g_aload_n C hl 4 rfl rfl (gdec kL_law_2 12 rfl) ?_
                  refine g_bipush C (gdec kL_law_2 13 rfl) rfl ?_
                  obtain ⟨r371, q372, hf⟩ := bxr_s hf
                  refine g_ci h (g_runV (CO F320) h ok_o (by decide) rfl (c_X7_value l (eo E0 B F320) G365 10 ok_o _ q372) wM_L_24 wI_X7_value wS_X7_value wN_X7 wC_X7_value rfl ny_X7_value rfl ⟨Nat.le_of_ble_eq_true rfl, Nat.le_of_ble_eq_true rfl⟩ hl.1 rfl (Nat.le_of_ble_eq_true rfl) (gdec kL_law_2 14 rfl) (by decide)) (fun H locs h => ?_)
                  refine g_iadd C (gdec kL_law_2 15 rfl) ?_
                  refine g_istore C [(7, vI (r369 + r371)), (4, vI 1), (6, vI r323), (5, vI r321), (0, .ref b), (1, rO B), (2, rP B), (3, vI y3_318)] hl (by decide) rfl (gdec kL_law_2 16 rfl) (fun ls hl => ?_)
                  refine g_iload C hl 1 rfl (gdec kL_law_2 17 rfl) ?_
                  refine g_if_eq C (tgt := 312) (by decide) (by decide) (gdec kL_law_2 18 rfl) (fun c373 => absurd c373 (by decide)) (fun c373 => ?_)
                  refine g_iload C hl 2 rfl (gdec kL_law_2 19 rfl) ?_
                  refine g_iconst C (gdec kL_law_2 20 rfl) ?_
                  refine g_icmp_lt C (tgt := 308) h367 (by decide) (by decide) (gdec kL_law_2 21 rfl) (fun c374 => ?_) (fun c374 => ?_)
                  · replace hf := ifp c374 hf
                    refine g_iconst C (gdec kL_law_2 33 rfl) ?_
                    refine g_goto C (tgt := 313) (by decide) (gdec kL_law_2 34 rfl) ?_
                    exact hK 0 _ _ H locs ls h
                  · replace hf := ifn c374 hf
                    refine g_iload C hl 2 rfl (gdec kL_law_2 22 rfl) ?_
                    refine g_sipush C (gdec kL_law_2 23 rfl) rfl ?_
                    refine g_icmp_gt C (tgt := 308) h367 (by decide) (by decide) (gdec kL_law_2 24 rfl) (fun c375 => ?_) (fun c375 => ?_)
                    · replace hf := ifp c375 hf
                      refine g_iconst C (gdec kL_law_2 33 rfl) ?_
                      refine g_goto C (tgt := 313) (by decide) (gdec kL_law_2 34 rfl) ?_
                      exact hK 0 _ _ H locs ls h
                    · replace hf := ifn c375 hf
                      refine g_aload_n C hl 5 rfl rfl (gdec kL_law_2 25 rfl) ?_
                      refine g_iload C hl 2 rfl (gdec kL_law_2 26 rfl) ?_
                      obtain ⟨G378, r376, q377, hf⟩ := bxw_s hf
                      refine g_ci h (g_runV (CO F320) h ok_o (by decide) rfl (c_X7_pass l (eo E0 B F320) G365 r323 ok_o _ _ q377) wM_L_39 wI_X7_pass wS_X7_pass wN_X7 wC_X7_pass rfl ny_X7_pass rfl ⟨Nat.le_of_ble_eq_true rfl, Nat.le_of_ble_eq_true rfl⟩ hl.1 rfl (Nat.le_of_ble_eq_true rfl) (gdec kL_law_2 27 rfl) (by decide)) (fun H locs h => ?_)
                      refine g_iload C hl 0 rfl (gdec kL_law_2 28 rfl) ?_
                      obtain ⟨h379, hf⟩ := gd_s hf
                      obtain ⟨h380, hf⟩ := gd_s hf
                      refine g_icmp_ne C (tgt := 312) h379 h380 (by decide) (gdec kL_law_2 29 rfl) (fun c381 => ?_) (fun c381 => ?_)
                      · replace hf := ifp c381 hf
                        refine g_aload_n C hl 5 rfl rfl (gdec kL_law_2 30 rfl) ?_
                        obtain ⟨G384, r382, q383, hf⟩ := bnd_s hf
                        refine g_ci h (g_runV (CO F320) h ok_o (by decide) rfl (c_X7_hoursToAll l (eo E0 B F320) G378 ok_o _ _ q383) wM_L_46 wI_X7_hoursToAll wS_X7_hoursToAll wN_X7 wC_X7_hoursToAll rfl ny_X7_hoursToAll rfl ⟨Nat.le_of_ble_eq_true rfl, Nat.le_of_ble_eq_true rfl⟩ hl.1 rfl (Nat.le_of_ble_eq_true rfl) (gdec kL_law_2 31 rfl) (by decide)) (fun H locs h => ?_)
                        obtain ⟨h385, hf⟩ := gd_s hf
                        refine g_if_ne C (tgt := 312) h385 (by decide) (gdec kL_law_2 32 rfl) (fun c386 => ?_) (fun c386 => ?_)
                        · replace hf := ifp c386 hf
                          refine g_iconst C (gdec kL_law_2 33 rfl) ?_
                          refine g_goto C (tgt := 313) (by decide) (gdec kL_law_2 34 rfl) ?_
                          exact hK 0 _ _ H locs ls h
                        · replace hf := ifn c386 hf
                          refine g_iconst C (gdec kL_law_2 35 rfl) ?_
                          exact absurd hf (by decide)
                      · replace hf := ifn c381 hf
                        refine g_iconst C (gdec kL_law_2 35 rfl) ?_
                        exact absurd hf (by decide)
                · replace hf := ifn c368 hf
                  refine g_iconst C (gdec kL_law_2 7 rfl) ?_
                  refine g_istore C [(4, vI 0), (6, vI r323), (5, vI r321), (0, .ref b), (1, rO B), (2, rP B), (3, vI y3_318)] hl (by decide) rfl (gdec kL_law_2 8 rfl) (fun ls hl => ?_)
                  refine g_aload_n C hl 4 rfl rfl (gdec kL_law_2 9 rfl) ?_
                  refine g_bipush C (gdec kL_law_2 10 rfl) rfl ?_
                  obtain ⟨r387, q388, hf⟩ := bxr_s hf
                  refine g_ci h (g_runV (CO F320) h ok_o (by decide) rfl (c_X7_value l (eo E0 B F320) G365 9 ok_o _ q388) wM_L_24 wI_X7_value wS_X7_value wN_X7 wC_X7_value rfl ny_X7_value rfl ⟨Nat.le_of_ble_eq_true rfl, Nat.le_of_ble_eq_true rfl⟩ hl.1 rfl (Nat.le_of_ble_eq_true rfl) (gdec kL_law_2 11 rfl) (by decide)) (fun H locs h => ?_)
                  refine g_aload_n C hl 4 rfl rfl (gdec kL_law_2 12 rfl) ?_
                  refine g_bipush C (gdec kL_law_2 13 rfl) rfl ?_
                  obtain ⟨r389, q390, hf⟩ := bxr_s hf
                  refine g_ci h (g_runV (CO F320) h ok_o (by decide) rfl (c_X7_value l (eo E0 B F320) G365 10 ok_o _ q390) wM_L_24 wI_X7_value wS_X7_value wN_X7 wC_X7_value rfl ny_X7_value rfl ⟨Nat.le_of_ble_eq_true rfl, Nat.le_of_ble_eq_true rfl⟩ hl.1 rfl (Nat.le_of_ble_eq_true rfl) (gdec kL_law_2 14 rfl) (by decide)) (fun H locs h => ?_)
                  refine g_iadd C (gdec kL_law_2 15 rfl) ?_
                  refine g_istore C [(7, vI (r387 + r389)), (4, vI 0), (6, vI r323), (5, vI r321), (0, .ref b), (1, rO B), (2, rP B), (3, vI y3_318)] hl (by decide) rfl (gdec kL_law_2 16 rfl) (fun ls hl => ?_)
                  refine g_iload C hl 1 rfl (gdec kL_law_2 17 rfl) ?_
                  refine g_if_eq C (tgt := 312) (by decide) (by decide) (gdec kL_law_2 18 rfl) (fun c391 => ?_) (fun c391 => absurd (by decide) c391)
                  refine g_iconst C (gdec kL_law_2 35 rfl) ?_
                  exact absurd hf (by decide)
              · replace hf := ifn c362 hf
                refine g_iconst C (gdec kL_law_2 7 rfl) ?_
                refine g_istore C [(4, vI 0), (6, vI r323), (5, vI r321), (0, .ref b), (1, rO B), (2, rP B), (3, vI y3_318)] hl (by decide) rfl (gdec kL_law_2 8 rfl) (fun ls hl => ?_)
                refine g_aload_n C hl 4 rfl rfl (gdec kL_law_2 9 rfl) ?_
                refine g_bipush C (gdec kL_law_2 10 rfl) rfl ?_
                obtain ⟨r392, q393, hf⟩ := bxr_s hf
                refine g_ci h (g_runV (CO F320) h ok_o (by decide) rfl (c_X7_value l (eo E0 B F320) G350 9 ok_o _ q393) wM_L_24 wI_X7_value wS_X7_value wN_X7 wC_X7_value rfl ny_X7_value rfl ⟨Nat.le_of_ble_eq_true rfl, Nat.le_of_ble_eq_true rfl⟩ hl.1 rfl (Nat.le_of_ble_eq_true rfl) (gdec kL_law_2 11 rfl) (by decide)) (fun H locs h => ?_)
                refine g_aload_n C hl 4 rfl rfl (gdec kL_law_2 12 rfl) ?_
                refine g_bipush C (gdec kL_law_2 13 rfl) rfl ?_
                obtain ⟨r394, q395, hf⟩ := bxr_s hf
                refine g_ci h (g_runV (CO F320) h ok_o (by decide) rfl (c_X7_value l (eo E0 B F320) G350 10 ok_o _ q395) wM_L_24 wI_X7_value wS_X7_value wN_X7 wC_X7_value rfl ny_X7_value rfl ⟨Nat.le_of_ble_eq_true rfl, Nat.le_of_ble_eq_true rfl⟩ hl.1 rfl (Nat.le_of_ble_eq_true rfl) (gdec kL_law_2 14 rfl) (by decide)) (fun H locs h => ?_)
                refine g_iadd C (gdec kL_law_2 15 rfl) ?_
                refine g_istore C [(7, vI (r392 + r394)), (4, vI 0), (6, vI r323), (5, vI r321), (0, .ref b), (1, rO B), (2, rP B), (3, vI y3_318)] hl (by decide) rfl (gdec kL_law_2 16 rfl) (fun ls hl => ?_)
                refine g_iload C hl 1 rfl (gdec kL_law_2 17 rfl) ?_
                refine g_if_eq C (tgt := 312) (by decide) (by decide) (gdec kL_law_2 18 rfl) (fun c396 => ?_) (fun c396 => absurd (by decide) c396)
                refine g_iconst C (gdec kL_law_2 35 rfl) ?_
                exact absurd hf (by decide)
          · replace hf := ifn c347 hf
            refine g_iconst C (gdec kL_law_2 7 rfl) ?_
            refine g_istore C [(4, vI 0), (6, vI r323), (5, vI r321), (0, .ref b), (1, rO B), (2, rP B), (3, vI y3_318)] hl (by decide) rfl (gdec kL_law_2 8 rfl) (fun ls hl => ?_)
            refine g_aload_n C hl 4 rfl rfl (gdec kL_law_2 9 rfl) ?_
            refine g_bipush C (gdec kL_law_2 10 rfl) rfl ?_
            obtain ⟨r397, q398, hf⟩ := bxr_s hf
            refine g_ci h (g_runV (CO F320) h ok_o (by decide) rfl (c_X7_value l (eo E0 B F320) G335 9 ok_o _ q398) wM_L_24 wI_X7_value wS_X7_value wN_X7 wC_X7_value rfl ny_X7_value rfl ⟨Nat.le_of_ble_eq_true rfl, Nat.le_of_ble_eq_true rfl⟩ hl.1 rfl (Nat.le_of_ble_eq_true rfl) (gdec kL_law_2 11 rfl) (by decide)) (fun H locs h => ?_)
            refine g_aload_n C hl 4 rfl rfl (gdec kL_law_2 12 rfl) ?_
            refine g_bipush C (gdec kL_law_2 13 rfl) rfl ?_
            obtain ⟨r399, q400, hf⟩ := bxr_s hf
            refine g_ci h (g_runV (CO F320) h ok_o (by decide) rfl (c_X7_value l (eo E0 B F320) G335 10 ok_o _ q400) wM_L_24 wI_X7_value wS_X7_value wN_X7 wC_X7_value rfl ny_X7_value rfl ⟨Nat.le_of_ble_eq_true rfl, Nat.le_of_ble_eq_true rfl⟩ hl.1 rfl (Nat.le_of_ble_eq_true rfl) (gdec kL_law_2 14 rfl) (by decide)) (fun H locs h => ?_)
            refine g_iadd C (gdec kL_law_2 15 rfl) ?_
            refine g_istore C [(7, vI (r397 + r399)), (4, vI 0), (6, vI r323), (5, vI r321), (0, .ref b), (1, rO B), (2, rP B), (3, vI y3_318)] hl (by decide) rfl (gdec kL_law_2 16 rfl) (fun ls hl => ?_)
            refine g_iload C hl 1 rfl (gdec kL_law_2 17 rfl) ?_
            refine g_if_eq C (tgt := 312) (by decide) (by decide) (gdec kL_law_2 18 rfl) (fun c401 => ?_) (fun c401 => absurd (by decide) c401)
            refine g_iconst C (gdec kL_law_2 35 rfl) ?_
            exact absurd hf (by decide)

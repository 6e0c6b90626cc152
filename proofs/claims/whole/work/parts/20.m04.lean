def f_X8_toward (G : GS) (p1 : Int) (p2 : Int) : Option (Int) :=
  gd p1 (gd p2 (if p1 < p2 then some (p1 + 1) else some (p1 - 1)))
set_option maxHeartbeats 4000000 in
set_option maxRecDepth 100000 in
theorem c_X8_toward (l : Launch) (E : gEnv) (G : GS) (p1 : Int) (p2 : Int) (rz : Int) (hf : f_X8_toward G p1 p2 = some rz) : gMet l yX8_toward cX8_toward 2 (some .int) 0 0 0 0 [vI p1, vI p2] E G (gQi E G rz) := by
  refine g_met (by decide +kernel) (Nat.le_of_ble_eq_true rfl) ?_
  intro p e s m below meth c C H locs h ls hl
  have C : gC p s m _ meth c RX8 cX8_toward 2 (some .int) E := C
  have hl : lv_has ls 2 [(0, vI p1), (1, vI p2)] := hl
  unfold f_X8_toward at hf
  refine g_iload_n C hl 0 rfl rfl (gdec kX8_toward 0 rfl) ?_
  refine g_iload_n C hl 1 rfl rfl (gdec kX8_toward 1 rfl) ?_
  obtain ⟨h1, hf⟩ := gd_s hf
  obtain ⟨h2, hf⟩ := gd_s hf
  refine g_icmp_ge C (tgt := 11) h1 h2 (by decide) (gdec kX8_toward 2 rfl) (fun c3 => ?_) (fun c3 => ?_)
  · replace hf := ifp c3 hf
    refine g_iload_n C hl 0 rfl rfl (gdec kX8_toward 3 rfl) ?_
    refine g_iconst C (gdec kX8_toward 4 rfl) ?_
    refine g_iadd C (gdec kX8_toward 5 rfl) ?_
    refine g_goto C (tgt := 14) (by decide) (gdec kX8_toward 6 rfl) ?_
    exact g_iret C h (congrArg (Option.map (Prod.mk _)) hf) (gdec kX8_toward 10 rfl)
  · replace hf := ifn c3 hf
    refine g_iload_n C hl 0 rfl rfl (gdec kX8_toward 7 rfl) ?_
    refine g_iconst C (gdec kX8_toward 8 rfl) ?_
    refine g_isub C (gdec kX8_toward 9 rfl) ?_
    exact g_iret C h (congrArg (Option.map (Prod.mk _)) hf) (gdec kX8_toward 10 rfl)
def f_X8_isBlocked (G : GS) (p1 : Int) : Option (Int) :=
  ga ((9 + (3 * p1)) + 2) 260 (gd (G 10 0 ((9 + (3 * p1)) + 2)) (if (G 10 0 ((9 + (3 * p1)) + 2)) = 1 then some 1 else some 0))
set_option maxHeartbeats 4000000 in
set_option maxRecDepth 100000 in
theorem c_X8_isBlocked (l : Launch) (E : gEnv) (G : GS) (p1 : Int) (ho : gOk E 8 0) (rz : Int) (hf : f_X8_isBlocked G p1 = some rz) : gMet l yX8_isBlocked cX8_isBlocked 2 (some .boolean) 0 0 0 0 [.ref (eA E 8 0), vI p1] E G (gQi E G rz) := by
  refine g_met (by decide +kernel) (Nat.le_of_ble_eq_true rfl) ?_
  intro p e s m below meth c C H locs h ls hl
  have C : gC p s m _ meth c RX8 cX8_isBlocked 2 (some .boolean) E := C
  have hl : lv_has ls 2 [(0, .ref (eA E 8 0)), (1, vI p1)] := hl
  unfold f_X8_isBlocked at hf
  refine g_aload_n C hl 0 rfl rfl (gdec kX8_isBlocked 0 rfl) ?_
  refine gf_X8_7 C h ho (gdec kX8_isBlocked 1 rfl) ?_
  refine g_bipush C (gdec kX8_isBlocked 2 rfl) rfl ?_
  refine g_iconst C (gdec kX8_isBlocked 3 rfl) ?_
  refine g_iload_n C hl 1 rfl rfl (gdec kX8_isBlocked 4 rfl) ?_
  refine g_imul C (gdec kX8_isBlocked 5 rfl) ?_
  refine g_iadd C (gdec kX8_isBlocked 6 rfl) ?_
  refine g_iconst C (gdec kX8_isBlocked 7 rfl) ?_
  refine g_iadd C (gdec kX8_isBlocked 8 rfl) ?_
  obtain ⟨h1, hf⟩ := ga_s hf
  refine g_iald C h (gcl_8_0 C ho) (n := 260) rfl (by decide) h1 (gdec kX8_isBlocked 9 rfl) ?_
  refine g_iconst C (gdec kX8_isBlocked 10 rfl) ?_
  obtain ⟨h2, hf⟩ := gd_s hf
  refine g_icmp_ne C (tgt := 21) h2 (by decide) (by decide) (gdec kX8_isBlocked 11 rfl) (fun c3 => ?_) (fun c3 => ?_)
  · replace hf := ifp c3 hf
    refine g_iconst C (gdec kX8_isBlocked 12 rfl) ?_
    refine g_goto C (tgt := 22) (by decide) (gdec kX8_isBlocked 13 rfl) ?_
    exact g_zret C h (Or.inr rfl) (congrArg (Option.map (Prod.mk _)) hf) (gdec kX8_isBlocked 15 rfl)
  · replace hf := ifn c3 hf
    refine g_iconst C (gdec kX8_isBlocked 14 rfl) ?_
    exact g_zret C h (Or.inl rfl) (congrArg (Option.map (Prod.mk _)) hf) (gdec kX8_isBlocked 15 rfl)
def f_X8_isShut (G : GS) (p1 : Int) : Option (Int) :=
  ga ((30 + (3 * p1)) + 2) 260 (gd (G 10 0 ((30 + (3 * p1)) + 2)) (if (G 10 0 ((30 + (3 * p1)) + 2)) = 1 then some 1 else some 0))
set_option maxHeartbeats 4000000 in
set_option maxRecDepth 100000 in
theorem c_X8_isShut (l : Launch) (E : gEnv) (G : GS) (p1 : Int) (ho : gOk E 8 0) (rz : Int) (hf : f_X8_isShut G p1 = some rz) : gMet l yX8_isShut cX8_isShut 2 (some .boolean) 0 0 0 0 [.ref (eA E 8 0), vI p1] E G (gQi E G rz) := by
  refine g_met (by decide +kernel) (Nat.le_of_ble_eq_true rfl) ?_
  intro p e s m below meth c C H locs h ls hl
  have C : gC p s m _ meth c RX8 cX8_isShut 2 (some .boolean) E := C
  have hl : lv_has ls 2 [(0, .ref (eA E 8 0)), (1, vI p1)] := hl
  unfold f_X8_isShut at hf
  refine g_aload_n C hl 0 rfl rfl (gdec kX8_isShut 0 rfl) ?_
  refine gf_X8_7 C h ho (gdec kX8_isShut 1 rfl) ?_
  refine g_bipush C (gdec kX8_isShut 2 rfl) rfl ?_
  refine g_iconst C (gdec kX8_isShut 3 rfl) ?_
  refine g_iload_n C hl 1 rfl rfl (gdec kX8_isShut 4 rfl) ?_
  refine g_imul C (gdec kX8_isShut 5 rfl) ?_
  refine g_iadd C (gdec kX8_isShut 6 rfl) ?_
  refine g_iconst C (gdec kX8_isShut 7 rfl) ?_
  refine g_iadd C (gdec kX8_isShut 8 rfl) ?_
  obtain ⟨h1, hf⟩ := ga_s hf
  refine g_iald C h (gcl_8_0 C ho) (n := 260) rfl (by decide) h1 (gdec kX8_isShut 9 rfl) ?_
  refine g_iconst C (gdec kX8_isShut 10 rfl) ?_
  obtain ⟨h2, hf⟩ := gd_s hf
  refine g_icmp_ne C (tgt := 21) h2 (by decide) (by decide) (gdec kX8_isShut 11 rfl) (fun c3 => ?_) (fun c3 => ?_)
  · replace hf := ifp c3 hf
    refine g_iconst C (gdec kX8_isShut 12 rfl) ?_
    refine g_goto C (tgt := 22) (by decide) (gdec kX8_isShut 13 rfl) ?_
    exact g_zret C h (Or.inr rfl) (congrArg (Option.map (Prod.mk _)) hf) (gdec kX8_isShut 15 rfl)
  · replace hf := ifn c3 hf
    refine g_iconst C (gdec kX8_isShut 14 rfl) ?_
    exact g_zret C h (Or.inl rfl) (congrArg (Option.map (Prod.mk _)) hf) (gdec kX8_isShut 15 rfl)
def f_X8_teamsOf_L5 (G : GS) (p1 : Int) (p2 : Int) : Nat → Int → Int → (Int → Int → Option (Int)) → Option (Int)
  | 0, _, _, _ => none
  | n + 1, x3, x4, k => gd x4 (gd (G 10 0 7) (if x4 < (G 10 0 7) then bn1 (f_X8_of G x4 2) (fun r4 => gd r4 (gd p1 (if r4 = p1 then gd p2 (if p2 = 2 then f_X8_teamsOf_L5 G p1 p2 n (x3 + 1) (x4 + 1) k else bn1 (f_X8_of G x4 3) (fun r12 => gd r12 (if 0 < r12 then if p2 = 1 then f_X8_teamsOf_L5 G p1 p2 n (x3 + 1) (x4 + 1) k else f_X8_teamsOf_L5 G p1 p2 n (x3 + 0) (x4 + 1) k else if p2 = 1 then f_X8_teamsOf_L5 G p1 p2 n (x3 + 0) (x4 + 1) k else f_X8_teamsOf_L5 G p1 p2 n (x3 + 1) (x4 + 1) k))) else f_X8_teamsOf_L5 G p1 p2 n (x3 + 0) (x4 + 1) k))) else k x3 x4))
def f_X8_teamsOf (G : GS) (p1 : Int) (p2 : Int) : Option (Int) :=
  f_X8_teamsOf_L5 G p1 p2 gFuel 0 0 (fun y3_27 y4_27 => some y3_27)
set_option maxHeartbeats 4000000 in
set_option maxRecDepth 100000 in
theorem c_X8_teamsOf (l : Launch) (E : gEnv) (G : GS) (p1 : Int) (p2 : Int) (ho : gOk E 8 0) (rz : Int) (hf : f_X8_teamsOf G p1 p2 = some rz) : gMet l yX8_teamsOf cX8_teamsOf 6 (some .int) 2 43 0 0 [.ref (eA E 8 0), vI p1, vI p2] E G (gQi E G rz) := by
  refine g_met (by decide +kernel) (Nat.le_of_ble_eq_true rfl) ?_
  intro p e s m below meth c C H locs h ls hl
  have C : gC p s m _ meth c RX8 cX8_teamsOf 6 (some .int) E := C
  have hl : lv_has ls 6 [(0, .ref (eA E 8 0)), (1, vI p1), (2, vI p2)] := hl
  have L5 : ∀ (n : Nat) (x3 : Int) (x4 : Int) (k : (Int → Int → Option (Int))) (hK : ∀ (x3 : Int) (x4 : Int), k x3 x4 = some rz → ∀ (H : Heap) (locs : List Loc), gH E s G H locs → ∀ ls, lv_has ls 6 [(0, .ref (eA E 8 0)), (1, vI p1), (2, vI p2), (3, vI x3), (4, vI x4)] → W p l e (gRm 2 43 0 0) s m ([.ref (eA E 8 0), vI p1, vI p2] : List Value).toArray below meth c H locs 0 0 (MQ below (gQi E G rz) ([.ref (eA E 8 0), vI p1, vI p2] : List Value).toArray s 0 0 (eF E)) (F0 m 87 ls [])), ∀ (H : Heap) (locs : List Loc), gH E s G H locs → ∀ ls, lv_has ls 6 [(0, .ref (eA E 8 0)), (1, vI p1), (2, vI p2), (3, vI x3), (4, vI x4)] → f_X8_teamsOf_L5 G p1 p2 n x3 x4 k = some rz → W p l e (gRm 2 43 0 0) s m ([.ref (eA E 8 0), vI p1, vI p2] : List Value).toArray below meth c H locs 0 0 (MQ below (gQi E G rz) ([.ref (eA E 8 0), vI p1, vI p2] : List Value).toArray s 0 0 (eF E)) (F0 m 5 ls []) := by
    intro n
    induction n with
    | zero =>
      intro x3 x4 k hK H locs h ls hl hf
      exact absurd hf (by simp [f_X8_teamsOf_L5])
    | succ n ih =>
      intro x3 x4 k hK H locs h ls hl hf
      unfold f_X8_teamsOf_L5 at hf
      refine g_iload C hl 4 rfl (gdec kX8_teamsOf 4 rfl) ?_
      refine g_aload_n C hl 0 rfl rfl (gdec kX8_teamsOf 5 rfl) ?_
      refine gf_X8_7 C h ho (gdec kX8_teamsOf 6 rfl) ?_
      refine g_bipush C (gdec kX8_teamsOf 7 rfl) rfl ?_
      refine g_iald C h (gcl_8_0 C ho) (n := 260) rfl (by decide) (⟨by decide, by decide⟩ : (0 : Int) ≤ 7 ∧ (7 : Int) < 260) (gdec kX8_teamsOf 8 rfl) ?_
      obtain ⟨h1, hf⟩ := gd_s hf
      obtain ⟨h2, hf⟩ := gd_s hf
      refine g_icmp_ge C (tgt := 87) h1 h2 (by decide) (gdec kX8_teamsOf 9 rfl) (fun c3 => ?_) (fun c3 => ?_)
      · replace hf := ifp c3 hf
        refine g_aload_n C hl 0 rfl rfl (gdec kX8_teamsOf 10 rfl) ?_
        refine g_iload C hl 4 rfl (gdec kX8_teamsOf 11 rfl) ?_
        refine g_iconst C (gdec kX8_teamsOf 12 rfl) ?_
        obtain ⟨r4, q5, hf⟩ := bn1_s hf
        refine g_ci h (g_runV C h ho (by decide) rfl (c_X8_of l E _ _ _ ho _ q5) wM_X8_98 wI_X8_of wS_X8_of wN_X8 wC_X8_of rfl ny_X8_of rfl ⟨Nat.le_of_ble_eq_true rfl, Nat.le_of_ble_eq_true rfl⟩ hl.1 rfl (Nat.le_of_ble_eq_true rfl) (gdec kX8_teamsOf 13 rfl) ⟨Nat.zero_le _, Nat.zero_le _⟩) (fun H locs h => ?_)
        refine g_iload_n C hl 1 rfl rfl (gdec kX8_teamsOf 14 rfl) ?_
        obtain ⟨h6, hf⟩ := gd_s hf
        obtain ⟨h7, hf⟩ := gd_s hf
        refine g_icmp_ne C (tgt := 65) h6 h7 (by decide) (gdec kX8_teamsOf 15 rfl) (fun c8 => ?_) (fun c8 => ?_)
        · replace hf := ifp c8 hf
          refine g_iload_n C hl 2 rfl rfl (gdec kX8_teamsOf 16 rfl) ?_
          refine g_iconst C (gdec kX8_teamsOf 17 rfl) ?_
          obtain ⟨h9, hf⟩ := gd_s hf
          refine g_icmp_eq C (tgt := 61) h9 (by decide) (by decide) (gdec kX8_teamsOf 18 rfl) (fun c10 => ?_) (fun c10 => ?_)
          · replace hf := ifp c10 hf
            refine g_iconst C (gdec kX8_teamsOf 34 rfl) ?_
            refine g_goto C (tgt := 66) (by decide) (gdec kX8_teamsOf 35 rfl) ?_
            refine g_istore C [(5, vI 1), (0, .ref (eA E 8 0)), (1, vI p1), (2, vI p2), (3, vI x3), (4, vI x4)] hl (by decide) rfl (gdec kX8_teamsOf 37 rfl) (fun ls hl => ?_)
            refine g_iload_n C hl 4 rfl rfl (gdec kX8_teamsOf 38 rfl) ?_
            refine g_iload C hl 0 rfl (gdec kX8_teamsOf 39 rfl) ?_
            refine g_if_eq C (tgt := 78) (by decide) (by decide) (gdec kX8_teamsOf 40 rfl) (fun c11 => absurd c11 (by decide)) (fun c11 => ?_)
            refine g_iconst C (gdec kX8_teamsOf 41 rfl) ?_
            refine g_goto C (tgt := 79) (by decide) (gdec kX8_teamsOf 42 rfl) ?_
            refine g_iadd C (gdec kX8_teamsOf 44 rfl) ?_
            refine g_istore_n C [(3, vI (x3 + 1)), (5, vI 1), (0, .ref (eA E 8 0)), (1, vI p1), (2, vI p2), (4, vI x4)] hl rfl (by decide) rfl (gdec kX8_teamsOf 45 rfl) (fun ls hl => ?_)
            refine g_iinc C (k := 5) [(4, vI (x4 + 1)), (3, vI (x3 + 1)), (5, vI 1), (0, .ref (eA E 8 0)), (1, vI p1), (2, vI p2)] hl rfl (by decide) rfl (gdec kX8_teamsOf 46 rfl) (fun ls hl => ?_)
            refine g_goto C (tgt := 5) (by decide) (gdec kX8_teamsOf 47 rfl) ?_
            exact ih _ _ k hK H locs h ls (lv_sub hl [3, 4, 5, 1, 0] rfl) hf
          · replace hf := ifn c10 hf
            refine g_aload_n C hl 0 rfl rfl (gdec kX8_teamsOf 19 rfl) ?_
            refine g_iload C hl 4 rfl (gdec kX8_teamsOf 20 rfl) ?_
            refine g_iconst C (gdec kX8_teamsOf 21 rfl) ?_
            obtain ⟨r12, q13, hf⟩ := bn1_s hf
            refine g_ci h (g_runV C h ho (by decide) rfl (c_X8_of l E _ _ _ ho _ q13) wM_X8_98 wI_X8_of wS_X8_of wN_X8 wC_X8_of rfl ny_X8_of rfl ⟨Nat.le_of_ble_eq_true rfl, Nat.le_of_ble_eq_true rfl⟩ hl.1 rfl (Nat.le_of_ble_eq_true rfl) (gdec kX8_teamsOf 22 rfl) ⟨Nat.zero_le _, Nat.zero_le _⟩) (fun H locs h => ?_)
            obtain ⟨h14, hf⟩ := gd_s hf
            refine g_if_le C (tgt := 47) h14 (by decide) (gdec kX8_teamsOf 23 rfl) (fun c15 => ?_) (fun c15 => ?_)
            · replace hf := ifp c15 hf
              refine g_iconst C (gdec kX8_teamsOf 24 rfl) ?_
              refine g_goto C (tgt := 48) (by decide) (gdec kX8_teamsOf 25 rfl) ?_
              refine g_iload_n C hl 2 rfl rfl (gdec kX8_teamsOf 27 rfl) ?_
              refine g_iconst C (gdec kX8_teamsOf 28 rfl) ?_
              refine g_icmp_ne C (tgt := 57) h9 (by decide) (by decide) (gdec kX8_teamsOf 29 rfl) (fun c16 => ?_) (fun c16 => ?_)
              · replace hf := ifp c16 hf
                refine g_iconst C (gdec kX8_teamsOf 30 rfl) ?_
                refine g_goto C (tgt := 58) (by decide) (gdec kX8_teamsOf 31 rfl) ?_
                refine g_icmp_ne C (tgt := 65) (by decide) (by decide) (by decide) (gdec kX8_teamsOf 33 rfl) (fun c17 => ?_) (fun c17 => absurd (by decide) c17)
                refine g_iconst C (gdec kX8_teamsOf 34 rfl) ?_
                refine g_goto C (tgt := 66) (by decide) (gdec kX8_teamsOf 35 rfl) ?_
                refine g_istore C [(5, vI 1), (0, .ref (eA E 8 0)), (1, vI p1), (2, vI p2), (3, vI x3), (4, vI x4)] hl (by decide) rfl (gdec kX8_teamsOf 37 rfl) (fun ls hl => ?_)
                refine g_iload_n C hl 4 rfl rfl (gdec kX8_teamsOf 38 rfl) ?_
                refine g_iload C hl 0 rfl (gdec kX8_teamsOf 39 rfl) ?_
                refine g_if_eq C (tgt := 78) (by decide) (by decide) (gdec kX8_teamsOf 40 rfl) (fun c18 => absurd c18 (by decide)) (fun c18 => ?_)
                refine g_iconst C (gdec kX8_teamsOf 41 rfl) ?_
                refine g_goto C (tgt := 79) (by decide) (gdec kX8_teamsOf 42 rfl) ?_
                refine g_iadd C (gdec kX8_teamsOf 44 rfl) ?_
                refine g_istore_n C [(3, vI (x3 + 1)), (5, vI 1), (0, .ref (eA E 8 0)), (1, vI p1), (2, vI p2), (4, vI x4)] hl rfl (by decide) rfl (gdec kX8_teamsOf 45 rfl) (fun ls hl => ?_)
                refine g_iinc C (k := 5) [(4, vI (x4 + 1)), (3, vI (x3 + 1)), (5, vI 1), (0, .ref (eA E 8 0)), (1, vI p1), (2, vI p2)] hl rfl (by decide) rfl (gdec kX8_teamsOf 46 rfl) (fun ls hl => ?_)
                refine g_goto C (tgt := 5) (by decide) (gdec kX8_teamsOf 47 rfl) ?_
                exact ih _ _ k hK H locs h ls (lv_sub hl [3, 4, 5, 1, 0] rfl) hf
              · replace hf := ifn c16 hf
                refine g_iconst C (gdec kX8_teamsOf 32 rfl) ?_
                refine g_icmp_ne C (tgt := 65) (by decide) (by decide) (by decide) (gdec kX8_teamsOf 33 rfl) (fun c19 => absurd c19 (by decide)) (fun c19 => ?_)
                refine g_iconst C (gdec kX8_teamsOf 36 rfl) ?_
                refine g_istore C [(5, vI 0), (0, .ref (eA E 8 0)), (1, vI p1), (2, vI p2), (3, vI x3), (4, vI x4)] hl (by decide) rfl (gdec kX8_teamsOf 37 rfl) (fun ls hl => ?_)
                refine g_iload_n C hl 4 rfl rfl (gdec kX8_teamsOf 38 rfl) ?_
                refine g_iload C hl 0 rfl (gdec kX8_teamsOf 39 rfl) ?_
                refine g_if_eq C (tgt := 78) (by decide) (by decide) (gdec kX8_teamsOf 40 rfl) (fun c20 => ?_) (fun c20 => absurd (by decide) c20)
                refine g_iconst C (gdec kX8_teamsOf 43 rfl) ?_
                refine g_iadd C (gdec kX8_teamsOf 44 rfl) ?_
                refine g_istore_n C [(3, vI (x3 + 0)), (5, vI 0), (0, .ref (eA E 8 0)), (1, vI p1), (2, vI p2), (4, vI x4)] hl rfl (by decide) rfl (gdec kX8_teamsOf 45 rfl) (fun ls hl => ?_)
                refine g_iinc C (k := 5) [(4, vI (x4 + 1)), (3, vI (x3 + 0)), (5, vI 0), (0, .ref (eA E 8 0)), (1, vI p1), (2, vI p2)] hl rfl (by decide) rfl (gdec kX8_teamsOf 46 rfl) (fun ls hl => ?_)
                refine g_goto C (tgt := 5) (by decide) (gdec kX8_teamsOf 47 rfl) ?_
                exact ih _ _ k hK H locs h ls (lv_sub hl [3, 4, 5, 1, 0] rfl) hf
            · replace hf := ifn c15 hf
              refine g_iconst C (gdec kX8_teamsOf 26 rfl) ?_
              refine g_iload_n C hl 2 rfl rfl (gdec kX8_teamsOf 27 rfl) ?_
              refine g_iconst C (gdec kX8_teamsOf 28 rfl) ?_
              refine g_icmp_ne C (tgt := 57) h9 (by decide) (by decide) (gdec kX8_teamsOf 29 rfl) (fun c21 => ?_) (fun c21 => ?_)
              · replace hf := ifp c21 hf
                refine g_iconst C (gdec kX8_teamsOf 30 rfl) ?_
                refine g_goto C (tgt := 58) (by decide) (gdec kX8_teamsOf 31 rfl) ?_
                refine g_icmp_ne C (tgt := 65) (by decide) (by decide) (by decide) (gdec kX8_teamsOf 33 rfl) (fun c22 => absurd c22 (by decide)) (fun c22 => ?_)
                refine g_iconst C (gdec kX8_teamsOf 36 rfl) ?_
                refine g_istore C [(5, vI 0), (0, .ref (eA E 8 0)), (1, vI p1), (2, vI p2), (3, vI x3), (4, vI x4)] hl (by decide) rfl (gdec kX8_teamsOf 37 rfl) (fun ls hl => ?_)
                refine g_iload_n C hl 4 rfl rfl (gdec kX8_teamsOf 38 rfl) ?_
                refine g_iload C hl 0 rfl (gdec kX8_teamsOf 39 rfl) ?_
                refine g_if_eq C (tgt := 78) (by decide) (by decide) (gdec kX8_teamsOf 40 rfl) (fun c23 => ?_) (fun c23 => absurd (by decide) c23)
                refine g_iconst C (gdec kX8_teamsOf 43 rfl) ?_
                refine g_iadd C (gdec kX8_teamsOf 44 rfl) ?_
                refine g_istore_n C [(3, vI (x3 + 0)), (5, vI 0), (0, .ref (eA E 8 0)), (1, vI p1), (2, vI p2), (4, vI x4)] hl rfl (by decide) rfl (gdec kX8_teamsOf 45 rfl) (fun ls hl => ?_)
                refine g_iinc C (k := 5) [(4, vI (x4 + 1)), (3, vI (x3 + 0)), (5, vI 0), (0, .ref (eA E 8 0)), (1, vI p1), (2, vI p2)] hl rfl (by decide) rfl (gdec kX8_teamsOf 46 rfl) (fun ls hl => ?_)
                refine g_goto C (tgt := 5) (by decide) (gdec kX8_teamsOf 47 rfl) ?_
                exact ih _ _ k hK H locs h ls (lv_sub hl [3, 4, 5, 1, 0] rfl) hf
              · replace hf := ifn c21 hf
                refine g_iconst C (gdec kX8_teamsOf 32 rfl) ?_
                refine g_icmp_ne C (tgt := 65) (by decide) (by decide) (by decide) (gdec kX8_teamsOf 33 rfl) (fun c24 => ?_) (fun c24 => absurd (by decide) c24)
                refine g_iconst C (gdec kX8_teamsOf 34 rfl) ?_
                refine g_goto C (tgt := 66) (by decide) (gdec kX8_teamsOf 35 rfl) ?_
                refine g_istore C [(5, vI 1), (0, .ref (eA E 8 0)), (1, vI p1), (2, vI p2), (3, vI x3), (4, vI x4)] hl (by decide) rfl (gdec kX8_teamsOf 37 rfl) (fun ls hl => ?_)
                refine g_iload_n C hl 4 rfl rfl (gdec kX8_teamsOf 38 rfl) ?_
                refine g_iload C hl 0 rfl (gdec kX8_teamsOf 39 rfl) ?_
                refine g_if_eq C (tgt := 78) (by decide) (by decide) (gdec kX8_teamsOf 40 rfl) (fun c25 => absurd c25 (by decide)) (fun c25 => ?_)
                refine g_iconst C (gdec kX8_teamsOf 41 rfl) ?_
                refine g_goto C (tgt := 79) (by decide) (gdec kX8_teamsOf 42 rfl) ?_
                refine g_iadd C (gdec kX8_teamsOf 44 rfl) ?_
                refine g_istore_n C [(3, vI (x3 + 1)), (5, vI 1), (0, .ref (eA E 8 0)), (1, vI p1), (2, vI p2), (4, vI x4)] hl rfl (by decide) rfl (gdec kX8_teamsOf 45 rfl) (fun ls hl => ?_)
                refine g_iinc C (k := 5) [(4, vI (x4 + 1)), (3, vI (x3 + 1)), (5, vI 1), (0, .ref (eA E 8 0)), (1, vI p1), (2, vI p2)] hl rfl (by decide) rfl (gdec kX8_teamsOf 46 rfl) (fun ls hl => ?_)
                refine g_goto C (tgt := 5) (by decide) (gdec kX8_teamsOf 47 rfl) ?_
                exact ih _ _ k hK H locs h ls (lv_sub hl [3, 4, 5, 1, 0] rfl) hf
        · replace hf := ifn c8 hf
          refine g_iconst C (gdec kX8_teamsOf 36 rfl) ?_
          refine g_istore C [(5, vI 0), (0, .ref (eA E 8 0)), (1, vI p1), (2, vI p2), (3, vI x3), (4, vI x4)] hl (by decide) rfl (gdec kX8_teamsOf 37 rfl) (fun ls hl => ?_)
          refine g_iload_n C hl 4 rfl rfl (gdec kX8_teamsOf 38 rfl) ?_
          refine g_iload C hl 0 rfl (gdec kX8_teamsOf 39 rfl) ?_
          refine g_if_eq C (tgt := 78) (by decide) (by decide) (gdec kX8_teamsOf 40 rfl) (fun c26 => ?_) (fun c26 => absurd (by decide) c26)
          refine g_iconst C (gdec kX8_teamsOf 43 rfl) ?_
          refine g_iadd C (gdec kX8_teamsOf 44 rfl) ?_
          refine g_istore_n C [(3, vI (x3 + 0)), (5, vI 0), (0, .ref (eA E 8 0)), (1, vI p1), (2, vI p2), (4, vI x4)] hl rfl (by decide) rfl (gdec kX8_teamsOf 45 rfl) (fun ls hl => ?_)
          refine g_iinc C (k := 5) [(4, vI (x4 + 1)), (3, vI (x3 + 0)), (5, vI 0), (0, .ref (eA E 8 0)), (1, vI p1), (2, vI p2)] hl rfl (by decide) rfl (gdec kX8_teamsOf 46 rfl) (fun ls hl => ?_)
          refine g_goto C (tgt := 5) (by decide) (gdec kX8_teamsOf 47 rfl) ?_
          exact ih _ _ k hK H locs h ls (lv_sub hl [3, 4, 5, 1, 0] rfl) hf
      · replace hf := ifn c3 hf
        exact hK _ _ hf H locs h ls (lv_sub hl [0, 1, 2, 3, 4] rfl)
  unfold f_X8_teamsOf at hf
  refine g_iconst C (gdec kX8_teamsOf 0 rfl) ?_
  refine g_istore_n C [(3, vI 0), (0, .ref (eA E 8 0)), (1, vI p1), (2, vI p2)] hl rfl (by decide) rfl (gdec kX8_teamsOf 1 rfl) (fun ls hl => ?_)
  refine g_iconst C (gdec kX8_teamsOf 2 rfl) ?_
  refine g_istore C [(4, vI 0), (3, vI 0), (0, .ref (eA E 8 0)), (1, vI p1), (2, vI p2)] hl (by decide) rfl (gdec kX8_teamsOf 3 rfl) (fun ls hl => ?_)
  refine L5 gFuel _ _ _ (fun y3_27 y4_27 hf H locs h ls hl => ?_) H locs h ls (lv_sub hl [2, 3, 4, 1, 0] rfl) hf
  refine g_iload_n C hl 3 rfl rfl (gdec kX8_teamsOf 48 rfl) ?_
  exact g_iret C h (congrArg (Option.map (Prod.mk _)) hf) (gdec kX8_teamsOf 49 rfl)
def f_X8_freeBeds (G : GS) (p1 : Int) : Option (Int) :=
  ga (30 + (3 * p1)) 260 (bn1 (f_X8_teamsOf G p1 2) (fun r2 => gd ((G 10 0 (30 + (3 * p1))) - r2) (if ((G 10 0 (30 + (3 * p1))) - r2) < 0 then some 0 else some ((G 10 0 (30 + (3 * p1))) - r2))))
set_option maxHeartbeats 4000000 in
set_option maxRecDepth 100000 in
theorem c_X8_freeBeds (l : Launch) (E : gEnv) (G : GS) (p1 : Int) (ho : gOk E 8 0) (rz : Int) (hf : f_X8_freeBeds G p1 = some rz) : gMet l yX8_freeBeds cX8_freeBeds 3 (some .int) 3 68 0 0 [.ref (eA E 8 0), vI p1] E G (gQi E G rz) := by
  refine g_met (by decide +kernel) (Nat.le_of_ble_eq_true rfl) ?_
  intro p e s m below meth c C H locs h ls hl
  have C : gC p s m _ meth c RX8 cX8_freeBeds 3 (some .int) E := C
  have hl : lv_has ls 3 [(0, .ref (eA E 8 0)), (1, vI p1)] := hl
  unfold f_X8_freeBeds at hf
  refine g_aload_n C hl 0 rfl rfl (gdec kX8_freeBeds 0 rfl) ?_
  refine gf_X8_7 C h ho (gdec kX8_freeBeds 1 rfl) ?_
  refine g_bipush C (gdec kX8_freeBeds 2 rfl) rfl ?_
  refine g_iconst C (gdec kX8_freeBeds 3 rfl) ?_
  refine g_iload_n C hl 1 rfl rfl (gdec kX8_freeBeds 4 rfl) ?_
  refine g_imul C (gdec kX8_freeBeds 5 rfl) ?_
  refine g_iadd C (gdec kX8_freeBeds 6 rfl) ?_
  obtain ⟨h1, hf⟩ := ga_s hf
  refine g_iald C h (gcl_8_0 C ho) (n := 260) rfl (by decide) h1 (gdec kX8_freeBeds 7 rfl) ?_
  refine g_aload_n C hl 0 rfl rfl (gdec kX8_freeBeds 8 rfl) ?_
  refine g_iload_n C hl 1 rfl rfl (gdec kX8_freeBeds 9 rfl) ?_
  refine g_iconst C (gdec kX8_freeBeds 10 rfl) ?_
  obtain ⟨r2, q3, hf⟩ := bn1_s hf
  refine g_ci h (g_runV C h ho (by decide) rfl (c_X8_teamsOf l E _ _ _ ho _ q3) wM_X8_101 wI_X8_teamsOf wS_X8_teamsOf wN_X8 wC_X8_teamsOf rfl ny_X8_teamsOf rfl ⟨Nat.le_of_ble_eq_true rfl, Nat.le_of_ble_eq_true rfl⟩ hl.1 rfl (Nat.le_of_ble_eq_true rfl) (gdec kX8_freeBeds 11 rfl) ⟨Nat.zero_le _, Nat.zero_le _⟩) (fun H locs h => ?_)
  refine g_isub C (gdec kX8_freeBeds 12 rfl) ?_
  refine g_istore_n C [(2, vI ((G 10 0 (30 + (3 * p1))) - r2)), (0, .ref (eA E 8 0)), (1, vI p1)] hl rfl (by decide) rfl (gdec kX8_freeBeds 13 rfl) (fun ls hl => ?_)
  refine g_iload_n C hl 0 rfl rfl (gdec kX8_freeBeds 14 rfl) ?_
  obtain ⟨h4, hf⟩ := gd_s hf
  refine g_if_ge C (tgt := 27) h4 (by decide) (gdec kX8_freeBeds 15 rfl) (fun c5 => ?_) (fun c5 => ?_)
  · replace hf := ifp c5 hf
    refine g_iconst C (gdec kX8_freeBeds 16 rfl) ?_
    refine g_goto C (tgt := 28) (by decide) (gdec kX8_freeBeds 17 rfl) ?_
    exact g_iret C h (congrArg (Option.map (Prod.mk _)) hf) (gdec kX8_freeBeds 19 rfl)
  · replace hf := ifn c5 hf
    refine g_iload_n C hl 0 rfl rfl (gdec kX8_freeBeds 18 rfl) ?_
    exact g_iret C h (congrArg (Option.map (Prod.mk _)) hf) (gdec kX8_freeBeds 19 rfl)
def f_X8_teamFor_L29 (G : GS) (p1 : Int) : Nat → Int → Int → Int → Int → (Int → Int → Int → Int → Option (Int)) → Option (Int)
  | 0, _, _, _, _, _ => none
  | n + 1, x2, x3, x4, x5, k => gd x5 (gd (G 10 0 7) (if x5 < (G 10 0 7) then bn1 (f_X8_of G x5 2) (fun r12 => gd r12 (gd x2 (if r12 = x2 then bn1 (f_X8_of G x5 3) (fun r17 => gd r17 (if r17 = 0 then bn1 (f_X8_of G x5 1) (fun r21 => gd (r21 + x3) (if 100 < (r21 + x3) then f_X8_teamFor_L29 G p1 n x2 x3 x4 (x5 + 1) k else gd x4 (if x4 = (-1) then f_X8_teamFor_L29 G p1 n x2 x3 x5 (x5 + 1) k else bn1 (f_X8_of G x5 1) (fun r29 => bn1 (f_X8_of G x4 1) (fun r31 => gd r29 (gd r31 (if r29 < r31 then f_X8_teamFor_L29 G p1 n x2 x3 x5 (x5 + 1) k else f_X8_teamFor_L29 G p1 n x2 x3 x4 (x5 + 1) k))))))) else f_X8_teamFor_L29 G p1 n x2 x3 x4 (x5 + 1) k)) else f_X8_teamFor_L29 G p1 n x2 x3 x4 (x5 + 1) k))) else k x2 x3 x4 x5))
def f_X8_teamFor (G : GS) (p1 : Int) : Option (Int) :=
  bn1 (f_X8_ofLetter G p1 4) (fun r1 => bn1 (f_X8_ofLetter G p1 1) (fun r3 => bn1 (f_X8_toward G r1 r3) (fun r5 => bn1 (f_X8_effort G r1 r5) (fun r7 => f_X8_teamFor_L29 G p1 gFuel r1 r7 (-1) 0 (fun y2_38 y3_38 y4_38 y5_38 => some y4_38)))))
set_option maxHeartbeats 4000000 in
set_option maxRecDepth 100000 in
theorem c_X8_teamFor (l : Launch) (E : gEnv) (G : GS) (p1 : Int) (ho : gOk E 8 0) (rz : Int) (hf : f_X8_teamFor G p1 = some rz) : gMet l yX8_teamFor cX8_teamFor 7 (some .int) 2 46 0 0 [.ref (eA E 8 0), vI p1] E G (gQi E G rz) := by
  refine g_met (by decide +kernel) (Nat.le_of_ble_eq_true rfl) ?_
  intro p e s m below meth c C H locs h ls hl
  have C : gC p s m _ meth c RX8 cX8_teamFor 7 (some .int) E := C
  have hl : lv_has ls 7 [(0, .ref (eA E 8 0)), (1, vI p1)] := hl
  have L29 : ∀ (n : Nat) (x2 : Int) (x3 : Int) (x4 : Int) (x5 : Int) (k : (Int → Int → Int → Int → Option (Int))) (hK : ∀ (x2 : Int) (x3 : Int) (x4 : Int) (x5 : Int), k x2 x3 x4 x5 = some rz → ∀ (H : Heap) (locs : List Loc), gH E s G H locs → ∀ ls, lv_has ls 7 [(0, .ref (eA E 8 0)), (1, vI p1), (2, vI x2), (3, vI x3), (4, vI x4), (5, vI x5)] → W p l e (gRm 2 46 0 0) s m ([.ref (eA E 8 0), vI p1] : List Value).toArray below meth c H locs 0 0 (MQ below (gQi E G rz) ([.ref (eA E 8 0), vI p1] : List Value).toArray s 0 0 (eF E)) (F0 m 126 ls [])), ∀ (H : Heap) (locs : List Loc), gH E s G H locs → ∀ ls, lv_has ls 7 [(0, .ref (eA E 8 0)), (1, vI p1), (2, vI x2), (3, vI x3), (4, vI x4), (5, vI x5)] → f_X8_teamFor_L29 G p1 n x2 x3 x4 x5 k = some rz → W p l e (gRm 2 46 0 0) s m ([.ref (eA E 8 0), vI p1] : List Value).toArray below meth c H locs 0 0 (MQ below (gQi E G rz) ([.ref (eA E 8 0), vI p1] : List Value).toArray s 0 0 (eF E)) (F0 m 29 ls []) := by
    intro n
    induction n with
    | zero =>
      intro x2 x3 x4 x5 k hK H locs h ls hl hf
      exact absurd hf (by simp [f_X8_teamFor_L29])
    | succ n ih =>
      intro x2 x3 x4 x5 k hK H locs h ls hl hf
      unfold f_X8_teamFor_L29 at hf
      refine g_iload C hl 5 rfl (gdec kX8_teamFor 19 rfl) ?_
      refine g_aload_n C hl 0 rfl rfl (gdec kX8_teamFor 20 rfl) ?_
      refine gf_X8_7 C h ho (gdec kX8_teamFor 21 rfl) ?_
      refine g_bipush C (gdec kX8_teamFor 22 rfl) rfl ?_
      refine g_iald C h (gcl_8_0 C ho) (n := 260) rfl (by decide) (⟨by decide, by decide⟩ : (0 : Int) ≤ 7 ∧ (7 : Int) < 260) (gdec kX8_teamFor 23 rfl) ?_
      obtain ⟨h9, hf⟩ := gd_s hf
      obtain ⟨h10, hf⟩ := gd_s hf
      refine g_icmp_ge C (tgt := 126) h9 h10 (by decide) (gdec kX8_teamFor 24 rfl) (fun c11 => ?_) (fun c11 => ?_)
      · replace hf := ifp c11 hf
        refine g_aload_n C hl 0 rfl rfl (gdec kX8_teamFor 25 rfl) ?_
        refine g_iload C hl 5 rfl (gdec kX8_teamFor 26 rfl) ?_
        refine g_iconst C (gdec kX8_teamFor 27 rfl) ?_
        obtain ⟨r12, q13, hf⟩ := bn1_s hf
        refine g_ci h (g_runV C h ho (by decide) rfl (c_X8_of l E _ _ _ ho _ q13) wM_X8_98 wI_X8_of wS_X8_of wN_X8 wC_X8_of rfl ny_X8_of rfl ⟨Nat.le_of_ble_eq_true rfl, Nat.le_of_ble_eq_true rfl⟩ hl.1 rfl (Nat.le_of_ble_eq_true rfl) (gdec kX8_teamFor 28 rfl) ⟨Nat.zero_le _, Nat.zero_le _⟩) (fun H locs h => ?_)
        refine g_iload_n C hl 2 rfl rfl (gdec kX8_teamFor 29 rfl) ?_
        obtain ⟨h14, hf⟩ := gd_s hf
        obtain ⟨h15, hf⟩ := gd_s hf
        refine g_icmp_ne C (tgt := 80) h14 h15 (by decide) (gdec kX8_teamFor 30 rfl) (fun c16 => ?_) (fun c16 => ?_)
        · replace hf := ifp c16 hf
          refine g_aload_n C hl 0 rfl rfl (gdec kX8_teamFor 31 rfl) ?_
          refine g_iload C hl 5 rfl (gdec kX8_teamFor 32 rfl) ?_
          refine g_iconst C (gdec kX8_teamFor 33 rfl) ?_
          obtain ⟨r17, q18, hf⟩ := bn1_s hf
          refine g_ci h (g_runV C h ho (by decide) rfl (c_X8_of l E _ _ _ ho _ q18) wM_X8_98 wI_X8_of wS_X8_of wN_X8 wC_X8_of rfl ny_X8_of rfl ⟨Nat.le_of_ble_eq_true rfl, Nat.le_of_ble_eq_true rfl⟩ hl.1 rfl (Nat.le_of_ble_eq_true rfl) (gdec kX8_teamFor 34 rfl) ⟨Nat.zero_le _, Nat.zero_le _⟩) (fun H locs h => ?_)
          obtain ⟨h19, hf⟩ := gd_s hf
          refine g_if_ne C (tgt := 80) h19 (by decide) (gdec kX8_teamFor 35 rfl) (fun c20 => ?_) (fun c20 => ?_)
          · replace hf := ifp c20 hf
            refine g_aload_n C hl 0 rfl rfl (gdec kX8_teamFor 36 rfl) ?_
            refine g_iload C hl 5 rfl (gdec kX8_teamFor 37 rfl) ?_
            refine g_iconst C (gdec kX8_teamFor 38 rfl) ?_
            obtain ⟨r21, q22, hf⟩ := bn1_s hf
            refine g_ci h (g_runV C h ho (by decide) rfl (c_X8_of l E _ _ _ ho _ q22) wM_X8_98 wI_X8_of wS_X8_of wN_X8 wC_X8_of rfl ny_X8_of rfl ⟨Nat.le_of_ble_eq_true rfl, Nat.le_of_ble_eq_true rfl⟩ hl.1 rfl (Nat.le_of_ble_eq_true rfl) (gdec kX8_teamFor 39 rfl) ⟨Nat.zero_le _, Nat.zero_le _⟩) (fun H locs h => ?_)
            refine g_iload_n C hl 3 rfl rfl (gdec kX8_teamFor 40 rfl) ?_
            refine g_iadd C (gdec kX8_teamFor 41 rfl) ?_
            refine g_bipush C (gdec kX8_teamFor 42 rfl) rfl ?_
            obtain ⟨h23, hf⟩ := gd_s hf
            refine g_icmp_gt C (tgt := 80) h23 (by decide) (by decide) (gdec kX8_teamFor 43 rfl) (fun c24 => ?_) (fun c24 => ?_)
            · replace hf := ifp c24 hf
              refine g_iconst C (gdec kX8_teamFor 46 rfl) ?_
              refine g_istore C [(6, vI 0), (0, .ref (eA E 8 0)), (1, vI p1), (2, vI x2), (3, vI x3), (4, vI x4), (5, vI x5)] hl (by decide) rfl (gdec kX8_teamFor 47 rfl) (fun ls hl => ?_)
              refine g_iload C hl 0 rfl (gdec kX8_teamFor 48 rfl) ?_
              refine g_if_eq C (tgt := 116) (by decide) (by decide) (gdec kX8_teamFor 49 rfl) (fun c25 => ?_) (fun c25 => absurd (by decide) c25)
              refine g_iload C hl 5 rfl (gdec kX8_teamFor_1 4 rfl) ?_
              refine g_istore C [(4, vI x4), (6, vI 0), (0, .ref (eA E 8 0)), (1, vI p1), (2, vI x2), (3, vI x3), (5, vI x5)] hl (by decide) rfl (gdec kX8_teamFor_1 5 rfl) (fun ls hl => ?_)
              refine g_iinc C (k := 6) [(5, vI (x5 + 1)), (4, vI x4), (6, vI 0), (0, .ref (eA E 8 0)), (1, vI p1), (2, vI x2), (3, vI x3)] hl rfl (by decide) rfl (gdec kX8_teamFor_1 6 rfl) (fun ls hl => ?_)
              refine g_goto C (tgt := 29) (by decide) (gdec kX8_teamFor_1 7 rfl) ?_
              exact ih _ _ _ _ k hK H locs h ls (lv_sub hl [3, 4, 5, 6, 1, 0] rfl) hf
            · replace hf := ifn c24 hf
              refine g_iconst C (gdec kX8_teamFor 44 rfl) ?_
              refine g_goto C (tgt := 81) (by decide) (gdec kX8_teamFor 45 rfl) ?_
              refine g_istore C [(6, vI 1), (0, .ref (eA E 8 0)), (1, vI p1), (2, vI x2), (3, vI x3), (4, vI x4), (5, vI x5)] hl (by decide) rfl (gdec kX8_teamFor 47 rfl) (fun ls hl => ?_)
              refine g_iload C hl 0 rfl (gdec kX8_teamFor 48 rfl) ?_
              refine g_if_eq C (tgt := 116) (by decide) (by decide) (gdec kX8_teamFor 49 rfl) (fun c26 => absurd c26 (by decide)) (fun c26 => ?_)
              refine g_iload C hl 5 rfl (gdec kX8_teamFor 50 rfl) ?_
              refine g_iconst C (gdec kX8_teamFor 51 rfl) ?_
              obtain ⟨h27, hf⟩ := gd_s hf
              refine g_icmp_eq C (tgt := 111) h27 (by decide) (by decide) (gdec kX8_teamFor 52 rfl) (fun c28 => ?_) (fun c28 => ?_)
              · replace hf := ifp c28 hf
                refine g_iload C hl 6 rfl (gdec kX8_teamFor_1 2 rfl) ?_
                refine g_goto C (tgt := 118) (by decide) (gdec kX8_teamFor_1 3 rfl) ?_
                refine g_istore C [(4, vI x5), (6, vI 1), (0, .ref (eA E 8 0)), (1, vI p1), (2, vI x2), (3, vI x3), (5, vI x5)] hl (by decide) rfl (gdec kX8_teamFor_1 5 rfl) (fun ls hl => ?_)
                refine g_iinc C (k := 6) [(5, vI (x5 + 1)), (4, vI x5), (6, vI 1), (0, .ref (eA E 8 0)), (1, vI p1), (2, vI x2), (3, vI x3)] hl rfl (by decide) rfl (gdec kX8_teamFor_1 6 rfl) (fun ls hl => ?_)
                refine g_goto C (tgt := 29) (by decide) (gdec kX8_teamFor_1 7 rfl) ?_
                exact ih _ _ _ _ k hK H locs h ls (lv_sub hl [3, 4, 5, 6, 1, 0] rfl) hf
              · replace hf := ifn c28 hf
                refine g_aload_n C hl 1 rfl rfl (gdec kX8_teamFor 53 rfl) ?_
                refine g_iload C hl 6 rfl (gdec kX8_teamFor 54 rfl) ?_
                refine g_iconst C (gdec kX8_teamFor 55 rfl) ?_
                obtain ⟨r29, q30, hf⟩ := bn1_s hf
                refine g_ci h (g_runV C h ho (by decide) rfl (c_X8_of l E _ _ _ ho _ q30) wM_X8_98 wI_X8_of wS_X8_of wN_X8 wC_X8_of rfl ny_X8_of rfl ⟨Nat.le_of_ble_eq_true rfl, Nat.le_of_ble_eq_true rfl⟩ hl.1 rfl (Nat.le_of_ble_eq_true rfl) (gdec kX8_teamFor 56 rfl) ⟨Nat.zero_le _, Nat.zero_le _⟩) (fun H locs h => ?_)
                refine g_aload_n C hl 1 rfl rfl (gdec kX8_teamFor 57 rfl) ?_
                refine g_iload C hl 5 rfl (gdec kX8_teamFor 58 rfl) ?_
                refine g_iconst C (gdec kX8_teamFor 59 rfl) ?_
                obtain ⟨r31, q32, hf⟩ := bn1_s hf
                refine g_ci h (g_runV C h ho (by decide) rfl (c_X8_of l E _ _ _ ho _ q32) wM_X8_98 wI_X8_of wS_X8_of wN_X8 wC_X8_of rfl ny_X8_of rfl ⟨Nat.le_of_ble_eq_true rfl, Nat.le_of_ble_eq_true rfl⟩ hl.1 rfl (Nat.le_of_ble_eq_true rfl) (gdec kX8_teamFor_1 0 rfl) ⟨Nat.zero_le _, Nat.zero_le _⟩) (fun H locs h => ?_)
                obtain ⟨h33, hf⟩ := gd_s hf
                obtain ⟨h34, hf⟩ := gd_s hf
                refine g_icmp_ge C (tgt := 116) h33 h34 (by decide) (gdec kX8_teamFor_1 1 rfl) (fun c35 => ?_) (fun c35 => ?_)
                · replace hf := ifp c35 hf
                  refine g_iload C hl 6 rfl (gdec kX8_teamFor_1 2 rfl) ?_
                  refine g_goto C (tgt := 118) (by decide) (gdec kX8_teamFor_1 3 rfl) ?_
                  refine g_istore C [(4, vI x5), (6, vI 1), (0, .ref (eA E 8 0)), (1, vI p1), (2, vI x2), (3, vI x3), (5, vI x5)] hl (by decide) rfl (gdec kX8_teamFor_1 5 rfl) (fun ls hl => ?_)
                  refine g_iinc C (k := 6) [(5, vI (x5 + 1)), (4, vI x5), (6, vI 1), (0, .ref (eA E 8 0)), (1, vI p1), (2, vI x2), (3, vI x3)] hl rfl (by decide) rfl (gdec kX8_teamFor_1 6 rfl) (fun ls hl => ?_)
                  refine g_goto C (tgt := 29) (by decide) (gdec kX8_teamFor_1 7 rfl) ?_
                  exact ih _ _ _ _ k hK H locs h ls (lv_sub hl [3, 4, 5, 6, 1, 0] rfl) hf
                · replace hf := ifn c35 hf
                  refine g_iload C hl 5 rfl (gdec kX8_teamFor_1 4 rfl) ?_
                  refine g_istore C [(4, vI x4), (6, vI 1), (0, .ref (eA E 8 0)), (1, vI p1), (2, vI x2), (3, vI x3), (5, vI x5)] hl (by decide) rfl (gdec kX8_teamFor_1 5 rfl) (fun ls hl => ?_)
                  refine g_iinc C (k := 6) [(5, vI (x5 + 1)), (4, vI x4), (6, vI 1), (0, .ref (eA E 8 0)), (1, vI p1), (2, vI x2), (3, vI x3)] hl rfl (by decide) rfl (gdec kX8_teamFor_1 6 rfl) (fun ls hl => ?_)
                  refine g_goto C (tgt := 29) (by decide) (gdec kX8_teamFor_1 7 rfl) ?_
                  exact ih _ _ _ _ k hK H locs h ls (lv_sub hl [3, 4, 5, 6, 1, 0] rfl) hf
          · replace hf := ifn c20 hf
            refine g_iconst C (gdec kX8_teamFor 46 rfl) ?_
            refine g_istore C [(6, vI 0), (0, .ref (eA E 8 0)), (1, vI p1), (2, vI x2), (3, vI x3), (4, vI x4), (5, vI x5)] hl (by decide) rfl (gdec kX8_teamFor 47 rfl) (fun ls hl => ?_)
            refine g_iload C hl 0 rfl (gdec kX8_teamFor 48 rfl) ?_
            refine g_if_eq C (tgt := 116) (by decide) (by decide) (gdec kX8_teamFor 49 rfl) (fun c36 => ?_) (fun c36 => absurd (by decide) c36)
            refine g_iload C hl 5 rfl (gdec kX8_teamFor_1 4 rfl) ?_
            refine g_istore C [(4, vI x4), (6, vI 0), (0, .ref (eA E 8 0)), (1, vI p1), (2, vI x2), (3, vI x3), (5, vI x5)] hl (by decide) rfl (gdec kX8_teamFor_1 5 rfl) (fun ls hl => ?_)
            refine g_iinc C (k := 6) [(5, vI (x5 + 1)), (4, vI x4), (6, vI 0), (0, .ref (eA E 8 0)), (1, vI p1), (2, vI x2), (3, vI x3)] hl rfl (by decide) rfl (gdec kX8_teamFor_1 6 rfl) (fun ls hl => ?_)
            refine g_goto C (tgt := 29) (by decide) (gdec kX8_teamFor_1 7 rfl) ?_
            exact ih _ _ _ _ k hK H locs h ls (lv_sub hl [3, 4, 5, 6, 1, 0] rfl) hf
        · replace hf := ifn c16 hf
          refine g_iconst C (gdec kX8_teamFor 46 rfl) ?_
          refine g_istore C [(6, vI 0), (0, .ref (eA E 8 0)), (1, vI p1), (2, vI x2), (3, vI x3), (4, vI x4), (5, vI x5)] hl (by decide) rfl (gdec kX8_teamFor 47 rfl) (fun ls hl => ?_)
          refine g_iload C hl 0 rfl (gdec kX8_teamFor 48 rfl) ?_
          refine g_if_eq C (tgt := 116) (by decide) (by decide) (gdec kX8_teamFor 49 rfl) (fun c37 => ?_) (fun c37 => absurd (by decide) c37)
          refine g_iload C hl 5 rfl (gdec kX8_teamFor_1 4 rfl) ?_
          refine g_istore C [(4, vI x4), (6, vI 0), (0, .ref (eA E 8 0)), (1, vI p1), (2, vI x2), (3, vI x3), (5, vI x5)] hl (by decide) rfl (gdec kX8_teamFor_1 5 rfl) (fun ls hl => ?_)
          refine g_iinc C (k := 6) [(5, vI (x5 + 1)), (4, vI x4), (6, vI 0), (0, .ref (eA E 8 0)), (1, vI p1), (2, vI x2), (3, vI x3)] hl rfl (by decide) rfl (gdec kX8_teamFor_1 6 rfl) (fun ls hl => ?_)
          refine g_goto C (tgt := 29) (by decide) (gdec kX8_teamFor_1 7 rfl) ?_
          exact ih _ _ _ _ k hK H locs h ls (lv_sub hl [3, 4, 5, 6, 1, 0] rfl) hf
      · replace hf := ifn c11 hf
        exact hK _ _ _ _ hf H locs h ls (lv_sub hl [0, 1, 2, 3, 4, 5] rfl)
  unfold f_X8_teamFor at hf
  refine g_aload_n C hl 0 rfl rfl (gdec kX8_teamFor 0 rfl) ?_
  refine g_iload_n C hl 1 rfl rfl (gdec kX8_teamFor 1 rfl) ?_
  refine g_iconst C (gdec kX8_teamFor 2 rfl) ?_
  obtain ⟨r1, q2, hf⟩ := bn1_s hf
  refine g_ci h (g_runV C h ho (by decide) rfl (c_X8_ofLetter l E _ _ _ ho _ q2) wM_X8_92 wI_X8_ofLetter wS_X8_ofLetter wN_X8 wC_X8_ofLetter rfl ny_X8_ofLetter rfl ⟨Nat.le_of_ble_eq_true rfl, Nat.le_of_ble_eq_true rfl⟩ hl.1 rfl (Nat.le_of_ble_eq_true rfl) (gdec kX8_teamFor 3 rfl) ⟨Nat.zero_le _, Nat.zero_le _⟩) (fun H locs h => ?_)
  refine g_istore_n C [(2, vI r1), (0, .ref (eA E 8 0)), (1, vI p1)] hl rfl (by decide) rfl (gdec kX8_teamFor 4 rfl) (fun ls hl => ?_)
  refine g_aload_n C hl 1 rfl rfl (gdec kX8_teamFor 5 rfl) ?_
  refine g_iload_n C hl 0 rfl rfl (gdec kX8_teamFor 6 rfl) ?_
  refine g_iload_n C hl 0 rfl rfl (gdec kX8_teamFor 7 rfl) ?_
  refine g_aload_n C hl 1 rfl rfl (gdec kX8_teamFor 8 rfl) ?_
  refine g_iload_n C hl 2 rfl rfl (gdec kX8_teamFor 9 rfl) ?_
  refine g_iconst C (gdec kX8_teamFor 10 rfl) ?_
  obtain ⟨r3, q4, hf⟩ := bn1_s hf
  refine g_ci h (g_runV C h ho (by decide) rfl (c_X8_ofLetter l E _ _ _ ho _ q4) wM_X8_92 wI_X8_ofLetter wS_X8_ofLetter wN_X8 wC_X8_ofLetter rfl ny_X8_ofLetter rfl ⟨Nat.le_of_ble_eq_true rfl, Nat.le_of_ble_eq_true rfl⟩ hl.1 rfl (Nat.le_of_ble_eq_true rfl) (gdec kX8_teamFor 11 rfl) ⟨Nat.zero_le _, Nat.zero_le _⟩) (fun H locs h => ?_)
  obtain ⟨r5, q6, hf⟩ := bn1_s hf
  refine g_ci h (g_runS C h (c_X8_toward l E _ _ _ _ q6) wM_X8_116 wT_X8_toward wN_X8 wC_X8_toward rfl ny_X8_toward rfl ⟨Nat.le_of_ble_eq_true rfl, Nat.le_of_ble_eq_true rfl⟩ hl.1 rfl (Nat.le_of_ble_eq_true rfl) (gdec kX8_teamFor 12 rfl) ⟨Nat.zero_le _, Nat.zero_le _⟩) (fun H locs h => ?_)
  obtain ⟨r7, q8, hf⟩ := bn1_s hf
  refine g_ci h (g_runV C h ho (by decide) rfl (c_X8_effort l E _ _ _ ho _ q8) wM_X8_107 wI_X8_effort wS_X8_effort wN_X8 wC_X8_effort rfl ny_X8_effort rfl ⟨Nat.le_of_ble_eq_true rfl, Nat.le_of_ble_eq_true rfl⟩ hl.1 rfl (Nat.le_of_ble_eq_true rfl) (gdec kX8_teamFor 13 rfl) ⟨Nat.zero_le _, Nat.zero_le _⟩) (fun H locs h => ?_)
  refine g_istore_n C [(3, vI r7), (2, vI r1), (0, .ref (eA E 8 0)), (1, vI p1)] hl rfl (by decide) rfl (gdec kX8_teamFor 14 rfl) (fun ls hl => ?_)
  refine g_iconst C (gdec kX8_teamFor 15 rfl) ?_
  refine g_istore C [(4, vI (-1)), (3, vI r7), (2, vI r1), (0, .ref (eA E 8 0)), (1, vI p1)] hl (by decide) rfl (gdec kX8_teamFor 16 rfl) (fun ls hl => ?_)
  refine g_iconst C (gdec kX8_teamFor 17 rfl) ?_
  refine g_istore C [(5, vI 0), (4, vI (-1)), (3, vI r7), (2, vI r1), (0, .ref (eA E 8 0)), (1, vI p1)] hl (by decide) rfl (gdec kX8_teamFor 18 rfl) (fun ls hl => ?_)
  refine L29 gFuel _ _ _ _ _ (fun y2_38 y3_38 y4_38 y5_38 hf H locs h ls hl => ?_) H locs h ls (lv_sub hl [4, 5, 3, 2, 1, 0] rfl) hf
  refine g_iload C hl 4 rfl (gdec kX8_teamFor_1 8 rfl) ?_
  exact g_iret C h (congrArg (Option.map (Prod.mk _)) hf) (gdec kX8_teamFor_1 9 rfl)
def f_X8_whyNot (G : GS) (p1 : Int) : Option (Int) :=
  bn1 (f_X8_isDelivered G p1) (fun r1 => gd r1 (if r1 = 0 then bn1 (f_X8_ofLetter G p1 5) (fun r5 => gd r5 (if r5 = (-1) then bn1 (f_X8_ofLetter G p1 4) (fun r9 => bn1 (f_X8_ofLetter G p1 1) (fun r11 => bn1 (f_X8_toward G r9 r11) (fun r13 => bn1 (f_X8_between G r9 r13) (fun r15 => bn1 (f_X8_isBlocked G r15) (fun r17 => gd r17 (if r17 = 0 then bn1 (f_X8_isShut G r9) (fun r21 => gd r21 (if r21 = 0 then bn1 (f_X8_isShut G r13) (fun r25 => gd r25 (if r25 = 0 then bn1 (f_X8_freeBeds G r13) (fun r29 => gd r29 (if r29 = 0 then some 5 else bn1 (f_X8_teamFor G p1) (fun r33 => gd r33 (if r33 = (-1) then bn1 (f_X8_teamsOf G r9 0) (fun r37 => gd r37 (if r37 = 0 then some 6 else some 7)) else some 0)))) else some 4)) else some 4)) else some 3)))))) else some 2)) else some 1))
set_option maxHeartbeats 4000000 in
set_option maxRecDepth 100000 in
theorem c_X8_whyNot (l : Launch) (E : gEnv) (G : GS) (p1 : Int) (ho : gOk E 8 0) (rz : Int) (hf : f_X8_whyNot G p1 = some rz) : gMet l yX8_whyNot cX8_whyNot 4 (some .int) 4 90 0 0 [.ref (eA E 8 0), vI p1] E G (gQi E G rz) := by
  refine g_met (by decide +kernel) (Nat.le_of_ble_eq_true rfl) ?_
  intro p e s m below meth c C H locs h ls hl
  have C : gC p s m _ meth c RX8 cX8_whyNot 4 (some .int) E := C
  have hl : lv_has ls 4 [(0, .ref (eA E 8 0)), (1, vI p1)] := hl
  unfold f_X8_whyNot at hf
  refine g_aload_n C hl 0 rfl rfl (gdec kX8_whyNot 0 rfl) ?_
  refine g_iload_n C hl 1 rfl rfl (gdec kX8_whyNot 1 rfl) ?_
  obtain ⟨r1, q2, hf⟩ := bn1_s hf
  refine g_ci h (g_runV C h ho (by decide) rfl (c_X8_isDelivered l E _ _ ho _ q2) wM_X8_95 wI_X8_isDelivered wS_X8_isDelivered wN_X8 wC_X8_isDelivered rfl ny_X8_isDelivered rfl ⟨Nat.le_of_ble_eq_true rfl, Nat.le_of_ble_eq_true rfl⟩ hl.1 rfl (Nat.le_of_ble_eq_true rfl) (gdec kX8_whyNot 2 rfl) ⟨Nat.zero_le _, Nat.zero_le _⟩) (fun H locs h => ?_)
  obtain ⟨h3, hf⟩ := gd_s hf
  refine g_if_eq C (tgt := 10) h3 (by decide) (gdec kX8_whyNot 3 rfl) (fun c4 => ?_) (fun c4 => ?_)
  · replace hf := ifp c4 hf
    refine g_aload_n C hl 0 rfl rfl (gdec kX8_whyNot 6 rfl) ?_
    refine g_iload_n C hl 1 rfl rfl (gdec kX8_whyNot 7 rfl) ?_
    refine g_iconst C (gdec kX8_whyNot 8 rfl) ?_
    obtain ⟨r5, q6, hf⟩ := bn1_s hf
    refine g_ci h (g_runV C h ho (by decide) rfl (c_X8_ofLetter l E _ _ _ ho _ q6) wM_X8_92 wI_X8_ofLetter wS_X8_ofLetter wN_X8 wC_X8_ofLetter rfl ny_X8_ofLetter rfl ⟨Nat.le_of_ble_eq_true rfl, Nat.le_of_ble_eq_true rfl⟩ hl.1 rfl (Nat.le_of_ble_eq_true rfl) (gdec kX8_whyNot 9 rfl) ⟨Nat.zero_le _, Nat.zero_le _⟩) (fun H locs h => ?_)
    refine g_iconst C (gdec kX8_whyNot 10 rfl) ?_
    obtain ⟨h7, hf⟩ := gd_s hf
    refine g_icmp_eq C (tgt := 22) h7 (by decide) (by decide) (gdec kX8_whyNot 11 rfl) (fun c8 => ?_) (fun c8 => ?_)
    · replace hf := ifp c8 hf
      refine g_aload_n C hl 0 rfl rfl (gdec kX8_whyNot 14 rfl) ?_
      refine g_iload_n C hl 1 rfl rfl (gdec kX8_whyNot 15 rfl) ?_
      refine g_iconst C (gdec kX8_whyNot 16 rfl) ?_
      obtain ⟨r9, q10, hf⟩ := bn1_s hf
      refine g_ci h (g_runV C h ho (by decide) rfl (c_X8_ofLetter l E _ _ _ ho _ q10) wM_X8_92 wI_X8_ofLetter wS_X8_ofLetter wN_X8 wC_X8_ofLetter rfl ny_X8_ofLetter rfl ⟨Nat.le_of_ble_eq_true rfl, Nat.le_of_ble_eq_true rfl⟩ hl.1 rfl (Nat.le_of_ble_eq_true rfl) (gdec kX8_whyNot 17 rfl) ⟨Nat.zero_le _, Nat.zero_le _⟩) (fun H locs h => ?_)
      refine g_istore_n C [(2, vI r9), (0, .ref (eA E 8 0)), (1, vI p1)] hl rfl (by decide) rfl (gdec kX8_whyNot 18 rfl) (fun ls hl => ?_)
      refine g_iload_n C hl 0 rfl rfl (gdec kX8_whyNot 19 rfl) ?_
      refine g_aload_n C hl 1 rfl rfl (gdec kX8_whyNot 20 rfl) ?_
      refine g_iload_n C hl 2 rfl rfl (gdec kX8_whyNot 21 rfl) ?_
      refine g_iconst C (gdec kX8_whyNot 22 rfl) ?_
      obtain ⟨r11, q12, hf⟩ := bn1_s hf
      refine g_ci h (g_runV C h ho (by decide) rfl (c_X8_ofLetter l E _ _ _ ho _ q12) wM_X8_92 wI_X8_ofLetter wS_X8_ofLetter wN_X8 wC_X8_ofLetter rfl ny_X8_ofLetter rfl ⟨Nat.le_of_ble_eq_true rfl, Nat.le_of_ble_eq_true rfl⟩ hl.1 rfl (Nat.le_of_ble_eq_true rfl) (gdec kX8_whyNot 23 rfl) ⟨Nat.zero_le _, Nat.zero_le _⟩) (fun H locs h => ?_)
      obtain ⟨r13, q14, hf⟩ := bn1_s hf
      refine g_ci h (g_runS C h (c_X8_toward l E _ _ _ _ q14) wM_X8_116 wT_X8_toward wN_X8 wC_X8_toward rfl ny_X8_toward rfl ⟨Nat.le_of_ble_eq_true rfl, Nat.le_of_ble_eq_true rfl⟩ hl.1 rfl (Nat.le_of_ble_eq_true rfl) (gdec kX8_whyNot 24 rfl) ⟨Nat.zero_le _, Nat.zero_le _⟩) (fun H locs h => ?_)
      refine g_istore_n C [(3, vI r13), (2, vI r9), (0, .ref (eA E 8 0)), (1, vI p1)] hl rfl (by decide) rfl (gdec kX8_whyNot 25 rfl) (fun ls hl => ?_)
      refine g_aload_n C hl 2 rfl rfl (gdec kX8_whyNot 26 rfl) ?_
      refine g_iload_n C hl 1 rfl rfl (gdec kX8_whyNot 27 rfl) ?_
      refine g_iload_n C hl 0 rfl rfl (gdec kX8_whyNot 28 rfl) ?_
      obtain ⟨r15, q16, hf⟩ := bn1_s hf
      refine g_ci h (g_runS C h (c_X8_between l E _ _ _ _ q16) wM_X8_53 wT_X8_between wN_X8 wC_X8_between rfl ny_X8_between rfl ⟨Nat.le_of_ble_eq_true rfl, Nat.le_of_ble_eq_true rfl⟩ hl.1 rfl (Nat.le_of_ble_eq_true rfl) (gdec kX8_whyNot 29 rfl) ⟨Nat.zero_le _, Nat.zero_le _⟩) (fun H locs h => ?_)
      obtain ⟨r17, q18, hf⟩ := bn1_s hf
      refine g_ci h (g_runV C h ho (by decide) rfl (c_X8_isBlocked l E _ _ ho _ q18) wM_X8_119 wI_X8_isBlocked wS_X8_isBlocked wN_X8 wC_X8_isBlocked rfl ny_X8_isBlocked rfl ⟨Nat.le_of_ble_eq_true rfl, Nat.le_of_ble_eq_true rfl⟩ hl.1 rfl (Nat.le_of_ble_eq_true rfl) (gdec kX8_whyNot 30 rfl) ⟨Nat.zero_le _, Nat.zero_le _⟩) (fun H locs h => ?_)
      obtain ⟨h19, hf⟩ := gd_s hf
      refine g_if_eq C (tgt := 54) h19 (by decide) (gdec kX8_whyNot 31 rfl) (fun c20 => ?_) (fun c20 => ?_)
      · replace hf := ifp c20 hf
        refine g_aload_n C hl 2 rfl rfl (gdec kX8_whyNot 34 rfl) ?_
        refine g_iload_n C hl 1 rfl rfl (gdec kX8_whyNot 35 rfl) ?_
        obtain ⟨r21, q22, hf⟩ := bn1_s hf
        refine g_ci h (g_runV C h ho (by decide) rfl (c_X8_isShut l E _ _ ho _ q22) wM_X8_122 wI_X8_isShut wS_X8_isShut wN_X8 wC_X8_isShut rfl ny_X8_isShut rfl ⟨Nat.le_of_ble_eq_true rfl, Nat.le_of_ble_eq_true rfl⟩ hl.1 rfl (Nat.le_of_ble_eq_true rfl) (gdec kX8_whyNot 36 rfl) ⟨Nat.zero_le _, Nat.zero_le _⟩) (fun H locs h => ?_)
        obtain ⟨h23, hf⟩ := gd_s hf
        refine g_if_ne C (tgt := 70) h23 (by decide) (gdec kX8_whyNot 37 rfl) (fun c24 => ?_) (fun c24 => ?_)
        · replace hf := ifp c24 hf
          refine g_aload_n C hl 2 rfl rfl (gdec kX8_whyNot 38 rfl) ?_
          refine g_iload_n C hl 0 rfl rfl (gdec kX8_whyNot 39 rfl) ?_
          obtain ⟨r25, q26, hf⟩ := bn1_s hf
          refine g_ci h (g_runV C h ho (by decide) rfl (c_X8_isShut l E _ _ ho _ q26) wM_X8_122 wI_X8_isShut wS_X8_isShut wN_X8 wC_X8_isShut rfl ny_X8_isShut rfl ⟨Nat.le_of_ble_eq_true rfl, Nat.le_of_ble_eq_true rfl⟩ hl.1 rfl (Nat.le_of_ble_eq_true rfl) (gdec kX8_whyNot 40 rfl) ⟨Nat.zero_le _, Nat.zero_le _⟩) (fun H locs h => ?_)
          obtain ⟨h27, hf⟩ := gd_s hf
          refine g_if_eq C (tgt := 72) h27 (by decide) (gdec kX8_whyNot 41 rfl) (fun c28 => ?_) (fun c28 => ?_)
          · replace hf := ifp c28 hf
            refine g_aload_n C hl 2 rfl rfl (gdec kX8_whyNot 44 rfl) ?_
            refine g_iload_n C hl 0 rfl rfl (gdec kX8_whyNot 45 rfl) ?_
            obtain ⟨r29, q30, hf⟩ := bn1_s hf
            refine g_ci h (g_runV C h ho (by decide) rfl (c_X8_freeBeds l E _ _ ho _ q30) wM_X8_125 wI_X8_freeBeds wS_X8_freeBeds wN_X8 wC_X8_freeBeds rfl ny_X8_freeBeds rfl ⟨Nat.le_of_ble_eq_true rfl, Nat.le_of_ble_eq_true rfl⟩ hl.1 rfl (Nat.le_of_ble_eq_true rfl) (gdec kX8_whyNot 46 rfl) ⟨Nat.zero_le _, Nat.zero_le _⟩) (fun H locs h => ?_)
            obtain ⟨h31, hf⟩ := gd_s hf
            refine g_if_ne C (tgt := 82) h31 (by decide) (gdec kX8_whyNot 47 rfl) (fun c32 => ?_) (fun c32 => ?_)
            · replace hf := ifp c32 hf
              refine g_iconst C (gdec kX8_whyNot 48 rfl) ?_
              exact g_iret C h (congrArg (Option.map (Prod.mk _)) hf) (gdec kX8_whyNot 49 rfl)
            · replace hf := ifn c32 hf
              refine g_aload_n C hl 2 rfl rfl (gdec kX8_whyNot 50 rfl) ?_
              refine g_iload_n C hl 3 rfl rfl (gdec kX8_whyNot 51 rfl) ?_
              obtain ⟨r33, q34, hf⟩ := bn1_s hf
              refine g_ci h (g_runV C h ho (by decide) rfl (c_X8_teamFor l E _ _ ho _ q34) wM_X8_128 wI_X8_teamFor wS_X8_teamFor wN_X8 wC_X8_teamFor rfl ny_X8_teamFor rfl ⟨Nat.le_of_ble_eq_true rfl, Nat.le_of_ble_eq_true rfl⟩ hl.1 rfl (Nat.le_of_ble_eq_true rfl) (gdec kX8_whyNot 52 rfl) ⟨Nat.zero_le _, Nat.zero_le _⟩) (fun H locs h => ?_)
              refine g_iconst C (gdec kX8_whyNot 53 rfl) ?_
              obtain ⟨h35, hf⟩ := gd_s hf
              refine g_icmp_eq C (tgt := 95) h35 (by decide) (by decide) (gdec kX8_whyNot 54 rfl) (fun c36 => ?_) (fun c36 => ?_)
              · replace hf := ifp c36 hf
                refine g_aload_n C hl 2 rfl rfl (gdec kX8_whyNot 57 rfl) ?_
                refine g_iload_n C hl 1 rfl rfl (gdec kX8_whyNot 58 rfl) ?_
                refine g_iconst C (gdec kX8_whyNot 59 rfl) ?_
                obtain ⟨r37, q38, hf⟩ := bn1_s hf
                refine g_ci h (g_runV C h ho (by decide) rfl (c_X8_teamsOf l E _ _ _ ho _ q38) wM_X8_101 wI_X8_teamsOf wS_X8_teamsOf wN_X8 wC_X8_teamsOf rfl ny_X8_teamsOf rfl ⟨Nat.le_of_ble_eq_true rfl, Nat.le_of_ble_eq_true rfl⟩ hl.1 rfl (Nat.le_of_ble_eq_true rfl) (gdec kX8_whyNot_1 0 rfl) ⟨Nat.zero_le _, Nat.zero_le _⟩) (fun H locs h => ?_)
                obtain ⟨h39, hf⟩ := gd_s hf
                refine g_if_ne C (tgt := 109) h39 (by decide) (gdec kX8_whyNot_1 1 rfl) (fun c40 => ?_) (fun c40 => ?_)
                · replace hf := ifp c40 hf
                  refine g_bipush C (gdec kX8_whyNot_1 2 rfl) rfl ?_
                  refine g_goto C (tgt := 111) (by decide) (gdec kX8_whyNot_1 3 rfl) ?_
                  exact g_iret C h (congrArg (Option.map (Prod.mk _)) hf) (gdec kX8_whyNot_1 5 rfl)
                · replace hf := ifn c40 hf
                  refine g_bipush C (gdec kX8_whyNot_1 4 rfl) rfl ?_
                  exact g_iret C h (congrArg (Option.map (Prod.mk _)) hf) (gdec kX8_whyNot_1 5 rfl)
              · replace hf := ifn c36 hf
                refine g_iconst C (gdec kX8_whyNot 55 rfl) ?_
                refine g_goto C (tgt := 111) (by decide) (gdec kX8_whyNot 56 rfl) ?_
                exact g_iret C h (congrArg (Option.map (Prod.mk _)) hf) (gdec kX8_whyNot_1 5 rfl)
          · replace hf := ifn c28 hf
            refine g_iconst C (gdec kX8_whyNot 42 rfl) ?_
            exact g_iret C h (congrArg (Option.map (Prod.mk _)) hf) (gdec kX8_whyNot 43 rfl)
        · replace hf := ifn c24 hf
          refine g_iconst C (gdec kX8_whyNot 42 rfl) ?_
          exact g_iret C h (congrArg (Option.map (Prod.mk _)) hf) (gdec kX8_whyNot 43 rfl)
      · replace hf := ifn c20 hf
        refine g_iconst C (gdec kX8_whyNot 32 rfl) ?_
        exact g_iret C h (congrArg (Option.map (Prod.mk _)) hf) (gdec kX8_whyNot 33 rfl)
    · replace hf := ifn c8 hf
      refine g_iconst C (gdec kX8_whyNot 12 rfl) ?_
      exact g_iret C h (congrArg (Option.map (Prod.mk _)) hf) (gdec kX8_whyNot 13 rfl)
  · replace hf := ifn c4 hf
    refine g_iconst C (gdec kX8_whyNot 4 rfl) ?_
    exact g_iret C h (congrArg (Option.map (Prod.mk _)) hf) (gdec kX8_whyNot 5 rfl)
def f_X8_leaves (G : GS) (p1 : Int) (p2 : Int) (p3 : Int) : Option (GS) :=
  bn1 (f_X8_teamAt G p1 10) (fun r1 => bn1 (f_X8_of G p1 2) (fun r3 => ga r1 260 (bn1 (f_X8_teamAt (gup G 10 0 r1 r3) p1 2) (fun r6 => ga r6 260 (bn1 (f_X8_teamAt (gup (gup G 10 0 r1 r3) 10 0 r6 p2) p1 3) (fun r9 => ga r9 260 (some (gup (gup (gup G 10 0 r1 r3) 10 0 r6 p2) 10 0 r9 p3))))))))
set_option maxHeartbeats 4000000 in
set_option maxRecDepth 100000 in
theorem c_X8_leaves (l : Launch) (E : gEnv) (G : GS) (p1 : Int) (p2 : Int) (p3 : Int) (ho : gOk E 8 0) (Gz : GS) (hf : f_X8_leaves G p1 p2 p3 = some Gz) : gMet l yX8_leaves cX8_leaves 4 none 2 43 0 0 [.ref (eA E 8 0), vI p1, vI p2, vI p3] E G (gQv E Gz) := by
  refine g_met (by decide +kernel) (Nat.le_of_ble_eq_true rfl) ?_
  intro p e s m below meth c C H locs h ls hl
  have C : gC p s m _ meth c RX8 cX8_leaves 4 none E := C
  have hl : lv_has ls 4 [(0, .ref (eA E 8 0)), (1, vI p1), (2, vI p2), (3, vI p3)] := hl
  unfold f_X8_leaves at hf
  refine g_aload_n C hl 0 rfl rfl (gdec kX8_leaves 0 rfl) ?_
  refine gf_X8_7 C h ho (gdec kX8_leaves 1 rfl) ?_
  refine g_iload_n C hl 1 rfl rfl (gdec kX8_leaves 2 rfl) ?_
  refine g_bipush C (gdec kX8_leaves 3 rfl) rfl ?_
  obtain ⟨r1, q2, hf⟩ := bn1_s hf
  refine g_ci h (g_runS C h (c_X8_teamAt l E _ _ _ _ q2) wM_X8_46 wT_X8_teamAt wN_X8 wC_X8_teamAt rfl ny_X8_teamAt rfl ⟨Nat.le_of_ble_eq_true rfl, Nat.le_of_ble_eq_true rfl⟩ hl.1 rfl (Nat.le_of_ble_eq_true rfl) (gdec kX8_leaves 4 rfl) ⟨Nat.zero_le _, Nat.zero_le _⟩) (fun H locs h => ?_)
  refine g_aload_n C hl 0 rfl rfl (gdec kX8_leaves 5 rfl) ?_
  refine g_iload_n C hl 1 rfl rfl (gdec kX8_leaves 6 rfl) ?_
  refine g_iconst C (gdec kX8_leaves 7 rfl) ?_
  obtain ⟨r3, q4, hf⟩ := bn1_s hf
  refine g_ci h (g_runV C h ho (by decide) rfl (c_X8_of l E _ _ _ ho _ q4) wM_X8_98 wI_X8_of wS_X8_of wN_X8 wC_X8_of rfl ny_X8_of rfl ⟨Nat.le_of_ble_eq_true rfl, Nat.le_of_ble_eq_true rfl⟩ hl.1 rfl (Nat.le_of_ble_eq_true rfl) (gdec kX8_leaves 8 rfl) ⟨Nat.zero_le _, Nat.zero_le _⟩) (fun H locs h => ?_)
  obtain ⟨h5, hf⟩ := ga_s hf
  refine g_iast C h (gcl_8_0 C ho) (n := 260) rfl (by decide) h5 (gdec kX8_leaves 9 rfl) (fun H locs h => ?_)
  refine g_aload_n C hl 0 rfl rfl (gdec kX8_leaves 10 rfl) ?_
  refine gf_X8_7 C h ho (gdec kX8_leaves 11 rfl) ?_
  refine g_iload_n C hl 1 rfl rfl (gdec kX8_leaves 12 rfl) ?_
  refine g_iconst C (gdec kX8_leaves 13 rfl) ?_
  obtain ⟨r6, q7, hf⟩ := bn1_s hf
  refine g_ci h (g_runS C h (c_X8_teamAt l E _ _ _ _ q7) wM_X8_46 wT_X8_teamAt wN_X8 wC_X8_teamAt rfl ny_X8_teamAt rfl ⟨Nat.le_of_ble_eq_true rfl, Nat.le_of_ble_eq_true rfl⟩ hl.1 rfl (Nat.le_of_ble_eq_true rfl) (gdec kX8_leaves 14 rfl) ⟨Nat.zero_le _, Nat.zero_le _⟩) (fun H locs h => ?_)
  refine g_iload_n C hl 2 rfl rfl (gdec kX8_leaves 15 rfl) ?_
  obtain ⟨h8, hf⟩ := ga_s hf
  refine g_iast C h (gcl_8_0 C ho) (n := 260) rfl (by decide) h8 (gdec kX8_leaves 16 rfl) (fun H locs h => ?_)
  refine g_aload_n C hl 0 rfl rfl (gdec kX8_leaves 17 rfl) ?_
  refine gf_X8_7 C h ho (gdec kX8_leaves 18 rfl) ?_
  refine g_iload_n C hl 1 rfl rfl (gdec kX8_leaves 19 rfl) ?_
  refine g_iconst C (gdec kX8_leaves 20 rfl) ?_
  obtain ⟨r9, q10, hf⟩ := bn1_s hf
  refine g_ci h (g_runS C h (c_X8_teamAt l E _ _ _ _ q10) wM_X8_46 wT_X8_teamAt wN_X8 wC_X8_teamAt rfl ny_X8_teamAt rfl ⟨Nat.le_of_ble_eq_true rfl, Nat.le_of_ble_eq_true rfl⟩ hl.1 rfl (Nat.le_of_ble_eq_true rfl) (gdec kX8_leaves 21 rfl) ⟨Nat.zero_le _, Nat.zero_le _⟩) (fun H locs h => ?_)
  refine g_iload_n C hl 3 rfl rfl (gdec kX8_leaves 22 rfl) ?_
  obtain ⟨h11, hf⟩ := ga_s hf
  refine g_iast C h (gcl_8_0 C ho) (n := 260) rfl (by decide) h11 (gdec kX8_leaves 23 rfl) (fun H locs h => ?_)
  exact g_vret C h hf (gdec kX8_leaves 24 rfl)
def f_X8_goesOn (G : GS) (p1 : Int) : Option (GS) :=
  bn1 (f_X8_whyNot G p1) (fun r1 => gd r1 (if r1 = 0 then bn1 (f_X8_ofLetter G p1 4) (fun r5 => bn1 (f_X8_ofLetter G p1 1) (fun r7 => bn1 (f_X8_toward G r5 r7) (fun r9 => bn1 (f_X8_teamFor G p1) (fun r11 => bn1 (f_X8_between G r5 r9) (fun r13 => bn1 (f_X8_hoursOf G r13) (fun r15 => bn1 (f_X8_leaves G r11 r9 r15) (fun G17 => bn1 (f_X8_teamAt G17 r11 4) (fun r19 => ga r19 260 (bn1 (f_X8_letterAt (gup G17 10 0 r19 p1) p1 4) (fun r22 => ga r22 260 (bn1 (f_X8_letterAt (gup (gup G17 10 0 r19 p1) 10 0 r22 r9) p1 5) (fun r25 => ga r25 260 (bn1 (f_X8_letterAt (gup (gup (gup G17 10 0 r19 p1) 10 0 r22 r9) 10 0 r25 r11) p1 7) (fun r28 => ga r28 260 (nm (gup (gup (gup (gup G17 10 0 r19 p1) 10 0 r22 r9) 10 0 r25 r11) 10 0 r28 (((gup (gup (gup G17 10 0 r19 p1) 10 0 r22 r9) 10 0 r25 r11) 10 0 r28) + 1)) (fun G31 => some G31)))))))))))))))) else some G))
set_option maxHeartbeats 4000000 in
set_option maxRecDepth 100000 in
theorem c_X8_goesOn (l : Launch) (E : gEnv) (G : GS) (p1 : Int) (ho : gOk E 8 0) (Gz : GS) (hf : f_X8_goesOn G p1 = some Gz) : gMet l yX8_goesOn cX8_goesOn 5 none 5 113 0 0 [.ref (eA E 8 0), vI p1] E G (gQv E Gz) := by
  refine g_met (by decide +kernel) (Nat.le_of_ble_eq_true rfl) ?_
  intro p e s m below meth c C H locs h ls hl
  have C : gC p s m _ meth c RX8 cX8_goesOn 5 none E := C
  have hl : lv_has ls 5 [(0, .ref (eA E 8 0)), (1, vI p1)] := hl
  unfold f_X8_goesOn at hf
  refine g_aload_n C hl 0 rfl rfl (gdec kX8_goesOn 0 rfl) ?_
  refine g_iload_n C hl 1 rfl rfl (gdec kX8_goesOn 1 rfl) ?_
  obtain ⟨r1, q2, hf⟩ := bn1_s hf
  refine g_ci h (g_runV C h ho (by decide) rfl (c_X8_whyNot l E _ _ ho _ q2) wM_X8_131 wI_X8_whyNot wS_X8_whyNot wN_X8 wC_X8_whyNot rfl ny_X8_whyNot rfl ⟨Nat.le_of_ble_eq_true rfl, Nat.le_of_ble_eq_true rfl⟩ hl.1 rfl (Nat.le_of_ble_eq_true rfl) (gdec kX8_goesOn 2 rfl) ⟨Nat.zero_le _, Nat.zero_le _⟩) (fun H locs h => ?_)
  obtain ⟨h3, hf⟩ := gd_s hf
  refine g_if_ne C (tgt := 99) h3 (by decide) (gdec kX8_goesOn 3 rfl) (fun c4 => ?_) (fun c4 => ?_)
  · replace hf := ifp c4 hf
    refine g_aload_n C hl 0 rfl rfl (gdec kX8_goesOn 4 rfl) ?_
    refine g_iload_n C hl 1 rfl rfl (gdec kX8_goesOn 5 rfl) ?_
    refine g_iconst C (gdec kX8_goesOn 6 rfl) ?_
    obtain ⟨r5, q6, hf⟩ := bn1_s hf
    refine g_ci h (g_runV C h ho (by decide) rfl (c_X8_ofLetter l E _ _ _ ho _ q6) wM_X8_92 wI_X8_ofLetter wS_X8_ofLetter wN_X8 wC_X8_ofLetter rfl ny_X8_ofLetter rfl ⟨Nat.le_of_ble_eq_true rfl, Nat.le_of_ble_eq_true rfl⟩ hl.1 rfl (Nat.le_of_ble_eq_true rfl) (gdec kX8_goesOn 7 rfl) ⟨Nat.zero_le _, Nat.zero_le _⟩) (fun H locs h => ?_)
    refine g_istore_n C [(2, vI r5), (0, .ref (eA E 8 0)), (1, vI p1)] hl rfl (by decide) rfl (gdec kX8_goesOn 8 rfl) (fun ls hl => ?_)
    refine g_iload_n C hl 0 rfl rfl (gdec kX8_goesOn 9 rfl) ?_
    refine g_aload_n C hl 1 rfl rfl (gdec kX8_goesOn 10 rfl) ?_
    refine g_iload_n C hl 2 rfl rfl (gdec kX8_goesOn 11 rfl) ?_
    refine g_iconst C (gdec kX8_goesOn 12 rfl) ?_
    obtain ⟨r7, q8, hf⟩ := bn1_s hf
    refine g_ci h (g_runV C h ho (by decide) rfl (c_X8_ofLetter l E _ _ _ ho _ q8) wM_X8_92 wI_X8_ofLetter wS_X8_ofLetter wN_X8 wC_X8_ofLetter rfl ny_X8_ofLetter rfl ⟨Nat.le_of_ble_eq_true rfl, Nat.le_of_ble_eq_true rfl⟩ hl.1 rfl (Nat.le_of_ble_eq_true rfl) (gdec kX8_goesOn 13 rfl) ⟨Nat.zero_le _, Nat.zero_le _⟩) (fun H locs h => ?_)
    obtain ⟨r9, q10, hf⟩ := bn1_s hf
    refine g_ci h (g_runS C h (c_X8_toward l E _ _ _ _ q10) wM_X8_116 wT_X8_toward wN_X8 wC_X8_toward rfl ny_X8_toward rfl ⟨Nat.le_of_ble_eq_true rfl, Nat.le_of_ble_eq_true rfl⟩ hl.1 rfl (Nat.le_of_ble_eq_true rfl) (gdec kX8_goesOn 14 rfl) ⟨Nat.zero_le _, Nat.zero_le _⟩) (fun H locs h => ?_)
    refine g_istore_n C [(3, vI r9), (2, vI r5), (0, .ref (eA E 8 0)), (1, vI p1)] hl rfl (by decide) rfl (gdec kX8_goesOn 15 rfl) (fun ls hl => ?_)
    refine g_aload_n C hl 2 rfl rfl (gdec kX8_goesOn 16 rfl) ?_
    refine g_iload_n C hl 3 rfl rfl (gdec kX8_goesOn 17 rfl) ?_
    obtain ⟨r11, q12, hf⟩ := bn1_s hf
    refine g_ci h (g_runV C h ho (by decide) rfl (c_X8_teamFor l E _ _ ho _ q12) wM_X8_128 wI_X8_teamFor wS_X8_teamFor wN_X8 wC_X8_teamFor rfl ny_X8_teamFor rfl ⟨Nat.le_of_ble_eq_true rfl, Nat.le_of_ble_eq_true rfl⟩ hl.1 rfl (Nat.le_of_ble_eq_true rfl) (gdec kX8_goesOn 18 rfl) ⟨Nat.zero_le _, Nat.zero_le _⟩) (fun H locs h => ?_)
    refine g_istore C [(4, vI r11), (3, vI r9), (2, vI r5), (0, .ref (eA E 8 0)), (1, vI p1)] hl (by decide) rfl (gdec kX8_goesOn 19 rfl) (fun ls hl => ?_)
    refine g_aload_n C hl 3 rfl rfl (gdec kX8_goesOn 20 rfl) ?_
    refine g_iload C hl 0 rfl (gdec kX8_goesOn 21 rfl) ?_
    refine g_iload_n C hl 1 rfl rfl (gdec kX8_goesOn 22 rfl) ?_
    refine g_aload_n C hl 3 rfl rfl (gdec kX8_goesOn 23 rfl) ?_
    refine g_iload_n C hl 2 rfl rfl (gdec kX8_goesOn 24 rfl) ?_
    refine g_iload_n C hl 1 rfl rfl (gdec kX8_goesOn 25 rfl) ?_
    obtain ⟨r13, q14, hf⟩ := bn1_s hf
    refine g_ci h (g_runS C h (c_X8_between l E _ _ _ _ q14) wM_X8_53 wT_X8_between wN_X8 wC_X8_between rfl ny_X8_between rfl ⟨Nat.le_of_ble_eq_true rfl, Nat.le_of_ble_eq_true rfl⟩ hl.1 rfl (Nat.le_of_ble_eq_true rfl) (gdec kX8_goesOn 26 rfl) ⟨Nat.zero_le _, Nat.zero_le _⟩) (fun H locs h => ?_)
    obtain ⟨r15, q16, hf⟩ := bn1_s hf
    refine g_ci h (g_runV C h ho (by decide) rfl (c_X8_hoursOf l E _ _ ho _ q16) wM_X8_56 wI_X8_hoursOf wS_X8_hoursOf wN_X8 wC_X8_hoursOf rfl ny_X8_hoursOf rfl ⟨Nat.le_of_ble_eq_true rfl, Nat.le_of_ble_eq_true rfl⟩ hl.1 rfl (Nat.le_of_ble_eq_true rfl) (gdec kX8_goesOn 27 rfl) ⟨Nat.zero_le _, Nat.zero_le _⟩) (fun H locs h => ?_)
    obtain ⟨G17, q18, hf⟩ := bn1_s hf
    refine g_cv h (g_runV C h ho (by decide) rfl (c_X8_leaves l E _ _ _ _ ho _ q18) wM_X8_134 wI_X8_leaves wS_X8_leaves wN_X8 wC_X8_leaves rfl ny_X8_leaves rfl ⟨Nat.le_of_ble_eq_true rfl, Nat.le_of_ble_eq_true rfl⟩ hl.1 rfl (Nat.le_of_ble_eq_true rfl) (gdec kX8_goesOn 28 rfl) ⟨Nat.zero_le _, Nat.zero_le _⟩) (fun H locs h => ?_)
    refine g_aload_n C hl 3 rfl rfl (gdec kX8_goesOn 29 rfl) ?_
    refine gf_X8_7 C h ho (gdec kX8_goesOn 30 rfl) ?_
    refine g_iload C hl 0 rfl (gdec kX8_goesOn 31 rfl) ?_
    refine g_iconst C (gdec kX8_goesOn 32 rfl) ?_
    obtain ⟨r19, q20, hf⟩ := bn1_s hf
    refine g_ci h (g_runS C h (c_X8_teamAt l E _ _ _ _ q20) wM_X8_46 wT_X8_teamAt wN_X8 wC_X8_teamAt rfl ny_X8_teamAt rfl ⟨Nat.le_of_ble_eq_true rfl, Nat.le_of_ble_eq_true rfl⟩ hl.1 rfl (Nat.le_of_ble_eq_true rfl) (gdec kX8_goesOn 33 rfl) ⟨Nat.zero_le _, Nat.zero_le _⟩) (fun H locs h => ?_)
    refine g_iload_n C hl 4 rfl rfl (gdec kX8_goesOn 34 rfl) ?_
    obtain ⟨h21, hf⟩ := ga_s hf
    refine g_iast C h (gcl_8_0 C ho) (n := 260) rfl (by decide) h21 (gdec kX8_goesOn 35 rfl) (fun H locs h => ?_)
    refine g_aload_n C hl 3 rfl rfl (gdec kX8_goesOn 36 rfl) ?_
    refine gf_X8_7 C h ho (gdec kX8_goesOn 37 rfl) ?_
    refine g_iload_n C hl 4 rfl rfl (gdec kX8_goesOn 38 rfl) ?_
    refine g_iconst C (gdec kX8_goesOn 39 rfl) ?_
    obtain ⟨r22, q23, hf⟩ := bn1_s hf
    refine g_ci h (g_runS C h (c_X8_letterAt l E _ _ _ _ q23) wM_X8_50 wT_X8_letterAt wN_X8 wC_X8_letterAt rfl ny_X8_letterAt rfl ⟨Nat.le_of_ble_eq_true rfl, Nat.le_of_ble_eq_true rfl⟩ hl.1 rfl (Nat.le_of_ble_eq_true rfl) (gdec kX8_goesOn 40 rfl) ⟨Nat.zero_le _, Nat.zero_le _⟩) (fun H locs h => ?_)
    refine g_iload_n C hl 1 rfl rfl (gdec kX8_goesOn 41 rfl) ?_
    obtain ⟨h24, hf⟩ := ga_s hf
    refine g_iast C h (gcl_8_0 C ho) (n := 260) rfl (by decide) h24 (gdec kX8_goesOn 42 rfl) (fun H locs h => ?_)
    refine g_aload_n C hl 3 rfl rfl (gdec kX8_goesOn 43 rfl) ?_
    refine gf_X8_7 C h ho (gdec kX8_goesOn 44 rfl) ?_
    refine g_iload_n C hl 4 rfl rfl (gdec kX8_goesOn 45 rfl) ?_
    refine g_iconst C (gdec kX8_goesOn 46 rfl) ?_
    obtain ⟨r25, q26, hf⟩ := bn1_s hf
    refine g_ci h (g_runS C h (c_X8_letterAt l E _ _ _ _ q26) wM_X8_50 wT_X8_letterAt wN_X8 wC_X8_letterAt rfl ny_X8_letterAt rfl ⟨Nat.le_of_ble_eq_true rfl, Nat.le_of_ble_eq_true rfl⟩ hl.1 rfl (Nat.le_of_ble_eq_true rfl) (gdec kX8_goesOn 47 rfl) ⟨Nat.zero_le _, Nat.zero_le _⟩) (fun H locs h => ?_)
    refine g_iload C hl 0 rfl (gdec kX8_goesOn 48 rfl) ?_
    obtain ⟨h27, hf⟩ := ga_s hf
    refine g_iast C h (gcl_8_0 C ho) (n := 260) rfl (by decide) h27 (gdec kX8_goesOn 49 rfl) (fun H locs h => ?_)
    refine g_aload_n C hl 3 rfl rfl (gdec kX8_goesOn 50 rfl) ?_
    refine gf_X8_7 C h ho (gdec kX8_goesOn 51 rfl) ?_
    refine g_iload_n C hl 4 rfl rfl (gdec kX8_goesOn 52 rfl) ?_
    refine g_bipush C (gdec kX8_goesOn 53 rfl) rfl ?_
    obtain ⟨r28, q29, hf⟩ := bn1_s hf
    refine g_ci h (g_runS C h (c_X8_letterAt l E _ _ _ _ q29) wM_X8_50 wT_X8_letterAt wN_X8 wC_X8_letterAt rfl ny_X8_letterAt rfl ⟨Nat.le_of_ble_eq_true rfl, Nat.le_of_ble_eq_true rfl⟩ hl.1 rfl (Nat.le_of_ble_eq_true rfl) (gdec kX8_goesOn 54 rfl) ⟨Nat.zero_le _, Nat.zero_le _⟩) (fun H locs h => ?_)
    refine g_dup2 C rfl rfl (gdec kX8_goesOn 55 rfl) ?_
    obtain ⟨h30, hf⟩ := ga_s hf
    refine g_iald C h (gcl_8_0 C ho) (n := 260) rfl (by decide) h30 (gdec kX8_goesOn 56 rfl) ?_
    refine g_iconst C (gdec kX8_goesOn 57 rfl) ?_
    refine g_iadd C (gdec kX8_goesOn 58 rfl) ?_
    refine g_iast C h (gcl_8_0 C ho) (n := 260) rfl (by decide) h30 (gdec kX8_goesOn 59 rfl) (fun H locs h => ?_)
    obtain ⟨G31, e32, hf⟩ := nm_s hf
    rw [e32] at h
    exact g_vret C h hf (gdec kX8_goesOn_1 0 rfl)
  · replace hf := ifn c4 hf
    exact g_vret C h hf (gdec kX8_goesOn_1 0 rfl)
def f_X8_goOn_L2 : Nat → GS → Int → (GS → Int → Option (GS)) → Option (GS)
  | 0, _, _, _ => none
  | n + 1, G, x1, k => gd x1 (if x1 < 12 then gd (G 10 0 8) (if x1 < (G 10 0 8) then bn1 (f_X8_lies G x1) (fun r5 => gd r5 (if r5 = 0 then ga x1 12 (f_X8_goOn_L2 n (gup G 11 0 x1 1) (x1 + 1) k) else ga x1 12 (f_X8_goOn_L2 n (gup G 11 0 x1 0) (x1 + 1) k))) else ga x1 12 (f_X8_goOn_L2 n (gup G 11 0 x1 1) (x1 + 1) k)) else k G x1)
def f_X8_goOn_L55 : Nat → GS → Int → Int → (GS → Int → Int → Option (GS)) → Option (GS)
  | 0, _, _, _, _ => none
  | n + 1, G, x1, x2, k => gd x2 (gd (G 10 0 8) (if x2 < (G 10 0 8) then ga x2 12 (gd (G 11 0 x2) (if (G 11 0 x2) = 0 then gd x1 (if x1 = (-1) then f_X8_goOn_L55 n G x2 (x2 + 1) k else bn1 (f_X8_isAhead G x2 x1) (fun r24 => gd r24 (if r24 = 0 then f_X8_goOn_L55 n G x1 (x2 + 1) k else f_X8_goOn_L55 n G x2 (x2 + 1) k))) else f_X8_goOn_L55 n G x1 (x2 + 1) k)) else k G x1 x2))
def f_X8_goOn_L46 : Nat → GS → Int → (GS → Int → Option (GS)) → Option (GS)
  | 0, _, _, _ => none
  | n + 1, G, x1, k => gd x1 (if x1 = (-1) then k G x1 else f_X8_goOn_L55 gFuel G (-1) 0 (fun G29 y1_28 y2_28 => gd y1_28 (if y1_28 = (-1) then f_X8_goOn_L46 n G29 y1_28 k else ga y1_28 12 (bn1 (f_X8_goesOn (gup G29 11 0 y1_28 1) y1_28) (fun G33 => f_X8_goOn_L46 n G33 y1_28 k)))))
def f_X8_goOn (G : GS) : Option (GS) :=
  f_X8_goOn_L2 gFuel G 0 (fun G13 y1_12 => f_X8_goOn_L46 gFuel G13 0 (fun G36 y1_35 => some G36))
set_option maxHeartbeats 4000000 in
set_option maxRecDepth 100000 in
theorem c_X8_goOn (l : Launch) (E : gEnv) (G : GS) (ho : gOk E 8 0) (Gz : GS) (hf : f_X8_goOn G = some Gz) : gMet l yX8_goOn cX8_goOn 3 none 6 137 0 0 [.ref (eA E 8 0)] E G (gQv E Gz) := by
  refine g_met (by decide +kernel) (Nat.le_of_ble_eq_true rfl) ?_
  intro p e s m below meth c C H locs h ls hl
  have C : gC p s m _ meth c RX8 cX8_goOn 3 none E := C
  have hl : lv_has ls 3 [(0, .ref (eA E 8 0))] := hl
  have L2 : ∀ (n : Nat) (G : GS) (x1 : Int) (k : (GS → Int → Option (GS))) (hK : ∀ (G : GS) (x1 : Int), k G x1 = some Gz → ∀ (H : Heap) (locs : List Loc), gH E s G H locs → ∀ ls, lv_has ls 3 [(0, .ref (eA E 8 0)), (1, vI x1)] → W p l e (gRm 6 137 0 0) s m ([.ref (eA E 8 0)] : List Value).toArray below meth c H locs 0 0 (MQ below (gQv E Gz) ([.ref (eA E 8 0)] : List Value).toArray s 0 0 (eF E)) (F0 m 44 ls [])), ∀ (H : Heap) (locs : List Loc), gH E s G H locs → ∀ ls, lv_has ls 3 [(0, .ref (eA E 8 0)), (1, vI x1)] → f_X8_goOn_L2 n G x1 k = some Gz → W p l e (gRm 6 137 0 0) s m ([.ref (eA E 8 0)] : List Value).toArray below meth c H locs 0 0 (MQ below (gQv E Gz) ([.ref (eA E 8 0)] : List Value).toArray s 0 0 (eF E)) (F0 m 2 ls []) := by
    intro n
    induction n with
    | zero =>
      intro G x1 k hK H locs h ls hl hf
      exact absurd hf (by simp [f_X8_goOn_L2])
    | succ n ih =>
      intro G x1 k hK H locs h ls hl hf
      unfold f_X8_goOn_L2 at hf
      refine g_iload_n C hl 1 rfl rfl (gdec kX8_goOn 2 rfl) ?_
      refine g_bipush C (gdec kX8_goOn 3 rfl) rfl ?_
      obtain ⟨h1, hf⟩ := gd_s hf
      refine g_icmp_ge C (tgt := 44) h1 (by decide) (by decide) (gdec kX8_goOn 4 rfl) (fun c2 => ?_) (fun c2 => ?_)
      · replace hf := ifp c2 hf
        refine g_aload_n C hl 0 rfl rfl (gdec kX8_goOn 5 rfl) ?_
        refine gf_X8_19 C h ho (gdec kX8_goOn 6 rfl) ?_
        refine g_iload_n C hl 1 rfl rfl (gdec kX8_goOn 7 rfl) ?_
        refine g_iload_n C hl 1 rfl rfl (gdec kX8_goOn 8 rfl) ?_
        refine g_aload_n C hl 0 rfl rfl (gdec kX8_goOn 9 rfl) ?_
        refine gf_X8_7 C h ho (gdec kX8_goOn 10 rfl) ?_
        refine g_bipush C (gdec kX8_goOn 11 rfl) rfl ?_
        refine g_iald C h (gcl_8_0 C ho) (n := 260) rfl (by decide) (⟨by decide, by decide⟩ : (0 : Int) ≤ 8 ∧ (8 : Int) < 260) (gdec kX8_goOn 12 rfl) ?_
        obtain ⟨h3, hf⟩ := gd_s hf
        refine g_icmp_ge C (tgt := 32) h1 h3 (by decide) (gdec kX8_goOn 13 rfl) (fun c4 => ?_) (fun c4 => ?_)
        · replace hf := ifp c4 hf
          refine g_aload_n C hl 0 rfl rfl (gdec kX8_goOn 14 rfl) ?_
          refine g_iload_n C hl 1 rfl rfl (gdec kX8_goOn 15 rfl) ?_
          obtain ⟨r5, q6, hf⟩ := bn1_s hf
          refine g_ci h (g_runV C h ho (by decide) rfl (c_X8_lies l E _ _ ho _ q6) wM_X8_104 wI_X8_lies wS_X8_lies wN_X8 wC_X8_lies rfl ny_X8_lies rfl ⟨Nat.le_of_ble_eq_true rfl, Nat.le_of_ble_eq_true rfl⟩ hl.1 rfl (Nat.le_of_ble_eq_true rfl) (gdec kX8_goOn 16 rfl) ⟨Nat.zero_le _, Nat.zero_le _⟩) (fun H locs h => ?_)
          obtain ⟨h7, hf⟩ := gd_s hf
          refine g_if_ne C (tgt := 36) h7 (by decide) (gdec kX8_goOn 17 rfl) (fun c8 => ?_) (fun c8 => ?_)
          · replace hf := ifp c8 hf
            refine g_iconst C (gdec kX8_goOn 18 rfl) ?_
            refine g_goto C (tgt := 37) (by decide) (gdec kX8_goOn 19 rfl) ?_
            obtain ⟨h9, hf⟩ := ga_s hf
            refine g_zast C h (gcl_8_5 C ho) (n := 12) rfl (by decide) h9 (Or.inr rfl) (gdec kX8_goOn 21 rfl) (fun H locs h => ?_)
            refine g_iinc C (k := 1) [(1, vI (x1 + 1)), (0, .ref (eA E 8 0))] hl rfl (by decide) rfl (gdec kX8_goOn 22 rfl) (fun ls hl => ?_)
            refine g_goto C (tgt := 2) (by decide) (gdec kX8_goOn 23 rfl) ?_
            exact ih _ _ k hK H locs h ls (lv_sub hl [1, 0] rfl) hf
          · replace hf := ifn c8 hf
            refine g_iconst C (gdec kX8_goOn 20 rfl) ?_
            obtain ⟨h10, hf⟩ := ga_s hf
            refine g_zast C h (gcl_8_5 C ho) (n := 12) rfl (by decide) h10 (Or.inl rfl) (gdec kX8_goOn 21 rfl) (fun H locs h => ?_)
            refine g_iinc C (k := 1) [(1, vI (x1 + 1)), (0, .ref (eA E 8 0))] hl rfl (by decide) rfl (gdec kX8_goOn 22 rfl) (fun ls hl => ?_)
            refine g_goto C (tgt := 2) (by decide) (gdec kX8_goOn 23 rfl) ?_
            exact ih _ _ k hK H locs h ls (lv_sub hl [1, 0] rfl) hf
        · replace hf := ifn c4 hf
          refine g_iconst C (gdec kX8_goOn 18 rfl) ?_
          refine g_goto C (tgt := 37) (by decide) (gdec kX8_goOn 19 rfl) ?_
          obtain ⟨h11, hf⟩ := ga_s hf
          refine g_zast C h (gcl_8_5 C ho) (n := 12) rfl (by decide) h11 (Or.inr rfl) (gdec kX8_goOn 21 rfl) (fun H locs h => ?_)
          refine g_iinc C (k := 1) [(1, vI (x1 + 1)), (0, .ref (eA E 8 0))] hl rfl (by decide) rfl (gdec kX8_goOn 22 rfl) (fun ls hl => ?_)
          refine g_goto C (tgt := 2) (by decide) (gdec kX8_goOn 23 rfl) ?_
          exact ih _ _ k hK H locs h ls (lv_sub hl [1, 0] rfl) hf
      · replace hf := ifn c2 hf
        exact hK _ _ hf H locs h ls (lv_sub hl [0, 1] rfl)
  have L55 : ∀ (n : Nat) (G : GS) (x1 : Int) (x2 : Int) (k : (GS → Int → Int → Option (GS))) (hK : ∀ (G : GS) (x1 : Int) (x2 : Int), k G x1 x2 = some Gz → ∀ (H : Heap) (locs : List Loc), gH E s G H locs → ∀ ls, lv_has ls 3 [(0, .ref (eA E 8 0)), (1, vI x1), (2, vI x2)] → W p l e (gRm 6 137 0 0) s m ([.ref (eA E 8 0)] : List Value).toArray below meth c H locs 0 0 (MQ below (gQv E Gz) ([.ref (eA E 8 0)] : List Value).toArray s 0 0 (eF E)) (F0 m 101 ls [])), ∀ (H : Heap) (locs : List Loc), gH E s G H locs → ∀ ls, lv_has ls 3 [(0, .ref (eA E 8 0)), (1, vI x1), (2, vI x2)] → f_X8_goOn_L55 n G x1 x2 k = some Gz → W p l e (gRm 6 137 0 0) s m ([.ref (eA E 8 0)] : List Value).toArray below meth c H locs 0 0 (MQ below (gQv E Gz) ([.ref (eA E 8 0)] : List Value).toArray s 0 0 (eF E)) (F0 m 55 ls []) := by
    intro n
    induction n with
    | zero =>
      intro G x1 x2 k hK H locs h ls hl hf
      exact absurd hf (by simp [f_X8_goOn_L55])
    | succ n ih =>
      intro G x1 x2 k hK H locs h ls hl hf
      unfold f_X8_goOn_L55 at hf
      refine g_iload_n C hl 2 rfl rfl (gdec kX8_goOn 33 rfl) ?_
      refine g_aload_n C hl 0 rfl rfl (gdec kX8_goOn 34 rfl) ?_
      refine gf_X8_7 C h ho (gdec kX8_goOn 35 rfl) ?_
      refine g_bipush C (gdec kX8_goOn 36 rfl) rfl ?_
      refine g_iald C h (gcl_8_0 C ho) (n := 260) rfl (by decide) (⟨by decide, by decide⟩ : (0 : Int) ≤ 8 ∧ (8 : Int) < 260) (gdec kX8_goOn 37 rfl) ?_
      obtain ⟨h16, hf⟩ := gd_s hf
      obtain ⟨h17, hf⟩ := gd_s hf
      refine g_icmp_ge C (tgt := 101) h16 h17 (by decide) (gdec kX8_goOn 38 rfl) (fun c18 => ?_) (fun c18 => ?_)
      · replace hf := ifp c18 hf
        refine g_aload_n C hl 0 rfl rfl (gdec kX8_goOn 39 rfl) ?_
        refine gf_X8_19 C h ho (gdec kX8_goOn 40 rfl) ?_
        refine g_iload_n C hl 2 rfl rfl (gdec kX8_goOn 41 rfl) ?_
        obtain ⟨h19, hf⟩ := ga_s hf
        refine g_zald C h (gcl_8_5 C ho) (n := 12) rfl (by decide) h19 (gdec kX8_goOn 42 rfl) ?_
        obtain ⟨h20, hf⟩ := gd_s hf
        refine g_if_ne C (tgt := 93) h20 (by decide) (gdec kX8_goOn 43 rfl) (fun c21 => ?_) (fun c21 => ?_)
        · replace hf := ifp c21 hf
          refine g_iload_n C hl 1 rfl rfl (gdec kX8_goOn 44 rfl) ?_
          refine g_iconst C (gdec kX8_goOn 45 rfl) ?_
          obtain ⟨h22, hf⟩ := gd_s hf
          refine g_icmp_eq C (tgt := 89) h22 (by decide) (by decide) (gdec kX8_goOn 46 rfl) (fun c23 => ?_) (fun c23 => ?_)
          · replace hf := ifp c23 hf
            refine g_iload_n C hl 2 rfl rfl (gdec kX8_goOn 52 rfl) ?_
            refine g_goto C (tgt := 94) (by decide) (gdec kX8_goOn 53 rfl) ?_
            refine g_istore_n C [(1, vI x2), (0, .ref (eA E 8 0)), (2, vI x2)] hl rfl (by decide) rfl (gdec kX8_goOn 55 rfl) (fun ls hl => ?_)
            refine g_iinc C (k := 2) [(2, vI (x2 + 1)), (1, vI x2), (0, .ref (eA E 8 0))] hl rfl (by decide) rfl (gdec kX8_goOn 56 rfl) (fun ls hl => ?_)
            refine g_goto C (tgt := 55) (by decide) (gdec kX8_goOn 57 rfl) ?_
            exact ih _ _ _ k hK H locs h ls (lv_sub hl [2, 1, 0] rfl) hf
          · replace hf := ifn c23 hf
            refine g_aload_n C hl 0 rfl rfl (gdec kX8_goOn 47 rfl) ?_
            refine g_iload_n C hl 2 rfl rfl (gdec kX8_goOn 48 rfl) ?_
            refine g_iload_n C hl 1 rfl rfl (gdec kX8_goOn 49 rfl) ?_
            obtain ⟨r24, q25, hf⟩ := bn1_s hf
            refine g_ci h (g_runV C h ho (by decide) rfl (c_X8_isAhead l E _ _ _ ho _ q25) wM_X8_138 wI_X8_isAhead wS_X8_isAhead wN_X8 wC_X8_isAhead rfl ny_X8_isAhead rfl ⟨Nat.le_of_ble_eq_true rfl, Nat.le_of_ble_eq_true rfl⟩ hl.1 rfl (Nat.le_of_ble_eq_true rfl) (gdec kX8_goOn 50 rfl) ⟨Nat.zero_le _, Nat.zero_le _⟩) (fun H locs h => ?_)
            obtain ⟨h26, hf⟩ := gd_s hf
            refine g_if_eq C (tgt := 93) h26 (by decide) (gdec kX8_goOn 51 rfl) (fun c27 => ?_) (fun c27 => ?_)
            · replace hf := ifp c27 hf
              refine g_iload_n C hl 1 rfl rfl (gdec kX8_goOn 54 rfl) ?_
              refine g_istore_n C [(1, vI x1), (0, .ref (eA E 8 0)), (2, vI x2)] hl rfl (by decide) rfl (gdec kX8_goOn 55 rfl) (fun ls hl => ?_)
              refine g_iinc C (k := 2) [(2, vI (x2 + 1)), (1, vI x1), (0, .ref (eA E 8 0))] hl rfl (by decide) rfl (gdec kX8_goOn 56 rfl) (fun ls hl => ?_)
              refine g_goto C (tgt := 55) (by decide) (gdec kX8_goOn 57 rfl) ?_
              exact ih _ _ _ k hK H locs h ls (lv_sub hl [2, 1, 0] rfl) hf
            · replace hf := ifn c27 hf
              refine g_iload_n C hl 2 rfl rfl (gdec kX8_goOn 52 rfl) ?_
              refine g_goto C (tgt := 94) (by decide) (gdec kX8_goOn 53 rfl) ?_
              refine g_istore_n C [(1, vI x2), (0, .ref (eA E 8 0)), (2, vI x2)] hl rfl (by decide) rfl (gdec kX8_goOn 55 rfl) (fun ls hl => ?_)
              refine g_iinc C (k := 2) [(2, vI (x2 + 1)), (1, vI x2), (0, .ref (eA E 8 0))] hl rfl (by decide) rfl (gdec kX8_goOn 56 rfl) (fun ls hl => ?_)
              refine g_goto C (tgt := 55) (by decide) (gdec kX8_goOn 57 rfl) ?_
              exact ih _ _ _ k hK H locs h ls (lv_sub hl [2, 1, 0] rfl) hf
        · replace hf := ifn c21 hf
          refine g_iload_n C hl 1 rfl rfl (gdec kX8_goOn 54 rfl) ?_
          refine g_istore_n C [(1, vI x1), (0, .ref (eA E 8 0)), (2, vI x2)] hl rfl (by decide) rfl (gdec kX8_goOn 55 rfl) (fun ls hl => ?_)
          refine g_iinc C (k := 2) [(2, vI (x2 + 1)), (1, vI x1), (0, .ref (eA E 8 0))] hl rfl (by decide) rfl (gdec kX8_goOn 56 rfl) (fun ls hl => ?_)
          refine g_goto C (tgt := 55) (by decide) (gdec kX8_goOn 57 rfl) ?_
          exact ih _ _ _ k hK H locs h ls (lv_sub hl [2, 1, 0] rfl) hf
      · replace hf := ifn c18 hf
        exact hK _ _ _ hf H locs h ls (lv_sub hl [0, 1, 2] rfl)
  have L46 : ∀ (n : Nat) (G : GS) (x1 : Int) (k : (GS → Int → Option (GS))) (hK : ∀ (G : GS) (x1 : Int), k G x1 = some Gz → ∀ (H : Heap) (locs : List Loc), gH E s G H locs → ∀ ls, lv_has ls 3 [(0, .ref (eA E 8 0)), (1, vI x1)] → W p l e (gRm 6 137 0 0) s m ([.ref (eA E 8 0)] : List Value).toArray below meth c H locs 0 0 (MQ below (gQv E Gz) ([.ref (eA E 8 0)] : List Value).toArray s 0 0 (eF E)) (F0 m 121 ls [])), ∀ (H : Heap) (locs : List Loc), gH E s G H locs → ∀ ls, lv_has ls 3 [(0, .ref (eA E 8 0)), (1, vI x1)] → f_X8_goOn_L46 n G x1 k = some Gz → W p l e (gRm 6 137 0 0) s m ([.ref (eA E 8 0)] : List Value).toArray below meth c H locs 0 0 (MQ below (gQv E Gz) ([.ref (eA E 8 0)] : List Value).toArray s 0 0 (eF E)) (F0 m 46 ls []) := by
    intro n
    induction n with
    | zero =>
      intro G x1 k hK H locs h ls hl hf
      exact absurd hf (by simp [f_X8_goOn_L46])
    | succ n ih =>
      intro G x1 k hK H locs h ls hl hf
      unfold f_X8_goOn_L46 at hf
      refine g_iload_n C hl 1 rfl rfl (gdec kX8_goOn 26 rfl) ?_
      refine g_iconst C (gdec kX8_goOn 27 rfl) ?_
      obtain ⟨h14, hf⟩ := gd_s hf
      refine g_icmp_eq C (tgt := 121) h14 (by decide) (by decide) (gdec kX8_goOn 28 rfl) (fun c15 => ?_) (fun c15 => ?_)
      · replace hf := ifp c15 hf
        exact hK _ _ hf H locs h ls (lv_sub hl [0, 1] rfl)
      · replace hf := ifn c15 hf
        refine g_iconst C (gdec kX8_goOn 29 rfl) ?_
        refine g_istore_n C [(1, vI (-1)), (0, .ref (eA E 8 0))] hl rfl (by decide) rfl (gdec kX8_goOn 30 rfl) (fun ls hl => ?_)
        refine g_iconst C (gdec kX8_goOn 31 rfl) ?_
        refine g_istore_n C [(2, vI 0), (1, vI (-1)), (0, .ref (eA E 8 0))] hl rfl (by decide) rfl (gdec kX8_goOn 32 rfl) (fun ls hl => ?_)
        refine L55 gFuel _ _ _ _ (fun G29 y1_28 y2_28 hf H locs h ls hl => ?_) H locs h ls (lv_sub hl [2, 1, 0] rfl) hf
        refine g_iload_n C hl 1 rfl rfl (gdec kX8_goOn 58 rfl) ?_
        refine g_iconst C (gdec kX8_goOn 59 rfl) ?_
        obtain ⟨h30, hf⟩ := gd_s hf
        refine g_icmp_eq C (tgt := 46) h30 (by decide) (by decide) (gdec kX8_goOn_1 0 rfl) (fun c31 => ?_) (fun c31 => ?_)
        · replace hf := ifp c31 hf
          exact ih _ _ k hK H locs h ls (lv_sub hl [0, 1] rfl) hf
        · replace hf := ifn c31 hf
          refine g_aload_n C hl 0 rfl rfl (gdec kX8_goOn_1 1 rfl) ?_
          refine gf_X8_19 C h ho (gdec kX8_goOn_1 2 rfl) ?_
          refine g_iload_n C hl 1 rfl rfl (gdec kX8_goOn_1 3 rfl) ?_
          refine g_iconst C (gdec kX8_goOn_1 4 rfl) ?_
          obtain ⟨h32, hf⟩ := ga_s hf
          refine g_zast C h (gcl_8_5 C ho) (n := 12) rfl (by decide) h32 (Or.inr rfl) (gdec kX8_goOn_1 5 rfl) (fun H locs h => ?_)
          refine g_aload_n C hl 0 rfl rfl (gdec kX8_goOn_1 6 rfl) ?_
          refine g_iload_n C hl 1 rfl rfl (gdec kX8_goOn_1 7 rfl) ?_
          obtain ⟨G33, q34, hf⟩ := bn1_s hf
          refine g_cv h (g_runV C h ho (by decide) rfl (c_X8_goesOn l E _ _ ho _ q34) wM_X8_142 wI_X8_goesOn wS_X8_goesOn wN_X8 wC_X8_goesOn rfl ny_X8_goesOn rfl ⟨Nat.le_of_ble_eq_true rfl, Nat.le_of_ble_eq_true rfl⟩ hl.1 rfl (Nat.le_of_ble_eq_true rfl) (gdec kX8_goOn_1 8 rfl) ⟨Nat.zero_le _, Nat.zero_le _⟩) (fun H locs h => ?_)
          refine g_goto C (tgt := 46) (by decide) (gdec kX8_goOn_1 9 rfl) ?_
          exact ih _ _ k hK H locs h ls (lv_sub hl [0, 1] rfl) hf
  unfold f_X8_goOn at hf
  refine g_iconst C (gdec kX8_goOn 0 rfl) ?_
  refine g_istore_n C [(1, vI 0), (0, .ref (eA E 8 0))] hl rfl (by decide) rfl (gdec kX8_goOn 1 rfl) (fun ls hl => ?_)
  refine L2 gFuel _ _ _ (fun G13 y1_12 hf H locs h ls hl => ?_) H locs h ls (lv_sub hl [1, 0] rfl) hf
  refine g_iconst C (gdec kX8_goOn 24 rfl) ?_
  refine g_istore_n C [(1, vI 0), (0, .ref (eA E 8 0))] hl rfl (by decide) rfl (gdec kX8_goOn 25 rfl) (fun ls hl => ?_)
  refine L46 gFuel _ _ _ (fun G36 y1_35 hf H locs h ls hl => ?_) H locs h ls (lv_sub hl [1, 0] rfl) hf
  exact g_vret C h hf (gdec kX8_goOn_1 10 rfl)
def f_X8_lettersAt_L4 (G : GS) (p1 : Int) : Nat → Int → Int → (Int → Int → Option (Int)) → Option (Int)
  | 0, _, _, _ => none
  | n + 1, x2, x3, k => gd x3 (gd (G 10 0 8) (if x3 < (G 10 0 8) then bn1 (f_X8_lies G x3) (fun r4 => gd r4 (if r4 = 0 then f_X8_lettersAt_L4 G p1 n (x2 + 0) (x3 + 1) k else bn1 (f_X8_ofLetter G x3 4) (fun r8 => gd r8 (gd p1 (if r8 = p1 then f_X8_lettersAt_L4 G p1 n (x2 + 1) (x3 + 1) k else f_X8_lettersAt_L4 G p1 n (x2 + 0) (x3 + 1) k))))) else k x2 x3))
def f_X8_lettersAt (G : GS) (p1 : Int) : Option (Int) :=
  f_X8_lettersAt_L4 G p1 gFuel 0 0 (fun y2_13 y3_13 => some y2_13)
set_option maxHeartbeats 4000000 in
set_option maxRecDepth 100000 in
theorem c_X8_lettersAt (l : Launch) (E : gEnv) (G : GS) (p1 : Int) (ho : gOk E 8 0) (rz : Int) (hf : f_X8_lettersAt G p1 = some rz) : gMet l yX8_lettersAt cX8_lettersAt 4 (some .int) 4 85 0 0 [.ref (eA E 8 0), vI p1] E G (gQi E G rz) := by
  refine g_met (by decide +kernel) (Nat.le_of_ble_eq_true rfl) ?_
  intro p e s m below meth c C H locs h ls hl
  have C : gC p s m _ meth c RX8 cX8_lettersAt 4 (some .int) E := C
  have hl : lv_has ls 4 [(0, .ref (eA E 8 0)), (1, vI p1)] := hl
  have L4 : ∀ (n : Nat) (x2 : Int) (x3 : Int) (k : (Int → Int → Option (Int))) (hK : ∀ (x2 : Int) (x3 : Int), k x2 x3 = some rz → ∀ (H : Heap) (locs : List Loc), gH E s G H locs → ∀ ls, lv_has ls 4 [(0, .ref (eA E 8 0)), (1, vI p1), (2, vI x2), (3, vI x3)] → W p l e (gRm 4 85 0 0) s m ([.ref (eA E 8 0), vI p1] : List Value).toArray below meth c H locs 0 0 (MQ below (gQi E G rz) ([.ref (eA E 8 0), vI p1] : List Value).toArray s 0 0 (eF E)) (F0 m 47 ls [])), ∀ (H : Heap) (locs : List Loc), gH E s G H locs → ∀ ls, lv_has ls 4 [(0, .ref (eA E 8 0)), (1, vI p1), (2, vI x2), (3, vI x3)] → f_X8_lettersAt_L4 G p1 n x2 x3 k = some rz → W p l e (gRm 4 85 0 0) s m ([.ref (eA E 8 0), vI p1] : List Value).toArray below meth c H locs 0 0 (MQ below (gQi E G rz) ([.ref (eA E 8 0), vI p1] : List Value).toArray s 0 0 (eF E)) (F0 m 4 ls []) := by
    intro n
    induction n with
    | zero =>
      intro x2 x3 k hK H locs h ls hl hf
      exact absurd hf (by simp [f_X8_lettersAt_L4])
    | succ n ih =>
      intro x2 x3 k hK H locs h ls hl hf
      unfold f_X8_lettersAt_L4 at hf
      refine g_iload_n C hl 3 rfl rfl (gdec kX8_lettersAt 4 rfl) ?_
      refine g_aload_n C hl 0 rfl rfl (gdec kX8_lettersAt 5 rfl) ?_
      refine gf_X8_7 C h ho (gdec kX8_lettersAt 6 rfl) ?_
      refine g_bipush C (gdec kX8_lettersAt 7 rfl) rfl ?_
      refine g_iald C h (gcl_8_0 C ho) (n := 260) rfl (by decide) (⟨by decide, by decide⟩ : (0 : Int) ≤ 8 ∧ (8 : Int) < 260) (gdec kX8_lettersAt 8 rfl) ?_
      obtain ⟨h1, hf⟩ := gd_s hf
      obtain ⟨h2, hf⟩ := gd_s hf
      refine g_icmp_ge C (tgt := 47) h1 h2 (by decide) (gdec kX8_lettersAt 9 rfl) (fun c3 => ?_) (fun c3 => ?_)
      · replace hf := ifp c3 hf
        refine g_iload_n C hl 2 rfl rfl (gdec kX8_lettersAt 10 rfl) ?_
        refine g_aload_n C hl 0 rfl rfl (gdec kX8_lettersAt 11 rfl) ?_
        refine g_iload_n C hl 3 rfl rfl (gdec kX8_lettersAt 12 rfl) ?_
        obtain ⟨r4, q5, hf⟩ := bn1_s hf
        refine g_ci h (g_runV C h ho (by decide) rfl (c_X8_lies l E _ _ ho _ q5) wM_X8_104 wI_X8_lies wS_X8_lies wN_X8 wC_X8_lies rfl ny_X8_lies rfl ⟨Nat.le_of_ble_eq_true rfl, Nat.le_of_ble_eq_true rfl⟩ hl.1 rfl (Nat.le_of_ble_eq_true rfl) (gdec kX8_lettersAt 13 rfl) ⟨Nat.zero_le _, Nat.zero_le _⟩) (fun H locs h => ?_)
        obtain ⟨h6, hf⟩ := gd_s hf
        refine g_if_eq C (tgt := 38) h6 (by decide) (gdec kX8_lettersAt 14 rfl) (fun c7 => ?_) (fun c7 => ?_)
        · replace hf := ifp c7 hf
          refine g_iconst C (gdec kX8_lettersAt 23 rfl) ?_
          refine g_iadd C (gdec kX8_lettersAt 24 rfl) ?_
          refine g_istore_n C [(2, vI (x2 + 0)), (0, .ref (eA E 8 0)), (1, vI p1), (3, vI x3)] hl rfl (by decide) rfl (gdec kX8_lettersAt 25 rfl) (fun ls hl => ?_)
          refine g_iinc C (k := 3) [(3, vI (x3 + 1)), (2, vI (x2 + 0)), (0, .ref (eA E 8 0)), (1, vI p1)] hl rfl (by decide) rfl (gdec kX8_lettersAt 26 rfl) (fun ls hl => ?_)
          refine g_goto C (tgt := 4) (by decide) (gdec kX8_lettersAt 27 rfl) ?_
          exact ih _ _ k hK H locs h ls (lv_sub hl [2, 3, 1, 0] rfl) hf
        · replace hf := ifn c7 hf
          refine g_aload_n C hl 0 rfl rfl (gdec kX8_lettersAt 15 rfl) ?_
          refine g_iload_n C hl 3 rfl rfl (gdec kX8_lettersAt 16 rfl) ?_
          refine g_iconst C (gdec kX8_lettersAt 17 rfl) ?_
          obtain ⟨r8, q9, hf⟩ := bn1_s hf
          refine g_ci h (g_runV C h ho (by decide) rfl (c_X8_ofLetter l E _ _ _ ho _ q9) wM_X8_92 wI_X8_ofLetter wS_X8_ofLetter wN_X8 wC_X8_ofLetter rfl ny_X8_ofLetter rfl ⟨Nat.le_of_ble_eq_true rfl, Nat.le_of_ble_eq_true rfl⟩ hl.1 rfl (Nat.le_of_ble_eq_true rfl) (gdec kX8_lettersAt 18 rfl) ⟨Nat.zero_le _, Nat.zero_le _⟩) (fun H locs h => ?_)
          refine g_iload_n C hl 1 rfl rfl (gdec kX8_lettersAt 19 rfl) ?_
          obtain ⟨h10, hf⟩ := gd_s hf
          obtain ⟨h11, hf⟩ := gd_s hf
          refine g_icmp_ne C (tgt := 38) h10 h11 (by decide) (gdec kX8_lettersAt 20 rfl) (fun c12 => ?_) (fun c12 => ?_)
          · replace hf := ifp c12 hf
            refine g_iconst C (gdec kX8_lettersAt 21 rfl) ?_
            refine g_goto C (tgt := 39) (by decide) (gdec kX8_lettersAt 22 rfl) ?_
            refine g_iadd C (gdec kX8_lettersAt 24 rfl) ?_
            refine g_istore_n C [(2, vI (x2 + 1)), (0, .ref (eA E 8 0)), (1, vI p1), (3, vI x3)] hl rfl (by decide) rfl (gdec kX8_lettersAt 25 rfl) (fun ls hl => ?_)
            refine g_iinc C (k := 3) [(3, vI (x3 + 1)), (2, vI (x2 + 1)), (0, .ref (eA E 8 0)), (1, vI p1)] hl rfl (by decide) rfl (gdec kX8_lettersAt 26 rfl) (fun ls hl => ?_)
            refine g_goto C (tgt := 4) (by decide) (gdec kX8_lettersAt 27 rfl) ?_
            exact ih _ _ k hK H locs h ls (lv_sub hl [2, 3, 1, 0] rfl) hf
          · replace hf := ifn c12 hf
            refine g_iconst C (gdec kX8_lettersAt 23 rfl) ?_
            refine g_iadd C (gdec kX8_lettersAt 24 rfl) ?_
            refine g_istore_n C [(2, vI (x2 + 0)), (0, .ref (eA E 8 0)), (1, vI p1), (3, vI x3)] hl rfl (by decide) rfl (gdec kX8_lettersAt 25 rfl) (fun ls hl => ?_)
            refine g_iinc C (k := 3) [(3, vI (x3 + 1)), (2, vI (x2 + 0)), (0, .ref (eA E 8 0)), (1, vI p1)] hl rfl (by decide) rfl (gdec kX8_lettersAt 26 rfl) (fun ls hl => ?_)
            refine g_goto C (tgt := 4) (by decide) (gdec kX8_lettersAt 27 rfl) ?_
            exact ih _ _ k hK H locs h ls (lv_sub hl [2, 3, 1, 0] rfl) hf
      · replace hf := ifn c3 hf
        exact hK _ _ hf H locs h ls (lv_sub hl [0, 1, 2, 3] rfl)
  unfold f_X8_lettersAt at hf
  refine g_iconst C (gdec kX8_lettersAt 0 rfl) ?_
  refine g_istore_n C [(2, vI 0), (0, .ref (eA E 8 0)), (1, vI p1)] hl rfl (by decide) rfl (gdec kX8_lettersAt 1 rfl) (fun ls hl => ?_)
  refine g_iconst C (gdec kX8_lettersAt 2 rfl) ?_
  refine g_istore_n C [(3, vI 0), (2, vI 0), (0, .ref (eA E 8 0)), (1, vI p1)] hl rfl (by decide) rfl (gdec kX8_lettersAt 3 rfl) (fun ls hl => ?_)
  refine L4 gFuel _ _ _ (fun y2_13 y3_13 hf H locs h ls hl => ?_) H locs h ls (lv_sub hl [2, 3, 1, 0] rfl) hf
  refine g_iload_n C hl 2 rfl rfl (gdec kX8_lettersAt 28 rfl) ?_
  exact g_iret C h (congrArg (Option.map (Prod.mk _)) hf) (gdec kX8_lettersAt 29 rfl)
def f_X8_walkBack_L2 : Nat → GS → Int → (GS → Int → Option (GS)) → Option (GS)
  | 0, _, _, _ => none
  | n + 1, G, x1, k => gd x1 (gd (G 10 0 7) (if x1 < (G 10 0 7) then bn1 (f_X8_of G x1 2) (fun r4 => bn1 (f_X8_of G x1 3) (fun r6 => gd r6 (if r6 = 0 then bn1 (f_X8_of G x1 0) (fun r10 => gd r4 (gd r10 (if r4 = r10 then f_X8_walkBack_L2 n G (x1 + 1) k else bn1 (f_X8_of G x1 1) (fun r15 => gd r15 (if r15 = 0 then bn1 (f_X8_lettersAt G r4) (fun r19 => gd r19 (if r19 = 0 then bn1 (f_X8_of G x1 0) (fun r23 => bn1 (f_X8_toward G r4 r23) (fun r25 => bn1 (f_X8_between G r4 r25) (fun r27 => bn1 (f_X8_isBlocked G r27) (fun r29 => gd r29 (if r29 = 0 then bn1 (f_X8_freeBeds G r25) (fun r33 => gd r33 (if 0 < r33 then bn1 (f_X8_hoursOf G r27) (fun r37 => bn1 (f_X8_leaves G x1 r25 (2 * r37)) (fun G39 => bn1 (f_X8_teamAt G39 x1 5) (fun r41 => ga r41 260 (f_X8_walkBack_L2 n (gup G39 10 0 r41 1) (x1 + 1) k)))) else f_X8_walkBack_L2 n G (x1 + 1) k)) else f_X8_walkBack_L2 n G (x1 + 1) k))))) else f_X8_walkBack_L2 n G (x1 + 1) k)) else f_X8_walkBack_L2 n G (x1 + 1) k))))) else f_X8_walkBack_L2 n G (x1 + 1) k))) else k G x1))
def f_X8_walkBack (G : GS) : Option (GS) :=
  f_X8_walkBack_L2 gFuel G 0 (fun G45 y1_44 => some G45)
set_option maxHeartbeats 4000000 in
set_option maxRecDepth 100000 in
theorem c_X8_walkBack (l : Launch) (E : gEnv) (G : GS) (ho : gOk E 8 0) (Gz : GS) (hf : f_X8_walkBack G = some Gz) : gMet l yX8_walkBack cX8_walkBack 5 none 5 108 0 0 [.ref (eA E 8 0)] E G (gQv E Gz) := by
  refine g_met (by decide +kernel) (Nat.le_of_ble_eq_true rfl) ?_
  intro p e s m below meth c C H locs h ls hl
  have C : gC p s m _ meth c RX8 cX8_walkBack 5 none E := C
  have hl : lv_has ls 5 [(0, .ref (eA E 8 0))] := hl
  have L2 : ∀ (n : Nat) (G : GS) (x1 : Int) (k : (GS → Int → Option (GS))) (hK : ∀ (G : GS) (x1 : Int), k G x1 = some Gz → ∀ (H : Heap) (locs : List Loc), gH E s G H locs → ∀ ls, lv_has ls 5 [(0, .ref (eA E 8 0)), (1, vI x1)] → W p l e (gRm 5 108 0 0) s m ([.ref (eA E 8 0)] : List Value).toArray below meth c H locs 0 0 (MQ below (gQv E Gz) ([.ref (eA E 8 0)] : List Value).toArray s 0 0 (eF E)) (F0 m 122 ls [])), ∀ (H : Heap) (locs : List Loc), gH E s G H locs → ∀ ls, lv_has ls 5 [(0, .ref (eA E 8 0)), (1, vI x1)] → f_X8_walkBack_L2 n G x1 k = some Gz → W p l e (gRm 5 108 0 0) s m ([.ref (eA E 8 0)] : List Value).toArray below meth c H locs 0 0 (MQ below (gQv E Gz) ([.ref (eA E 8 0)] : List Value).toArray s 0 0 (eF E)) (F0 m 2 ls []) := by
    intro n
    induction n with
    | zero =>
      intro G x1 k hK H locs h ls hl hf
      exact absurd hf (by simp [f_X8_walkBack_L2])
    | succ n ih =>
      intro G x1 k hK H locs h ls hl hf
      unfold f_X8_walkBack_L2 at hf
      refine g_iload_n C hl 1 rfl rfl (gdec kX8_walkBack 2 rfl) ?_
      refine g_aload_n C hl 0 rfl rfl (gdec kX8_walkBack 3 rfl) ?_
      refine gf_X8_7 C h ho (gdec kX8_walkBack 4 rfl) ?_
      refine g_bipush C (gdec kX8_walkBack 5 rfl) rfl ?_
      refine g_iald C h (gcl_8_0 C ho) (n := 260) rfl (by decide) (⟨by decide, by decide⟩ : (0 : Int) ≤ 7 ∧ (7 : Int) < 260) (gdec kX8_walkBack 6 rfl) ?_
      obtain ⟨h1, hf⟩ := gd_s hf
      obtain ⟨h2, hf⟩ := gd_s hf
      refine g_icmp_ge C (tgt := 122) h1 h2 (by decide) (gdec kX8_walkBack 7 rfl) (fun c3 => ?_) (fun c3 => ?_)
      · replace hf := ifp c3 hf
        refine g_aload_n C hl 0 rfl rfl (gdec kX8_walkBack 8 rfl) ?_
        refine g_iload_n C hl 1 rfl rfl (gdec kX8_walkBack 9 rfl) ?_
        refine g_iconst C (gdec kX8_walkBack 10 rfl) ?_
        obtain ⟨r4, q5, hf⟩ := bn1_s hf
        refine g_ci h (g_runV C h ho (by decide) rfl (c_X8_of l E _ _ _ ho _ q5) wM_X8_98 wI_X8_of wS_X8_of wN_X8 wC_X8_of rfl ny_X8_of rfl ⟨Nat.le_of_ble_eq_true rfl, Nat.le_of_ble_eq_true rfl⟩ hl.1 rfl (Nat.le_of_ble_eq_true rfl) (gdec kX8_walkBack 11 rfl) ⟨Nat.zero_le _, Nat.zero_le _⟩) (fun H locs h => ?_)
        refine g_istore_n C [(2, vI r4), (0, .ref (eA E 8 0)), (1, vI x1)] hl rfl (by decide) rfl (gdec kX8_walkBack 12 rfl) (fun ls hl => ?_)
        refine g_aload_n C hl 1 rfl rfl (gdec kX8_walkBack 13 rfl) ?_
        refine g_iload_n C hl 2 rfl rfl (gdec kX8_walkBack 14 rfl) ?_
        refine g_iconst C (gdec kX8_walkBack 15 rfl) ?_
        obtain ⟨r6, q7, hf⟩ := bn1_s hf
        refine g_ci h (g_runV C h ho (by decide) rfl (c_X8_of l E _ _ _ ho _ q7) wM_X8_98 wI_X8_of wS_X8_of wN_X8 wC_X8_of rfl ny_X8_of rfl ⟨Nat.le_of_ble_eq_true rfl, Nat.le_of_ble_eq_true rfl⟩ hl.1 rfl (Nat.le_of_ble_eq_true rfl) (gdec kX8_walkBack 16 rfl) ⟨Nat.zero_le _, Nat.zero_le _⟩) (fun H locs h => ?_)
        obtain ⟨h8, hf⟩ := gd_s hf
        refine g_if_ne C (tgt := 116) h8 (by decide) (gdec kX8_walkBack 17 rfl) (fun c9 => ?_) (fun c9 => ?_)
        · replace hf := ifp c9 hf
          refine g_iload_n C hl 0 rfl rfl (gdec kX8_walkBack 18 rfl) ?_
          refine g_aload_n C hl 1 rfl rfl (gdec kX8_walkBack 19 rfl) ?_
          refine g_iload_n C hl 2 rfl rfl (gdec kX8_walkBack 20 rfl) ?_
          refine g_iconst C (gdec kX8_walkBack 21 rfl) ?_
          obtain ⟨r10, q11, hf⟩ := bn1_s hf
          refine g_ci h (g_runV C h ho (by decide) rfl (c_X8_of l E _ _ _ ho _ q11) wM_X8_98 wI_X8_of wS_X8_of wN_X8 wC_X8_of rfl ny_X8_of rfl ⟨Nat.le_of_ble_eq_true rfl, Nat.le_of_ble_eq_true rfl⟩ hl.1 rfl (Nat.le_of_ble_eq_true rfl) (gdec kX8_walkBack 22 rfl) ⟨Nat.zero_le _, Nat.zero_le _⟩) (fun H locs h => ?_)
          obtain ⟨h12, hf⟩ := gd_s hf
          obtain ⟨h13, hf⟩ := gd_s hf
          refine g_icmp_eq C (tgt := 116) h12 h13 (by decide) (gdec kX8_walkBack 23 rfl) (fun c14 => ?_) (fun c14 => ?_)
          · replace hf := ifp c14 hf
            refine g_iinc C (k := 2) [(1, vI (x1 + 1)), (2, vI r4), (0, .ref (eA E 8 0))] hl rfl (by decide) rfl (gdec kX8_walkBack_1 8 rfl) (fun ls hl => ?_)
            refine g_goto C (tgt := 2) (by decide) (gdec kX8_walkBack_1 9 rfl) ?_
            exact ih _ _ k hK H locs h ls (lv_sub hl [2, 0] rfl) hf
          · replace hf := ifn c14 hf
            refine g_aload_n C hl 1 rfl rfl (gdec kX8_walkBack 24 rfl) ?_
            refine g_iload_n C hl 2 rfl rfl (gdec kX8_walkBack 25 rfl) ?_
            refine g_iconst C (gdec kX8_walkBack 26 rfl) ?_
            obtain ⟨r15, q16, hf⟩ := bn1_s hf
            refine g_ci h (g_runV C h ho (by decide) rfl (c_X8_of l E _ _ _ ho _ q16) wM_X8_98 wI_X8_of wS_X8_of wN_X8 wC_X8_of rfl ny_X8_of rfl ⟨Nat.le_of_ble_eq_true rfl, Nat.le_of_ble_eq_true rfl⟩ hl.1 rfl (Nat.le_of_ble_eq_true rfl) (gdec kX8_walkBack 27 rfl) ⟨Nat.zero_le _, Nat.zero_le _⟩) (fun H locs h => ?_)
            obtain ⟨h17, hf⟩ := gd_s hf
            refine g_if_ne C (tgt := 116) h17 (by decide) (gdec kX8_walkBack 28 rfl) (fun c18 => ?_) (fun c18 => ?_)
            · replace hf := ifp c18 hf
              refine g_aload_n C hl 1 rfl rfl (gdec kX8_walkBack 29 rfl) ?_
              refine g_iload_n C hl 0 rfl rfl (gdec kX8_walkBack 30 rfl) ?_
              obtain ⟨r19, q20, hf⟩ := bn1_s hf
              refine g_ci h (g_runV C h ho (by decide) rfl (c_X8_lettersAt l E _ _ ho _ q20) wM_X8_145 wI_X8_lettersAt wS_X8_lettersAt wN_X8 wC_X8_lettersAt rfl ny_X8_lettersAt rfl ⟨Nat.le_of_ble_eq_true rfl, Nat.le_of_ble_eq_true rfl⟩ hl.1 rfl (Nat.le_of_ble_eq_true rfl) (gdec kX8_walkBack 31 rfl) ⟨Nat.zero_le _, Nat.zero_le _⟩) (fun H locs h => ?_)
              obtain ⟨h21, hf⟩ := gd_s hf
              refine g_if_ne C (tgt := 116) h21 (by decide) (gdec kX8_walkBack 32 rfl) (fun c22 => ?_) (fun c22 => ?_)
              · replace hf := ifp c22 hf
                refine g_iload_n C hl 0 rfl rfl (gdec kX8_walkBack 33 rfl) ?_
                refine g_aload_n C hl 1 rfl rfl (gdec kX8_walkBack 34 rfl) ?_
                refine g_iload_n C hl 2 rfl rfl (gdec kX8_walkBack 35 rfl) ?_
                refine g_iconst C (gdec kX8_walkBack 36 rfl) ?_
                obtain ⟨r23, q24, hf⟩ := bn1_s hf
                refine g_ci h (g_runV C h ho (by decide) rfl (c_X8_of l E _ _ _ ho _ q24) wM_X8_98 wI_X8_of wS_X8_of wN_X8 wC_X8_of rfl ny_X8_of rfl ⟨Nat.le_of_ble_eq_true rfl, Nat.le_of_ble_eq_true rfl⟩ hl.1 rfl (Nat.le_of_ble_eq_true rfl) (gdec kX8_walkBack 37 rfl) ⟨Nat.zero_le _, Nat.zero_le _⟩) (fun H locs h => ?_)
                obtain ⟨r25, q26, hf⟩ := bn1_s hf
                refine g_ci h (g_runS C h (c_X8_toward l E _ _ _ _ q26) wM_X8_116 wT_X8_toward wN_X8 wC_X8_toward rfl ny_X8_toward rfl ⟨Nat.le_of_ble_eq_true rfl, Nat.le_of_ble_eq_true rfl⟩ hl.1 rfl (Nat.le_of_ble_eq_true rfl) (gdec kX8_walkBack 38 rfl) ⟨Nat.zero_le _, Nat.zero_le _⟩) (fun H locs h => ?_)
                refine g_istore_n C [(3, vI r25), (2, vI r4), (0, .ref (eA E 8 0)), (1, vI x1)] hl rfl (by decide) rfl (gdec kX8_walkBack 39 rfl) (fun ls hl => ?_)
                refine g_iload_n C hl 1 rfl rfl (gdec kX8_walkBack 40 rfl) ?_
                refine g_iload_n C hl 0 rfl rfl (gdec kX8_walkBack 41 rfl) ?_
                obtain ⟨r27, q28, hf⟩ := bn1_s hf
                refine g_ci h (g_runS C h (c_X8_between l E _ _ _ _ q28) wM_X8_53 wT_X8_between wN_X8 wC_X8_between rfl ny_X8_between rfl ⟨Nat.le_of_ble_eq_true rfl, Nat.le_of_ble_eq_true rfl⟩ hl.1 rfl (Nat.le_of_ble_eq_true rfl) (gdec kX8_walkBack 42 rfl) ⟨Nat.zero_le _, Nat.zero_le _⟩) (fun H locs h => ?_)
                refine g_istore C [(4, vI r27), (3, vI r25), (2, vI r4), (0, .ref (eA E 8 0)), (1, vI x1)] hl (by decide) rfl (gdec kX8_walkBack 43 rfl) (fun ls hl => ?_)
                refine g_aload_n C hl 3 rfl rfl (gdec kX8_walkBack 44 rfl) ?_
                refine g_iload C hl 0 rfl (gdec kX8_walkBack 45 rfl) ?_
                obtain ⟨r29, q30, hf⟩ := bn1_s hf
                refine g_ci h (g_runV C h ho (by decide) rfl (c_X8_isBlocked l E _ _ ho _ q30) wM_X8_119 wI_X8_isBlocked wS_X8_isBlocked wN_X8 wC_X8_isBlocked rfl ny_X8_isBlocked rfl ⟨Nat.le_of_ble_eq_true rfl, Nat.le_of_ble_eq_true rfl⟩ hl.1 rfl (Nat.le_of_ble_eq_true rfl) (gdec kX8_walkBack 46 rfl) ⟨Nat.zero_le _, Nat.zero_le _⟩) (fun H locs h => ?_)
                obtain ⟨h31, hf⟩ := gd_s hf
                refine g_if_ne C (tgt := 116) h31 (by decide) (gdec kX8_walkBack 47 rfl) (fun c32 => ?_) (fun c32 => ?_)
                · replace hf := ifp c32 hf
                  refine g_aload_n C hl 3 rfl rfl (gdec kX8_walkBack 48 rfl) ?_
                  refine g_iload_n C hl 1 rfl rfl (gdec kX8_walkBack 49 rfl) ?_
                  obtain ⟨r33, q34, hf⟩ := bn1_s hf
                  refine g_ci h (g_runV C h ho (by decide) rfl (c_X8_freeBeds l E _ _ ho _ q34) wM_X8_125 wI_X8_freeBeds wS_X8_freeBeds wN_X8 wC_X8_freeBeds rfl ny_X8_freeBeds rfl ⟨Nat.le_of_ble_eq_true rfl, Nat.le_of_ble_eq_true rfl⟩ hl.1 rfl (Nat.le_of_ble_eq_true rfl) (gdec kX8_walkBack 50 rfl) ⟨Nat.zero_le _, Nat.zero_le _⟩) (fun H locs h => ?_)
                  obtain ⟨h35, hf⟩ := gd_s hf
                  refine g_if_le C (tgt := 116) h35 (by decide) (gdec kX8_walkBack 51 rfl) (fun c36 => ?_) (fun c36 => ?_)
                  · replace hf := ifp c36 hf
                    refine g_aload_n C hl 3 rfl rfl (gdec kX8_walkBack 52 rfl) ?_
                    refine g_iload_n C hl 4 rfl rfl (gdec kX8_walkBack 53 rfl) ?_
                    refine g_iload_n C hl 1 rfl rfl (gdec kX8_walkBack 54 rfl) ?_
                    refine g_iconst C (gdec kX8_walkBack 55 rfl) ?_
                    refine g_aload_n C hl 3 rfl rfl (gdec kX8_walkBack 56 rfl) ?_
                    refine g_iload C hl 0 rfl (gdec kX8_walkBack 57 rfl) ?_
                    obtain ⟨r37, q38, hf⟩ := bn1_s hf
                    refine g_ci h (g_runV C h ho (by decide) rfl (c_X8_hoursOf l E _ _ ho _ q38) wM_X8_56 wI_X8_hoursOf wS_X8_hoursOf wN_X8 wC_X8_hoursOf rfl ny_X8_hoursOf rfl ⟨Nat.le_of_ble_eq_true rfl, Nat.le_of_ble_eq_true rfl⟩ hl.1 rfl (Nat.le_of_ble_eq_true rfl) (gdec kX8_walkBack 58 rfl) ⟨Nat.zero_le _, Nat.zero_le _⟩) (fun H locs h => ?_)
                    refine g_imul C (gdec kX8_walkBack 59 rfl) ?_
                    obtain ⟨G39, q40, hf⟩ := bn1_s hf
                    refine g_cv h (g_runV C h ho (by decide) rfl (c_X8_leaves l E _ _ _ _ ho _ q40) wM_X8_134 wI_X8_leaves wS_X8_leaves wN_X8 wC_X8_leaves rfl ny_X8_leaves rfl ⟨Nat.le_of_ble_eq_true rfl, Nat.le_of_ble_eq_true rfl⟩ hl.1 rfl (Nat.le_of_ble_eq_true rfl) (gdec kX8_walkBack_1 0 rfl) ⟨Nat.zero_le _, Nat.zero_le _⟩) (fun H locs h => ?_)
                    refine g_aload_n C hl 3 rfl rfl (gdec kX8_walkBack_1 1 rfl) ?_
                    refine gf_X8_7 C h ho (gdec kX8_walkBack_1 2 rfl) ?_
                    refine g_iload_n C hl 4 rfl rfl (gdec kX8_walkBack_1 3 rfl) ?_
                    refine g_iconst C (gdec kX8_walkBack_1 4 rfl) ?_
                    obtain ⟨r41, q42, hf⟩ := bn1_s hf
                    refine g_ci h (g_runS C h (c_X8_teamAt l E _ _ _ _ q42) wM_X8_46 wT_X8_teamAt wN_X8 wC_X8_teamAt rfl ny_X8_teamAt rfl ⟨Nat.le_of_ble_eq_true rfl, Nat.le_of_ble_eq_true rfl⟩ hl.1 rfl (Nat.le_of_ble_eq_true rfl) (gdec kX8_walkBack_1 5 rfl) ⟨Nat.zero_le _, Nat.zero_le _⟩) (fun H locs h => ?_)
                    refine g_iconst C (gdec kX8_walkBack_1 6 rfl) ?_
                    obtain ⟨h43, hf⟩ := ga_s hf
                    refine g_iast C h (gcl_8_0 C ho) (n := 260) rfl (by decide) h43 (gdec kX8_walkBack_1 7 rfl) (fun H locs h => ?_)
                    refine g_iinc C (k := 4) [(1, vI (x1 + 1)), (4, vI r27), (3, vI r25), (2, vI r4), (0, .ref (eA E 8 0))] hl rfl (by decide) rfl (gdec kX8_walkBack_1 8 rfl) (fun ls hl => ?_)
                    refine g_goto C (tgt := 2) (by decide) (gdec kX8_walkBack_1 9 rfl) ?_
                    exact ih _ _ k hK H locs h ls (lv_sub hl [4, 0] rfl) hf
                  · replace hf := ifn c36 hf
                    refine g_iinc C (k := 4) [(1, vI (x1 + 1)), (4, vI r27), (3, vI r25), (2, vI r4), (0, .ref (eA E 8 0))] hl rfl (by decide) rfl (gdec kX8_walkBack_1 8 rfl) (fun ls hl => ?_)
                    refine g_goto C (tgt := 2) (by decide) (gdec kX8_walkBack_1 9 rfl) ?_
                    exact ih _ _ k hK H locs h ls (lv_sub hl [4, 0] rfl) hf
                · replace hf := ifn c32 hf
                  refine g_iinc C (k := 4) [(1, vI (x1 + 1)), (4, vI r27), (3, vI r25), (2, vI r4), (0, .ref (eA E 8 0))] hl rfl (by decide) rfl (gdec kX8_walkBack_1 8 rfl) (fun ls hl => ?_)
                  refine g_goto C (tgt := 2) (by decide) (gdec kX8_walkBack_1 9 rfl) ?_
                  exact ih _ _ k hK H locs h ls (lv_sub hl [4, 0] rfl) hf
              · replace hf := ifn c22 hf
                refine g_iinc C (k := 2) [(1, vI (x1 + 1)), (2, vI r4), (0, .ref (eA E 8 0))] hl rfl (by decide) rfl (gdec kX8_walkBack_1 8 rfl) (fun ls hl => ?_)
                refine g_goto C (tgt := 2) (by decide) (gdec kX8_walkBack_1 9 rfl) ?_
                exact ih _ _ k hK H locs h ls (lv_sub hl [2, 0] rfl) hf
            · replace hf := ifn c18 hf
              refine g_iinc C (k := 2) [(1, vI (x1 + 1)), (2, vI r4), (0, .ref (eA E 8 0))] hl rfl (by decide) rfl (gdec kX8_walkBack_1 8 rfl) (fun ls hl => ?_)
              refine g_goto C (tgt := 2) (by decide) (gdec kX8_walkBack_1 9 rfl) ?_
              exact ih _ _ k hK H locs h ls (lv_sub hl [2, 0] rfl) hf
        · replace hf := ifn c9 hf
          refine g_iinc C (k := 2) [(1, vI (x1 + 1)), (2, vI r4), (0, .ref (eA E 8 0))] hl rfl (by decide) rfl (gdec kX8_walkBack_1 8 rfl) (fun ls hl => ?_)
          refine g_goto C (tgt := 2) (by decide) (gdec kX8_walkBack_1 9 rfl) ?_
          exact ih _ _ k hK H locs h ls (lv_sub hl [2, 0] rfl) hf
      · replace hf := ifn c3 hf
        exact hK _ _ hf H locs h ls (lv_sub hl [0, 1] rfl)
  unfold f_X8_walkBack at hf
  refine g_iconst C (gdec kX8_walkBack 0 rfl) ?_
  refine g_istore_n C [(1, vI 0), (0, .ref (eA E 8 0))] hl rfl (by decide) rfl (gdec kX8_walkBack 1 rfl) (fun ls hl => ?_)
  refine L2 gFuel _ _ _ (fun G45 y1_44 hf H locs h ls hl => ?_) H locs h ls (lv_sub hl [1, 0] rfl) hf
  exact g_vret C h hf (gdec kX8_walkBack_1 10 rfl)
def f_X8_hour (G : GS) : Option (GS) :=
  bn1 (f_X8_rests G) (fun G1 => bn1 (f_X8_roads G1) (fun G3 => bn1 (f_X8_goOn G3) (fun G5 => bn1 (f_X8_walkBack G5) (fun G7 => some (gup G7 10 0 1 ((G7 10 0 1) + 1))))))
set_option maxHeartbeats 4000000 in
set_option maxRecDepth 100000 in
theorem c_X8_hour (l : Launch) (E : gEnv) (G : GS) (ho : gOk E 8 0) (Gz : GS) (hf : f_X8_hour G = some Gz) : gMet l yX8_hour cX8_hour 1 none 7 159 0 0 [.ref (eA E 8 0)] E G (gQv E Gz) := by
  refine g_met (by decide +kernel) (Nat.le_of_ble_eq_true rfl) ?_
  intro p e s m below meth c C H locs h ls hl
  have C : gC p s m _ meth c RX8 cX8_hour 1 none E := C
  have hl : lv_has ls 1 [(0, .ref (eA E 8 0))] := hl
  unfold f_X8_hour at hf
  refine g_aload_n C hl 0 rfl rfl (gdec kX8_hour 0 rfl) ?_
  obtain ⟨G1, q2, hf⟩ := bn1_s hf
  refine g_cv h (g_runV C h ho (by decide) rfl (c_X8_rests l E _ ho _ q2) wM_X8_148 wI_X8_rests wS_X8_rests wN_X8 wC_X8_rests rfl ny_X8_rests rfl ⟨Nat.le_of_ble_eq_true rfl, Nat.le_of_ble_eq_true rfl⟩ hl.1 rfl (Nat.le_of_ble_eq_true rfl) (gdec kX8_hour 1 rfl) ⟨Nat.zero_le _, Nat.zero_le _⟩) (fun H locs h => ?_)
  refine g_aload_n C hl 0 rfl rfl (gdec kX8_hour 2 rfl) ?_
  obtain ⟨G3, q4, hf⟩ := bn1_s hf
  refine g_cv h (g_runV C h ho (by decide) rfl (c_X8_roads l E _ ho _ q4) wM_X8_151 wI_X8_roads wS_X8_roads wN_X8 wC_X8_roads rfl ny_X8_roads rfl ⟨Nat.le_of_ble_eq_true rfl, Nat.le_of_ble_eq_true rfl⟩ hl.1 rfl (Nat.le_of_ble_eq_true rfl) (gdec kX8_hour 3 rfl) ⟨Nat.zero_le _, Nat.zero_le _⟩) (fun H locs h => ?_)
  refine g_aload_n C hl 0 rfl rfl (gdec kX8_hour 4 rfl) ?_
  obtain ⟨G5, q6, hf⟩ := bn1_s hf
  refine g_cv h (g_runV C h ho (by decide) rfl (c_X8_goOn l E _ ho _ q6) wM_X8_154 wI_X8_goOn wS_X8_goOn wN_X8 wC_X8_goOn rfl ny_X8_goOn rfl ⟨Nat.le_of_ble_eq_true rfl, Nat.le_of_ble_eq_true rfl⟩ hl.1 rfl (Nat.le_of_ble_eq_true rfl) (gdec kX8_hour 5 rfl) ⟨Nat.zero_le _, Nat.zero_le _⟩) (fun H locs h => ?_)
  refine g_aload_n C hl 0 rfl rfl (gdec kX8_hour 6 rfl) ?_
  obtain ⟨G7, q8, hf⟩ := bn1_s hf
  refine g_cv h (g_runV C h ho (by decide) rfl (c_X8_walkBack l E _ ho _ q8) wM_X8_157 wI_X8_walkBack wS_X8_walkBack wN_X8 wC_X8_walkBack rfl ny_X8_walkBack rfl ⟨Nat.le_of_ble_eq_true rfl, Nat.le_of_ble_eq_true rfl⟩ hl.1 rfl (Nat.le_of_ble_eq_true rfl) (gdec kX8_hour 7 rfl) ⟨Nat.zero_le _, Nat.zero_le _⟩) (fun H locs h => ?_)
  refine g_aload_n C hl 0 rfl rfl (gdec kX8_hour 8 rfl) ?_
  refine gf_X8_7 C h ho (gdec kX8_hour 9 rfl) ?_
  refine g_iconst C (gdec kX8_hour 10 rfl) ?_
  refine g_dup2 C rfl rfl (gdec kX8_hour 11 rfl) ?_
  refine g_iald C h (gcl_8_0 C ho) (n := 260) rfl (by decide) (⟨by decide, by decide⟩ : (0 : Int) ≤ 1 ∧ (1 : Int) < 260) (gdec kX8_hour 12 rfl) ?_
  refine g_iconst C (gdec kX8_hour 13 rfl) ?_
  refine g_iadd C (gdec kX8_hour 14 rfl) ?_
  refine g_iast C h (gcl_8_0 C ho) (n := 260) rfl (by decide) (⟨by decide, by decide⟩ : (0 : Int) ≤ 1 ∧ (1 : Int) < 260) (gdec kX8_hour 15 rfl) (fun H locs h => ?_)
  exact g_vret C h hf (gdec kX8_hour 16 rfl)
def f_X8_pass_L51 (p1 : Int) : Nat → GS → Int → Int → (GS → Int → Int → Option (GS × Int)) → Option (GS × Int)
  | 0, _, _, _, _ => none
  | n + 1, G, x2, x3, k => gd x3 (gd p1 (if x3 < p1 then bn1 (f_X8_hour G) (fun G18 => f_X8_pass_L51 p1 n G18 x2 (x3 + 1) k) else k G x2 x3))
def f_X8_pass (G : GS) (p1 : Int) : Option (GS × Int) :=
  bn1 (f_X8_in G (bm p1) 1 200) (fun r1 => gd r1 (if r1 = 0 then bnd (f_X8_throwing G 1) (fun G5 r6 => some (G5, r6)) else gd ((G 10 0 1) + p1) (if 10000 < ((G 10 0 1) + p1) then bnd (f_X8_throwing G 2) (fun G10 r11 => some (G10, r11)) else bn1 (f_X8_save G) (fun G13 => f_X8_pass_L51 p1 gFuel G13 (G13 10 0 2) 0 (fun G21 y2_20 y3_20 => bnd (f_X8_fine G21 ((G21 10 0 2) - y2_20)) (fun G22 r23 => some (G22, r23)))))))
set_option maxHeartbeats 4000000 in
set_option maxRecDepth 100000 in
theorem c_X8_pass (l : Launch) (E : gEnv) (G : GS) (p1 : Int) (ho : gOk E 8 0) (Gz : GS) (rz : Int) (hf : f_X8_pass G p1 = some (Gz, rz)) : gMet l yX8_pass cX8_pass 4 (some .int) 8 179 0 0 [.ref (eA E 8 0), vI p1] E G (gQi E Gz rz) := by
  refine g_met (by decide +kernel) (Nat.le_of_ble_eq_true rfl) ?_
  intro p e s m below meth c C H locs h ls hl
  have C : gC p s m _ meth c RX8 cX8_pass 4 (some .int) E := C
  have hl : lv_has ls 4 [(0, .ref (eA E 8 0)), (1, vI p1)] := hl
  have L51 : ∀ (n : Nat) (G : GS) (x2 : Int) (x3 : Int) (k : (GS → Int → Int → Option (GS × Int))) (hK : ∀ (G : GS) (x2 : Int) (x3 : Int), k G x2 x3 = some (Gz, rz) → ∀ (H : Heap) (locs : List Loc), gH E s G H locs → ∀ ls, lv_has ls 4 [(0, .ref (eA E 8 0)), (1, vI p1), (2, vI x2), (3, vI x3)] → W p l e (gRm 8 179 0 0) s m ([.ref (eA E 8 0), vI p1] : List Value).toArray below meth c H locs 0 0 (MQ below (gQi E Gz rz) ([.ref (eA E 8 0), vI p1] : List Value).toArray s 0 0 (eF E)) (F0 m 66 ls [])), ∀ (H : Heap) (locs : List Loc), gH E s G H locs → ∀ ls, lv_has ls 4 [(0, .ref (eA E 8 0)), (1, vI p1), (2, vI x2), (3, vI x3)] → f_X8_pass_L51 p1 n G x2 x3 k = some (Gz, rz) → W p l e (gRm 8 179 0 0) s m ([.ref (eA E 8 0), vI p1] : List Value).toArray below meth c H locs 0 0 (MQ below (gQi E Gz rz) ([.ref (eA E 8 0), vI p1] : List Value).toArray s 0 0 (eF E)) (F0 m 51 ls []) := by
    intro n
    induction n with
    | zero =>
      intro G x2 x3 k hK H locs h ls hl hf
      exact absurd hf (by simp [f_X8_pass_L51])
    | succ n ih =>
      intro G x2 x3 k hK H locs h ls hl hf
      unfold f_X8_pass_L51 at hf
      refine g_iload_n C hl 3 rfl rfl (gdec kX8_pass 31 rfl) ?_
      refine g_iload_n C hl 1 rfl rfl (gdec kX8_pass 32 rfl) ?_
      obtain ⟨h15, hf⟩ := gd_s hf
      obtain ⟨h16, hf⟩ := gd_s hf
      refine g_icmp_ge C (tgt := 66) h15 h16 (by decide) (gdec kX8_pass 33 rfl) (fun c17 => ?_) (fun c17 => ?_)
      · replace hf := ifp c17 hf
        refine g_aload_n C hl 0 rfl rfl (gdec kX8_pass 34 rfl) ?_
        obtain ⟨G18, q19, hf⟩ := bn1_s hf
        refine g_cv h (g_runV C h ho (by decide) rfl (c_X8_hour l E _ ho _ q19) wM_X8_162 wI_X8_hour wS_X8_hour wN_X8 wC_X8_hour rfl ny_X8_hour rfl ⟨Nat.le_of_ble_eq_true rfl, Nat.le_of_ble_eq_true rfl⟩ hl.1 rfl (Nat.le_of_ble_eq_true rfl) (gdec kX8_pass 35 rfl) ⟨Nat.zero_le _, Nat.zero_le _⟩) (fun H locs h => ?_)
        refine g_iinc C (k := 3) [(3, vI (x3 + 1)), (0, .ref (eA E 8 0)), (1, vI p1), (2, vI x2)] hl rfl (by decide) rfl (gdec kX8_pass 36 rfl) (fun ls hl => ?_)
        refine g_goto C (tgt := 51) (by decide) (gdec kX8_pass 37 rfl) ?_
        exact ih _ _ _ k hK H locs h ls (lv_sub hl [1, 2, 3, 0] rfl) hf
      · replace hf := ifn c17 hf
        exact hK _ _ _ hf H locs h ls (lv_sub hl [0, 1, 2, 3] rfl)
  unfold f_X8_pass at hf
  refine g_iload_n C hl 1 rfl rfl (gdec kX8_pass 0 rfl) ?_
  refine g_i2l C (gdec kX8_pass 1 rfl) ?_
  refine g_lconst C (z := 1) (gdec kX8_pass 2 rfl) rfl ?_
  refine g_ldc2 C (n := 200) wL_X8_160 rfl (gdec kX8_pass 3 rfl) ?_
  obtain ⟨r1, q2, hf⟩ := bn1_s hf
  refine g_ci h (g_runS C h (c_X8_in l E _ _ _ _ _ q2) wM_X8_40 wT_X8_in wN_X8 wC_X8_in rfl ny_X8_in rfl ⟨Nat.le_of_ble_eq_true rfl, Nat.le_of_ble_eq_true rfl⟩ hl.1 rfl (Nat.le_of_ble_eq_true rfl) (gdec kX8_pass 4 rfl) ⟨Nat.zero_le _, Nat.zero_le _⟩) (fun H locs h => ?_)
  obtain ⟨h3, hf⟩ := gd_s hf
  refine g_if_ne C (tgt := 18) h3 (by decide) (gdec kX8_pass 5 rfl) (fun c4 => ?_) (fun c4 => ?_)
  · replace hf := ifp c4 hf
    refine g_aload_n C hl 0 rfl rfl (gdec kX8_pass 6 rfl) ?_
    refine g_iconst C (gdec kX8_pass 7 rfl) ?_
    obtain ⟨G5, r6, q7, hf⟩ := bnd_s hf
    refine g_ci h (g_runV C h ho (by decide) rfl (c_X8_throwing l E _ _ ho _ _ q7) wM_X8_64 wI_X8_throwing wS_X8_throwing wN_X8 wC_X8_throwing rfl ny_X8_throwing rfl ⟨Nat.le_of_ble_eq_true rfl, Nat.le_of_ble_eq_true rfl⟩ hl.1 rfl (Nat.le_of_ble_eq_true rfl) (gdec kX8_pass 8 rfl) ⟨Nat.zero_le _, Nat.zero_le _⟩) (fun H locs h => ?_)
    exact g_iret C h hf (gdec kX8_pass 9 rfl)
  · replace hf := ifn c4 hf
    refine g_aload_n C hl 0 rfl rfl (gdec kX8_pass 10 rfl) ?_
    refine gf_X8_7 C h ho (gdec kX8_pass 11 rfl) ?_
    refine g_iconst C (gdec kX8_pass 12 rfl) ?_
    refine g_iald C h (gcl_8_0 C ho) (n := 260) rfl (by decide) (⟨by decide, by decide⟩ : (0 : Int) ≤ 1 ∧ (1 : Int) < 260) (gdec kX8_pass 13 rfl) ?_
    refine g_iload_n C hl 1 rfl rfl (gdec kX8_pass 14 rfl) ?_
    refine g_iadd C (gdec kX8_pass 15 rfl) ?_
    refine g_sipush C (gdec kX8_pass 16 rfl) rfl ?_
    obtain ⟨h8, hf⟩ := gd_s hf
    refine g_icmp_le C (tgt := 38) h8 (by decide) (by decide) (gdec kX8_pass 17 rfl) (fun c9 => ?_) (fun c9 => ?_)
    · replace hf := ifp c9 hf
      refine g_aload_n C hl 0 rfl rfl (gdec kX8_pass 18 rfl) ?_
      refine g_iconst C (gdec kX8_pass 19 rfl) ?_
      obtain ⟨G10, r11, q12, hf⟩ := bnd_s hf
      refine g_ci h (g_runV C h ho (by decide) rfl (c_X8_throwing l E _ _ ho _ _ q12) wM_X8_64 wI_X8_throwing wS_X8_throwing wN_X8 wC_X8_throwing rfl ny_X8_throwing rfl ⟨Nat.le_of_ble_eq_true rfl, Nat.le_of_ble_eq_true rfl⟩ hl.1 rfl (Nat.le_of_ble_eq_true rfl) (gdec kX8_pass 20 rfl) ⟨Nat.zero_le _, Nat.zero_le _⟩) (fun H locs h => ?_)
      exact g_iret C h hf (gdec kX8_pass 21 rfl)
    · replace hf := ifn c9 hf
      refine g_aload_n C hl 0 rfl rfl (gdec kX8_pass 22 rfl) ?_
      obtain ⟨G13, q14, hf⟩ := bn1_s hf
      refine g_cv h (g_runV C h ho (by decide) rfl (c_X8_save l E _ ho _ q14) wM_X8_73 wI_X8_save wS_X8_save wN_X8 wC_X8_save rfl ny_X8_save rfl ⟨Nat.le_of_ble_eq_true rfl, Nat.le_of_ble_eq_true rfl⟩ hl.1 rfl (Nat.le_of_ble_eq_true rfl) (gdec kX8_pass 23 rfl) ⟨Nat.zero_le _, Nat.zero_le _⟩) (fun H locs h => ?_)
      refine g_aload_n C hl 0 rfl rfl (gdec kX8_pass 24 rfl) ?_
      refine gf_X8_7 C h ho (gdec kX8_pass 25 rfl) ?_
      refine g_iconst C (gdec kX8_pass 26 rfl) ?_
      refine g_iald C h (gcl_8_0 C ho) (n := 260) rfl (by decide) (⟨by decide, by decide⟩ : (0 : Int) ≤ 2 ∧ (2 : Int) < 260) (gdec kX8_pass 27 rfl) ?_
      refine g_istore_n C [(2, vI (G13 10 0 2)), (0, .ref (eA E 8 0)), (1, vI p1)] hl rfl (by decide) rfl (gdec kX8_pass 28 rfl) (fun ls hl => ?_)
      refine g_iconst C (gdec kX8_pass 29 rfl) ?_
      refine g_istore_n C [(3, vI 0), (2, vI (G13 10 0 2)), (0, .ref (eA E 8 0)), (1, vI p1)] hl rfl (by decide) rfl (gdec kX8_pass 30 rfl) (fun ls hl => ?_)
      refine L51 gFuel _ _ _ _ (fun G21 y2_20 y3_20 hf H locs h ls hl => ?_) H locs h ls (lv_sub hl [2, 3, 1, 0] rfl) hf
      refine g_aload_n C hl 0 rfl rfl (gdec kX8_pass 38 rfl) ?_
      refine g_aload_n C hl 0 rfl rfl (gdec kX8_pass 39 rfl) ?_
      refine gf_X8_7 C h ho (gdec kX8_pass 40 rfl) ?_
      refine g_iconst C (gdec kX8_pass 41 rfl) ?_
      refine g_iald C h (gcl_8_0 C ho) (n := 260) rfl (by decide) (⟨by decide, by decide⟩ : (0 : Int) ≤ 2 ∧ (2 : Int) < 260) (gdec kX8_pass 42 rfl) ?_
      refine g_iload_n C hl 2 rfl rfl (gdec kX8_pass 43 rfl) ?_
      refine g_isub C (gdec kX8_pass 44 rfl) ?_
      obtain ⟨G22, r23, q24, hf⟩ := bnd_s hf
      refine g_ci h (g_runV C h ho (by decide) rfl (c_X8_fine l E _ _ ho _ _ q24) wM_X8_76 wI_X8_fine wS_X8_fine wN_X8 wC_X8_fine rfl ny_X8_fine rfl ⟨Nat.le_of_ble_eq_true rfl, Nat.le_of_ble_eq_true rfl⟩ hl.1 rfl (Nat.le_of_ble_eq_true rfl) (gdec kX8_pass 45 rfl) ⟨Nat.zero_le _, Nat.zero_le _⟩) (fun H locs h => ?_)
      exact g_iret C h hf (gdec kX8_pass 46 rfl)
def f_X8_teamsOn_L4 (G : GS) (p1 : Int) : Nat → Int → Int → (Int → Int → Option (Int)) → Option (Int)
  | 0, _, _, _ => none
  | n + 1, x2, x3, k => gd x3 (gd (G 10 0 7) (if x3 < (G 10 0 7) then bn1 (f_X8_of G x3 3) (fun r4 => gd r4 (if 0 < r4 then bn1 (f_X8_of G x3 2) (fun r8 => bn1 (f_X8_of G x3 10) (fun r10 => bn1 (f_X8_between G r8 r10) (fun r12 => gd r12 (gd p1 (if r12 = p1 then f_X8_teamsOn_L4 G p1 n (x2 + 1) (x3 + 1) k else f_X8_teamsOn_L4 G p1 n (x2 + 0) (x3 + 1) k))))) else f_X8_teamsOn_L4 G p1 n (x2 + 0) (x3 + 1) k)) else k x2 x3))
def f_X8_teamsOn (G : GS) (p1 : Int) : Option (Int) :=
  f_X8_teamsOn_L4 G p1 gFuel 0 0 (fun y2_17 y3_17 => some y2_17)
set_option maxHeartbeats 4000000 in
set_option maxRecDepth 100000 in
theorem c_X8_teamsOn (l : Launch) (E : gEnv) (G : GS) (p1 : Int) (ho : gOk E 8 0) (rz : Int) (hf : f_X8_teamsOn G p1 = some rz) : gMet l yX8_teamsOn cX8_teamsOn 4 (some .int) 2 43 0 0 [.ref (eA E 8 0), vI p1] E G (gQi E G rz) := by
  refine g_met (by decide +kernel) (Nat.le_of_ble_eq_true rfl) ?_
  intro p e s m below meth c C H locs h ls hl
  have C : gC p s m _ meth c RX8 cX8_teamsOn 4 (some .int) E := C
  have hl : lv_has ls 4 [(0, .ref (eA E 8 0)), (1, vI p1)] := hl
  have L4 : ∀ (n : Nat) (x2 : Int) (x3 : Int) (k : (Int → Int → Option (Int))) (hK : ∀ (x2 : Int) (x3 : Int), k x2 x3 = some rz → ∀ (H : Heap) (locs : List Loc), gH E s G H locs → ∀ ls, lv_has ls 4 [(0, .ref (eA E 8 0)), (1, vI p1), (2, vI x2), (3, vI x3)] → W p l e (gRm 2 43 0 0) s m ([.ref (eA E 8 0), vI p1] : List Value).toArray below meth c H locs 0 0 (MQ below (gQi E G rz) ([.ref (eA E 8 0), vI p1] : List Value).toArray s 0 0 (eF E)) (F0 m 58 ls [])), ∀ (H : Heap) (locs : List Loc), gH E s G H locs → ∀ ls, lv_has ls 4 [(0, .ref (eA E 8 0)), (1, vI p1), (2, vI x2), (3, vI x3)] → f_X8_teamsOn_L4 G p1 n x2 x3 k = some rz → W p l e (gRm 2 43 0 0) s m ([.ref (eA E 8 0), vI p1] : List Value).toArray below meth c H locs 0 0 (MQ below (gQi E G rz) ([.ref (eA E 8 0), vI p1] : List Value).toArray s 0 0 (eF E)) (F0 m 4 ls []) := by
    intro n
    induction n with
    | zero =>
      intro x2 x3 k hK H locs h ls hl hf
      exact absurd hf (by simp [f_X8_teamsOn_L4])
    | succ n ih =>
      intro x2 x3 k hK H locs h ls hl hf
      unfold f_X8_teamsOn_L4 at hf
      refine g_iload_n C hl 3 rfl rfl (gdec kX8_teamsOn 4 rfl) ?_
      refine g_aload_n C hl 0 rfl rfl (gdec kX8_teamsOn 5 rfl) ?_
      refine gf_X8_7 C h ho (gdec kX8_teamsOn 6 rfl) ?_
      refine g_bipush C (gdec kX8_teamsOn 7 rfl) rfl ?_
      refine g_iald C h (gcl_8_0 C ho) (n := 260) rfl (by decide) (⟨by decide, by decide⟩ : (0 : Int) ≤ 7 ∧ (7 : Int) < 260) (gdec kX8_teamsOn 8 rfl) ?_
      obtain ⟨h1, hf⟩ := gd_s hf
      obtain ⟨h2, hf⟩ := gd_s hf
      refine g_icmp_ge C (tgt := 58) h1 h2 (by decide) (gdec kX8_teamsOn 9 rfl) (fun c3 => ?_) (fun c3 => ?_)
      · replace hf := ifp c3 hf
        refine g_iload_n C hl 2 rfl rfl (gdec kX8_teamsOn 10 rfl) ?_
        refine g_aload_n C hl 0 rfl rfl (gdec kX8_teamsOn 11 rfl) ?_
        refine g_iload_n C hl 3 rfl rfl (gdec kX8_teamsOn 12 rfl) ?_
        refine g_iconst C (gdec kX8_teamsOn 13 rfl) ?_
        obtain ⟨r4, q5, hf⟩ := bn1_s hf
        refine g_ci h (g_runV C h ho (by decide) rfl (c_X8_of l E _ _ _ ho _ q5) wM_X8_98 wI_X8_of wS_X8_of wN_X8 wC_X8_of rfl ny_X8_of rfl ⟨Nat.le_of_ble_eq_true rfl, Nat.le_of_ble_eq_true rfl⟩ hl.1 rfl (Nat.le_of_ble_eq_true rfl) (gdec kX8_teamsOn 14 rfl) ⟨Nat.zero_le _, Nat.zero_le _⟩) (fun H locs h => ?_)
        obtain ⟨h6, hf⟩ := gd_s hf
        refine g_if_le C (tgt := 49) h6 (by decide) (gdec kX8_teamsOn 15 rfl) (fun c7 => ?_) (fun c7 => ?_)
        · replace hf := ifp c7 hf
          refine g_aload_n C hl 0 rfl rfl (gdec kX8_teamsOn 16 rfl) ?_
          refine g_iload_n C hl 3 rfl rfl (gdec kX8_teamsOn 17 rfl) ?_
          refine g_iconst C (gdec kX8_teamsOn 18 rfl) ?_
          obtain ⟨r8, q9, hf⟩ := bn1_s hf
          refine g_ci h (g_runV C h ho (by decide) rfl (c_X8_of l E _ _ _ ho _ q9) wM_X8_98 wI_X8_of wS_X8_of wN_X8 wC_X8_of rfl ny_X8_of rfl ⟨Nat.le_of_ble_eq_true rfl, Nat.le_of_ble_eq_true rfl⟩ hl.1 rfl (Nat.le_of_ble_eq_true rfl) (gdec kX8_teamsOn 19 rfl) ⟨Nat.zero_le _, Nat.zero_le _⟩) (fun H locs h => ?_)
          refine g_aload_n C hl 0 rfl rfl (gdec kX8_teamsOn 20 rfl) ?_
          refine g_iload_n C hl 3 rfl rfl (gdec kX8_teamsOn 21 rfl) ?_
          refine g_bipush C (gdec kX8_teamsOn 22 rfl) rfl ?_
          obtain ⟨r10, q11, hf⟩ := bn1_s hf
          refine g_ci h (g_runV C h ho (by decide) rfl (c_X8_of l E _ _ _ ho _ q11) wM_X8_98 wI_X8_of wS_X8_of wN_X8 wC_X8_of rfl ny_X8_of rfl ⟨Nat.le_of_ble_eq_true rfl, Nat.le_of_ble_eq_true rfl⟩ hl.1 rfl (Nat.le_of_ble_eq_true rfl) (gdec kX8_teamsOn 23 rfl) ⟨Nat.zero_le _, Nat.zero_le _⟩) (fun H locs h => ?_)
          obtain ⟨r12, q13, hf⟩ := bn1_s hf
          refine g_ci h (g_runS C h (c_X8_between l E _ _ _ _ q13) wM_X8_53 wT_X8_between wN_X8 wC_X8_between rfl ny_X8_between rfl ⟨Nat.le_of_ble_eq_true rfl, Nat.le_of_ble_eq_true rfl⟩ hl.1 rfl (Nat.le_of_ble_eq_true rfl) (gdec kX8_teamsOn 24 rfl) ⟨Nat.zero_le _, Nat.zero_le _⟩) (fun H locs h => ?_)
          refine g_iload_n C hl 1 rfl rfl (gdec kX8_teamsOn 25 rfl) ?_
          obtain ⟨h14, hf⟩ := gd_s hf
          obtain ⟨h15, hf⟩ := gd_s hf
          refine g_icmp_ne C (tgt := 49) h14 h15 (by decide) (gdec kX8_teamsOn 26 rfl) (fun c16 => ?_) (fun c16 => ?_)
          · replace hf := ifp c16 hf
            refine g_iconst C (gdec kX8_teamsOn 27 rfl) ?_
            refine g_goto C (tgt := 50) (by decide) (gdec kX8_teamsOn 28 rfl) ?_
            refine g_iadd C (gdec kX8_teamsOn 30 rfl) ?_
            refine g_istore_n C [(2, vI (x2 + 1)), (0, .ref (eA E 8 0)), (1, vI p1), (3, vI x3)] hl rfl (by decide) rfl (gdec kX8_teamsOn 31 rfl) (fun ls hl => ?_)
            refine g_iinc C (k := 3) [(3, vI (x3 + 1)), (2, vI (x2 + 1)), (0, .ref (eA E 8 0)), (1, vI p1)] hl rfl (by decide) rfl (gdec kX8_teamsOn 32 rfl) (fun ls hl => ?_)
            refine g_goto C (tgt := 4) (by decide) (gdec kX8_teamsOn 33 rfl) ?_
            exact ih _ _ k hK H locs h ls (lv_sub hl [2, 3, 1, 0] rfl) hf
          · replace hf := ifn c16 hf
            refine g_iconst C (gdec kX8_teamsOn 29 rfl) ?_
            refine g_iadd C (gdec kX8_teamsOn 30 rfl) ?_
            refine g_istore_n C [(2, vI (x2 + 0)), (0, .ref (eA E 8 0)), (1, vI p1), (3, vI x3)] hl rfl (by decide) rfl (gdec kX8_teamsOn 31 rfl) (fun ls hl => ?_)
            refine g_iinc C (k := 3) [(3, vI (x3 + 1)), (2, vI (x2 + 0)), (0, .ref (eA E 8 0)), (1, vI p1)] hl rfl (by decide) rfl (gdec kX8_teamsOn 32 rfl) (fun ls hl => ?_)
            refine g_goto C (tgt := 4) (by decide) (gdec kX8_teamsOn 33 rfl) ?_
            exact ih _ _ k hK H locs h ls (lv_sub hl [2, 3, 1, 0] rfl) hf
        · replace hf := ifn c7 hf
          refine g_iconst C (gdec kX8_teamsOn 29 rfl) ?_
          refine g_iadd C (gdec kX8_teamsOn 30 rfl) ?_
          refine g_istore_n C [(2, vI (x2 + 0)), (0, .ref (eA E 8 0)), (1, vI p1), (3, vI x3)] hl rfl (by decide) rfl (gdec kX8_teamsOn 31 rfl) (fun ls hl => ?_)
          refine g_iinc C (k := 3) [(3, vI (x3 + 1)), (2, vI (x2 + 0)), (0, .ref (eA E 8 0)), (1, vI p1)] hl rfl (by decide) rfl (gdec kX8_teamsOn 32 rfl) (fun ls hl => ?_)
          refine g_goto C (tgt := 4) (by decide) (gdec kX8_teamsOn 33 rfl) ?_
          exact ih _ _ k hK H locs h ls (lv_sub hl [2, 3, 1, 0] rfl) hf
      · replace hf := ifn c3 hf
        exact hK _ _ hf H locs h ls (lv_sub hl [0, 1, 2, 3] rfl)
  unfold f_X8_teamsOn at hf
  refine g_iconst C (gdec kX8_teamsOn 0 rfl) ?_
  refine g_istore_n C [(2, vI 0), (0, .ref (eA E 8 0)), (1, vI p1)] hl rfl (by decide) rfl (gdec kX8_teamsOn 1 rfl) (fun ls hl => ?_)
  refine g_iconst C (gdec kX8_teamsOn 2 rfl) ?_
  refine g_istore_n C [(3, vI 0), (2, vI 0), (0, .ref (eA E 8 0)), (1, vI p1)] hl rfl (by decide) rfl (gdec kX8_teamsOn 3 rfl) (fun ls hl => ?_)
  refine L4 gFuel _ _ _ (fun y2_17 y3_17 hf H locs h ls hl => ?_) H locs h ls (lv_sub hl [2, 3, 1, 0] rfl) hf
  refine g_iload_n C hl 2 rfl rfl (gdec kX8_teamsOn 34 rfl) ?_
  exact g_iret C h (congrArg (Option.map (Prod.mk _)) hf) (gdec kX8_teamsOn 35 rfl)
def f_X8_stageOf (G : GS) (p1 : Int) (p2 : Int) : Option (Int) :=
  gd p2 (if p2 < 3 then ga ((9 + (3 * p1)) + p2) 260 (some (G 10 0 ((9 + (3 * p1)) + p2))) else if p2 = 3 then bn1 (f_X8_effort G p1 (p1 + 1)) (fun r5 => some r5) else if p2 = 4 then bn1 (f_X8_effort G (p1 + 1) p1) (fun r8 => some r8) else bn1 (f_X8_teamsOn G p1) (fun r10 => some r10))
set_option maxHeartbeats 4000000 in
set_option maxRecDepth 100000 in
theorem c_X8_stageOf (l : Launch) (E : gEnv) (G : GS) (p1 : Int) (p2 : Int) (ho : gOk E 8 0) (rz : Int) (hf : f_X8_stageOf G p1 p2 = some rz) : gMet l yX8_stageOf cX8_stageOf 3 (some .int) 3 66 0 0 [.ref (eA E 8 0), vI p1, vI p2] E G (gQi E G rz) := by
  refine g_met (by decide +kernel) (Nat.le_of_ble_eq_true rfl) ?_
  intro p e s m below meth c C H locs h ls hl
  have C : gC p s m _ meth c RX8 cX8_stageOf 3 (some .int) E := C
  have hl : lv_has ls 3 [(0, .ref (eA E 8 0)), (1, vI p1), (2, vI p2)] := hl
  unfold f_X8_stageOf at hf
  refine g_iload_n C hl 2 rfl rfl (gdec kX8_stageOf 0 rfl) ?_
  refine g_iconst C (gdec kX8_stageOf 1 rfl) ?_
  obtain ⟨h1, hf⟩ := gd_s hf
  refine g_icmp_ge C (tgt := 21) h1 (by decide) (by decide) (gdec kX8_stageOf 2 rfl) (fun c2 => ?_) (fun c2 => ?_)
  · replace hf := ifp c2 hf
    refine g_aload_n C hl 0 rfl rfl (gdec kX8_stageOf 3 rfl) ?_
    refine gf_X8_7 C h ho (gdec kX8_stageOf 4 rfl) ?_
    refine g_bipush C (gdec kX8_stageOf 5 rfl) rfl ?_
    refine g_iconst C (gdec kX8_stageOf 6 rfl) ?_
    refine g_iload_n C hl 1 rfl rfl (gdec kX8_stageOf 7 rfl) ?_
    refine g_imul C (gdec kX8_stageOf 8 rfl) ?_
    refine g_iadd C (gdec kX8_stageOf 9 rfl) ?_
    refine g_iload_n C hl 2 rfl rfl (gdec kX8_stageOf 10 rfl) ?_
    refine g_iadd C (gdec kX8_stageOf 11 rfl) ?_
    obtain ⟨h3, hf⟩ := ga_s hf
    refine g_iald C h (gcl_8_0 C ho) (n := 260) rfl (by decide) h3 (gdec kX8_stageOf 12 rfl) ?_
    refine g_goto C (tgt := 58) (by decide) (gdec kX8_stageOf 13 rfl) ?_
    exact g_iret C h (congrArg (Option.map (Prod.mk _)) hf) (gdec kX8_stageOf 37 rfl)
  · replace hf := ifn c2 hf
    refine g_iload_n C hl 2 rfl rfl (gdec kX8_stageOf 14 rfl) ?_
    refine g_iconst C (gdec kX8_stageOf 15 rfl) ?_
    refine g_icmp_ne C (tgt := 37) h1 (by decide) (by decide) (gdec kX8_stageOf 16 rfl) (fun c4 => ?_) (fun c4 => ?_)
    · replace hf := ifp c4 hf
      refine g_aload_n C hl 0 rfl rfl (gdec kX8_stageOf 17 rfl) ?_
      refine g_iload_n C hl 1 rfl rfl (gdec kX8_stageOf 18 rfl) ?_
      refine g_iload_n C hl 1 rfl rfl (gdec kX8_stageOf 19 rfl) ?_
      refine g_iconst C (gdec kX8_stageOf 20 rfl) ?_
      refine g_iadd C (gdec kX8_stageOf 21 rfl) ?_
      obtain ⟨r5, q6, hf⟩ := bn1_s hf
      refine g_ci h (g_runV C h ho (by decide) rfl (c_X8_effort l E _ _ _ ho _ q6) wM_X8_107 wI_X8_effort wS_X8_effort wN_X8 wC_X8_effort rfl ny_X8_effort rfl ⟨Nat.le_of_ble_eq_true rfl, Nat.le_of_ble_eq_true rfl⟩ hl.1 rfl (Nat.le_of_ble_eq_true rfl) (gdec kX8_stageOf 22 rfl) ⟨Nat.zero_le _, Nat.zero_le _⟩) (fun H locs h => ?_)
      refine g_goto C (tgt := 58) (by decide) (gdec kX8_stageOf 23 rfl) ?_
      exact g_iret C h (congrArg (Option.map (Prod.mk _)) hf) (gdec kX8_stageOf 37 rfl)
    · replace hf := ifn c4 hf
      refine g_iload_n C hl 2 rfl rfl (gdec kX8_stageOf 24 rfl) ?_
      refine g_iconst C (gdec kX8_stageOf 25 rfl) ?_
      refine g_icmp_ne C (tgt := 53) h1 (by decide) (by decide) (gdec kX8_stageOf 26 rfl) (fun c7 => ?_) (fun c7 => ?_)
      · replace hf := ifp c7 hf
        refine g_aload_n C hl 0 rfl rfl (gdec kX8_stageOf 27 rfl) ?_
        refine g_iload_n C hl 1 rfl rfl (gdec kX8_stageOf 28 rfl) ?_
        refine g_iconst C (gdec kX8_stageOf 29 rfl) ?_
        refine g_iadd C (gdec kX8_stageOf 30 rfl) ?_
        refine g_iload_n C hl 1 rfl rfl (gdec kX8_stageOf 31 rfl) ?_
        obtain ⟨r8, q9, hf⟩ := bn1_s hf
        refine g_ci h (g_runV C h ho (by decide) rfl (c_X8_effort l E _ _ _ ho _ q9) wM_X8_107 wI_X8_effort wS_X8_effort wN_X8 wC_X8_effort rfl ny_X8_effort rfl ⟨Nat.le_of_ble_eq_true rfl, Nat.le_of_ble_eq_true rfl⟩ hl.1 rfl (Nat.le_of_ble_eq_true rfl) (gdec kX8_stageOf 32 rfl) ⟨Nat.zero_le _, Nat.zero_le _⟩) (fun H locs h => ?_)
        refine g_goto C (tgt := 58) (by decide) (gdec kX8_stageOf 33 rfl) ?_
        exact g_iret C h (congrArg (Option.map (Prod.mk _)) hf) (gdec kX8_stageOf 37 rfl)
      · replace hf := ifn c7 hf
        refine g_aload_n C hl 0 rfl rfl (gdec kX8_stageOf 34 rfl) ?_
        refine g_iload_n C hl 1 rfl rfl (gdec kX8_stageOf 35 rfl) ?_
        obtain ⟨r10, q11, hf⟩ := bn1_s hf
        refine g_ci h (g_runV C h ho (by decide) rfl (c_X8_teamsOn l E _ _ ho _ q11) wM_X8_165 wI_X8_teamsOn wS_X8_teamsOn wN_X8 wC_X8_teamsOn rfl ny_X8_teamsOn rfl ⟨Nat.le_of_ble_eq_true rfl, Nat.le_of_ble_eq_true rfl⟩ hl.1 rfl (Nat.le_of_ble_eq_true rfl) (gdec kX8_stageOf 36 rfl) ⟨Nat.zero_le _, Nat.zero_le _⟩) (fun H locs h => ?_)
        exact g_iret C h (congrArg (Option.map (Prod.mk _)) hf) (gdec kX8_stageOf 37 rfl)
def f_X8_stage (G : GS) (p1 : Int) (p2 : Int) : Option (GS × Int) :=
  bn1 (f_X8_isStage G p1) (fun r1 => gd r1 (if r1 = 0 then bnd (f_X8_throwing G 1) (fun G5 r6 => some (G5, r6)) else bn1 (f_X8_in G (bm p2) 0 5) (fun r8 => gd r8 (if r8 = 0 then bnd (f_X8_throwing G 2) (fun G12 r13 => some (G12, r13)) else bn1 (f_X8_stageOf G p1 p2) (fun r15 => bnd (f_X8_fine G r15) (fun G17 r18 => some (G17, r18)))))))
set_option maxHeartbeats 4000000 in
set_option maxRecDepth 100000 in
theorem c_X8_stage (l : Launch) (E : gEnv) (G : GS) (p1 : Int) (p2 : Int) (ho : gOk E 8 0) (Gz : GS) (rz : Int) (hf : f_X8_stage G p1 p2 = some (Gz, rz)) : gMet l yX8_stage cX8_stage 3 (some .int) 4 88 0 0 [.ref (eA E 8 0), vI p1, vI p2] E G (gQi E Gz rz) := by
  refine g_met (by decide +kernel) (Nat.le_of_ble_eq_true rfl) ?_
  intro p e s m below meth c C H locs h ls hl
  have C : gC p s m _ meth c RX8 cX8_stage 3 (some .int) E := C
  have hl : lv_has ls 3 [(0, .ref (eA E 8 0)), (1, vI p1), (2, vI p2)] := hl
  unfold f_X8_stage at hf
  refine g_aload_n C hl 0 rfl rfl (gdec kX8_stage 0 rfl) ?_
  refine g_iload_n C hl 1 rfl rfl (gdec kX8_stage 1 rfl) ?_
  obtain ⟨r1, q2, hf⟩ := bn1_s hf
  refine g_ci h (g_runV C h ho (by decide) rfl (c_X8_isStage l E _ _ ho _ q2) wM_X8_60 wI_X8_isStage wS_X8_isStage wN_X8 wC_X8_isStage rfl ny_X8_isStage rfl ⟨Nat.le_of_ble_eq_true rfl, Nat.le_of_ble_eq_true rfl⟩ hl.1 rfl (Nat.le_of_ble_eq_true rfl) (gdec kX8_stage 2 rfl) ⟨Nat.zero_le _, Nat.zero_le _⟩) (fun H locs h => ?_)
  obtain ⟨h3, hf⟩ := gd_s hf
  refine g_if_ne C (tgt := 14) h3 (by decide) (gdec kX8_stage 3 rfl) (fun c4 => ?_) (fun c4 => ?_)
  · replace hf := ifp c4 hf
    refine g_aload_n C hl 0 rfl rfl (gdec kX8_stage 4 rfl) ?_
    refine g_iconst C (gdec kX8_stage 5 rfl) ?_
    obtain ⟨G5, r6, q7, hf⟩ := bnd_s hf
    refine g_ci h (g_runV C h ho (by decide) rfl (c_X8_throwing l E _ _ ho _ _ q7) wM_X8_64 wI_X8_throwing wS_X8_throwing wN_X8 wC_X8_throwing rfl ny_X8_throwing rfl ⟨Nat.le_of_ble_eq_true rfl, Nat.le_of_ble_eq_true rfl⟩ hl.1 rfl (Nat.le_of_ble_eq_true rfl) (gdec kX8_stage 6 rfl) ⟨Nat.zero_le _, Nat.zero_le _⟩) (fun H locs h => ?_)
    exact g_iret C h hf (gdec kX8_stage 7 rfl)
  · replace hf := ifn c4 hf
    refine g_iload_n C hl 2 rfl rfl (gdec kX8_stage 8 rfl) ?_
    refine g_i2l C (gdec kX8_stage 9 rfl) ?_
    refine g_lconst C (z := 0) (gdec kX8_stage 10 rfl) rfl ?_
    refine g_ldc2 C (n := 5) wL_X8_71 rfl (gdec kX8_stage 11 rfl) ?_
    obtain ⟨r8, q9, hf⟩ := bn1_s hf
    refine g_ci h (g_runS C h (c_X8_in l E _ _ _ _ _ q9) wM_X8_40 wT_X8_in wN_X8 wC_X8_in rfl ny_X8_in rfl ⟨Nat.le_of_ble_eq_true rfl, Nat.le_of_ble_eq_true rfl⟩ hl.1 rfl (Nat.le_of_ble_eq_true rfl) (gdec kX8_stage 12 rfl) ⟨Nat.zero_le _, Nat.zero_le _⟩) (fun H locs h => ?_)
    obtain ⟨h10, hf⟩ := gd_s hf
    refine g_if_eq C (tgt := 39) h10 (by decide) (gdec kX8_stage 13 rfl) (fun c11 => ?_) (fun c11 => ?_)
    · replace hf := ifp c11 hf
      refine g_aload_n C hl 0 rfl rfl (gdec kX8_stage 21 rfl) ?_
      refine g_iconst C (gdec kX8_stage 22 rfl) ?_
      obtain ⟨G12, r13, q14, hf⟩ := bnd_s hf
      refine g_ci h (g_runV C h ho (by decide) rfl (c_X8_throwing l E _ _ ho _ _ q14) wM_X8_64 wI_X8_throwing wS_X8_throwing wN_X8 wC_X8_throwing rfl ny_X8_throwing rfl ⟨Nat.le_of_ble_eq_true rfl, Nat.le_of_ble_eq_true rfl⟩ hl.1 rfl (Nat.le_of_ble_eq_true rfl) (gdec kX8_stage 23 rfl) ⟨Nat.zero_le _, Nat.zero_le _⟩) (fun H locs h => ?_)
      exact g_iret C h hf (gdec kX8_stage 24 rfl)
    · replace hf := ifn c11 hf
      refine g_aload_n C hl 0 rfl rfl (gdec kX8_stage 14 rfl) ?_
      refine g_aload_n C hl 0 rfl rfl (gdec kX8_stage 15 rfl) ?_
      refine g_iload_n C hl 1 rfl rfl (gdec kX8_stage 16 rfl) ?_
      refine g_iload_n C hl 2 rfl rfl (gdec kX8_stage 17 rfl) ?_
      obtain ⟨r15, q16, hf⟩ := bn1_s hf
      refine g_ci h (g_runV C h ho (by decide) rfl (c_X8_stageOf l E _ _ _ ho _ q16) wM_X8_168 wI_X8_stageOf wS_X8_stageOf wN_X8 wC_X8_stageOf rfl ny_X8_stageOf rfl ⟨Nat.le_of_ble_eq_true rfl, Nat.le_of_ble_eq_true rfl⟩ hl.1 rfl (Nat.le_of_ble_eq_true rfl) (gdec kX8_stage 18 rfl) ⟨Nat.zero_le _, Nat.zero_le _⟩) (fun H locs h => ?_)
      obtain ⟨G17, r18, q19, hf⟩ := bnd_s hf
      refine g_ci h (g_runV C h ho (by decide) rfl (c_X8_fine l E _ _ ho _ _ q19) wM_X8_76 wI_X8_fine wS_X8_fine wN_X8 wC_X8_fine rfl ny_X8_fine rfl ⟨Nat.le_of_ble_eq_true rfl, Nat.le_of_ble_eq_true rfl⟩ hl.1 rfl (Nat.le_of_ble_eq_true rfl) (gdec kX8_stage 19 rfl) ⟨Nat.zero_le _, Nat.zero_le _⟩) (fun H locs h => ?_)
      refine g_goto C (tgt := 44) (by decide) (gdec kX8_stage 20 rfl) ?_
      exact g_iret C h hf (gdec kX8_stage 24 rfl)
def f_X8_innOf (G : GS) (p1 : Int) (p2 : Int) : Option (Int) :=
  gd p2 (if p2 < 3 then ga ((30 + (3 * p1)) + p2) 260 (some (G 10 0 ((30 + (3 * p1)) + p2))) else if p2 < 5 then bn1 (f_X8_teamsOf G p1 (p2 - 3)) (fun r5 => some r5) else if p2 = 5 then bn1 (f_X8_lettersAt G p1) (fun r8 => some r8) else bn1 (f_X8_freeBeds G p1) (fun r10 => some r10))
set_option maxHeartbeats 4000000 in
set_option maxRecDepth 100000 in
theorem c_X8_innOf (l : Launch) (E : gEnv) (G : GS) (p1 : Int) (p2 : Int) (ho : gOk E 8 0) (rz : Int) (hf : f_X8_innOf G p1 p2 = some rz) : gMet l yX8_innOf cX8_innOf 3 (some .int) 5 108 0 0 [.ref (eA E 8 0), vI p1, vI p2] E G (gQi E G rz) := by
  refine g_met (by decide +kernel) (Nat.le_of_ble_eq_true rfl) ?_
  intro p e s m below meth c C H locs h ls hl
  have C : gC p s m _ meth c RX8 cX8_innOf 3 (some .int) E := C
  have hl : lv_has ls 3 [(0, .ref (eA E 8 0)), (1, vI p1), (2, vI p2)] := hl
  unfold f_X8_innOf at hf
  refine g_iload_n C hl 2 rfl rfl (gdec kX8_innOf 0 rfl) ?_
  refine g_iconst C (gdec kX8_innOf 1 rfl) ?_
  obtain ⟨h1, hf⟩ := gd_s hf
  refine g_icmp_ge C (tgt := 21) h1 (by decide) (by decide) (gdec kX8_innOf 2 rfl) (fun c2 => ?_) (fun c2 => ?_)
  · replace hf := ifp c2 hf
    refine g_aload_n C hl 0 rfl rfl (gdec kX8_innOf 3 rfl) ?_
    refine gf_X8_7 C h ho (gdec kX8_innOf 4 rfl) ?_
    refine g_bipush C (gdec kX8_innOf 5 rfl) rfl ?_
    refine g_iconst C (gdec kX8_innOf 6 rfl) ?_
    refine g_iload_n C hl 1 rfl rfl (gdec kX8_innOf 7 rfl) ?_
    refine g_imul C (gdec kX8_innOf 8 rfl) ?_
    refine g_iadd C (gdec kX8_innOf 9 rfl) ?_
    refine g_iload_n C hl 2 rfl rfl (gdec kX8_innOf 10 rfl) ?_
    refine g_iadd C (gdec kX8_innOf 11 rfl) ?_
    obtain ⟨h3, hf⟩ := ga_s hf
    refine g_iald C h (gcl_8_0 C ho) (n := 260) rfl (by decide) h3 (gdec kX8_innOf 12 rfl) ?_
    refine g_goto C (tgt := 55) (by decide) (gdec kX8_innOf 13 rfl) ?_
    exact g_iret C h (congrArg (Option.map (Prod.mk _)) hf) (gdec kX8_innOf 34 rfl)
  · replace hf := ifn c2 hf
    refine g_iload_n C hl 2 rfl rfl (gdec kX8_innOf 14 rfl) ?_
    refine g_iconst C (gdec kX8_innOf 15 rfl) ?_
    refine g_icmp_ge C (tgt := 37) h1 (by decide) (by decide) (gdec kX8_innOf 16 rfl) (fun c4 => ?_) (fun c4 => ?_)
    · replace hf := ifp c4 hf
      refine g_aload_n C hl 0 rfl rfl (gdec kX8_innOf 17 rfl) ?_
      refine g_iload_n C hl 1 rfl rfl (gdec kX8_innOf 18 rfl) ?_
      refine g_iload_n C hl 2 rfl rfl (gdec kX8_innOf 19 rfl) ?_
      refine g_iconst C (gdec kX8_innOf 20 rfl) ?_
      refine g_isub C (gdec kX8_innOf 21 rfl) ?_
      obtain ⟨r5, q6, hf⟩ := bn1_s hf
      refine g_ci h (g_runV C h ho (by decide) rfl (c_X8_teamsOf l E _ _ _ ho _ q6) wM_X8_101 wI_X8_teamsOf wS_X8_teamsOf wN_X8 wC_X8_teamsOf rfl ny_X8_teamsOf rfl ⟨Nat.le_of_ble_eq_true rfl, Nat.le_of_ble_eq_true rfl⟩ hl.1 rfl (Nat.le_of_ble_eq_true rfl) (gdec kX8_innOf 22 rfl) ⟨Nat.zero_le _, Nat.zero_le _⟩) (fun H locs h => ?_)
      refine g_goto C (tgt := 55) (by decide) (gdec kX8_innOf 23 rfl) ?_
      exact g_iret C h (congrArg (Option.map (Prod.mk _)) hf) (gdec kX8_innOf 34 rfl)
    · replace hf := ifn c4 hf
      refine g_iload_n C hl 2 rfl rfl (gdec kX8_innOf 24 rfl) ?_
      refine g_iconst C (gdec kX8_innOf 25 rfl) ?_
      refine g_icmp_ne C (tgt := 50) h1 (by decide) (by decide) (gdec kX8_innOf 26 rfl) (fun c7 => ?_) (fun c7 => ?_)
      · replace hf := ifp c7 hf
        refine g_aload_n C hl 0 rfl rfl (gdec kX8_innOf 27 rfl) ?_
        refine g_iload_n C hl 1 rfl rfl (gdec kX8_innOf 28 rfl) ?_
        obtain ⟨r8, q9, hf⟩ := bn1_s hf
        refine g_ci h (g_runV C h ho (by decide) rfl (c_X8_lettersAt l E _ _ ho _ q9) wM_X8_145 wI_X8_lettersAt wS_X8_lettersAt wN_X8 wC_X8_lettersAt rfl ny_X8_lettersAt rfl ⟨Nat.le_of_ble_eq_true rfl, Nat.le_of_ble_eq_true rfl⟩ hl.1 rfl (Nat.le_of_ble_eq_true rfl) (gdec kX8_innOf 29 rfl) ⟨Nat.zero_le _, Nat.zero_le _⟩) (fun H locs h => ?_)
        refine g_goto C (tgt := 55) (by decide) (gdec kX8_innOf 30 rfl) ?_
        exact g_iret C h (congrArg (Option.map (Prod.mk _)) hf) (gdec kX8_innOf 34 rfl)
      · replace hf := ifn c7 hf
        refine g_aload_n C hl 0 rfl rfl (gdec kX8_innOf 31 rfl) ?_
        refine g_iload_n C hl 1 rfl rfl (gdec kX8_innOf 32 rfl) ?_
        obtain ⟨r10, q11, hf⟩ := bn1_s hf
        refine g_ci h (g_runV C h ho (by decide) rfl (c_X8_freeBeds l E _ _ ho _ q11) wM_X8_125 wI_X8_freeBeds wS_X8_freeBeds wN_X8 wC_X8_freeBeds rfl ny_X8_freeBeds rfl ⟨Nat.le_of_ble_eq_true rfl, Nat.le_of_ble_eq_true rfl⟩ hl.1 rfl (Nat.le_of_ble_eq_true rfl) (gdec kX8_innOf 33 rfl) ⟨Nat.zero_le _, Nat.zero_le _⟩) (fun H locs h => ?_)
        exact g_iret C h (congrArg (Option.map (Prod.mk _)) hf) (gdec kX8_innOf 34 rfl)
def f_X8_inn (G : GS) (p1 : Int) (p2 : Int) : Option (GS × Int) :=
  bn1 (f_X8_isInn G p1) (fun r1 => gd r1 (if r1 = 0 then bnd (f_X8_throwing G 1) (fun G5 r6 => some (G5, r6)) else bn1 (f_X8_in G (bm p2) 0 6) (fun r8 => gd r8 (if r8 = 0 then bnd (f_X8_throwing G 2) (fun G12 r13 => some (G12, r13)) else bn1 (f_X8_innOf G p1 p2) (fun r15 => bnd (f_X8_fine G r15) (fun G17 r18 => some (G17, r18)))))))
set_option maxHeartbeats 4000000 in
set_option maxRecDepth 100000 in
theorem c_X8_inn (l : Launch) (E : gEnv) (G : GS) (p1 : Int) (p2 : Int) (ho : gOk E 8 0) (Gz : GS) (rz : Int) (hf : f_X8_inn G p1 p2 = some (Gz, rz)) : gMet l yX8_inn cX8_inn 3 (some .int) 6 130 0 0 [.ref (eA E 8 0), vI p1, vI p2] E G (gQi E Gz rz) := by
  refine g_met (by decide +kernel) (Nat.le_of_ble_eq_true rfl) ?_
  intro p e s m below meth c C H locs h ls hl
  have C : gC p s m _ meth c RX8 cX8_inn 3 (some .int) E := C
  have hl : lv_has ls 3 [(0, .ref (eA E 8 0)), (1, vI p1), (2, vI p2)] := hl
  unfold f_X8_inn at hf
  refine g_aload_n C hl 0 rfl rfl (gdec kX8_inn 0 rfl) ?_
  refine g_iload_n C hl 1 rfl rfl (gdec kX8_inn 1 rfl) ?_
  obtain ⟨r1, q2, hf⟩ := bn1_s hf
  refine g_ci h (g_runV C h ho (by decide) rfl (c_X8_isInn l E _ _ ho _ q2) wM_X8_79 wI_X8_isInn wS_X8_isInn wN_X8 wC_X8_isInn rfl ny_X8_isInn rfl ⟨Nat.le_of_ble_eq_true rfl, Nat.le_of_ble_eq_true rfl⟩ hl.1 rfl (Nat.le_of_ble_eq_true rfl) (gdec kX8_inn 2 rfl) ⟨Nat.zero_le _, Nat.zero_le _⟩) (fun H locs h => ?_)
  obtain ⟨h3, hf⟩ := gd_s hf
  refine g_if_ne C (tgt := 14) h3 (by decide) (gdec kX8_inn 3 rfl) (fun c4 => ?_) (fun c4 => ?_)
  · replace hf := ifp c4 hf
    refine g_aload_n C hl 0 rfl rfl (gdec kX8_inn 4 rfl) ?_
    refine g_iconst C (gdec kX8_inn 5 rfl) ?_
    obtain ⟨G5, r6, q7, hf⟩ := bnd_s hf
    refine g_ci h (g_runV C h ho (by decide) rfl (c_X8_throwing l E _ _ ho _ _ q7) wM_X8_64 wI_X8_throwing wS_X8_throwing wN_X8 wC_X8_throwing rfl ny_X8_throwing rfl ⟨Nat.le_of_ble_eq_true rfl, Nat.le_of_ble_eq_true rfl⟩ hl.1 rfl (Nat.le_of_ble_eq_true rfl) (gdec kX8_inn 6 rfl) ⟨Nat.zero_le _, Nat.zero_le _⟩) (fun H locs h => ?_)
    exact g_iret C h hf (gdec kX8_inn 7 rfl)
  · replace hf := ifn c4 hf
    refine g_iload_n C hl 2 rfl rfl (gdec kX8_inn 8 rfl) ?_
    refine g_i2l C (gdec kX8_inn 9 rfl) ?_
    refine g_lconst C (z := 0) (gdec kX8_inn 10 rfl) rfl ?_
    refine g_ldc2 C (n := 6) wL_X8_82 rfl (gdec kX8_inn 11 rfl) ?_
    obtain ⟨r8, q9, hf⟩ := bn1_s hf
    refine g_ci h (g_runS C h (c_X8_in l E _ _ _ _ _ q9) wM_X8_40 wT_X8_in wN_X8 wC_X8_in rfl ny_X8_in rfl ⟨Nat.le_of_ble_eq_true rfl, Nat.le_of_ble_eq_true rfl⟩ hl.1 rfl (Nat.le_of_ble_eq_true rfl) (gdec kX8_inn 12 rfl) ⟨Nat.zero_le _, Nat.zero_le _⟩) (fun H locs h => ?_)
    obtain ⟨h10, hf⟩ := gd_s hf
    refine g_if_eq C (tgt := 39) h10 (by decide) (gdec kX8_inn 13 rfl) (fun c11 => ?_) (fun c11 => ?_)
    · replace hf := ifp c11 hf
      refine g_aload_n C hl 0 rfl rfl (gdec kX8_inn 21 rfl) ?_
      refine g_iconst C (gdec kX8_inn 22 rfl) ?_
      obtain ⟨G12, r13, q14, hf⟩ := bnd_s hf
      refine g_ci h (g_runV C h ho (by decide) rfl (c_X8_throwing l E _ _ ho _ _ q14) wM_X8_64 wI_X8_throwing wS_X8_throwing wN_X8 wC_X8_throwing rfl ny_X8_throwing rfl ⟨Nat.le_of_ble_eq_true rfl, Nat.le_of_ble_eq_true rfl⟩ hl.1 rfl (Nat.le_of_ble_eq_true rfl) (gdec kX8_inn 23 rfl) ⟨Nat.zero_le _, Nat.zero_le _⟩) (fun H locs h => ?_)
      exact g_iret C h hf (gdec kX8_inn 24 rfl)
    · replace hf := ifn c11 hf
      refine g_aload_n C hl 0 rfl rfl (gdec kX8_inn 14 rfl) ?_
      refine g_aload_n C hl 0 rfl rfl (gdec kX8_inn 15 rfl) ?_
      refine g_iload_n C hl 1 rfl rfl (gdec kX8_inn 16 rfl) ?_
      refine g_iload_n C hl 2 rfl rfl (gdec kX8_inn 17 rfl) ?_
      obtain ⟨r15, q16, hf⟩ := bn1_s hf
      refine g_ci h (g_runV C h ho (by decide) rfl (c_X8_innOf l E _ _ _ ho _ q16) wM_X8_171 wI_X8_innOf wS_X8_innOf wN_X8 wC_X8_innOf rfl ny_X8_innOf rfl ⟨Nat.le_of_ble_eq_true rfl, Nat.le_of_ble_eq_true rfl⟩ hl.1 rfl (Nat.le_of_ble_eq_true rfl) (gdec kX8_inn 18 rfl) ⟨Nat.zero_le _, Nat.zero_le _⟩) (fun H locs h => ?_)
      obtain ⟨G17, r18, q19, hf⟩ := bnd_s hf
      refine g_ci h (g_runV C h ho (by decide) rfl (c_X8_fine l E _ _ ho _ _ q19) wM_X8_76 wI_X8_fine wS_X8_fine wN_X8 wC_X8_fine rfl ny_X8_fine rfl ⟨Nat.le_of_ble_eq_true rfl, Nat.le_of_ble_eq_true rfl⟩ hl.1 rfl (Nat.le_of_ble_eq_true rfl) (gdec kX8_inn 19 rfl) ⟨Nat.zero_le _, Nat.zero_le _⟩) (fun H locs h => ?_)
      refine g_goto C (tgt := 44) (by decide) (gdec kX8_inn 20 rfl) ?_
      exact g_iret C h hf (gdec kX8_inn 24 rfl)
def f_X8_isTeam (G : GS) (p1 : Int) : Option (Int) :=
  bn1 (f_X8_in G (bm p1) 0 ((bm (G 10 0 7)) - 1)) (fun r1 => gb r1 (some r1))
set_option maxHeartbeats 4000000 in
set_option maxRecDepth 100000 in
theorem c_X8_isTeam (l : Launch) (E : gEnv) (G : GS) (p1 : Int) (ho : gOk E 8 0) (rz : Int) (hf : f_X8_isTeam G p1 = some rz) : gMet l yX8_isTeam cX8_isTeam 2 (some .boolean) 1 25 0 0 [.ref (eA E 8 0), vI p1] E G (gQi E G rz) := by
  refine g_met (by decide +kernel) (Nat.le_of_ble_eq_true rfl) ?_
  intro p e s m below meth c C H locs h ls hl
  have C : gC p s m _ meth c RX8 cX8_isTeam 2 (some .boolean) E := C
  have hl : lv_has ls 2 [(0, .ref (eA E 8 0)), (1, vI p1)] := hl
  unfold f_X8_isTeam at hf
  refine g_iload_n C hl 1 rfl rfl (gdec kX8_isTeam 0 rfl) ?_
  refine g_i2l C (gdec kX8_isTeam 1 rfl) ?_
  refine g_lconst C (z := 0) (gdec kX8_isTeam 2 rfl) rfl ?_
  refine g_aload_n C hl 0 rfl rfl (gdec kX8_isTeam 3 rfl) ?_
  refine gf_X8_7 C h ho (gdec kX8_isTeam 4 rfl) ?_
  refine g_bipush C (gdec kX8_isTeam 5 rfl) rfl ?_
  refine g_iald C h (gcl_8_0 C ho) (n := 260) rfl (by decide) (⟨by decide, by decide⟩ : (0 : Int) ≤ 7 ∧ (7 : Int) < 260) (gdec kX8_isTeam 6 rfl) ?_
  refine g_i2l C (gdec kX8_isTeam 7 rfl) ?_
  refine g_lconst C (z := 1) (gdec kX8_isTeam 8 rfl) rfl ?_
  refine g_lsub C (gdec kX8_isTeam 9 rfl) ?_
  obtain ⟨r1, q2, hf⟩ := bn1_s hf
  refine g_ci h (g_runS C h (c_X8_in l E _ _ _ _ _ q2) wM_X8_40 wT_X8_in wN_X8 wC_X8_in rfl ny_X8_in rfl ⟨Nat.le_of_ble_eq_true rfl, Nat.le_of_ble_eq_true rfl⟩ hl.1 rfl (Nat.le_of_ble_eq_true rfl) (gdec kX8_isTeam 10 rfl) ⟨Nat.zero_le _, Nat.zero_le _⟩) (fun H locs h => ?_)
  obtain ⟨h3, hf⟩ := gb_s hf
  exact g_zret C h h3 (congrArg (Option.map (Prod.mk _)) hf) (gdec kX8_isTeam 11 rfl)
def f_X8_team (G : GS) (p1 : Int) (p2 : Int) : Option (GS × Int) :=
  bn1 (f_X8_isTeam G p1) (fun r1 => gd r1 (if r1 = 0 then bnd (f_X8_throwing G 1) (fun G5 r6 => some (G5, r6)) else bn1 (f_X8_in G (bm p2) 0 9) (fun r8 => gd r8 (if r8 = 0 then bnd (f_X8_throwing G 2) (fun G12 r13 => some (G12, r13)) else bn1 (f_X8_of G p1 p2) (fun r15 => bnd (f_X8_fine G r15) (fun G17 r18 => some (G17, r18)))))))
set_option maxHeartbeats 4000000 in
set_option maxRecDepth 100000 in
theorem c_X8_team (l : Launch) (E : gEnv) (G : GS) (p1 : Int) (p2 : Int) (ho : gOk E 8 0) (Gz : GS) (rz : Int) (hf : f_X8_team G p1 p2 = some (Gz, rz)) : gMet l yX8_team cX8_team 3 (some .int) 2 46 0 0 [.ref (eA E 8 0), vI p1, vI p2] E G (gQi E Gz rz) := by
  refine g_met (by decide +kernel) (Nat.le_of_ble_eq_true rfl) ?_
  intro p e s m below meth c C H locs h ls hl
  have C : gC p s m _ meth c RX8 cX8_team 3 (some .int) E := C
  have hl : lv_has ls 3 [(0, .ref (eA E 8 0)), (1, vI p1), (2, vI p2)] := hl
  unfold f_X8_team at hf
  refine g_aload_n C hl 0 rfl rfl (gdec kX8_team 0 rfl) ?_
  refine g_iload_n C hl 1 rfl rfl (gdec kX8_team 1 rfl) ?_
  obtain ⟨r1, q2, hf⟩ := bn1_s hf
  refine g_ci h (g_runV C h ho (by decide) rfl (c_X8_isTeam l E _ _ ho _ q2) wM_X8_174 wI_X8_isTeam wS_X8_isTeam wN_X8 wC_X8_isTeam rfl ny_X8_isTeam rfl ⟨Nat.le_of_ble_eq_true rfl, Nat.le_of_ble_eq_true rfl⟩ hl.1 rfl (Nat.le_of_ble_eq_true rfl) (gdec kX8_team 2 rfl) ⟨Nat.zero_le _, Nat.zero_le _⟩) (fun H locs h => ?_)
  obtain ⟨h3, hf⟩ := gd_s hf
  refine g_if_ne C (tgt := 14) h3 (by decide) (gdec kX8_team 3 rfl) (fun c4 => ?_) (fun c4 => ?_)
  · replace hf := ifp c4 hf
    refine g_aload_n C hl 0 rfl rfl (gdec kX8_team 4 rfl) ?_
    refine g_iconst C (gdec kX8_team 5 rfl) ?_
    obtain ⟨G5, r6, q7, hf⟩ := bnd_s hf
    refine g_ci h (g_runV C h ho (by decide) rfl (c_X8_throwing l E _ _ ho _ _ q7) wM_X8_64 wI_X8_throwing wS_X8_throwing wN_X8 wC_X8_throwing rfl ny_X8_throwing rfl ⟨Nat.le_of_ble_eq_true rfl, Nat.le_of_ble_eq_true rfl⟩ hl.1 rfl (Nat.le_of_ble_eq_true rfl) (gdec kX8_team 6 rfl) ⟨Nat.zero_le _, Nat.zero_le _⟩) (fun H locs h => ?_)
    exact g_iret C h hf (gdec kX8_team 7 rfl)
  · replace hf := ifn c4 hf
    refine g_iload_n C hl 2 rfl rfl (gdec kX8_team 8 rfl) ?_
    refine g_i2l C (gdec kX8_team 9 rfl) ?_
    refine g_lconst C (z := 0) (gdec kX8_team 10 rfl) rfl ?_
    refine g_ldc2 C (n := 9) wL_X8_67 rfl (gdec kX8_team 11 rfl) ?_
    obtain ⟨r8, q9, hf⟩ := bn1_s hf
    refine g_ci h (g_runS C h (c_X8_in l E _ _ _ _ _ q9) wM_X8_40 wT_X8_in wN_X8 wC_X8_in rfl ny_X8_in rfl ⟨Nat.le_of_ble_eq_true rfl, Nat.le_of_ble_eq_true rfl⟩ hl.1 rfl (Nat.le_of_ble_eq_true rfl) (gdec kX8_team 12 rfl) ⟨Nat.zero_le _, Nat.zero_le _⟩) (fun H locs h => ?_)
    obtain ⟨h10, hf⟩ := gd_s hf
    refine g_if_eq C (tgt := 39) h10 (by decide) (gdec kX8_team 13 rfl) (fun c11 => ?_) (fun c11 => ?_)
    · replace hf := ifp c11 hf
      refine g_aload_n C hl 0 rfl rfl (gdec kX8_team 21 rfl) ?_
      refine g_iconst C (gdec kX8_team 22 rfl) ?_
      obtain ⟨G12, r13, q14, hf⟩ := bnd_s hf
      refine g_ci h (g_runV C h ho (by decide) rfl (c_X8_throwing l E _ _ ho _ _ q14) wM_X8_64 wI_X8_throwing wS_X8_throwing wN_X8 wC_X8_throwing rfl ny_X8_throwing rfl ⟨Nat.le_of_ble_eq_true rfl, Nat.le_of_ble_eq_true rfl⟩ hl.1 rfl (Nat.le_of_ble_eq_true rfl) (gdec kX8_team 23 rfl) ⟨Nat.zero_le _, Nat.zero_le _⟩) (fun H locs h => ?_)
      exact g_iret C h hf (gdec kX8_team 24 rfl)
    · replace hf := ifn c11 hf
      refine g_aload_n C hl 0 rfl rfl (gdec kX8_team 14 rfl) ?_
      refine g_aload_n C hl 0 rfl rfl (gdec kX8_team 15 rfl) ?_
      refine g_iload_n C hl 1 rfl rfl (gdec kX8_team 16 rfl) ?_
      refine g_iload_n C hl 2 rfl rfl (gdec kX8_team 17 rfl) ?_
      obtain ⟨r15, q16, hf⟩ := bn1_s hf
      refine g_ci h (g_runV C h ho (by decide) rfl (c_X8_of l E _ _ _ ho _ q16) wM_X8_98 wI_X8_of wS_X8_of wN_X8 wC_X8_of rfl ny_X8_of rfl ⟨Nat.le_of_ble_eq_true rfl, Nat.le_of_ble_eq_true rfl⟩ hl.1 rfl (Nat.le_of_ble_eq_true rfl) (gdec kX8_team 18 rfl) ⟨Nat.zero_le _, Nat.zero_le _⟩) (fun H locs h => ?_)
      obtain ⟨G17, r18, q19, hf⟩ := bnd_s hf
      refine g_ci h (g_runV C h ho (by decide) rfl (c_X8_fine l E _ _ ho _ _ q19) wM_X8_76 wI_X8_fine wS_X8_fine wN_X8 wC_X8_fine rfl ny_X8_fine rfl ⟨Nat.le_of_ble_eq_true rfl, Nat.le_of_ble_eq_true rfl⟩ hl.1 rfl (Nat.le_of_ble_eq_true rfl) (gdec kX8_team 19 rfl) ⟨Nat.zero_le _, Nat.zero_le _⟩) (fun H locs h => ?_)
      refine g_goto C (tgt := 44) (by decide) (gdec kX8_team 20 rfl) ?_
      exact g_iret C h hf (gdec kX8_team 24 rfl)
def f_X8_isLetter (G : GS) (p1 : Int) : Option (Int) :=
  bn1 (f_X8_in G (bm p1) 0 ((bm (G 10 0 8)) - 1)) (fun r1 => gb r1 (some r1))
set_option maxHeartbeats 4000000 in
set_option maxRecDepth 100000 in
theorem c_X8_isLetter (l : Launch) (E : gEnv) (G : GS) (p1 : Int) (ho : gOk E 8 0) (rz : Int) (hf : f_X8_isLetter G p1 = some rz) : gMet l yX8_isLetter cX8_isLetter 2 (some .boolean) 1 25 0 0 [.ref (eA E 8 0), vI p1] E G (gQi E G rz) := by
  refine g_met (by decide +kernel) (Nat.le_of_ble_eq_true rfl) ?_
  intro p e s m below meth c C H locs h ls hl
  have C : gC p s m _ meth c RX8 cX8_isLetter 2 (some .boolean) E := C
  have hl : lv_has ls 2 [(0, .ref (eA E 8 0)), (1, vI p1)] := hl
  unfold f_X8_isLetter at hf
  refine g_iload_n C hl 1 rfl rfl (gdec kX8_isLetter 0 rfl) ?_
  refine g_i2l C (gdec kX8_isLetter 1 rfl) ?_
  refine g_lconst C (z := 0) (gdec kX8_isLetter 2 rfl) rfl ?_
  refine g_aload_n C hl 0 rfl rfl (gdec kX8_isLetter 3 rfl) ?_
  refine gf_X8_7 C h ho (gdec kX8_isLetter 4 rfl) ?_
  refine g_bipush C (gdec kX8_isLetter 5 rfl) rfl ?_
  refine g_iald C h (gcl_8_0 C ho) (n := 260) rfl (by decide) (⟨by decide, by decide⟩ : (0 : Int) ≤ 8 ∧ (8 : Int) < 260) (gdec kX8_isLetter 6 rfl) ?_
  refine g_i2l C (gdec kX8_isLetter 7 rfl) ?_
  refine g_lconst C (z := 1) (gdec kX8_isLetter 8 rfl) rfl ?_
  refine g_lsub C (gdec kX8_isLetter 9 rfl) ?_
  obtain ⟨r1, q2, hf⟩ := bn1_s hf
  refine g_ci h (g_runS C h (c_X8_in l E _ _ _ _ _ q2) wM_X8_40 wT_X8_in wN_X8 wC_X8_in rfl ny_X8_in rfl ⟨Nat.le_of_ble_eq_true rfl, Nat.le_of_ble_eq_true rfl⟩ hl.1 rfl (Nat.le_of_ble_eq_true rfl) (gdec kX8_isLetter 10 rfl) ⟨Nat.zero_le _, Nat.zero_le _⟩) (fun H locs h => ?_)
  obtain ⟨h3, hf⟩ := gb_s hf
  exact g_zret C h h3 (congrArg (Option.map (Prod.mk _)) hf) (gdec kX8_isLetter 11 rfl)
def f_X8_letter (G : GS) (p1 : Int) (p2 : Int) : Option (GS × Int) :=
  bn1 (f_X8_isLetter G p1) (fun r1 => gd r1 (if r1 = 0 then bnd (f_X8_throwing G 1) (fun G5 r6 => some (G5, r6)) else bn1 (f_X8_in G (bm p2) 0 7) (fun r8 => gd r8 (if r8 = 0 then bnd (f_X8_throwing G 2) (fun G12 r13 => some (G12, r13)) else bn1 (f_X8_ofLetter G p1 p2) (fun r15 => bnd (f_X8_fine G r15) (fun G17 r18 => some (G17, r18)))))))
set_option maxHeartbeats 4000000 in
set_option maxRecDepth 100000 in
theorem c_X8_letter (l : Launch) (E : gEnv) (G : GS) (p1 : Int) (p2 : Int) (ho : gOk E 8 0) (Gz : GS) (rz : Int) (hf : f_X8_letter G p1 p2 = some (Gz, rz)) : gMet l yX8_letter cX8_letter 3 (some .int) 2 46 0 0 [.ref (eA E 8 0), vI p1, vI p2] E G (gQi E Gz rz) := by
  refine g_met (by decide +kernel) (Nat.le_of_ble_eq_true rfl) ?_
  intro p e s m below meth c C H locs h ls hl
  have C : gC p s m _ meth c RX8 cX8_letter 3 (some .int) E := C
  have hl : lv_has ls 3 [(0, .ref (eA E 8 0)), (1, vI p1), (2, vI p2)] := hl
  unfold f_X8_letter at hf
  refine g_aload_n C hl 0 rfl rfl (gdec kX8_letter 0 rfl) ?_
  refine g_iload_n C hl 1 rfl rfl (gdec kX8_letter 1 rfl) ?_
  obtain ⟨r1, q2, hf⟩ := bn1_s hf
  refine g_ci h (g_runV C h ho (by decide) rfl (c_X8_isLetter l E _ _ ho _ q2) wM_X8_177 wI_X8_isLetter wS_X8_isLetter wN_X8 wC_X8_isLetter rfl ny_X8_isLetter rfl ⟨Nat.le_of_ble_eq_true rfl, Nat.le_of_ble_eq_true rfl⟩ hl.1 rfl (Nat.le_of_ble_eq_true rfl) (gdec kX8_letter 2 rfl) ⟨Nat.zero_le _, Nat.zero_le _⟩) (fun H locs h => ?_)
  obtain ⟨h3, hf⟩ := gd_s hf
  refine g_if_ne C (tgt := 14) h3 (by decide) (gdec kX8_letter 3 rfl) (fun c4 => ?_) (fun c4 => ?_)
  · replace hf := ifp c4 hf
    refine g_aload_n C hl 0 rfl rfl (gdec kX8_letter 4 rfl) ?_
    refine g_iconst C (gdec kX8_letter 5 rfl) ?_
    obtain ⟨G5, r6, q7, hf⟩ := bnd_s hf
    refine g_ci h (g_runV C h ho (by decide) rfl (c_X8_throwing l E _ _ ho _ _ q7) wM_X8_64 wI_X8_throwing wS_X8_throwing wN_X8 wC_X8_throwing rfl ny_X8_throwing rfl ⟨Nat.le_of_ble_eq_true rfl, Nat.le_of_ble_eq_true rfl⟩ hl.1 rfl (Nat.le_of_ble_eq_true rfl) (gdec kX8_letter 6 rfl) ⟨Nat.zero_le _, Nat.zero_le _⟩) (fun H locs h => ?_)
    exact g_iret C h hf (gdec kX8_letter 7 rfl)
  · replace hf := ifn c4 hf
    refine g_iload_n C hl 2 rfl rfl (gdec kX8_letter 8 rfl) ?_
    refine g_i2l C (gdec kX8_letter 9 rfl) ?_
    refine g_lconst C (z := 0) (gdec kX8_letter 10 rfl) rfl ?_
    refine g_ldc2 C (n := 7) wL_X8_180 rfl (gdec kX8_letter 11 rfl) ?_
    obtain ⟨r8, q9, hf⟩ := bn1_s hf
    refine g_ci h (g_runS C h (c_X8_in l E _ _ _ _ _ q9) wM_X8_40 wT_X8_in wN_X8 wC_X8_in rfl ny_X8_in rfl ⟨Nat.le_of_ble_eq_true rfl, Nat.le_of_ble_eq_true rfl⟩ hl.1 rfl (Nat.le_of_ble_eq_true rfl) (gdec kX8_letter 12 rfl) ⟨Nat.zero_le _, Nat.zero_le _⟩) (fun H locs h => ?_)
    obtain ⟨h10, hf⟩ := gd_s hf
    refine g_if_eq C (tgt := 39) h10 (by decide) (gdec kX8_letter 13 rfl) (fun c11 => ?_) (fun c11 => ?_)
    · replace hf := ifp c11 hf
      refine g_aload_n C hl 0 rfl rfl (gdec kX8_letter 21 rfl) ?_
      refine g_iconst C (gdec kX8_letter 22 rfl) ?_
      obtain ⟨G12, r13, q14, hf⟩ := bnd_s hf
      refine g_ci h (g_runV C h ho (by decide) rfl (c_X8_throwing l E _ _ ho _ _ q14) wM_X8_64 wI_X8_throwing wS_X8_throwing wN_X8 wC_X8_throwing rfl ny_X8_throwing rfl ⟨Nat.le_of_ble_eq_true rfl, Nat.le_of_ble_eq_true rfl⟩ hl.1 rfl (Nat.le_of_ble_eq_true rfl) (gdec kX8_letter 23 rfl) ⟨Nat.zero_le _, Nat.zero_le _⟩) (fun H locs h => ?_)
      exact g_iret C h hf (gdec kX8_letter 24 rfl)
    · replace hf := ifn c11 hf
      refine g_aload_n C hl 0 rfl rfl (gdec kX8_letter 14 rfl) ?_
      refine g_aload_n C hl 0 rfl rfl (gdec kX8_letter 15 rfl) ?_
      refine g_iload_n C hl 1 rfl rfl (gdec kX8_letter 16 rfl) ?_
      refine g_iload_n C hl 2 rfl rfl (gdec kX8_letter 17 rfl) ?_
      obtain ⟨r15, q16, hf⟩ := bn1_s hf
      refine g_ci h (g_runV C h ho (by decide) rfl (c_X8_ofLetter l E _ _ _ ho _ q16) wM_X8_92 wI_X8_ofLetter wS_X8_ofLetter wN_X8 wC_X8_ofLetter rfl ny_X8_ofLetter rfl ⟨Nat.le_of_ble_eq_true rfl, Nat.le_of_ble_eq_true rfl⟩ hl.1 rfl (Nat.le_of_ble_eq_true rfl) (gdec kX8_letter 18 rfl) ⟨Nat.zero_le _, Nat.zero_le _⟩) (fun H locs h => ?_)
      obtain ⟨G17, r18, q19, hf⟩ := bnd_s hf
      refine g_ci h (g_runV C h ho (by decide) rfl (c_X8_fine l E _ _ ho _ _ q19) wM_X8_76 wI_X8_fine wS_X8_fine wN_X8 wC_X8_fine rfl ny_X8_fine rfl ⟨Nat.le_of_ble_eq_true rfl, Nat.le_of_ble_eq_true rfl⟩ hl.1 rfl (Nat.le_of_ble_eq_true rfl) (gdec kX8_letter 19 rfl) ⟨Nat.zero_le _, Nat.zero_le _⟩) (fun H locs h => ?_)
      refine g_goto C (tgt := 44) (by decide) (gdec kX8_letter 20 rfl) ?_
      exact g_iret C h hf (gdec kX8_letter 24 rfl)
def f_X8_lettersBy_L4 (G : GS) (p1 : Int) : Nat → Int → Int → (Int → Int → Option (Int)) → Option (Int)
  | 0, _, _, _ => none
  | n + 1, x2, x3, k => gd x3 (gd (G 10 0 8) (if x3 < (G 10 0 8) then gd p1 (if p1 = 0 then bn1 (f_X8_lies G x3) (fun r6 => gd r6 (if r6 = 0 then f_X8_lettersBy_L4 G p1 n (x2 + 0) (x3 + 1) k else f_X8_lettersBy_L4 G p1 n (x2 + 1) (x3 + 1) k)) else bn1 (f_X8_ofLetter G x3 5) (fun r10 => gd r10 (if r10 = (-1) then f_X8_lettersBy_L4 G p1 n (x2 + 0) (x3 + 1) k else f_X8_lettersBy_L4 G p1 n (x2 + 1) (x3 + 1) k))) else k x2 x3))
def f_X8_lettersBy (G : GS) (p1 : Int) : Option (Int) :=
  f_X8_lettersBy_L4 G p1 gFuel 0 0 (fun y2_14 y3_14 => some y2_14)
set_option maxHeartbeats 4000000 in
set_option maxRecDepth 100000 in
theorem c_X8_lettersBy (l : Launch) (E : gEnv) (G : GS) (p1 : Int) (ho : gOk E 8 0) (rz : Int) (hf : f_X8_lettersBy G p1 = some rz) : gMet l yX8_lettersBy cX8_lettersBy 4 (some .int) 4 85 0 0 [.ref (eA E 8 0), vI p1] E G (gQi E G rz) := by
  refine g_met (by decide +kernel) (Nat.le_of_ble_eq_true rfl) ?_
  intro p e s m below meth c C H locs h ls hl
  have C : gC p s m _ meth c RX8 cX8_lettersBy 4 (some .int) E := C
  have hl : lv_has ls 4 [(0, .ref (eA E 8 0)), (1, vI p1)] := hl
  have L4 : ∀ (n : Nat) (x2 : Int) (x3 : Int) (k : (Int → Int → Option (Int))) (hK : ∀ (x2 : Int) (x3 : Int), k x2 x3 = some rz → ∀ (H : Heap) (locs : List Loc), gH E s G H locs → ∀ ls, lv_has ls 4 [(0, .ref (eA E 8 0)), (1, vI p1), (2, vI x2), (3, vI x3)] → W p l e (gRm 4 85 0 0) s m ([.ref (eA E 8 0), vI p1] : List Value).toArray below meth c H locs 0 0 (MQ below (gQi E G rz) ([.ref (eA E 8 0), vI p1] : List Value).toArray s 0 0 (eF E)) (F0 m 59 ls [])), ∀ (H : Heap) (locs : List Loc), gH E s G H locs → ∀ ls, lv_has ls 4 [(0, .ref (eA E 8 0)), (1, vI p1), (2, vI x2), (3, vI x3)] → f_X8_lettersBy_L4 G p1 n x2 x3 k = some rz → W p l e (gRm 4 85 0 0) s m ([.ref (eA E 8 0), vI p1] : List Value).toArray below meth c H locs 0 0 (MQ below (gQi E G rz) ([.ref (eA E 8 0), vI p1] : List Value).toArray s 0 0 (eF E)) (F0 m 4 ls []) := by
    intro n
    induction n with
    | zero =>
      intro x2 x3 k hK H locs h ls hl hf
      exact absurd hf (by simp [f_X8_lettersBy_L4])
    | succ n ih =>
      intro x2 x3 k hK H locs h ls hl hf
      unfold f_X8_lettersBy_L4 at hf
      refine g_iload_n C hl 3 rfl rfl (gdec kX8_lettersBy 4 rfl) ?_
      refine g_aload_n C hl 0 rfl rfl (gdec kX8_lettersBy 5 rfl) ?_
      refine gf_X8_7 C h ho (gdec kX8_lettersBy 6 rfl) ?_
      refine g_bipush C (gdec kX8_lettersBy 7 rfl) rfl ?_
      refine g_iald C h (gcl_8_0 C ho) (n := 260) rfl (by decide) (⟨by decide, by decide⟩ : (0 : Int) ≤ 8 ∧ (8 : Int) < 260) (gdec kX8_lettersBy 8 rfl) ?_
      obtain ⟨h1, hf⟩ := gd_s hf
      obtain ⟨h2, hf⟩ := gd_s hf
      refine g_icmp_ge C (tgt := 59) h1 h2 (by decide) (gdec kX8_lettersBy 9 rfl) (fun c3 => ?_) (fun c3 => ?_)
      · replace hf := ifp c3 hf
        refine g_iload_n C hl 2 rfl rfl (gdec kX8_lettersBy 10 rfl) ?_
        refine g_iload_n C hl 1 rfl rfl (gdec kX8_lettersBy 11 rfl) ?_
        obtain ⟨h4, hf⟩ := gd_s hf
        refine g_if_eq C (tgt := 38) h4 (by decide) (gdec kX8_lettersBy 12 rfl) (fun c5 => ?_) (fun c5 => ?_)
        · replace hf := ifp c5 hf
          refine g_aload_n C hl 0 rfl rfl (gdec kX8_lettersBy 23 rfl) ?_
          refine g_iload_n C hl 3 rfl rfl (gdec kX8_lettersBy 24 rfl) ?_
          obtain ⟨r6, q7, hf⟩ := bn1_s hf
          refine g_ci h (g_runV C h ho (by decide) rfl (c_X8_lies l E _ _ ho _ q7) wM_X8_104 wI_X8_lies wS_X8_lies wN_X8 wC_X8_lies rfl ny_X8_lies rfl ⟨Nat.le_of_ble_eq_true rfl, Nat.le_of_ble_eq_true rfl⟩ hl.1 rfl (Nat.le_of_ble_eq_true rfl) (gdec kX8_lettersBy 25 rfl) ⟨Nat.zero_le _, Nat.zero_le _⟩) (fun H locs h => ?_)
          obtain ⟨h8, hf⟩ := gd_s hf
          refine g_if_eq C (tgt := 50) h8 (by decide) (gdec kX8_lettersBy 26 rfl) (fun c9 => ?_) (fun c9 => ?_)
          · replace hf := ifp c9 hf
            refine g_iconst C (gdec kX8_lettersBy 29 rfl) ?_
            refine g_iadd C (gdec kX8_lettersBy 30 rfl) ?_
            refine g_istore_n C [(2, vI (x2 + 0)), (0, .ref (eA E 8 0)), (1, vI p1), (3, vI x3)] hl rfl (by decide) rfl (gdec kX8_lettersBy 31 rfl) (fun ls hl => ?_)
            refine g_iinc C (k := 3) [(3, vI (x3 + 1)), (2, vI (x2 + 0)), (0, .ref (eA E 8 0)), (1, vI p1)] hl rfl (by decide) rfl (gdec kX8_lettersBy 32 rfl) (fun ls hl => ?_)
            refine g_goto C (tgt := 4) (by decide) (gdec kX8_lettersBy 33 rfl) ?_
            exact ih _ _ k hK H locs h ls (lv_sub hl [2, 3, 1, 0] rfl) hf
          · replace hf := ifn c9 hf
            refine g_iconst C (gdec kX8_lettersBy 27 rfl) ?_
            refine g_goto C (tgt := 51) (by decide) (gdec kX8_lettersBy 28 rfl) ?_
            refine g_iadd C (gdec kX8_lettersBy 30 rfl) ?_
            refine g_istore_n C [(2, vI (x2 + 1)), (0, .ref (eA E 8 0)), (1, vI p1), (3, vI x3)] hl rfl (by decide) rfl (gdec kX8_lettersBy 31 rfl) (fun ls hl => ?_)
            refine g_iinc C (k := 3) [(3, vI (x3 + 1)), (2, vI (x2 + 1)), (0, .ref (eA E 8 0)), (1, vI p1)] hl rfl (by decide) rfl (gdec kX8_lettersBy 32 rfl) (fun ls hl => ?_)
            refine g_goto C (tgt := 4) (by decide) (gdec kX8_lettersBy 33 rfl) ?_
            exact ih _ _ k hK H locs h ls (lv_sub hl [2, 3, 1, 0] rfl) hf
        · replace hf := ifn c5 hf
          refine g_aload_n C hl 0 rfl rfl (gdec kX8_lettersBy 13 rfl) ?_
          refine g_iload_n C hl 3 rfl rfl (gdec kX8_lettersBy 14 rfl) ?_
          refine g_iconst C (gdec kX8_lettersBy 15 rfl) ?_
          obtain ⟨r10, q11, hf⟩ := bn1_s hf
          refine g_ci h (g_runV C h ho (by decide) rfl (c_X8_ofLetter l E _ _ _ ho _ q11) wM_X8_92 wI_X8_ofLetter wS_X8_ofLetter wN_X8 wC_X8_ofLetter rfl ny_X8_ofLetter rfl ⟨Nat.le_of_ble_eq_true rfl, Nat.le_of_ble_eq_true rfl⟩ hl.1 rfl (Nat.le_of_ble_eq_true rfl) (gdec kX8_lettersBy 16 rfl) ⟨Nat.zero_le _, Nat.zero_le _⟩) (fun H locs h => ?_)
          refine g_iconst C (gdec kX8_lettersBy 17 rfl) ?_
          obtain ⟨h12, hf⟩ := gd_s hf
          refine g_icmp_eq C (tgt := 34) h12 (by decide) (by decide) (gdec kX8_lettersBy 18 rfl) (fun c13 => ?_) (fun c13 => ?_)
          · replace hf := ifp c13 hf
            refine g_iconst C (gdec kX8_lettersBy 21 rfl) ?_
            refine g_goto C (tgt := 51) (by decide) (gdec kX8_lettersBy 22 rfl) ?_
            refine g_iadd C (gdec kX8_lettersBy 30 rfl) ?_
            refine g_istore_n C [(2, vI (x2 + 0)), (0, .ref (eA E 8 0)), (1, vI p1), (3, vI x3)] hl rfl (by decide) rfl (gdec kX8_lettersBy 31 rfl) (fun ls hl => ?_)
            refine g_iinc C (k := 3) [(3, vI (x3 + 1)), (2, vI (x2 + 0)), (0, .ref (eA E 8 0)), (1, vI p1)] hl rfl (by decide) rfl (gdec kX8_lettersBy 32 rfl) (fun ls hl => ?_)
            refine g_goto C (tgt := 4) (by decide) (gdec kX8_lettersBy 33 rfl) ?_
            exact ih _ _ k hK H locs h ls (lv_sub hl [2, 3, 1, 0] rfl) hf
          · replace hf := ifn c13 hf
            refine g_iconst C (gdec kX8_lettersBy 19 rfl) ?_
            refine g_goto C (tgt := 51) (by decide) (gdec kX8_lettersBy 20 rfl) ?_
            refine g_iadd C (gdec kX8_lettersBy 30 rfl) ?_
            refine g_istore_n C [(2, vI (x2 + 1)), (0, .ref (eA E 8 0)), (1, vI p1), (3, vI x3)] hl rfl (by decide) rfl (gdec kX8_lettersBy 31 rfl) (fun ls hl => ?_)
            refine g_iinc C (k := 3) [(3, vI (x3 + 1)), (2, vI (x2 + 1)), (0, .ref (eA E 8 0)), (1, vI p1)] hl rfl (by decide) rfl (gdec kX8_lettersBy 32 rfl) (fun ls hl => ?_)
            refine g_goto C (tgt := 4) (by decide) (gdec kX8_lettersBy 33 rfl) ?_
            exact ih _ _ k hK H locs h ls (lv_sub hl [2, 3, 1, 0] rfl) hf
      · replace hf := ifn c3 hf
        exact hK _ _ hf H locs h ls (lv_sub hl [0, 1, 2, 3] rfl)
  unfold f_X8_lettersBy at hf
  refine g_iconst C (gdec kX8_lettersBy 0 rfl) ?_
  refine g_istore_n C [(2, vI 0), (0, .ref (eA E 8 0)), (1, vI p1)] hl rfl (by decide) rfl (gdec kX8_lettersBy 1 rfl) (fun ls hl => ?_)
  refine g_iconst C (gdec kX8_lettersBy 2 rfl) ?_
  refine g_istore_n C [(3, vI 0), (2, vI 0), (0, .ref (eA E 8 0)), (1, vI p1)] hl rfl (by decide) rfl (gdec kX8_lettersBy 3 rfl) (fun ls hl => ?_)
  refine L4 gFuel _ _ _ (fun y2_14 y3_14 hf H locs h ls hl => ?_) H locs h ls (lv_sub hl [2, 3, 1, 0] rfl) hf
  refine g_iload_n C hl 2 rfl rfl (gdec kX8_lettersBy 34 rfl) ?_
  exact g_iret C h (congrArg (Option.map (Prod.mk _)) hf) (gdec kX8_lettersBy 35 rfl)
def f_X8_valueOf (G : GS) (p1 : Int) : Option (Int) :=
  gd p1 (if p1 = 0 then some (G 10 0 0) else if p1 = 1 then some (G 10 0 7) else if p1 = 2 then some (G 10 0 8) else if p1 = 3 then some (G 10 0 1) else if p1 = 4 then ga ((2 + p1) - 4) 260 (some (G 10 0 ((2 + p1) - 4))) else if p1 = 5 then ga ((2 + p1) - 4) 260 (some (G 10 0 ((2 + p1) - 4))) else if p1 = 6 then ga ((2 + p1) - 4) 260 (some (G 10 0 ((2 + p1) - 4))) else if p1 = 7 then ga ((2 + p1) - 4) 260 (some (G 10 0 ((2 + p1) - 4))) else if p1 = 8 then ga ((2 + p1) - 4) 260 (some (G 10 0 ((2 + p1) - 4))) else if p1 = 9 then if p1 = 10 then bn1 (f_X8_lettersBy G 1) (fun r18 => some r18) else bn1 (f_X8_lettersBy G 0) (fun r20 => some r20) else if p1 = 10 then bn1 (f_X8_lettersBy G 1) (fun r23 => some r23) else ga ((2 + p1) - 4) 260 (some (G 10 0 ((2 + p1) - 4))))
set_option maxHeartbeats 4000000 in
set_option maxRecDepth 100000 in
theorem c_X8_valueOf (l : Launch) (E : gEnv) (G : GS) (p1 : Int) (ho : gOk E 8 0) (rz : Int) (hf : f_X8_valueOf G p1 = some rz) : gMet l yX8_valueOf cX8_valueOf 2 (some .int) 5 108 0 0 [.ref (eA E 8 0), vI p1] E G (gQi E G rz) := by
  refine g_met (by decide +kernel) (Nat.le_of_ble_eq_true rfl) ?_
  intro p e s m below meth c C H locs h ls hl
  have C : gC p s m _ meth c RX8 cX8_valueOf 2 (some .int) E := C
  have hl : lv_has ls 2 [(0, .ref (eA E 8 0)), (1, vI p1)] := hl
  unfold f_X8_valueOf at hf
  refine g_iload_n C hl 1 rfl rfl (gdec kX8_valueOf 0 rfl) ?_
  obtain ⟨h1, hf⟩ := gd_s hf
  by_cases c2 : p1 = 0
  · replace hf := ifp c2 hf
    refine g_tableIn C (tgt := 60) c2 (by decide) (by decide) (by decide) rfl (by decide) (gdec kX8_valueOf 1 rfl) ?_
    refine g_aload_n C hl 0 rfl rfl (gdec kX8_valueOf 2 rfl) ?_
    refine gf_X8_7 C h ho (gdec kX8_valueOf 3 rfl) ?_
    refine g_iconst C (gdec kX8_valueOf 4 rfl) ?_
    refine g_iald C h (gcl_8_0 C ho) (n := 260) rfl (by decide) (⟨by decide, by decide⟩ : (0 : Int) ≤ 0 ∧ (0 : Int) < 260) (gdec kX8_valueOf 5 rfl) ?_
    exact g_iret C h (congrArg (Option.map (Prod.mk _)) hf) (gdec kX8_valueOf 6 rfl)
  replace hf := ifn c2 hf
  by_cases c3 : p1 = 1
  · replace hf := ifp c3 hf
    refine g_tableIn C (tgt := 67) c3 (by decide) (by decide) (by decide) rfl (by decide) (gdec kX8_valueOf 1 rfl) ?_
    refine g_aload_n C hl 0 rfl rfl (gdec kX8_valueOf 7 rfl) ?_
    refine gf_X8_7 C h ho (gdec kX8_valueOf 8 rfl) ?_
    refine g_bipush C (gdec kX8_valueOf 9 rfl) rfl ?_
    refine g_iald C h (gcl_8_0 C ho) (n := 260) rfl (by decide) (⟨by decide, by decide⟩ : (0 : Int) ≤ 7 ∧ (7 : Int) < 260) (gdec kX8_valueOf 10 rfl) ?_
    exact g_iret C h (congrArg (Option.map (Prod.mk _)) hf) (gdec kX8_valueOf 11 rfl)
  replace hf := ifn c3 hf
  by_cases c4 : p1 = 2
  · replace hf := ifp c4 hf
    refine g_tableIn C (tgt := 75) c4 (by decide) (by decide) (by decide) rfl (by decide) (gdec kX8_valueOf 1 rfl) ?_
    refine g_aload_n C hl 0 rfl rfl (gdec kX8_valueOf 12 rfl) ?_
    refine gf_X8_7 C h ho (gdec kX8_valueOf 13 rfl) ?_
    refine g_bipush C (gdec kX8_valueOf 14 rfl) rfl ?_
    refine g_iald C h (gcl_8_0 C ho) (n := 260) rfl (by decide) (⟨by decide, by decide⟩ : (0 : Int) ≤ 8 ∧ (8 : Int) < 260) (gdec kX8_valueOf 15 rfl) ?_
    exact g_iret C h (congrArg (Option.map (Prod.mk _)) hf) (gdec kX8_valueOf 16 rfl)
  replace hf := ifn c4 hf
  by_cases c5 : p1 = 3
  · replace hf := ifp c5 hf
    refine g_tableIn C (tgt := 83) c5 (by decide) (by decide) (by decide) rfl (by decide) (gdec kX8_valueOf 1 rfl) ?_
    refine g_aload_n C hl 0 rfl rfl (gdec kX8_valueOf 17 rfl) ?_
    refine gf_X8_7 C h ho (gdec kX8_valueOf 18 rfl) ?_
    refine g_iconst C (gdec kX8_valueOf 19 rfl) ?_
    refine g_iald C h (gcl_8_0 C ho) (n := 260) rfl (by decide) (⟨by decide, by decide⟩ : (0 : Int) ≤ 1 ∧ (1 : Int) < 260) (gdec kX8_valueOf 20 rfl) ?_
    exact g_iret C h (congrArg (Option.map (Prod.mk _)) hf) (gdec kX8_valueOf 21 rfl)
  replace hf := ifn c5 hf
  by_cases c6 : p1 = 4
  · replace hf := ifp c6 hf
    refine g_tableIn C (tgt := 106) c6 (by decide) (by decide) (by decide) rfl (by decide) (gdec kX8_valueOf 1 rfl) ?_
    refine g_aload_n C hl 0 rfl rfl (gdec kX8_valueOf 31 rfl) ?_
    refine gf_X8_7 C h ho (gdec kX8_valueOf 32 rfl) ?_
    refine g_iconst C (gdec kX8_valueOf 33 rfl) ?_
    refine g_iload_n C hl 1 rfl rfl (gdec kX8_valueOf 34 rfl) ?_
    refine g_iadd C (gdec kX8_valueOf 35 rfl) ?_
    refine g_iconst C (gdec kX8_valueOf 36 rfl) ?_
    refine g_isub C (gdec kX8_valueOf 37 rfl) ?_
    obtain ⟨h7, hf⟩ := ga_s hf
    refine g_iald C h (gcl_8_0 C ho) (n := 260) rfl (by decide) h7 (gdec kX8_valueOf 38 rfl) ?_
    exact g_iret C h (congrArg (Option.map (Prod.mk _)) hf) (gdec kX8_valueOf 39 rfl)
  replace hf := ifn c6 hf
  by_cases c8 : p1 = 5
  · replace hf := ifp c8 hf
    refine g_tableIn C (tgt := 106) c8 (by decide) (by decide) (by decide) rfl (by decide) (gdec kX8_valueOf 1 rfl) ?_
    refine g_aload_n C hl 0 rfl rfl (gdec kX8_valueOf 31 rfl) ?_
    refine gf_X8_7 C h ho (gdec kX8_valueOf 32 rfl) ?_
    refine g_iconst C (gdec kX8_valueOf 33 rfl) ?_
    refine g_iload_n C hl 1 rfl rfl (gdec kX8_valueOf 34 rfl) ?_
    refine g_iadd C (gdec kX8_valueOf 35 rfl) ?_
    refine g_iconst C (gdec kX8_valueOf 36 rfl) ?_
    refine g_isub C (gdec kX8_valueOf 37 rfl) ?_
    obtain ⟨h9, hf⟩ := ga_s hf
    refine g_iald C h (gcl_8_0 C ho) (n := 260) rfl (by decide) h9 (gdec kX8_valueOf 38 rfl) ?_
    exact g_iret C h (congrArg (Option.map (Prod.mk _)) hf) (gdec kX8_valueOf 39 rfl)
  replace hf := ifn c8 hf
  by_cases c10 : p1 = 6
  · replace hf := ifp c10 hf
    refine g_tableIn C (tgt := 106) c10 (by decide) (by decide) (by decide) rfl (by decide) (gdec kX8_valueOf 1 rfl) ?_
    refine g_aload_n C hl 0 rfl rfl (gdec kX8_valueOf 31 rfl) ?_
    refine gf_X8_7 C h ho (gdec kX8_valueOf 32 rfl) ?_
    refine g_iconst C (gdec kX8_valueOf 33 rfl) ?_
    refine g_iload_n C hl 1 rfl rfl (gdec kX8_valueOf 34 rfl) ?_
    refine g_iadd C (gdec kX8_valueOf 35 rfl) ?_
    refine g_iconst C (gdec kX8_valueOf 36 rfl) ?_
    refine g_isub C (gdec kX8_valueOf 37 rfl) ?_
    obtain ⟨h11, hf⟩ := ga_s hf
    refine g_iald C h (gcl_8_0 C ho) (n := 260) rfl (by decide) h11 (gdec kX8_valueOf 38 rfl) ?_
    exact g_iret C h (congrArg (Option.map (Prod.mk _)) hf) (gdec kX8_valueOf 39 rfl)
  replace hf := ifn c10 hf
  by_cases c12 : p1 = 7
  · replace hf := ifp c12 hf
    refine g_tableIn C (tgt := 106) c12 (by decide) (by decide) (by decide) rfl (by decide) (gdec kX8_valueOf 1 rfl) ?_
    refine g_aload_n C hl 0 rfl rfl (gdec kX8_valueOf 31 rfl) ?_
    refine gf_X8_7 C h ho (gdec kX8_valueOf 32 rfl) ?_
    refine g_iconst C (gdec kX8_valueOf 33 rfl) ?_
    refine g_iload_n C hl 1 rfl rfl (gdec kX8_valueOf 34 rfl) ?_
    refine g_iadd C (gdec kX8_valueOf 35 rfl) ?_
    refine g_iconst C (gdec kX8_valueOf 36 rfl) ?_
    refine g_isub C (gdec kX8_valueOf 37 rfl) ?_
    obtain ⟨h13, hf⟩ := ga_s hf
    refine g_iald C h (gcl_8_0 C ho) (n := 260) rfl (by decide) h13 (gdec kX8_valueOf 38 rfl) ?_
    exact g_iret C h (congrArg (Option.map (Prod.mk _)) hf) (gdec kX8_valueOf 39 rfl)
  replace hf := ifn c12 hf
  by_cases c14 : p1 = 8
  · replace hf := ifp c14 hf
    refine g_tableIn C (tgt := 106) c14 (by decide) (by decide) (by decide) rfl (by decide) (gdec kX8_valueOf 1 rfl) ?_
    refine g_aload_n C hl 0 rfl rfl (gdec kX8_valueOf 31 rfl) ?_
    refine gf_X8_7 C h ho (gdec kX8_valueOf 32 rfl) ?_
    refine g_iconst C (gdec kX8_valueOf 33 rfl) ?_
    refine g_iload_n C hl 1 rfl rfl (gdec kX8_valueOf 34 rfl) ?_
    refine g_iadd C (gdec kX8_valueOf 35 rfl) ?_
    refine g_iconst C (gdec kX8_valueOf 36 rfl) ?_
    refine g_isub C (gdec kX8_valueOf 37 rfl) ?_
    obtain ⟨h15, hf⟩ := ga_s hf
    refine g_iald C h (gcl_8_0 C ho) (n := 260) rfl (by decide) h15 (gdec kX8_valueOf 38 rfl) ?_
    exact g_iret C h (congrArg (Option.map (Prod.mk _)) hf) (gdec kX8_valueOf 39 rfl)
  replace hf := ifn c14 hf
  by_cases c16 : p1 = 9
  · replace hf := ifp c16 hf
    refine g_tableIn C (tgt := 90) c16 (by decide) (by decide) (by decide) rfl (by decide) (gdec kX8_valueOf 1 rfl) ?_
    refine g_aload_n C hl 0 rfl rfl (gdec kX8_valueOf 22 rfl) ?_
    refine g_iload_n C hl 1 rfl rfl (gdec kX8_valueOf 23 rfl) ?_
    refine g_bipush C (gdec kX8_valueOf 24 rfl) rfl ?_
    refine g_icmp_ne C (tgt := 101) h1 (by decide) (by decide) (gdec kX8_valueOf 25 rfl) (fun c17 => ?_) (fun c17 => ?_)
    · replace hf := ifp c17 hf
      refine g_iconst C (gdec kX8_valueOf 26 rfl) ?_
      refine g_goto C (tgt := 102) (by decide) (gdec kX8_valueOf 27 rfl) ?_
      obtain ⟨r18, q19, hf⟩ := bn1_s hf
      refine g_ci h (g_runV C h ho (by decide) rfl (c_X8_lettersBy l E _ _ ho _ q19) wM_X8_182 wI_X8_lettersBy wS_X8_lettersBy wN_X8 wC_X8_lettersBy rfl ny_X8_lettersBy rfl ⟨Nat.le_of_ble_eq_true rfl, Nat.le_of_ble_eq_true rfl⟩ hl.1 rfl (Nat.le_of_ble_eq_true rfl) (gdec kX8_valueOf 29 rfl) ⟨Nat.zero_le _, Nat.zero_le _⟩) (fun H locs h => ?_)
      exact g_iret C h (congrArg (Option.map (Prod.mk _)) hf) (gdec kX8_valueOf 30 rfl)
    · replace hf := ifn c17 hf
      refine g_iconst C (gdec kX8_valueOf 28 rfl) ?_
      obtain ⟨r20, q21, hf⟩ := bn1_s hf
      refine g_ci h (g_runV C h ho (by decide) rfl (c_X8_lettersBy l E _ _ ho _ q21) wM_X8_182 wI_X8_lettersBy wS_X8_lettersBy wN_X8 wC_X8_lettersBy rfl ny_X8_lettersBy rfl ⟨Nat.le_of_ble_eq_true rfl, Nat.le_of_ble_eq_true rfl⟩ hl.1 rfl (Nat.le_of_ble_eq_true rfl) (gdec kX8_valueOf 29 rfl) ⟨Nat.zero_le _, Nat.zero_le _⟩) (fun H locs h => ?_)
      exact g_iret C h (congrArg (Option.map (Prod.mk _)) hf) (gdec kX8_valueOf 30 rfl)
  replace hf := ifn c16 hf
  by_cases c22 : p1 = 10
  · replace hf := ifp c22 hf
    refine g_tableIn C (tgt := 90) c22 (by decide) (by decide) (by decide) rfl (by decide) (gdec kX8_valueOf 1 rfl) ?_
    refine g_aload_n C hl 0 rfl rfl (gdec kX8_valueOf 22 rfl) ?_
    refine g_iload_n C hl 1 rfl rfl (gdec kX8_valueOf 23 rfl) ?_
    refine g_bipush C (gdec kX8_valueOf 24 rfl) rfl ?_
    refine g_icmp_ne C (tgt := 101) h1 (by decide) (by decide) (gdec kX8_valueOf 25 rfl) (fun c0 => ?_) (fun c0 => absurd c22 c0)
    refine g_iconst C (gdec kX8_valueOf 26 rfl) ?_
    refine g_goto C (tgt := 102) (by decide) (gdec kX8_valueOf 27 rfl) ?_
    obtain ⟨r23, q24, hf⟩ := bn1_s hf
    refine g_ci h (g_runV C h ho (by decide) rfl (c_X8_lettersBy l E _ _ ho _ q24) wM_X8_182 wI_X8_lettersBy wS_X8_lettersBy wN_X8 wC_X8_lettersBy rfl ny_X8_lettersBy rfl ⟨Nat.le_of_ble_eq_true rfl, Nat.le_of_ble_eq_true rfl⟩ hl.1 rfl (Nat.le_of_ble_eq_true rfl) (gdec kX8_valueOf 29 rfl) ⟨Nat.zero_le _, Nat.zero_le _⟩) (fun H locs h => ?_)
    exact g_iret C h (congrArg (Option.map (Prod.mk _)) hf) (gdec kX8_valueOf 30 rfl)
  replace hf := ifn c22 hf
  refine g_tableOut C (tgt := 106) h1 (by omega) (by decide) (gdec kX8_valueOf 1 rfl) ?_
  refine g_aload_n C hl 0 rfl rfl (gdec kX8_valueOf 31 rfl) ?_
  refine gf_X8_7 C h ho (gdec kX8_valueOf 32 rfl) ?_
  refine g_iconst C (gdec kX8_valueOf 33 rfl) ?_
  refine g_iload_n C hl 1 rfl rfl (gdec kX8_valueOf 34 rfl) ?_
  refine g_iadd C (gdec kX8_valueOf 35 rfl) ?_
  refine g_iconst C (gdec kX8_valueOf 36 rfl) ?_
  refine g_isub C (gdec kX8_valueOf 37 rfl) ?_
  obtain ⟨h25, hf⟩ := ga_s hf
  refine g_iald C h (gcl_8_0 C ho) (n := 260) rfl (by decide) h25 (gdec kX8_valueOf 38 rfl) ?_
  exact g_iret C h (congrArg (Option.map (Prod.mk _)) hf) (gdec kX8_valueOf 39 rfl)
def f_X8_value (G : GS) (p1 : Int) : Option (GS × Int) :=
  bn1 (f_X8_in G (bm p1) 0 10) (fun r1 => gd r1 (if r1 = 0 then bnd (f_X8_throwing G 1) (fun G5 r6 => some (G5, r6)) else bn1 (f_X8_valueOf G p1) (fun r8 => bnd (f_X8_fine G r8) (fun G10 r11 => some (G10, r11)))))
set_option maxHeartbeats 4000000 in
set_option maxRecDepth 100000 in
theorem c_X8_value (l : Launch) (E : gEnv) (G : GS) (p1 : Int) (ho : gOk E 8 0) (Gz : GS) (rz : Int) (hf : f_X8_value G p1 = some (Gz, rz)) : gMet l yX8_value cX8_value 2 (some .int) 6 129 0 0 [.ref (eA E 8 0), vI p1] E G (gQi E Gz rz) := by
  refine g_met (by decide +kernel) (Nat.le_of_ble_eq_true rfl) ?_
  intro p e s m below meth c C H locs h ls hl
  have C : gC p s m _ meth c RX8 cX8_value 2 (some .int) E := C
  have hl : lv_has ls 2 [(0, .ref (eA E 8 0)), (1, vI p1)] := hl
  unfold f_X8_value at hf
  refine g_iload_n C hl 1 rfl rfl (gdec kX8_value 0 rfl) ?_
  refine g_i2l C (gdec kX8_value 1 rfl) ?_
  refine g_lconst C (z := 0) (gdec kX8_value 2 rfl) rfl ?_
  refine g_ldc2 C (n := 10) wL_X8_186 rfl (gdec kX8_value 3 rfl) ?_
  obtain ⟨r1, q2, hf⟩ := bn1_s hf
  refine g_ci h (g_runS C h (c_X8_in l E _ _ _ _ _ q2) wM_X8_40 wT_X8_in wN_X8 wC_X8_in rfl ny_X8_in rfl ⟨Nat.le_of_ble_eq_true rfl, Nat.le_of_ble_eq_true rfl⟩ hl.1 rfl (Nat.le_of_ble_eq_true rfl) (gdec kX8_value 4 rfl) ⟨Nat.zero_le _, Nat.zero_le _⟩) (fun H locs h => ?_)
  obtain ⟨h3, hf⟩ := gd_s hf
  refine g_if_eq C (tgt := 24) h3 (by decide) (gdec kX8_value 5 rfl) (fun c4 => ?_) (fun c4 => ?_)
  · replace hf := ifp c4 hf
    refine g_aload_n C hl 0 rfl rfl (gdec kX8_value 12 rfl) ?_
    refine g_iconst C (gdec kX8_value 13 rfl) ?_
    obtain ⟨G5, r6, q7, hf⟩ := bnd_s hf
    refine g_ci h (g_runV C h ho (by decide) rfl (c_X8_throwing l E _ _ ho _ _ q7) wM_X8_64 wI_X8_throwing wS_X8_throwing wN_X8 wC_X8_throwing rfl ny_X8_throwing rfl ⟨Nat.le_of_ble_eq_true rfl, Nat.le_of_ble_eq_true rfl⟩ hl.1 rfl (Nat.le_of_ble_eq_true rfl) (gdec kX8_value 14 rfl) ⟨Nat.zero_le _, Nat.zero_le _⟩) (fun H locs h => ?_)
    exact g_iret C h hf (gdec kX8_value 15 rfl)
  · replace hf := ifn c4 hf
    refine g_aload_n C hl 0 rfl rfl (gdec kX8_value 6 rfl) ?_
    refine g_aload_n C hl 0 rfl rfl (gdec kX8_value 7 rfl) ?_
    refine g_iload_n C hl 1 rfl rfl (gdec kX8_value 8 rfl) ?_
    obtain ⟨r8, q9, hf⟩ := bn1_s hf
    refine g_ci h (g_runV C h ho (by decide) rfl (c_X8_valueOf l E _ _ ho _ q9) wM_X8_188 wI_X8_valueOf wS_X8_valueOf wN_X8 wC_X8_valueOf rfl ny_X8_valueOf rfl ⟨Nat.le_of_ble_eq_true rfl, Nat.le_of_ble_eq_true rfl⟩ hl.1 rfl (Nat.le_of_ble_eq_true rfl) (gdec kX8_value 9 rfl) ⟨Nat.zero_le _, Nat.zero_le _⟩) (fun H locs h => ?_)
    obtain ⟨G10, r11, q12, hf⟩ := bnd_s hf
    refine g_ci h (g_runV C h ho (by decide) rfl (c_X8_fine l E _ _ ho _ _ q12) wM_X8_76 wI_X8_fine wS_X8_fine wN_X8 wC_X8_fine rfl ny_X8_fine rfl ⟨Nat.le_of_ble_eq_true rfl, Nat.le_of_ble_eq_true rfl⟩ hl.1 rfl (Nat.le_of_ble_eq_true rfl) (gdec kX8_value 10 rfl) ⟨Nat.zero_le _, Nat.zero_le _⟩) (fun H locs h => ?_)
    refine g_goto C (tgt := 29) (by decide) (gdec kX8_value 11 rfl) ?_
    exact g_iret C h hf (gdec kX8_value 15 rfl)
def f_X8_why (G : GS) (p1 : Int) : Option (GS × Int) :=
  bn1 (f_X8_isLetter G p1) (fun r1 => gd r1 (if r1 = 0 then bnd (f_X8_throwing G 1) (fun G5 r6 => some (G5, r6)) else bn1 (f_X8_whyNot G p1) (fun r8 => bnd (f_X8_fine G r8) (fun G10 r11 => some (G10, r11)))))
set_option maxHeartbeats 4000000 in
set_option maxRecDepth 100000 in
theorem c_X8_why (l : Launch) (E : gEnv) (G : GS) (p1 : Int) (ho : gOk E 8 0) (Gz : GS) (rz : Int) (hf : f_X8_why G p1 = some (Gz, rz)) : gMet l yX8_why cX8_why 2 (some .int) 5 113 0 0 [.ref (eA E 8 0), vI p1] E G (gQi E Gz rz) := by
  refine g_met (by decide +kernel) (Nat.le_of_ble_eq_true rfl) ?_
  intro p e s m below meth c C H locs h ls hl
  have C : gC p s m _ meth c RX8 cX8_why 2 (some .int) E := C
  have hl : lv_has ls 2 [(0, .ref (eA E 8 0)), (1, vI p1)] := hl
  unfold f_X8_why at hf
  refine g_aload_n C hl 0 rfl rfl (gdec kX8_why 0 rfl) ?_
  refine g_iload_n C hl 1 rfl rfl (gdec kX8_why 1 rfl) ?_
  obtain ⟨r1, q2, hf⟩ := bn1_s hf
  refine g_ci h (g_runV C h ho (by decide) rfl (c_X8_isLetter l E _ _ ho _ q2) wM_X8_177 wI_X8_isLetter wS_X8_isLetter wN_X8 wC_X8_isLetter rfl ny_X8_isLetter rfl ⟨Nat.le_of_ble_eq_true rfl, Nat.le_of_ble_eq_true rfl⟩ hl.1 rfl (Nat.le_of_ble_eq_true rfl) (gdec kX8_why 2 rfl) ⟨Nat.zero_le _, Nat.zero_le _⟩) (fun H locs h => ?_)
  obtain ⟨h3, hf⟩ := gd_s hf
  refine g_if_eq C (tgt := 20) h3 (by decide) (gdec kX8_why 3 rfl) (fun c4 => ?_) (fun c4 => ?_)
  · replace hf := ifp c4 hf
    refine g_aload_n C hl 0 rfl rfl (gdec kX8_why 10 rfl) ?_
    refine g_iconst C (gdec kX8_why 11 rfl) ?_
    obtain ⟨G5, r6, q7, hf⟩ := bnd_s hf
    refine g_ci h (g_runV C h ho (by decide) rfl (c_X8_throwing l E _ _ ho _ _ q7) wM_X8_64 wI_X8_throwing wS_X8_throwing wN_X8 wC_X8_throwing rfl ny_X8_throwing rfl ⟨Nat.le_of_ble_eq_true rfl, Nat.le_of_ble_eq_true rfl⟩ hl.1 rfl (Nat.le_of_ble_eq_true rfl) (gdec kX8_why 12 rfl) ⟨Nat.zero_le _, Nat.zero_le _⟩) (fun H locs h => ?_)
    exact g_iret C h hf (gdec kX8_why 13 rfl)
  · replace hf := ifn c4 hf
    refine g_aload_n C hl 0 rfl rfl (gdec kX8_why 4 rfl) ?_
    refine g_aload_n C hl 0 rfl rfl (gdec kX8_why 5 rfl) ?_
    refine g_iload_n C hl 1 rfl rfl (gdec kX8_why 6 rfl) ?_
    obtain ⟨r8, q9, hf⟩ := bn1_s hf
    refine g_ci h (g_runV C h ho (by decide) rfl (c_X8_whyNot l E _ _ ho _ q9) wM_X8_131 wI_X8_whyNot wS_X8_whyNot wN_X8 wC_X8_whyNot rfl ny_X8_whyNot rfl ⟨Nat.le_of_ble_eq_true rfl, Nat.le_of_ble_eq_true rfl⟩ hl.1 rfl (Nat.le_of_ble_eq_true rfl) (gdec kX8_why 7 rfl) ⟨Nat.zero_le _, Nat.zero_le _⟩) (fun H locs h => ?_)
    obtain ⟨G10, r11, q12, hf⟩ := bnd_s hf
    refine g_ci h (g_runV C h ho (by decide) rfl (c_X8_fine l E _ _ ho _ _ q12) wM_X8_76 wI_X8_fine wS_X8_fine wN_X8 wC_X8_fine rfl ny_X8_fine rfl ⟨Nat.le_of_ble_eq_true rfl, Nat.le_of_ble_eq_true rfl⟩ hl.1 rfl (Nat.le_of_ble_eq_true rfl) (gdec kX8_why 8 rfl) ⟨Nat.zero_le _, Nat.zero_le _⟩) (fun H locs h => ?_)
    refine g_goto C (tgt := 25) (by decide) (gdec kX8_why 9 rfl) ?_
    exact g_iret C h hf (gdec kX8_why 13 rfl)
def f_X8_laysAside_L2 : Nat → GS → Int → (GS → Int → Option (GS)) → Option (GS)
  | 0, _, _, _ => none
  | n + 1, G, x1, k => gd x1 (if x1 < 260 then ga x1 260 (f_X8_laysAside_L2 n (gup G 10 2 x1 (G 10 0 x1)) (x1 + 1) k) else k G x1)
def f_X8_laysAside (G : GS) : Option (GS) :=
  f_X8_laysAside_L2 gFuel G 0 (fun G5 y1_4 => some G5)
set_option maxHeartbeats 4000000 in
set_option maxRecDepth 100000 in
theorem c_X8_laysAside (l : Launch) (E : gEnv) (G : GS) (ho : gOk E 8 0) (Gz : GS) (hf : f_X8_laysAside G = some Gz) : gMet l yX8_laysAside cX8_laysAside 2 none 0 0 0 0 [.ref (eA E 8 0)] E G (gQv E Gz) := by
  refine g_met (by decide +kernel) (Nat.le_of_ble_eq_true rfl) ?_
  intro p e s m below meth c C H locs h ls hl
  have C : gC p s m _ meth c RX8 cX8_laysAside 2 none E := C
  have hl : lv_has ls 2 [(0, .ref (eA E 8 0))] := hl
  have L2 : ∀ (n : Nat) (G : GS) (x1 : Int) (k : (GS → Int → Option (GS))) (hK : ∀ (G : GS) (x1 : Int), k G x1 = some Gz → ∀ (H : Heap) (locs : List Loc), gH E s G H locs → ∀ ls, lv_has ls 2 [(0, .ref (eA E 8 0)), (1, vI x1)] → W p l e (gRm 0 0 0 0) s m ([.ref (eA E 8 0)] : List Value).toArray below meth c H locs 0 0 (MQ below (gQv E Gz) ([.ref (eA E 8 0)] : List Value).toArray s 0 0 (eF E)) (F0 m 27 ls [])), ∀ (H : Heap) (locs : List Loc), gH E s G H locs → ∀ ls, lv_has ls 2 [(0, .ref (eA E 8 0)), (1, vI x1)] → f_X8_laysAside_L2 n G x1 k = some Gz → W p l e (gRm 0 0 0 0) s m ([.ref (eA E 8 0)] : List Value).toArray below meth c H locs 0 0 (MQ below (gQv E Gz) ([.ref (eA E 8 0)] : List Value).toArray s 0 0 (eF E)) (F0 m 2 ls []) := by
    intro n
    induction n with
    | zero =>
      intro G x1 k hK H locs h ls hl hf
      exact absurd hf (by simp [f_X8_laysAside_L2])
    | succ n ih =>
      intro G x1 k hK H locs h ls hl hf
      unfold f_X8_laysAside_L2 at hf
      refine g_iload_n C hl 1 rfl rfl (gdec kX8_laysAside 2 rfl) ?_
      refine g_sipush C (gdec kX8_laysAside 3 rfl) rfl ?_
      obtain ⟨h1, hf⟩ := gd_s hf
      refine g_icmp_ge C (tgt := 27) h1 (by decide) (by decide) (gdec kX8_laysAside 4 rfl) (fun c2 => ?_) (fun c2 => ?_)
      · replace hf := ifp c2 hf
        refine g_aload_n C hl 0 rfl rfl (gdec kX8_laysAside 5 rfl) ?_
        refine gf_X8_16 C h ho (gdec kX8_laysAside 6 rfl) ?_
        refine g_iload_n C hl 1 rfl rfl (gdec kX8_laysAside 7 rfl) ?_
        refine g_aload_n C hl 0 rfl rfl (gdec kX8_laysAside 8 rfl) ?_
        refine gf_X8_7 C h ho (gdec kX8_laysAside 9 rfl) ?_
        refine g_iload_n C hl 1 rfl rfl (gdec kX8_laysAside 10 rfl) ?_
        obtain ⟨h3, hf⟩ := ga_s hf
        refine g_iald C h (gcl_8_0 C ho) (n := 260) rfl (by decide) h3 (gdec kX8_laysAside 11 rfl) ?_
        refine g_iast C h (gcl_8_2 C ho) (n := 260) rfl (by decide) h3 (gdec kX8_laysAside 12 rfl) (fun H locs h => ?_)
        refine g_iinc C (k := 1) [(1, vI (x1 + 1)), (0, .ref (eA E 8 0))] hl rfl (by decide) rfl (gdec kX8_laysAside 13 rfl) (fun ls hl => ?_)
        refine g_goto C (tgt := 2) (by decide) (gdec kX8_laysAside 14 rfl) ?_
        exact ih _ _ k hK H locs h ls (lv_sub hl [1, 0] rfl) hf
      · replace hf := ifn c2 hf
        exact hK _ _ hf H locs h ls (lv_sub hl [0, 1] rfl)
  unfold f_X8_laysAside at hf
  refine g_iconst C (gdec kX8_laysAside 0 rfl) ?_
  refine g_istore_n C [(1, vI 0), (0, .ref (eA E 8 0))] hl rfl (by decide) rfl (gdec kX8_laysAside 1 rfl) (fun ls hl => ?_)
  refine L2 gFuel _ _ _ (fun G5 y1_4 hf H locs h ls hl => ?_) H locs h ls (lv_sub hl [1, 0] rfl) hf
  exact g_vret C h hf (gdec kX8_laysAside 15 rfl)
def f_X8_takesBack_L2 : Nat → GS → Int → (GS → Int → Option (GS)) → Option (GS)
  | 0, _, _, _ => none
  | n + 1, G, x1, k => gd x1 (if x1 < 260 then ga x1 260 (f_X8_takesBack_L2 n (gup G 10 0 x1 (G 10 2 x1)) (x1 + 1) k) else k G x1)
def f_X8_takesBack (G : GS) : Option (GS) :=
  f_X8_takesBack_L2 gFuel G 0 (fun G5 y1_4 => some G5)
set_option maxHeartbeats 4000000 in
set_option maxRecDepth 100000 in
theorem c_X8_takesBack (l : Launch) (E : gEnv) (G : GS) (ho : gOk E 8 0) (Gz : GS) (hf : f_X8_takesBack G = some Gz) : gMet l yX8_takesBack cX8_takesBack 2 none 0 0 0 0 [.ref (eA E 8 0)] E G (gQv E Gz) := by
  refine g_met (by decide +kernel) (Nat.le_of_ble_eq_true rfl) ?_
  intro p e s m below meth c C H locs h ls hl
  have C : gC p s m _ meth c RX8 cX8_takesBack 2 none E := C
  have hl : lv_has ls 2 [(0, .ref (eA E 8 0))] := hl
  have L2 : ∀ (n : Nat) (G : GS) (x1 : Int) (k : (GS → Int → Option (GS))) (hK : ∀ (G : GS) (x1 : Int), k G x1 = some Gz → ∀ (H : Heap) (locs : List Loc), gH E s G H locs → ∀ ls, lv_has ls 2 [(0, .ref (eA E 8 0)), (1, vI x1)] → W p l e (gRm 0 0 0 0) s m ([.ref (eA E 8 0)] : List Value).toArray below meth c H locs 0 0 (MQ below (gQv E Gz) ([.ref (eA E 8 0)] : List Value).toArray s 0 0 (eF E)) (F0 m 27 ls [])), ∀ (H : Heap) (locs : List Loc), gH E s G H locs → ∀ ls, lv_has ls 2 [(0, .ref (eA E 8 0)), (1, vI x1)] → f_X8_takesBack_L2 n G x1 k = some Gz → W p l e (gRm 0 0 0 0) s m ([.ref (eA E 8 0)] : List Value).toArray below meth c H locs 0 0 (MQ below (gQv E Gz) ([.ref (eA E 8 0)] : List Value).toArray s 0 0 (eF E)) (F0 m 2 ls []) := by
    intro n
    induction n with
    | zero =>
      intro G x1 k hK H locs h ls hl hf
      exact absurd hf (by simp [f_X8_takesBack_L2])
    | succ n ih =>
      intro G x1 k hK H locs h ls hl hf
      unfold f_X8_takesBack_L2 at hf
      refine g_iload_n C hl 1 rfl rfl (gdec kX8_takesBack 2 rfl) ?_
      refine g_sipush C (gdec kX8_takesBack 3 rfl) rfl ?_
      obtain ⟨h1, hf⟩ := gd_s hf
      refine g_icmp_ge C (tgt := 27) h1 (by decide) (by decide) (gdec kX8_takesBack 4 rfl) (fun c2 => ?_) (fun c2 => ?_)
      · replace hf := ifp c2 hf
        refine g_aload_n C hl 0 rfl rfl (gdec kX8_takesBack 5 rfl) ?_
        refine gf_X8_7 C h ho (gdec kX8_takesBack 6 rfl) ?_
        refine g_iload_n C hl 1 rfl rfl (gdec kX8_takesBack 7 rfl) ?_
        refine g_aload_n C hl 0 rfl rfl (gdec kX8_takesBack 8 rfl) ?_
        refine gf_X8_16 C h ho (gdec kX8_takesBack 9 rfl) ?_
        refine g_iload_n C hl 1 rfl rfl (gdec kX8_takesBack 10 rfl) ?_
        obtain ⟨h3, hf⟩ := ga_s hf
        refine g_iald C h (gcl_8_2 C ho) (n := 260) rfl (by decide) h3 (gdec kX8_takesBack 11 rfl) ?_
        refine g_iast C h (gcl_8_0 C ho) (n := 260) rfl (by decide) h3 (gdec kX8_takesBack 12 rfl) (fun H locs h => ?_)
        refine g_iinc C (k := 1) [(1, vI (x1 + 1)), (0, .ref (eA E 8 0))] hl rfl (by decide) rfl (gdec kX8_takesBack 13 rfl) (fun ls hl => ?_)
        refine g_goto C (tgt := 2) (by decide) (gdec kX8_takesBack 14 rfl) ?_
        exact ih _ _ k hK H locs h ls (lv_sub hl [1, 0] rfl) hf
      · replace hf := ifn c2 hf
        exact hK _ _ hf H locs h ls (lv_sub hl [0, 1] rfl)
  unfold f_X8_takesBack at hf
  refine g_iconst C (gdec kX8_takesBack 0 rfl) ?_
  refine g_istore_n C [(1, vI 0), (0, .ref (eA E 8 0))] hl rfl (by decide) rfl (gdec kX8_takesBack 1 rfl) (fun ls hl => ?_)
  refine L2 gFuel _ _ _ (fun G5 y1_4 hf H locs h ls hl => ?_) H locs h ls (lv_sub hl [1, 0] rfl) hf
  exact g_vret C h hf (gdec kX8_takesBack 15 rfl)
def f_X8_hoursTo_L20 (p1 : Int) : Nat → GS → Int → (GS → Int → Option (GS × Int)) → Option (GS × Int)
  | 0, _, _, _ => none
  | n + 1, G, x2, k => gd x2 (if x2 < 500 then bn1 (f_X8_isDelivered G p1) (fun r12 => gd r12 (if r12 = 0 then bn1 (f_X8_hour G) (fun G16 => f_X8_hoursTo_L20 p1 n G16 (x2 + 1) k) else k G x2)) else k G x2)
def f_X8_hoursTo (G : GS) (p1 : Int) : Option (GS × Int) :=
  bn1 (f_X8_isLetter G p1) (fun r1 => gd r1 (if r1 = 0 then bnd (f_X8_throwing G 1) (fun G5 r6 => some (G5, r6)) else bn1 (f_X8_laysAside G) (fun G8 => f_X8_hoursTo_L20 p1 gFuel G8 0 (fun G19 y2_18 => bn1 (f_X8_isDelivered G19 p1) (fun r20 => gd r20 (if r20 = 0 then bn1 (f_X8_takesBack G19) (fun G24 => bnd (f_X8_fine G24 (-1)) (fun G26 r27 => some (G26, r27))) else bn1 (f_X8_takesBack G19) (fun G29 => bnd (f_X8_fine G29 y2_18) (fun G31 r32 => some (G31, r32)))))))))
set_option maxHeartbeats 4000000 in
set_option maxRecDepth 100000 in
theorem c_X8_hoursTo (l : Launch) (E : gEnv) (G : GS) (p1 : Int) (ho : gOk E 8 0) (Gz : GS) (rz : Int) (hf : f_X8_hoursTo G p1 = some (Gz, rz)) : gMet l yX8_hoursTo cX8_hoursTo 4 (some .int) 8 179 0 0 [.ref (eA E 8 0), vI p1] E G (gQi E Gz rz) := by
  refine g_met (by decide +kernel) (Nat.le_of_ble_eq_true rfl) ?_
  intro p e s m below meth c C H locs h ls hl
  have C : gC p s m _ meth c RX8 cX8_hoursTo 4 (some .int) E := C
  have hl : lv_has ls 4 [(0, .ref (eA E 8 0)), (1, vI p1)] := hl
  have L20 : ∀ (n : Nat) (G : GS) (x2 : Int) (k : (GS → Int → Option (GS × Int))) (hK : ∀ (G : GS) (x2 : Int), k G x2 = some (Gz, rz) → ∀ (H : Heap) (locs : List Loc), gH E s G H locs → ∀ ls, lv_has ls 4 [(0, .ref (eA E 8 0)), (1, vI p1), (2, vI x2)] → W p l e (gRm 8 179 0 0) s m ([.ref (eA E 8 0), vI p1] : List Value).toArray below meth c H locs 0 0 (MQ below (gQi E Gz rz) ([.ref (eA E 8 0), vI p1] : List Value).toArray s 0 0 (eF E)) (F0 m 45 ls [])), ∀ (H : Heap) (locs : List Loc), gH E s G H locs → ∀ ls, lv_has ls 4 [(0, .ref (eA E 8 0)), (1, vI p1), (2, vI x2)] → f_X8_hoursTo_L20 p1 n G x2 k = some (Gz, rz) → W p l e (gRm 8 179 0 0) s m ([.ref (eA E 8 0), vI p1] : List Value).toArray below meth c H locs 0 0 (MQ below (gQi E Gz rz) ([.ref (eA E 8 0), vI p1] : List Value).toArray s 0 0 (eF E)) (F0 m 20 ls []) := by
    intro n
    induction n with
    | zero =>
      intro G x2 k hK H locs h ls hl hf
      exact absurd hf (by simp [f_X8_hoursTo_L20])
    | succ n ih =>
      intro G x2 k hK H locs h ls hl hf
      unfold f_X8_hoursTo_L20 at hf
      refine g_iload_n C hl 2 rfl rfl (gdec kX8_hoursTo 12 rfl) ?_
      refine g_sipush C (gdec kX8_hoursTo 13 rfl) rfl ?_
      obtain ⟨h10, hf⟩ := gd_s hf
      refine g_icmp_ge C (tgt := 45) h10 (by decide) (by decide) (gdec kX8_hoursTo 14 rfl) (fun c11 => ?_) (fun c11 => ?_)
      · replace hf := ifp c11 hf
        refine g_aload_n C hl 0 rfl rfl (gdec kX8_hoursTo 15 rfl) ?_
        refine g_iload_n C hl 1 rfl rfl (gdec kX8_hoursTo 16 rfl) ?_
        obtain ⟨r12, q13, hf⟩ := bn1_s hf
        refine g_ci h (g_runV C h ho (by decide) rfl (c_X8_isDelivered l E _ _ ho _ q13) wM_X8_95 wI_X8_isDelivered wS_X8_isDelivered wN_X8 wC_X8_isDelivered rfl ny_X8_isDelivered rfl ⟨Nat.le_of_ble_eq_true rfl, Nat.le_of_ble_eq_true rfl⟩ hl.1 rfl (Nat.le_of_ble_eq_true rfl) (gdec kX8_hoursTo 17 rfl) ⟨Nat.zero_le _, Nat.zero_le _⟩) (fun H locs h => ?_)
        obtain ⟨h14, hf⟩ := gd_s hf
        refine g_if_ne C (tgt := 45) h14 (by decide) (gdec kX8_hoursTo 18 rfl) (fun c15 => ?_) (fun c15 => ?_)
        · replace hf := ifp c15 hf
          refine g_aload_n C hl 0 rfl rfl (gdec kX8_hoursTo 19 rfl) ?_
          obtain ⟨G16, q17, hf⟩ := bn1_s hf
          refine g_cv h (g_runV C h ho (by decide) rfl (c_X8_hour l E _ ho _ q17) wM_X8_162 wI_X8_hour wS_X8_hour wN_X8 wC_X8_hour rfl ny_X8_hour rfl ⟨Nat.le_of_ble_eq_true rfl, Nat.le_of_ble_eq_true rfl⟩ hl.1 rfl (Nat.le_of_ble_eq_true rfl) (gdec kX8_hoursTo 20 rfl) ⟨Nat.zero_le _, Nat.zero_le _⟩) (fun H locs h => ?_)
          refine g_iinc C (k := 2) [(2, vI (x2 + 1)), (0, .ref (eA E 8 0)), (1, vI p1)] hl rfl (by decide) rfl (gdec kX8_hoursTo 21 rfl) (fun ls hl => ?_)
          refine g_goto C (tgt := 20) (by decide) (gdec kX8_hoursTo 22 rfl) ?_
          exact ih _ _ k hK H locs h ls (lv_sub hl [1, 2, 0] rfl) hf
        · replace hf := ifn c15 hf
          exact hK _ _ hf H locs h ls (lv_sub hl [0, 1, 2] rfl)
      · replace hf := ifn c11 hf
        exact hK _ _ hf H locs h ls (lv_sub hl [0, 1, 2] rfl)
  unfold f_X8_hoursTo at hf
  refine g_aload_n C hl 0 rfl rfl (gdec kX8_hoursTo 0 rfl) ?_
  refine g_iload_n C hl 1 rfl rfl (gdec kX8_hoursTo 1 rfl) ?_
  obtain ⟨r1, q2, hf⟩ := bn1_s hf
  refine g_ci h (g_runV C h ho (by decide) rfl (c_X8_isLetter l E _ _ ho _ q2) wM_X8_177 wI_X8_isLetter wS_X8_isLetter wN_X8 wC_X8_isLetter rfl ny_X8_isLetter rfl ⟨Nat.le_of_ble_eq_true rfl, Nat.le_of_ble_eq_true rfl⟩ hl.1 rfl (Nat.le_of_ble_eq_true rfl) (gdec kX8_hoursTo 2 rfl) ⟨Nat.zero_le _, Nat.zero_le _⟩) (fun H locs h => ?_)
  obtain ⟨h3, hf⟩ := gd_s hf
  refine g_if_ne C (tgt := 14) h3 (by decide) (gdec kX8_hoursTo 3 rfl) (fun c4 => ?_) (fun c4 => ?_)
  · replace hf := ifp c4 hf
    refine g_aload_n C hl 0 rfl rfl (gdec kX8_hoursTo 4 rfl) ?_
    refine g_iconst C (gdec kX8_hoursTo 5 rfl) ?_
    obtain ⟨G5, r6, q7, hf⟩ := bnd_s hf
    refine g_ci h (g_runV C h ho (by decide) rfl (c_X8_throwing l E _ _ ho _ _ q7) wM_X8_64 wI_X8_throwing wS_X8_throwing wN_X8 wC_X8_throwing rfl ny_X8_throwing rfl ⟨Nat.le_of_ble_eq_true rfl, Nat.le_of_ble_eq_true rfl⟩ hl.1 rfl (Nat.le_of_ble_eq_true rfl) (gdec kX8_hoursTo 6 rfl) ⟨Nat.zero_le _, Nat.zero_le _⟩) (fun H locs h => ?_)
    exact g_iret C h hf (gdec kX8_hoursTo 7 rfl)
  · replace hf := ifn c4 hf
    refine g_aload_n C hl 0 rfl rfl (gdec kX8_hoursTo 8 rfl) ?_
    obtain ⟨G8, q9, hf⟩ := bn1_s hf
    refine g_cv h (g_runV C h ho (by decide) rfl (c_X8_laysAside l E _ ho _ q9) wM_X8_191 wI_X8_laysAside wS_X8_laysAside wN_X8 wC_X8_laysAside rfl ny_X8_laysAside rfl ⟨Nat.le_of_ble_eq_true rfl, Nat.le_of_ble_eq_true rfl⟩ hl.1 rfl (Nat.le_of_ble_eq_true rfl) (gdec kX8_hoursTo 9 rfl) ⟨Nat.zero_le _, Nat.zero_le _⟩) (fun H locs h => ?_)
    refine g_iconst C (gdec kX8_hoursTo 10 rfl) ?_
    refine g_istore_n C [(2, vI 0), (0, .ref (eA E 8 0)), (1, vI p1)] hl rfl (by decide) rfl (gdec kX8_hoursTo 11 rfl) (fun ls hl => ?_)
    refine L20 gFuel _ _ _ (fun G19 y2_18 hf H locs h ls hl => ?_) H locs h ls (lv_sub hl [1, 2, 0] rfl) hf
    refine g_aload_n C hl 0 rfl rfl (gdec kX8_hoursTo 23 rfl) ?_
    refine g_iload_n C hl 1 rfl rfl (gdec kX8_hoursTo 24 rfl) ?_
    obtain ⟨r20, q21, hf⟩ := bn1_s hf
    refine g_ci h (g_runV C h ho (by decide) rfl (c_X8_isDelivered l E _ _ ho _ q21) wM_X8_95 wI_X8_isDelivered wS_X8_isDelivered wN_X8 wC_X8_isDelivered rfl ny_X8_isDelivered rfl ⟨Nat.le_of_ble_eq_true rfl, Nat.le_of_ble_eq_true rfl⟩ hl.1 rfl (Nat.le_of_ble_eq_true rfl) (gdec kX8_hoursTo 25 rfl) ⟨Nat.zero_le _, Nat.zero_le _⟩) (fun H locs h => ?_)
    obtain ⟨h22, hf⟩ := gd_s hf
    refine g_if_eq C (tgt := 57) h22 (by decide) (gdec kX8_hoursTo 26 rfl) (fun c23 => ?_) (fun c23 => ?_)
    · replace hf := ifp c23 hf
      refine g_iconst C (gdec kX8_hoursTo 29 rfl) ?_
      refine g_istore_n C [(3, vI (-1)), (0, .ref (eA E 8 0)), (1, vI p1), (2, vI y2_18)] hl rfl (by decide) rfl (gdec kX8_hoursTo 30 rfl) (fun ls hl => ?_)
      refine g_aload_n C hl 1 rfl rfl (gdec kX8_hoursTo 31 rfl) ?_
      obtain ⟨G24, q25, hf⟩ := bn1_s hf
      refine g_cv h (g_runV C h ho (by decide) rfl (c_X8_takesBack l E _ ho _ q25) wM_X8_194 wI_X8_takesBack wS_X8_takesBack wN_X8 wC_X8_takesBack rfl ny_X8_takesBack rfl ⟨Nat.le_of_ble_eq_true rfl, Nat.le_of_ble_eq_true rfl⟩ hl.1 rfl (Nat.le_of_ble_eq_true rfl) (gdec kX8_hoursTo 32 rfl) ⟨Nat.zero_le _, Nat.zero_le _⟩) (fun H locs h => ?_)
      refine g_aload_n C hl 1 rfl rfl (gdec kX8_hoursTo 33 rfl) ?_
      refine g_iload_n C hl 0 rfl rfl (gdec kX8_hoursTo 34 rfl) ?_
      obtain ⟨G26, r27, q28, hf⟩ := bnd_s hf
      refine g_ci h (g_runV C h ho (by decide) rfl (c_X8_fine l E _ _ ho _ _ q28) wM_X8_76 wI_X8_fine wS_X8_fine wN_X8 wC_X8_fine rfl ny_X8_fine rfl ⟨Nat.le_of_ble_eq_true rfl, Nat.le_of_ble_eq_true rfl⟩ hl.1 rfl (Nat.le_of_ble_eq_true rfl) (gdec kX8_hoursTo 35 rfl) ⟨Nat.zero_le _, Nat.zero_le _⟩) (fun H locs h => ?_)
      exact g_iret C h hf (gdec kX8_hoursTo 36 rfl)
    · replace hf := ifn c23 hf
      refine g_iload_n C hl 2 rfl rfl (gdec kX8_hoursTo 27 rfl) ?_
      refine g_goto C (tgt := 58) (by decide) (gdec kX8_hoursTo 28 rfl) ?_
      refine g_istore_n C [(3, vI y2_18), (0, .ref (eA E 8 0)), (1, vI p1), (2, vI y2_18)] hl rfl (by decide) rfl (gdec kX8_hoursTo 30 rfl) (fun ls hl => ?_)
      refine g_aload_n C hl 1 rfl rfl (gdec kX8_hoursTo 31 rfl) ?_
      obtain ⟨G29, q30, hf⟩ := bn1_s hf
      refine g_cv h (g_runV C h ho (by decide) rfl (c_X8_takesBack l E _ ho _ q30) wM_X8_194 wI_X8_takesBack wS_X8_takesBack wN_X8 wC_X8_takesBack rfl ny_X8_takesBack rfl ⟨Nat.le_of_ble_eq_true rfl, Nat.le_of_ble_eq_true rfl⟩ hl.1 rfl (Nat.le_of_ble_eq_true rfl) (gdec kX8_hoursTo 32 rfl) ⟨Nat.zero_le _, Nat.zero_le _⟩) (fun H locs h => ?_)
      refine g_aload_n C hl 1 rfl rfl (gdec kX8_hoursTo 33 rfl) ?_
      refine g_iload_n C hl 0 rfl rfl (gdec kX8_hoursTo 34 rfl) ?_
      obtain ⟨G31, r32, q33, hf⟩ := bnd_s hf
      refine g_ci h (g_runV C h ho (by decide) rfl (c_X8_fine l E _ _ ho _ _ q33) wM_X8_76 wI_X8_fine wS_X8_fine wN_X8 wC_X8_fine rfl ny_X8_fine rfl ⟨Nat.le_of_ble_eq_true rfl, Nat.le_of_ble_eq_true rfl⟩ hl.1 rfl (Nat.le_of_ble_eq_true rfl) (gdec kX8_hoursTo 35 rfl) ⟨Nat.zero_le _, Nat.zero_le _⟩) (fun H locs h => ?_)
      exact g_iret C h hf (gdec kX8_hoursTo 36 rfl)
def f_X8_areDelivered (G : GS) : Option (Int) :=
  bn1 (f_X8_lettersBy G 0) (fun r1 => bn1 (f_X8_lettersBy G 1) (fun r3 => gd (r1 + r3) (if (r1 + r3) = 0 then some 1 else some 0)))
set_option maxHeartbeats 4000000 in
set_option maxRecDepth 100000 in
theorem c_X8_areDelivered (l : Launch) (E : gEnv) (G : GS) (ho : gOk E 8 0) (rz : Int) (hf : f_X8_areDelivered G = some rz) : gMet l yX8_areDelivered cX8_areDelivered 1 (some .boolean) 5 108 0 0 [.ref (eA E 8 0)] E G (gQi E G rz) := by
  refine g_met (by decide +kernel) (Nat.le_of_ble_eq_true rfl) ?_
  intro p e s m below meth c C H locs h ls hl
  have C : gC p s m _ meth c RX8 cX8_areDelivered 1 (some .boolean) E := C
  have hl : lv_has ls 1 [(0, .ref (eA E 8 0))] := hl
  unfold f_X8_areDelivered at hf
  refine g_aload_n C hl 0 rfl rfl (gdec kX8_areDelivered 0 rfl) ?_
  refine g_iconst C (gdec kX8_areDelivered 1 rfl) ?_
  obtain ⟨r1, q2, hf⟩ := bn1_s hf
  refine g_ci h (g_runV C h ho (by decide) rfl (c_X8_lettersBy l E _ _ ho _ q2) wM_X8_182 wI_X8_lettersBy wS_X8_lettersBy wN_X8 wC_X8_lettersBy rfl ny_X8_lettersBy rfl ⟨Nat.le_of_ble_eq_true rfl, Nat.le_of_ble_eq_true rfl⟩ hl.1 rfl (Nat.le_of_ble_eq_true rfl) (gdec kX8_areDelivered 2 rfl) ⟨Nat.zero_le _, Nat.zero_le _⟩) (fun H locs h => ?_)
  refine g_aload_n C hl 0 rfl rfl (gdec kX8_areDelivered 3 rfl) ?_
  refine g_iconst C (gdec kX8_areDelivered 4 rfl) ?_
  obtain ⟨r3, q4, hf⟩ := bn1_s hf
  refine g_ci h (g_runV C h ho (by decide) rfl (c_X8_lettersBy l E _ _ ho _ q4) wM_X8_182 wI_X8_lettersBy wS_X8_lettersBy wN_X8 wC_X8_lettersBy rfl ny_X8_lettersBy rfl ⟨Nat.le_of_ble_eq_true rfl, Nat.le_of_ble_eq_true rfl⟩ hl.1 rfl (Nat.le_of_ble_eq_true rfl) (gdec kX8_areDelivered 5 rfl) ⟨Nat.zero_le _, Nat.zero_le _⟩) (fun H locs h => ?_)
  refine g_iadd C (gdec kX8_areDelivered 6 rfl) ?_
  obtain ⟨h5, hf⟩ := gd_s hf
  refine g_if_ne C (tgt := 18) h5 (by decide) (gdec kX8_areDelivered 7 rfl) (fun c6 => ?_) (fun c6 => ?_)
  · replace hf := ifp c6 hf
    refine g_iconst C (gdec kX8_areDelivered 8 rfl) ?_
    refine g_goto C (tgt := 19) (by decide) (gdec kX8_areDelivered 9 rfl) ?_
    exact g_zret C h (Or.inr rfl) (congrArg (Option.map (Prod.mk _)) hf) (gdec kX8_areDelivered 11 rfl)
  · replace hf := ifn c6 hf
    refine g_iconst C (gdec kX8_areDelivered 10 rfl) ?_
    exact g_zret C h (Or.inl rfl) (congrArg (Option.map (Prod.mk _)) hf) (gdec kX8_areDelivered 11 rfl)
def f_X8_toAll_L2 : Nat → GS → Int → (GS → Int → Option (GS × Int)) → Option (GS × Int)
  | 0, _, _, _ => none
  | n + 1, G, x1, k => gd x1 (if x1 < 500 then bn1 (f_X8_areDelivered G) (fun r3 => gd r3 (if r3 = 0 then bn1 (f_X8_hour G) (fun G7 => f_X8_toAll_L2 n G7 (x1 + 1) k) else k G x1)) else k G x1)
def f_X8_toAll (G : GS) : Option (GS × Int) :=
  f_X8_toAll_L2 gFuel G 0 (fun G10 y1_9 => bn1 (f_X8_areDelivered G10) (fun r11 => gd r11 (if r11 = 0 then some (G10, (-1)) else some (G10, y1_9))))
set_option maxHeartbeats 4000000 in
set_option maxRecDepth 100000 in
theorem c_X8_toAll (l : Launch) (E : gEnv) (G : GS) (ho : gOk E 8 0) (Gz : GS) (rz : Int) (hf : f_X8_toAll G = some (Gz, rz)) : gMet l yX8_toAll cX8_toAll 2 (some .int) 8 179 0 0 [.ref (eA E 8 0)] E G (gQi E Gz rz) := by
  refine g_met (by decide +kernel) (Nat.le_of_ble_eq_true rfl) ?_
  intro p e s m below meth c C H locs h ls hl
  have C : gC p s m _ meth c RX8 cX8_toAll 2 (some .int) E := C
  have hl : lv_has ls 2 [(0, .ref (eA E 8 0))] := hl
  have L2 : ∀ (n : Nat) (G : GS) (x1 : Int) (k : (GS → Int → Option (GS × Int))) (hK : ∀ (G : GS) (x1 : Int), k G x1 = some (Gz, rz) → ∀ (H : Heap) (locs : List Loc), gH E s G H locs → ∀ ls, lv_has ls 2 [(0, .ref (eA E 8 0)), (1, vI x1)] → W p l e (gRm 8 179 0 0) s m ([.ref (eA E 8 0)] : List Value).toArray below meth c H locs 0 0 (MQ below (gQi E Gz rz) ([.ref (eA E 8 0)] : List Value).toArray s 0 0 (eF E)) (F0 m 26 ls [])), ∀ (H : Heap) (locs : List Loc), gH E s G H locs → ∀ ls, lv_has ls 2 [(0, .ref (eA E 8 0)), (1, vI x1)] → f_X8_toAll_L2 n G x1 k = some (Gz, rz) → W p l e (gRm 8 179 0 0) s m ([.ref (eA E 8 0)] : List Value).toArray below meth c H locs 0 0 (MQ below (gQi E Gz rz) ([.ref (eA E 8 0)] : List Value).toArray s 0 0 (eF E)) (F0 m 2 ls []) := by
    intro n
    induction n with
    | zero =>
      intro G x1 k hK H locs h ls hl hf
      exact absurd hf (by simp [f_X8_toAll_L2])
    | succ n ih =>
      intro G x1 k hK H locs h ls hl hf
      unfold f_X8_toAll_L2 at hf
      refine g_iload_n C hl 1 rfl rfl (gdec kX8_toAll 2 rfl) ?_
      refine g_sipush C (gdec kX8_toAll 3 rfl) rfl ?_
      obtain ⟨h1, hf⟩ := gd_s hf
      refine g_icmp_ge C (tgt := 26) h1 (by decide) (by decide) (gdec kX8_toAll 4 rfl) (fun c2 => ?_) (fun c2 => ?_)
      · replace hf := ifp c2 hf
        refine g_aload_n C hl 0 rfl rfl (gdec kX8_toAll 5 rfl) ?_
        obtain ⟨r3, q4, hf⟩ := bn1_s hf
        refine g_ci h (g_runV C h ho (by decide) rfl (c_X8_areDelivered l E _ ho _ q4) wM_X8_197 wI_X8_areDelivered wS_X8_areDelivered wN_X8 wC_X8_areDelivered rfl ny_X8_areDelivered rfl ⟨Nat.le_of_ble_eq_true rfl, Nat.le_of_ble_eq_true rfl⟩ hl.1 rfl (Nat.le_of_ble_eq_true rfl) (gdec kX8_toAll 6 rfl) ⟨Nat.zero_le _, Nat.zero_le _⟩) (fun H locs h => ?_)
        obtain ⟨h5, hf⟩ := gd_s hf
        refine g_if_ne C (tgt := 26) h5 (by decide) (gdec kX8_toAll 7 rfl) (fun c6 => ?_) (fun c6 => ?_)
        · replace hf := ifp c6 hf
          refine g_aload_n C hl 0 rfl rfl (gdec kX8_toAll 8 rfl) ?_
          obtain ⟨G7, q8, hf⟩ := bn1_s hf
          refine g_cv h (g_runV C h ho (by decide) rfl (c_X8_hour l E _ ho _ q8) wM_X8_162 wI_X8_hour wS_X8_hour wN_X8 wC_X8_hour rfl ny_X8_hour rfl ⟨Nat.le_of_ble_eq_true rfl, Nat.le_of_ble_eq_true rfl⟩ hl.1 rfl (Nat.le_of_ble_eq_true rfl) (gdec kX8_toAll 9 rfl) ⟨Nat.zero_le _, Nat.zero_le _⟩) (fun H locs h => ?_)
          refine g_iinc C (k := 1) [(1, vI (x1 + 1)), (0, .ref (eA E 8 0))] hl rfl (by decide) rfl (gdec kX8_toAll 10 rfl) (fun ls hl => ?_)
          refine g_goto C (tgt := 2) (by decide) (gdec kX8_toAll 11 rfl) ?_
          exact ih _ _ k hK H locs h ls (lv_sub hl [1, 0] rfl) hf
        · replace hf := ifn c6 hf
          exact hK _ _ hf H locs h ls (lv_sub hl [0, 1] rfl)
      · replace hf := ifn c2 hf
        exact hK _ _ hf H locs h ls (lv_sub hl [0, 1] rfl)
  unfold f_X8_toAll at hf
  refine g_iconst C (gdec kX8_toAll 0 rfl) ?_
  refine g_istore_n C [(1, vI 0), (0, .ref (eA E 8 0))] hl rfl (by decide) rfl (gdec kX8_toAll 1 rfl) (fun ls hl => ?_)
  refine L2 gFuel _ _ _ (fun G10 y1_9 hf H locs h ls hl => ?_) H locs h ls (lv_sub hl [1, 0] rfl) hf
  refine g_aload_n C hl 0 rfl rfl (gdec kX8_toAll 12 rfl) ?_
  obtain ⟨r11, q12, hf⟩ := bn1_s hf
  refine g_ci h (g_runV C h ho (by decide) rfl (c_X8_areDelivered l E _ ho _ q12) wM_X8_197 wI_X8_areDelivered wS_X8_areDelivered wN_X8 wC_X8_areDelivered rfl ny_X8_areDelivered rfl ⟨Nat.le_of_ble_eq_true rfl, Nat.le_of_ble_eq_true rfl⟩ hl.1 rfl (Nat.le_of_ble_eq_true rfl) (gdec kX8_toAll 13 rfl) ⟨Nat.zero_le _, Nat.zero_le _⟩) (fun H locs h => ?_)
  obtain ⟨h13, hf⟩ := gd_s hf
  refine g_if_eq C (tgt := 37) h13 (by decide) (gdec kX8_toAll 14 rfl) (fun c14 => ?_) (fun c14 => ?_)
  · replace hf := ifp c14 hf
    refine g_iconst C (gdec kX8_toAll 17 rfl) ?_
    exact g_iret C h hf (gdec kX8_toAll 18 rfl)
  · replace hf := ifn c14 hf
    refine g_iload_n C hl 1 rfl rfl (gdec kX8_toAll 15 rfl) ?_
    refine g_goto C (tgt := 38) (by decide) (gdec kX8_toAll 16 rfl) ?_
    exact g_iret C h hf (gdec kX8_toAll 18 rfl)

def f_L_isSound_L16 (G F : GS) (p2 : Int) : Nat → Int → Int → Int → Int → Int → Int → (Int → Int → Int → Int → Int → Int → Option (Int)) → Option (Int)
  | 0, _, _, _, _, _, _, _ => none
  | n + 1, x2, x3, x4, x5, x6, x7, k => gd x7 (gd p2 (if x7 < p2 then bxr (f_X7_inn G x7 3) (fun r4 => bxr (f_X7_inn G x7 4) (fun r6 => bxr (f_X7_inn G x7 5) (fun r8 => f_L_isSound_L16 G F p2 n (x2 + r4) (x3 + r6) (x4 + r8) x5 x6 (x7 + 1) k))) else k x2 x3 x4 x5 x6 x7))
def f_L_isSound_L92 (G F : GS) (p2 : Int) : Nat → Int → Int → Int → Int → Int → Int → Int → (Int → Int → Int → Int → Int → Int → Int → Option (Int)) → Option (Int)
  | 0, _, _, _, _, _, _, _, _ => none
  | n + 1, x2, x3, x4, x5, x6, x7, x8, k => bxr (f_X7_value G 1) (fun r21 => gd x8 (gd r21 (if x8 < r21 then bxr (f_X7_team G x8 9) (fun r26 => bxr (f_X7_team G x8 4) (fun r28 => gd r28 (if r28 < 0 then gd x7 (if x7 = 0 then f_L_isSound_L92 G F p2 n x2 x3 x4 (x5 + r26) (x6 + 0) 0 (x8 + 1) k else bxr (f_X7_team G x8 1) (fun r34 => gd r34 (if r34 < 0 then f_L_isSound_L92 G F p2 n x2 x3 x4 (x5 + r26) (x6 + 0) 0 (x8 + 1) k else bxr (f_X7_team G x8 1) (fun r38 => gd r38 (if 100 < r38 then f_L_isSound_L92 G F p2 n x2 x3 x4 (x5 + r26) (x6 + 0) 0 (x8 + 1) k else bxr (f_X7_team G x8 3) (fun r42 => gd r42 (if 0 < r42 then bxr (f_X7_team G x8 4) (fun r46 => gd r46 (if r46 < 0 then bxr (f_X7_team G x8 5) (fun r50 => gd r50 (if r50 = 1 then f_L_isSound_L92 G F p2 n x2 x3 x4 (x5 + r26) (x6 + 0) 1 (x8 + 1) k else f_L_isSound_L92 G F p2 n x2 x3 x4 (x5 + r26) (x6 + 0) 0 (x8 + 1) k)) else f_L_isSound_L92 G F p2 n x2 x3 x4 (x5 + r26) (x6 + 0) 1 (x8 + 1) k)) else bxr (f_X7_team G x8 4) (fun r57 => gd r57 (if r57 < 0 then bxr (f_X7_team G x8 5) (fun r61 => gd r61 (if r61 = 1 then f_L_isSound_L92 G F p2 n x2 x3 x4 (x5 + r26) (x6 + 0) 0 (x8 + 1) k else f_L_isSound_L92 G F p2 n x2 x3 x4 (x5 + r26) (x6 + 0) 1 (x8 + 1) k)) else f_L_isSound_L92 G F p2 n x2 x3 x4 (x5 + r26) (x6 + 0) 0 (x8 + 1) k))))))))) else gd x7 (if x7 = 0 then f_L_isSound_L92 G F p2 n x2 x3 x4 (x5 + r26) (x6 + 1) 0 (x8 + 1) k else bxr (f_X7_team G x8 1) (fun r70 => gd r70 (if r70 < 0 then f_L_isSound_L92 G F p2 n x2 x3 x4 (x5 + r26) (x6 + 1) 0 (x8 + 1) k else bxr (f_X7_team G x8 1) (fun r74 => gd r74 (if 100 < r74 then f_L_isSound_L92 G F p2 n x2 x3 x4 (x5 + r26) (x6 + 1) 0 (x8 + 1) k else bxr (f_X7_team G x8 3) (fun r78 => gd r78 (if 0 < r78 then bxr (f_X7_team G x8 4) (fun r82 => gd r82 (if r82 < 0 then bxr (f_X7_team G x8 5) (fun r86 => gd r86 (if r86 = 1 then f_L_isSound_L92 G F p2 n x2 x3 x4 (x5 + r26) (x6 + 1) 1 (x8 + 1) k else f_L_isSound_L92 G F p2 n x2 x3 x4 (x5 + r26) (x6 + 1) 0 (x8 + 1) k)) else f_L_isSound_L92 G F p2 n x2 x3 x4 (x5 + r26) (x6 + 1) 1 (x8 + 1) k)) else bxr (f_X7_team G x8 4) (fun r93 => gd r93 (if r93 < 0 then bxr (f_X7_team G x8 5) (fun r97 => gd r97 (if r97 = 1 then f_L_isSound_L92 G F p2 n x2 x3 x4 (x5 + r26) (x6 + 1) 0 (x8 + 1) k else f_L_isSound_L92 G F p2 n x2 x3 x4 (x5 + r26) (x6 + 1) 1 (x8 + 1) k)) else f_L_isSound_L92 G F p2 n x2 x3 x4 (x5 + r26) (x6 + 1) 0 (x8 + 1) k)))))))))))) else k x2 x3 x4 x5 x6 x7 x8)))
def f_L_isSound_L222 (G F : GS) (p2 : Int) : Nat → Int → Int → Int → Int → Int → Int → Int → (Int → Int → Int → Int → Int → Int → Int → Option (Int)) → Option (Int)
  | 0, _, _, _, _, _, _, _, _ => none
  | n + 1, x2, x3, x4, x5, x6, x7, x8, k => gd x8 (gd (p2 - 1) (if x8 < (p2 - 1) then bxr (f_X7_stage G x8 5) (fun r108 => f_L_isSound_L222 G F p2 n x2 (x3 - r108) x4 x5 x6 x7 (x8 + 1) k) else k x2 x3 x4 x5 x6 x7 x8))
def f_L_isSound (G F : GS) (p2 : Int) : Option (Int) :=
  f_L_isSound_L16 G F p2 gFuel 0 0 0 0 0 0 (fun y2_10 y3_10 y4_10 y5_10 y6_10 y7_10 => bxr (f_X7_value G 1) (fun r11 => gd (y2_10 + y3_10) (gd r11 (if (y2_10 + y3_10) = r11 then bxr (f_X7_value G 9) (fun r16 => gd y4_10 (gd r16 (if y4_10 = r16 then f_L_isSound_L92 G F p2 gFuel y2_10 y3_10 y4_10 y5_10 y6_10 1 0 (fun y2_104 y3_104 y4_104 y5_104 y6_104 y7_104 y8_104 => f_L_isSound_L222 G F p2 gFuel y2_104 y3_104 y4_104 y5_104 y6_104 y7_104 0 (fun y2_110 y3_110 y4_110 y5_110 y6_110 y7_110 y8_110 => gd y7_110 (if y7_110 = 0 then some 0 else gd y3_110 (if y3_110 = 0 then bxr (f_X7_value G 8) (fun r115 => gd y5_110 (gd r115 (if y5_110 = r115 then bxr (f_X7_value G 10) (fun r120 => gd y6_110 (gd r120 (if y6_110 = r120 then bxr (f_X7_value G 6) (fun r125 => bxr (f_X7_value G 4) (fun r127 => gd r125 (gd r127 (if r127 < r125 then some 0 else bxr (f_X7_value G 7) (fun r132 => bxr (f_X7_value G 5) (fun r134 => gd r132 (gd r134 (if r134 < r132 then some 0 else some 1)))))))) else some 0))) else some 0))) else some 0)))) else f_L_isSound_L92 G F p2 gFuel y2_10 y3_10 y4_10 y5_10 y6_10 0 0 (fun y2_139 y3_139 y4_139 y5_139 y6_139 y7_139 y8_139 => f_L_isSound_L222 G F p2 gFuel y2_139 y3_139 y4_139 y5_139 y6_139 y7_139 0 (fun y2_140 y3_140 y4_140 y5_140 y6_140 y7_140 y8_140 => gd y7_140 (if y7_140 = 0 then some 0 else gd y3_140 (if y3_140 = 0 then bxr (f_X7_value G 8) (fun r145 => gd y5_140 (gd r145 (if y5_140 = r145 then bxr (f_X7_value G 10) (fun r150 => gd y6_140 (gd r150 (if y6_140 = r150 then bxr (f_X7_value G 6) (fun r155 => bxr (f_X7_value G 4) (fun r157 => gd r155 (gd r157 (if r157 < r155 then some 0 else bxr (f_X7_value G 7) (fun r162 => bxr (f_X7_value G 5) (fun r164 => gd r162 (gd r164 (if r164 < r162 then some 0 else some 1)))))))) else some 0))) else some 0))) else some 0))))))) else f_L_isSound_L92 G F p2 gFuel y2_10 y3_10 y4_10 y5_10 y6_10 0 0 (fun y2_169 y3_169 y4_169 y5_169 y6_169 y7_169 y8_169 => f_L_isSound_L222 G F p2 gFuel y2_169 y3_169 y4_169 y5_169 y6_169 y7_169 0 (fun y2_170 y3_170 y4_170 y5_170 y6_170 y7_170 y8_170 => gd y7_170 (if y7_170 = 0 then some 0 else gd y3_170 (if y3_170 = 0 then bxr (f_X7_value G 8) (fun r175 => gd y5_170 (gd r175 (if y5_170 = r175 then bxr (f_X7_value G 10) (fun r180 => gd y6_170 (gd r180 (if y6_170 = r180 then bxr (f_X7_value G 6) (fun r185 => bxr (f_X7_value G 4) (fun r187 => gd r185 (gd r187 (if r187 < r185 then some 0 else bxr (f_X7_value G 7) (fun r192 => bxr (f_X7_value G 5) (fun r194 => gd r192 (gd r194 (if r194 < r192 then some 0 else some 1)))))))) else some 0))) else some 0))) else some 0))))))))
set_option maxHeartbeats 8000000 in
set_option maxRecDepth 100000 in
theorem c_L_isSound (l : Launch) (E0 : gEnv) (B : Nat) (G F : GS) (p2 : Int) (rz : Int) (hf : f_L_isSound G F p2 = some rz) : gMet l yL_isSound cL_isSound 9 (some .boolean) 5 110 0 0 [rO B, vI p2] (eo E0 B F) G (gQi (eo E0 B F) G rz) := by
  refine g_met (by decide +kernel) (Nat.le_of_ble_eq_true rfl) ?_
  intro p e s m below meth c C H locs h ls hl
  have C : gC p s m _ meth c RL cL_isSound 9 (some .boolean) (eo E0 B F) := C
  have hl : lv_has ls 9 [(0, rO B), (1, vI p2)] := hl
  have CO := gC_o C
  have CP := gC_p C
  have L16 : ∀ (n : Nat) (x2 : Int) (x3 : Int) (x4 : Int) (x5 : Int) (x6 : Int) (x7 : Int) (k : (Int → Int → Int → Int → Int → Int → Option (Int))) (hK : ∀ (x2 : Int) (x3 : Int) (x4 : Int) (x5 : Int) (x6 : Int) (x7 : Int), k x2 x3 x4 x5 x6 x7 = some rz → ∀ (H : Heap) (locs : List Loc), gH (eo E0 B F) s G H locs → ∀ ls, lv_has ls 9 [(0, rO B), (1, vI p2), (2, vI x2), (3, vI x3), (4, vI x4), (5, vI x5), (6, vI x6), (7, vI x7)] → W p l e (gRm 5 110 0 0) s m ([rO B, vI p2] : List Value).toArray below meth c H locs 0 0 (MQ below (gQi (eo E0 B F) G rz) ([rO B, vI p2] : List Value).toArray s 0 0 (eF (eo E0 B F))) (F0 m 60 ls [])), ∀ (H : Heap) (locs : List Loc), gH (eo E0 B F) s G H locs → ∀ ls, lv_has ls 9 [(0, rO B), (1, vI p2), (2, vI x2), (3, vI x3), (4, vI x4), (5, vI x5), (6, vI x6), (7, vI x7)] → f_L_isSound_L16 G F p2 n x2 x3 x4 x5 x6 x7 k = some rz → W p l e (gRm 5 110 0 0) s m ([rO B, vI p2] : List Value).toArray below meth c H locs 0 0 (MQ below (gQi (eo E0 B F) G rz) ([rO B, vI p2] : List Value).toArray s 0 0 (eF (eo E0 B F))) (F0 m 16 ls []) := by
    intro n
    induction n with
    | zero =>
      intro x2 x3 x4 x5 x6 x7 k hK H locs h ls hl hf
      exact absurd hf (by simp [f_L_isSound_L16])
    | succ n ih =>
      intro x2 x3 x4 x5 x6 x7 k hK H locs h ls hl hf
      unfold f_L_isSound_L16 at hf
      refine g_iload C hl 7 rfl (gdec kL_isSound 12 rfl) ?_
      refine g_iload_n C hl 1 rfl rfl (gdec kL_isSound 13 rfl) ?_
      obtain ⟨h1, hf⟩ := gd_s hf
      obtain ⟨h2, hf⟩ := gd_s hf
      refine g_icmp_ge C (tgt := 60) h1 h2 (by decide) (gdec kL_isSound 14 rfl) (fun c3 => ?_) (fun c3 => ?_)
      · replace hf := ifp c3 hf
        refine g_iload_n C hl 2 rfl rfl (gdec kL_isSound 15 rfl) ?_
        refine g_aload_n C hl 0 rfl rfl (gdec kL_isSound 16 rfl) ?_
        refine g_iload C hl 7 rfl (gdec kL_isSound 17 rfl) ?_
        refine g_iconst C (gdec kL_isSound 18 rfl) ?_
        obtain ⟨r4, q5, hf⟩ := bxr_s hf
        refine g_ci h (g_runV (CO F) h ok_o (by decide) rfl (c_X7_inn l (eo E0 B F) G x7 3 ok_o _ q5) wM_L_61 wI_X7_inn wS_X7_inn wN_X7 wC_X7_inn rfl ny_X7_inn rfl ⟨Nat.le_of_ble_eq_true rfl, Nat.le_of_ble_eq_true rfl⟩ hl.1 rfl (Nat.le_of_ble_eq_true rfl) (gdec kL_isSound 19 rfl) ⟨Nat.zero_le _, Nat.zero_le _⟩) (fun H locs h => ?_)
        refine g_iadd C (gdec kL_isSound 20 rfl) ?_
        refine g_istore_n C [(2, vI (x2 + r4)), (0, rO B), (1, vI p2), (3, vI x3), (4, vI x4), (5, vI x5), (6, vI x6), (7, vI x7)] hl rfl (by decide) rfl (gdec kL_isSound 21 rfl) (fun ls hl => ?_)
        refine g_iload_n C hl 3 rfl rfl (gdec kL_isSound 22 rfl) ?_
        refine g_aload_n C hl 1 rfl rfl (gdec kL_isSound 23 rfl) ?_
        refine g_iload C hl 7 rfl (gdec kL_isSound 24 rfl) ?_
        refine g_iconst C (gdec kL_isSound 25 rfl) ?_
        obtain ⟨r6, q7, hf⟩ := bxr_s hf
        refine g_ci h (g_runV (CO F) h ok_o (by decide) rfl (c_X7_inn l (eo E0 B F) G x7 4 ok_o _ q7) wM_L_61 wI_X7_inn wS_X7_inn wN_X7 wC_X7_inn rfl ny_X7_inn rfl ⟨Nat.le_of_ble_eq_true rfl, Nat.le_of_ble_eq_true rfl⟩ hl.1 rfl (Nat.le_of_ble_eq_true rfl) (gdec kL_isSound 26 rfl) ⟨Nat.zero_le _, Nat.zero_le _⟩) (fun H locs h => ?_)
        refine g_iadd C (gdec kL_isSound 27 rfl) ?_
        refine g_istore_n C [(3, vI (x3 + r6)), (2, vI (x2 + r4)), (0, rO B), (1, vI p2), (4, vI x4), (5, vI x5), (6, vI x6), (7, vI x7)] hl rfl (by decide) rfl (gdec kL_isSound 28 rfl) (fun ls hl => ?_)
        refine g_iload C hl 4 rfl (gdec kL_isSound 29 rfl) ?_
        refine g_aload_n C hl 2 rfl rfl (gdec kL_isSound 30 rfl) ?_
        refine g_iload C hl 7 rfl (gdec kL_isSound 31 rfl) ?_
        refine g_iconst C (gdec kL_isSound 32 rfl) ?_
        obtain ⟨r8, q9, hf⟩ := bxr_s hf
        refine g_ci h (g_runV (CO F) h ok_o (by decide) rfl (c_X7_inn l (eo E0 B F) G x7 5 ok_o _ q9) wM_L_61 wI_X7_inn wS_X7_inn wN_X7 wC_X7_inn rfl ny_X7_inn rfl ⟨Nat.le_of_ble_eq_true rfl, Nat.le_of_ble_eq_true rfl⟩ hl.1 rfl (Nat.le_of_ble_eq_true rfl) (gdec kL_isSound 33 rfl) ⟨Nat.zero_le _, Nat.zero_le _⟩) (fun H locs h => ?_)
        refine g_iadd C (gdec kL_isSound 34 rfl) ?_
        refine g_istore C [(4, vI (x4 + r8)), (3, vI (x3 + r6)), (2, vI (x2 + r4)), (0, rO B), (1, vI p2), (5, vI x5), (6, vI x6), (7, vI x7)] hl (by decide) rfl (gdec kL_isSound 35 rfl) (fun ls hl => ?_)
        refine g_iinc C (k := 7) [(7, vI (x7 + 1)), (4, vI (x4 + r8)), (3, vI (x3 + r6)), (2, vI (x2 + r4)), (0, rO B), (1, vI p2), (5, vI x5), (6, vI x6)] hl rfl (by decide) rfl (gdec kL_isSound 36 rfl) (fun ls hl => ?_)
        refine g_goto C (tgt := 16) (by decide) (gdec kL_isSound 37 rfl) ?_
        exact ih _ _ _ _ _ _ k hK H locs h ls (lv_sub hl [4, 5, 3, 2, 1, 6, 7, 0] rfl) hf
      · replace hf := ifn c3 hf
        exact hK _ _ _ _ _ _ hf H locs h ls (lv_sub hl [0, 1, 2, 3, 4, 5, 6, 7] rfl)
  have L92 : ∀ (n : Nat) (x2 : Int) (x3 : Int) (x4 : Int) (x5 : Int) (x6 : Int) (x7 : Int) (x8 : Int) (k : (Int → Int → Int → Int → Int → Int → Int → Option (Int))) (hK : ∀ (x2 : Int) (x3 : Int) (x4 : Int) (x5 : Int) (x6 : Int) (x7 : Int) (x8 : Int), k x2 x3 x4 x5 x6 x7 x8 = some rz → ∀ (H : Heap) (locs : List Loc), gH (eo E0 B F) s G H locs → ∀ ls, lv_has ls 9 [(0, rO B), (1, vI p2), (2, vI x2), (3, vI x3), (4, vI x4), (5, vI x5), (6, vI x6), (7, vI x7), (8, vI x8)] → W p l e (gRm 5 110 0 0) s m ([rO B, vI p2] : List Value).toArray below meth c H locs 0 0 (MQ below (gQi (eo E0 B F) G rz) ([rO B, vI p2] : List Value).toArray s 0 0 (eF (eo E0 B F))) (F0 m 219 ls [])), ∀ (H : Heap) (locs : List Loc), gH (eo E0 B F) s G H locs → ∀ ls, lv_has ls 9 [(0, rO B), (1, vI p2), (2, vI x2), (3, vI x3), (4, vI x4), (5, vI x5), (6, vI x6), (7, vI x7), (8, vI x8)] → f_L_isSound_L92 G F p2 n x2 x3 x4 x5 x6 x7 x8 k = some rz → W p l e (gRm 5 110 0 0) s m ([rO B, vI p2] : List Value).toArray below meth c H locs 0 0 (MQ below (gQi (eo E0 B F) G rz) ([rO B, vI p2] : List Value).toArray s 0 0 (eF (eo E0 B F))) (F0 m 92 ls []) := by
    intro n
    induction n with
    | zero =>
      intro x2 x3 x4 x5 x6 x7 x8 k hK H locs h ls hl hf
      exact absurd hf (by simp [f_L_isSound_L92])
    | succ n ih =>
      intro x2 x3 x4 x5 x6 x7 x8 k hK H locs h ls hl hf
      unfold f_L_isSound_L92 at hf
      refine g_iload C hl 8 rfl (gdec kL_isSound 56 rfl) ?_
      refine g_aload_n C hl 0 rfl rfl (gdec kL_isSound 57 rfl) ?_
      refine g_iconst C (gdec kL_isSound 58 rfl) ?_
      obtain ⟨r21, q22, hf⟩ := bxr_s hf
      refine g_ci h (g_runV (CO F) h ok_o (by decide) rfl (c_X7_value l (eo E0 B F) G 1 ok_o _ q22) wM_L_24 wI_X7_value wS_X7_value wN_X7 wC_X7_value rfl ny_X7_value rfl ⟨Nat.le_of_ble_eq_true rfl, Nat.le_of_ble_eq_true rfl⟩ hl.1 rfl (Nat.le_of_ble_eq_true rfl) (gdec kL_isSound 59 rfl) ⟨Nat.zero_le _, Nat.zero_le _⟩) (fun H locs h => ?_)
      obtain ⟨h23, hf⟩ := gd_s hf
      obtain ⟨h24, hf⟩ := gd_s hf
      refine g_icmp_ge C (tgt := 219) h23 h24 (by decide) (gdec kL_isSound_1 0 rfl) (fun c25 => ?_) (fun c25 => ?_)
      · replace hf := ifp c25 hf
        refine g_iload C hl 5 rfl (gdec kL_isSound_1 1 rfl) ?_
        refine g_aload_n C hl 0 rfl rfl (gdec kL_isSound_1 2 rfl) ?_
        refine g_iload C hl 8 rfl (gdec kL_isSound_1 3 rfl) ?_
        refine g_bipush C (gdec kL_isSound_1 4 rfl) rfl ?_
        obtain ⟨r26, q27, hf⟩ := bxr_s hf
        refine g_ci h (g_runV (CO F) h ok_o (by decide) rfl (c_X7_team l (eo E0 B F) G x8 9 ok_o _ q27) wM_L_49 wI_X7_team wS_X7_team wN_X7 wC_X7_team rfl ny_X7_team rfl ⟨Nat.le_of_ble_eq_true rfl, Nat.le_of_ble_eq_true rfl⟩ hl.1 rfl (Nat.le_of_ble_eq_true rfl) (gdec kL_isSound_1 5 rfl) ⟨Nat.zero_le _, Nat.zero_le _⟩) (fun H locs h => ?_)
        refine g_iadd C (gdec kL_isSound_1 6 rfl) ?_
        refine g_istore C [(5, vI (x5 + r26)), (0, rO B), (1, vI p2), (2, vI x2), (3, vI x3), (4, vI x4), (6, vI x6), (7, vI x7), (8, vI x8)] hl (by decide) rfl (gdec kL_isSound_1 7 rfl) (fun ls hl => ?_)
        refine g_iload C hl 6 rfl (gdec kL_isSound_1 8 rfl) ?_
        refine g_aload_n C hl 1 rfl rfl (gdec kL_isSound_1 9 rfl) ?_
        refine g_iload C hl 8 rfl (gdec kL_isSound_1 10 rfl) ?_
        refine g_iconst C (gdec kL_isSound_1 11 rfl) ?_
        obtain ⟨r28, q29, hf⟩ := bxr_s hf
        refine g_ci h (g_runV (CO F) h ok_o (by decide) rfl (c_X7_team l (eo E0 B F) G x8 4 ok_o _ q29) wM_L_49 wI_X7_team wS_X7_team wN_X7 wC_X7_team rfl ny_X7_team rfl ⟨Nat.le_of_ble_eq_true rfl, Nat.le_of_ble_eq_true rfl⟩ hl.1 rfl (Nat.le_of_ble_eq_true rfl) (gdec kL_isSound_1 12 rfl) ⟨Nat.zero_le _, Nat.zero_le _⟩) (fun H locs h => ?_)
        obtain ⟨h30, hf⟩ := gd_s hf
        refine g_if_lt C (tgt := 131) h30 (by decide) (gdec kL_isSound_1 13 rfl) (fun c31 => ?_) (fun c31 => ?_)
        · replace hf := ifp c31 hf
          refine g_iconst C (gdec kL_isSound_1 16 rfl) ?_
          refine g_iadd C (gdec kL_isSound_1 17 rfl) ?_
          refine g_istore C [(6, vI (x6 + 0)), (5, vI (x5 + r26)), (0, rO B), (1, vI p2), (2, vI x2), (3, vI x3), (4, vI x4), (7, vI x7), (8, vI x8)] hl (by decide) rfl (gdec kL_isSound_1 18 rfl) (fun ls hl => ?_)
          refine g_iload C hl 7 rfl (gdec kL_isSound_1 19 rfl) ?_
          obtain ⟨h32, hf⟩ := gd_s hf
          refine g_if_eq C (tgt := 210) h32 (by decide) (gdec kL_isSound_1 20 rfl) (fun c33 => ?_) (fun c33 => ?_)
          · replace hf := ifp c33 hf
            refine g_iconst C (gdec kL_isSound_1 57 rfl) ?_
            refine g_istore C [(7, vI 0), (6, vI (x6 + 0)), (5, vI (x5 + r26)), (0, rO B), (1, vI p2), (2, vI x2), (3, vI x3), (4, vI x4), (8, vI x8)] hl (by decide) rfl (gdec kL_isSound_1 58 rfl) (fun ls hl => ?_)
            refine g_iinc C (k := 8) [(8, vI (x8 + 1)), (7, vI 0), (6, vI (x6 + 0)), (5, vI (x5 + r26)), (0, rO B), (1, vI p2), (2, vI x2), (3, vI x3), (4, vI x4)] hl rfl (by decide) rfl (gdec kL_isSound_1 59 rfl) (fun ls hl => ?_)
            refine g_goto C (tgt := 92) (by decide) (gdec kL_isSound_2 0 rfl) ?_
            exact ih _ _ _ _ _ _ _ k hK H locs h ls (lv_sub hl [4, 5, 6, 7, 8, 3, 2, 1, 0] rfl) hf
          · replace hf := ifn c33 hf
            refine g_aload_n C hl 2 rfl rfl (gdec kL_isSound_1 21 rfl) ?_
            refine g_iload C hl 8 rfl (gdec kL_isSound_1 22 rfl) ?_
            refine g_iconst C (gdec kL_isSound_1 23 rfl) ?_
            obtain ⟨r34, q35, hf⟩ := bxr_s hf
            refine g_ci h (g_runV (CO F) h ok_o (by decide) rfl (c_X7_team l (eo E0 B F) G x8 1 ok_o _ q35) wM_L_49 wI_X7_team wS_X7_team wN_X7 wC_X7_team rfl ny_X7_team rfl ⟨Nat.le_of_ble_eq_true rfl, Nat.le_of_ble_eq_true rfl⟩ hl.1 rfl (Nat.le_of_ble_eq_true rfl) (gdec kL_isSound_1 24 rfl) ⟨Nat.zero_le _, Nat.zero_le _⟩) (fun H locs h => ?_)
            obtain ⟨h36, hf⟩ := gd_s hf
            refine g_if_lt C (tgt := 210) h36 (by decide) (gdec kL_isSound_1 25 rfl) (fun c37 => ?_) (fun c37 => ?_)
            · replace hf := ifp c37 hf
              refine g_iconst C (gdec kL_isSound_1 57 rfl) ?_
              refine g_istore C [(7, vI 0), (6, vI (x6 + 0)), (5, vI (x5 + r26)), (0, rO B), (1, vI p2), (2, vI x2), (3, vI x3), (4, vI x4), (8, vI x8)] hl (by decide) rfl (gdec kL_isSound_1 58 rfl) (fun ls hl => ?_)
              refine g_iinc C (k := 8) [(8, vI (x8 + 1)), (7, vI 0), (6, vI (x6 + 0)), (5, vI (x5 + r26)), (0, rO B), (1, vI p2), (2, vI x2), (3, vI x3), (4, vI x4)] hl rfl (by decide) rfl (gdec kL_isSound_1 59 rfl) (fun ls hl => ?_)
              refine g_goto C (tgt := 92) (by decide) (gdec kL_isSound_2 0 rfl) ?_
              exact ih _ _ _ _ _ _ _ k hK H locs h ls (lv_sub hl [4, 5, 6, 7, 8, 3, 2, 1, 0] rfl) hf
            · replace hf := ifn c37 hf
              refine g_aload_n C hl 2 rfl rfl (gdec kL_isSound_1 26 rfl) ?_
              refine g_iload C hl 8 rfl (gdec kL_isSound_1 27 rfl) ?_
              refine g_iconst C (gdec kL_isSound_1 28 rfl) ?_
              obtain ⟨r38, q39, hf⟩ := bxr_s hf
              refine g_ci h (g_runV (CO F) h ok_o (by decide) rfl (c_X7_team l (eo E0 B F) G x8 1 ok_o _ q39) wM_L_49 wI_X7_team wS_X7_team wN_X7 wC_X7_team rfl ny_X7_team rfl ⟨Nat.le_of_ble_eq_true rfl, Nat.le_of_ble_eq_true rfl⟩ hl.1 rfl (Nat.le_of_ble_eq_true rfl) (gdec kL_isSound_1 29 rfl) ⟨Nat.zero_le _, Nat.zero_le _⟩) (fun H locs h => ?_)
              refine g_bipush C (gdec kL_isSound_1 30 rfl) rfl ?_
              obtain ⟨h40, hf⟩ := gd_s hf
              refine g_icmp_gt C (tgt := 210) h40 (by decide) (by decide) (gdec kL_isSound_1 31 rfl) (fun c41 => ?_) (fun c41 => ?_)
              · replace hf := ifp c41 hf
                refine g_iconst C (gdec kL_isSound_1 57 rfl) ?_
                refine g_istore C [(7, vI 0), (6, vI (x6 + 0)), (5, vI (x5 + r26)), (0, rO B), (1, vI p2), (2, vI x2), (3, vI x3), (4, vI x4), (8, vI x8)] hl (by decide) rfl (gdec kL_isSound_1 58 rfl) (fun ls hl => ?_)
                refine g_iinc C (k := 8) [(8, vI (x8 + 1)), (7, vI 0), (6, vI (x6 + 0)), (5, vI (x5 + r26)), (0, rO B), (1, vI p2), (2, vI x2), (3, vI x3), (4, vI x4)] hl rfl (by decide) rfl (gdec kL_isSound_1 59 rfl) (fun ls hl => ?_)
                refine g_goto C (tgt := 92) (by decide) (gdec kL_isSound_2 0 rfl) ?_
                exact ih _ _ _ _ _ _ _ k hK H locs h ls (lv_sub hl [4, 5, 6, 7, 8, 3, 2, 1, 0] rfl) hf
              · replace hf := ifn c41 hf
                refine g_aload_n C hl 2 rfl rfl (gdec kL_isSound_1 32 rfl) ?_
                refine g_iload C hl 8 rfl (gdec kL_isSound_1 33 rfl) ?_
                refine g_iconst C (gdec kL_isSound_1 34 rfl) ?_
                obtain ⟨r42, q43, hf⟩ := bxr_s hf
                refine g_ci h (g_runV (CO F) h ok_o (by decide) rfl (c_X7_team l (eo E0 B F) G x8 3 ok_o _ q43) wM_L_49 wI_X7_team wS_X7_team wN_X7 wC_X7_team rfl ny_X7_team rfl ⟨Nat.le_of_ble_eq_true rfl, Nat.le_of_ble_eq_true rfl⟩ hl.1 rfl (Nat.le_of_ble_eq_true rfl) (gdec kL_isSound_1 35 rfl) ⟨Nat.zero_le _, Nat.zero_le _⟩) (fun H locs h => ?_)
                obtain ⟨h44, hf⟩ := gd_s hf
                refine g_if_le C (tgt := 176) h44 (by decide) (gdec kL_isSound_1 36 rfl) (fun c45 => ?_) (fun c45 => ?_)
                · replace hf := ifp c45 hf
                  refine g_iconst C (gdec kL_isSound_1 37 rfl) ?_
                  refine g_goto C (tgt := 177) (by decide) (gdec kL_isSound_1 38 rfl) ?_
                  refine g_aload_n C hl 2 rfl rfl (gdec kL_isSound_1 40 rfl) ?_
                  refine g_iload C hl 8 rfl (gdec kL_isSound_1 41 rfl) ?_
                  refine g_iconst C (gdec kL_isSound_1 42 rfl) ?_
                  obtain ⟨r46, q47, hf⟩ := bxr_s hf
                  refine g_ci h (g_runV (CO F) h ok_o (by decide) rfl (c_X7_team l (eo E0 B F) G x8 4 ok_o _ q47) wM_L_49 wI_X7_team wS_X7_team wN_X7 wC_X7_team rfl ny_X7_team rfl ⟨Nat.le_of_ble_eq_true rfl, Nat.le_of_ble_eq_true rfl⟩ hl.1 rfl (Nat.le_of_ble_eq_true rfl) (gdec kL_isSound_1 43 rfl) ⟨Nat.zero_le _, Nat.zero_le _⟩) (fun H locs h => ?_)
                  obtain ⟨h48, hf⟩ := gd_s hf
                  refine g_if_ge C (tgt := 198) h48 (by decide) (gdec kL_isSound_1 44 rfl) (fun c49 => ?_) (fun c49 => ?_)
                  · replace hf := ifp c49 hf
                    refine g_aload_n C hl 2 rfl rfl (gdec kL_isSound_1 45 rfl) ?_
                    refine g_iload C hl 8 rfl (gdec kL_isSound_1 46 rfl) ?_
                    refine g_iconst C (gdec kL_isSound_1 47 rfl) ?_
                    obtain ⟨r50, q51, hf⟩ := bxr_s hf
                    refine g_ci h (g_runV (CO F) h ok_o (by decide) rfl (c_X7_team l (eo E0 B F) G x8 5 ok_o _ q51) wM_L_49 wI_X7_team wS_X7_team wN_X7 wC_X7_team rfl ny_X7_team rfl ⟨Nat.le_of_ble_eq_true rfl, Nat.le_of_ble_eq_true rfl⟩ hl.1 rfl (Nat.le_of_ble_eq_true rfl) (gdec kL_isSound_1 48 rfl) ⟨Nat.zero_le _, Nat.zero_le _⟩) (fun H locs h => ?_)
                    refine g_iconst C (gdec kL_isSound_1 49 rfl) ?_
                    obtain ⟨h52, hf⟩ := gd_s hf
                    refine g_icmp_ne C (tgt := 202) h52 (by decide) (by decide) (gdec kL_isSound_1 50 rfl) (fun c53 => ?_) (fun c53 => ?_)
                    · replace hf := ifp c53 hf
                      refine g_iconst C (gdec kL_isSound_1 51 rfl) ?_
                      refine g_goto C (tgt := 203) (by decide) (gdec kL_isSound_1 52 rfl) ?_
                      refine g_icmp_ne C (tgt := 210) (by decide) (by decide) (by decide) (gdec kL_isSound_1 54 rfl) (fun c54 => ?_) (fun c54 => absurd (by decide) c54)
                      refine g_iconst C (gdec kL_isSound_1 55 rfl) ?_
                      refine g_goto C (tgt := 211) (by decide) (gdec kL_isSound_1 56 rfl) ?_
                      refine g_istore C [(7, vI 1), (6, vI (x6 + 0)), (5, vI (x5 + r26)), (0, rO B), (1, vI p2), (2, vI x2), (3, vI x3), (4, vI x4), (8, vI x8)] hl (by decide) rfl (gdec kL_isSound_1 58 rfl) (fun ls hl => ?_)
                      refine g_iinc C (k := 8) [(8, vI (x8 + 1)), (7, vI 1), (6, vI (x6 + 0)), (5, vI (x5 + r26)), (0, rO B), (1, vI p2), (2, vI x2), (3, vI x3), (4, vI x4)] hl rfl (by decide) rfl (gdec kL_isSound_1 59 rfl) (fun ls hl => ?_)
                      refine g_goto C (tgt := 92) (by decide) (gdec kL_isSound_2 0 rfl) ?_
                      exact ih _ _ _ _ _ _ _ k hK H locs h ls (lv_sub hl [4, 5, 6, 7, 8, 3, 2, 1, 0] rfl) hf
                    · replace hf := ifn c53 hf
                      refine g_iconst C (gdec kL_isSound_1 53 rfl) ?_
                      refine g_icmp_ne C (tgt := 210) (by decide) (by decide) (by decide) (gdec kL_isSound_1 54 rfl) (fun c55 => absurd c55 (by decide)) (fun c55 => ?_)
                      refine g_iconst C (gdec kL_isSound_1 57 rfl) ?_
                      refine g_istore C [(7, vI 0), (6, vI (x6 + 0)), (5, vI (x5 + r26)), (0, rO B), (1, vI p2), (2, vI x2), (3, vI x3), (4, vI x4), (8, vI x8)] hl (by decide) rfl (gdec kL_isSound_1 58 rfl) (fun ls hl => ?_)
                      refine g_iinc C (k := 8) [(8, vI (x8 + 1)), (7, vI 0), (6, vI (x6 + 0)), (5, vI (x5 + r26)), (0, rO B), (1, vI p2), (2, vI x2), (3, vI x3), (4, vI x4)] hl rfl (by decide) rfl (gdec kL_isSound_1 59 rfl) (fun ls hl => ?_)
                      refine g_goto C (tgt := 92) (by decide) (gdec kL_isSound_2 0 rfl) ?_
                      exact ih _ _ _ _ _ _ _ k hK H locs h ls (lv_sub hl [4, 5, 6, 7, 8, 3, 2, 1, 0] rfl) hf
                  · replace hf := ifn c49 hf
                    refine g_iconst C (gdec kL_isSound_1 51 rfl) ?_
                    refine g_goto C (tgt := 203) (by decide) (gdec kL_isSound_1 52 rfl) ?_
                    refine g_icmp_ne C (tgt := 210) (by decide) (by decide) (by decide) (gdec kL_isSound_1 54 rfl) (fun c56 => ?_) (fun c56 => absurd (by decide) c56)
                    refine g_iconst C (gdec kL_isSound_1 55 rfl) ?_
                    refine g_goto C (tgt := 211) (by decide) (gdec kL_isSound_1 56 rfl) ?_
                    refine g_istore C [(7, vI 1), (6, vI (x6 + 0)), (5, vI (x5 + r26)), (0, rO B), (1, vI p2), (2, vI x2), (3, vI x3), (4, vI x4), (8, vI x8)] hl (by decide) rfl (gdec kL_isSound_1 58 rfl) (fun ls hl => ?_)
                    refine g_iinc C (k := 8) [(8, vI (x8 + 1)), (7, vI 1), (6, vI (x6 + 0)), (5, vI (x5 + r26)), (0, rO B), (1, vI p2), (2, vI x2), (3, vI x3), (4, vI x4)] hl rfl (by decide) rfl (gdec kL_isSound_1 59 rfl) (fun ls hl => ?_)
                    refine g_goto C (tgt := 92) (by decide) (gdec kL_isSound_2 0 rfl) ?_
                    exact ih _ _ _ _ _ _ _ k hK H locs h ls (lv_sub hl [4, 5, 6, 7, 8, 3, 2, 1, 0] rfl) hf
                · replace hf := ifn c45 hf
                  refine g_iconst C (gdec kL_isSound_1 39 rfl) ?_
                  refine g_aload_n C hl 2 rfl rfl (gdec kL_isSound_1 40 rfl) ?_
                  refine g_iload C hl 8 rfl (gdec kL_isSound_1 41 rfl) ?_
                  refine g_iconst C (gdec kL_isSound_1 42 rfl) ?_
                  obtain ⟨r57, q58, hf⟩ := bxr_s hf
                  refine g_ci h (g_runV (CO F) h ok_o (by decide) rfl (c_X7_team l (eo E0 B F) G x8 4 ok_o _ q58) wM_L_49 wI_X7_team wS_X7_team wN_X7 wC_X7_team rfl ny_X7_team rfl ⟨Nat.le_of_ble_eq_true rfl, Nat.le_of_ble_eq_true rfl⟩ hl.1 rfl (Nat.le_of_ble_eq_true rfl) (gdec kL_isSound_1 43 rfl) ⟨Nat.zero_le _, Nat.zero_le _⟩) (fun H locs h => ?_)
                  obtain ⟨h59, hf⟩ := gd_s hf
                  refine g_if_ge C (tgt := 198) h59 (by decide) (gdec kL_isSound_1 44 rfl) (fun c60 => ?_) (fun c60 => ?_)
                  · replace hf := ifp c60 hf
                    refine g_aload_n C hl 2 rfl rfl (gdec kL_isSound_1 45 rfl) ?_
                    refine g_iload C hl 8 rfl (gdec kL_isSound_1 46 rfl) ?_
                    refine g_iconst C (gdec kL_isSound_1 47 rfl) ?_
                    obtain ⟨r61, q62, hf⟩ := bxr_s hf
                    refine g_ci h (g_runV (CO F) h ok_o (by decide) rfl (c_X7_team l (eo E0 B F) G x8 5 ok_o _ q62) wM_L_49 wI_X7_team wS_X7_team wN_X7 wC_X7_team rfl ny_X7_team rfl ⟨Nat.le_of_ble_eq_true rfl, Nat.le_of_ble_eq_true rfl⟩ hl.1 rfl (Nat.le_of_ble_eq_true rfl) (gdec kL_isSound_1 48 rfl) ⟨Nat.zero_le _, Nat.zero_le _⟩) (fun H locs h => ?_)
                    refine g_iconst C (gdec kL_isSound_1 49 rfl) ?_
                    obtain ⟨h63, hf⟩ := gd_s hf
                    refine g_icmp_ne C (tgt := 202) h63 (by decide) (by decide) (gdec kL_isSound_1 50 rfl) (fun c64 => ?_) (fun c64 => ?_)
                    · replace hf := ifp c64 hf
                      refine g_iconst C (gdec kL_isSound_1 51 rfl) ?_
                      refine g_goto C (tgt := 203) (by decide) (gdec kL_isSound_1 52 rfl) ?_
                      refine g_icmp_ne C (tgt := 210) (by decide) (by decide) (by decide) (gdec kL_isSound_1 54 rfl) (fun c65 => absurd c65 (by decide)) (fun c65 => ?_)
                      refine g_iconst C (gdec kL_isSound_1 57 rfl) ?_
                      refine g_istore C [(7, vI 0), (6, vI (x6 + 0)), (5, vI (x5 + r26)), (0, rO B), (1, vI p2), (2, vI x2), (3, vI x3), (4, vI x4), (8, vI x8)] hl (by decide) rfl (gdec kL_isSound_1 58 rfl) (fun ls hl => ?_)
                      refine g_iinc C (k := 8) [(8, vI (x8 + 1)), (7, vI 0), (6, vI (x6 + 0)), (5, vI (x5 + r26)), (0, rO B), (1, vI p2), (2, vI x2), (3, vI x3), (4, vI x4)] hl rfl (by decide) rfl (gdec kL_isSound_1 59 rfl) (fun ls hl => ?_)
                      refine g_goto C (tgt := 92) (by decide) (gdec kL_isSound_2 0 rfl) ?_
                      exact ih _ _ _ _ _ _ _ k hK H locs h ls (lv_sub hl [4, 5, 6, 7, 8, 3, 2, 1, 0] rfl) hf
                    · replace hf := ifn c64 hf
                      refine g_iconst C (gdec kL_isSound_1 53 rfl) ?_
                      refine g_icmp_ne C (tgt := 210) (by decide) (by decide) (by decide) (gdec kL_isSound_1 54 rfl) (fun c66 => ?_) (fun c66 => absurd (by decide) c66)
                      refine g_iconst C (gdec kL_isSound_1 55 rfl) ?_
                      refine g_goto C (tgt := 211) (by decide) (gdec kL_isSound_1 56 rfl) ?_
                      refine g_istore C [(7, vI 1), (6, vI (x6 + 0)), (5, vI (x5 + r26)), (0, rO B), (1, vI p2), (2, vI x2), (3, vI x3), (4, vI x4), (8, vI x8)] hl (by decide) rfl (gdec kL_isSound_1 58 rfl) (fun ls hl => ?_)
                      refine g_iinc C (k := 8) [(8, vI (x8 + 1)), (7, vI 1), (6, vI (x6 + 0)), (5, vI (x5 + r26)), (0, rO B), (1, vI p2), (2, vI x2), (3, vI x3), (4, vI x4)] hl rfl (by decide) rfl (gdec kL_isSound_1 59 rfl) (fun ls hl => ?_)
                      refine g_goto C (tgt := 92) (by decide) (gdec kL_isSound_2 0 rfl) ?_
                      exact ih _ _ _ _ _ _ _ k hK H locs h ls (lv_sub hl [4, 5, 6, 7, 8, 3, 2, 1, 0] rfl) hf
                  · replace hf := ifn c60 hf
                    refine g_iconst C (gdec kL_isSound_1 51 rfl) ?_
                    refine g_goto C (tgt := 203) (by decide) (gdec kL_isSound_1 52 rfl) ?_
                    refine g_icmp_ne C (tgt := 210) (by decide) (by decide) (by decide) (gdec kL_isSound_1 54 rfl) (fun c67 => absurd c67 (by decide)) (fun c67 => ?_)
                    refine g_iconst C (gdec kL_isSound_1 57 rfl) ?_
                    refine g_istore C [(7, vI 0), (6, vI (x6 + 0)), (5, vI (x5 + r26)), (0, rO B), (1, vI p2), (2, vI x2), (3, vI x3), (4, vI x4), (8, vI x8)] hl (by decide) rfl (gdec kL_isSound_1 58 rfl) (fun ls hl => ?_)
                    refine g_iinc C (k := 8) [(8, vI (x8 + 1)), (7, vI 0), (6, vI (x6 + 0)), (5, vI (x5 + r26)), (0, rO B), (1, vI p2), (2, vI x2), (3, vI x3), (4, vI x4)] hl rfl (by decide) rfl (gdec kL_isSound_1 59 rfl) (fun ls hl => ?_)
                    refine g_goto C (tgt := 92) (by decide) (gdec kL_isSound_2 0 rfl) ?_
                    exact ih _ _ _ _ _ _ _ k hK H locs h ls (lv_sub hl [4, 5, 6, 7, 8, 3, 2, 1, 0] rfl) hf
        · replace hf := ifn c31 hf
          refine g_iconst C (gdec kL_isSound_1 14 rfl) ?_
          refine g_goto C (tgt := 132) (by decide) (gdec kL_isSound_1 15 rfl) ?_
          refine g_iadd C (gdec kL_isSound_1 17 rfl) ?_
          refine g_istore C [(6, vI (x6 + 1)), (5, vI (x5 + r26)), (0, rO B), (1, vI p2), (2, vI x2), (3, vI x3), (4, vI x4), (7, vI x7), (8, vI x8)] hl (by decide) rfl (gdec kL_isSound_1 18 rfl) (fun ls hl => ?_)
          refine g_iload C hl 7 rfl (gdec kL_isSound_1 19 rfl) ?_
          obtain ⟨h68, hf⟩ := gd_s hf
          refine g_if_eq C (tgt := 210) h68 (by decide) (gdec kL_isSound_1 20 rfl) (fun c69 => ?_) (fun c69 => ?_)
          · replace hf := ifp c69 hf
            refine g_iconst C (gdec kL_isSound_1 57 rfl) ?_
            refine g_istore C [(7, vI 0), (6, vI (x6 + 1)), (5, vI (x5 + r26)), (0, rO B), (1, vI p2), (2, vI x2), (3, vI x3), (4, vI x4), (8, vI x8)] hl (by decide) rfl (gdec kL_isSound_1 58 rfl) (fun ls hl => ?_)
            refine g_iinc C (k := 8) [(8, vI (x8 + 1)), (7, vI 0), (6, vI (x6 + 1)), (5, vI (x5 + r26)), (0, rO B), (1, vI p2), (2, vI x2), (3, vI x3), (4, vI x4)] hl rfl (by decide) rfl (gdec kL_isSound_1 59 rfl) (fun ls hl => ?_)
            refine g_goto C (tgt := 92) (by decide) (gdec kL_isSound_2 0 rfl) ?_
            exact ih _ _ _ _ _ _ _ k hK H locs h ls (lv_sub hl [4, 5, 6, 7, 8, 3, 2, 1, 0] rfl) hf
          · replace hf := ifn c69 hf
            refine g_aload_n C hl 2 rfl rfl (gdec kL_isSound_1 21 rfl) ?_
            refine g_iload C hl 8 rfl (gdec kL_isSound_1 22 rfl) ?_
            refine g_iconst C (gdec kL_isSound_1 23 rfl) ?_
            obtain ⟨r70, q71, hf⟩ := bxr_s hf
            refine g_ci h (g_runV (CO F) h ok_o (by decide) rfl (c_X7_team l (eo E0 B F) G x8 1 ok_o _ q71) wM_L_49 wI_X7_team wS_X7_team wN_X7 wC_X7_team rfl ny_X7_team rfl ⟨Nat.le_of_ble_eq_true rfl, Nat.le_of_ble_eq_true rfl⟩ hl.1 rfl (Nat.le_of_ble_eq_true rfl) (gdec kL_isSound_1 24 rfl) ⟨Nat.zero_le _, Nat.zero_le _⟩) (fun H locs h => ?_)
            obtain ⟨h72, hf⟩ := gd_s hf
            refine g_if_lt C (tgt := 210) h72 (by decide) (gdec kL_isSound_1 25 rfl) (fun c73 => ?_) (fun c73 => ?_)
            · replace hf := ifp c73 hf
              refine g_iconst C (gdec kL_isSound_1 57 rfl) ?_
              refine g_istore C [(7, vI 0), (6, vI (x6 + 1)), (5, vI (x5 + r26)), (0, rO B), (1, vI p2), (2, vI x2), (3, vI x3), (4, vI x4), (8, vI x8)] hl (by decide) rfl (gdec kL_isSound_1 58 rfl) (fun ls hl => ?_)
              refine g_iinc C (k := 8) [(8, vI (x8 + 1)), (7, vI 0), (6, vI (x6 + 1)), (5, vI (x5 + r26)), (0, rO B), (1, vI p2), (2, vI x2), (3, vI x3), (4, vI x4)] hl rfl (by decide) rfl (gdec kL_isSound_1 59 rfl) (fun ls hl => ?_)
              refine g_goto C (tgt := 92) (by decide) (gdec kL_isSound_2 0 rfl) ?_
              exact ih _ _ _ _ _ _ _ k hK H locs h ls (lv_sub hl [4, 5, 6, 7, 8, 3, 2, 1, 0] rfl) hf
            · replace hf := ifn c73 hf
              refine g_aload_n C hl 2 rfl rfl (gdec kL_isSound_1 26 rfl) ?_
              refine g_iload C hl 8 rfl (gdec kL_isSound_1 27 rfl) ?_
              refine g_iconst C (gdec kL_isSound_1 28 rfl) ?_
              obtain ⟨r74, q75, hf⟩ := bxr_s hf
              refine g_ci h (g_runV (CO F) h ok_o (by decide) rfl (c_X7_team l (eo E0 B F) G x8 1 ok_o _ q75) wM_L_49 wI_X7_team wS_X7_team wN_X7 wC_X7_team rfl ny_X7_team rfl ⟨Nat.le_of_ble_eq_true rfl, Nat.le_of_ble_eq_true rfl⟩ hl.1 rfl (Nat.le_of_ble_eq_true rfl) (gdec kL_isSound_1 29 rfl) ⟨Nat.zero_le _, Nat.zero_le _⟩) (fun H locs h => ?_)
              refine g_bipush C (gdec kL_isSound_1 30 rfl) rfl ?_
              obtain ⟨h76, hf⟩ := gd_s hf
              refine g_icmp_gt C (tgt := 210) h76 (by decide) (by decide) (gdec kL_isSound_1 31 rfl) (fun c77 => ?_) (fun c77 => ?_)
              · replace hf := ifp c77 hf
                refine g_iconst C (gdec kL_isSound_1 57 rfl) ?_
                refine g_istore C [(7, vI 0), (6, vI (x6 + 1)), (5, vI (x5 + r26)), (0, rO B), (1, vI p2), (2, vI x2), (3, vI x3), (4, vI x4), (8, vI x8)] hl (by decide) rfl (gdec kL_isSound_1 58 rfl) (fun ls hl => ?_)
                refine g_iinc C (k := 8) [(8, vI (x8 + 1)), (7, vI 0), (6, vI (x6 + 1)), (5, vI (x5 + r26)), (0, rO B), (1, vI p2), (2, vI x2), (3, vI x3), (4, vI x4)] hl rfl (by decide) rfl (gdec kL_isSound_1 59 rfl) (fun ls hl => ?_)
                refine g_goto C (tgt := 92) (by decide) (gdec kL_isSound_2 0 rfl) ?_
                exact ih _ _ _ _ _ _ _ k hK H locs h ls (lv_sub hl [4, 5, 6, 7, 8, 3, 2, 1, 0] rfl) hf
              · replace hf := ifn c77 hf
                refine g_aload_n C hl 2 rfl rfl (gdec kL_isSound_1 32 rfl) ?_
                refine g_iload C hl 8 rfl (gdec kL_isSound_1 33 rfl) ?_
                refine g_iconst C (gdec kL_isSound_1 34 rfl) ?_
                obtain ⟨r78, q79, hf⟩ := bxr_s hf
                refine g_ci h (g_runV (CO F) h ok_o (by decide) rfl (c_X7_team l (eo E0 B F) G x8 3 ok_o _ q79) wM_L_49 wI_X7_team wS_X7_team wN_X7 wC_X7_team rfl ny_X7_team rfl ⟨Nat.le_of_ble_eq_true rfl, Nat.le_of_ble_eq_true rfl⟩ hl.1 rfl (Nat.le_of_ble_eq_true rfl) (gdec kL_isSound_1 35 rfl) ⟨Nat.zero_le _, Nat.zero_le _⟩) (fun H locs h => ?_)
                obtain ⟨h80, hf⟩ := gd_s hf
                refine g_if_le C (tgt := 176) h80 (by decide) (gdec kL_isSound_1 36 rfl) (fun c81 => ?_) (fun c81 => ?_)
                · replace hf := ifp c81 hf
                  refine g_iconst C (gdec kL_isSound_1 37 rfl) ?_
                  refine g_goto C (tgt := 177) (by decide) (gdec kL_isSound_1 38 rfl) ?_
                  refine g_aload_n C hl 2 rfl rfl (gdec kL_isSound_1 40 rfl) ?_
                  refine g_iload C hl 8 rfl (gdec kL_isSound_1 41 rfl) ?_
                  refine g_iconst C (gdec kL_isSound_1 42 rfl) ?_
                  obtain ⟨r82, q83, hf⟩ := bxr_s hf
                  refine g_ci h (g_runV (CO F) h ok_o (by decide) rfl (c_X7_team l (eo E0 B F) G x8 4 ok_o _ q83) wM_L_49 wI_X7_team wS_X7_team wN_X7 wC_X7_team rfl ny_X7_team rfl ⟨Nat.le_of_ble_eq_true rfl, Nat.le_of_ble_eq_true rfl⟩ hl.1 rfl (Nat.le_of_ble_eq_true rfl) (gdec kL_isSound_1 43 rfl) ⟨Nat.zero_le _, Nat.zero_le _⟩) (fun H locs h => ?_)
                  obtain ⟨h84, hf⟩ := gd_s hf
                  refine g_if_ge C (tgt := 198) h84 (by decide) (gdec kL_isSound_1 44 rfl) (fun c85 => ?_) (fun c85 => ?_)
                  · replace hf := ifp c85 hf
                    refine g_aload_n C hl 2 rfl rfl (gdec kL_isSound_1 45 rfl) ?_
                    refine g_iload C hl 8 rfl (gdec kL_isSound_1 46 rfl) ?_
                    refine g_iconst C (gdec kL_isSound_1 47 rfl) ?_
                    obtain ⟨r86, q87, hf⟩ := bxr_s hf
                    refine g_ci h (g_runV (CO F) h ok_o (by decide) rfl (c_X7_team l (eo E0 B F) G x8 5 ok_o _ q87) wM_L_49 wI_X7_team wS_X7_team wN_X7 wC_X7_team rfl ny_X7_team rfl ⟨Nat.le_of_ble_eq_true rfl, Nat.le_of_ble_eq_true rfl⟩ hl.1 rfl (Nat.le_of_ble_eq_true rfl) (gdec kL_isSound_1 48 rfl) ⟨Nat.zero_le _, Nat.zero_le _⟩) (fun H locs h => ?_)
                    refine g_iconst C (gdec kL_isSound_1 49 rfl) ?_
                    obtain ⟨h88, hf⟩ := gd_s hf
                    refine g_icmp_ne C (tgt := 202) h88 (by decide) (by decide) (gdec kL_isSound_1 50 rfl) (fun c89 => ?_) (fun c89 => ?_)
                    · replace hf := ifp c89 hf
                      refine g_iconst C (gdec kL_isSound_1 51 rfl) ?_
                      refine g_goto C (tgt := 203) (by decide) (gdec kL_isSound_1 52 rfl) ?_
                      refine g_icmp_ne C (tgt := 210) (by decide) (by decide) (by decide) (gdec kL_isSound_1 54 rfl) (fun c90 => ?_) (fun c90 => absurd (by decide) c90)
                      refine g_iconst C (gdec kL_isSound_1 55 rfl) ?_
                      refine g_goto C (tgt := 211) (by decide) (gdec kL_isSound_1 56 rfl) ?_
                      refine g_istore C [(7, vI 1), (6, vI (x6 + 1)), (5, vI (x5 + r26)), (0, rO B), (1, vI p2), (2, vI x2), (3, vI x3), (4, vI x4), (8, vI x8)] hl (by decide) rfl (gdec kL_isSound_1 58 rfl) (fun ls hl => ?_)
                      refine g_iinc C (k := 8) [(8, vI (x8 + 1)), (7, vI 1), (6, vI (x6 + 1)), (5, vI (x5 + r26)), (0, rO B), (1, vI p2), (2, vI x2), (3, vI x3), (4, vI x4)] hl rfl (by decide) rfl (gdec kL_isSound_1 59 rfl) (fun ls hl => ?_)
                      refine g_goto C (tgt := 92) (by decide) (gdec kL_isSound_2 0 rfl) ?_
                      exact ih _ _ _ _ _ _ _ k hK H locs h ls (lv_sub hl [4, 5, 6, 7, 8, 3, 2, 1, 0] rfl) hf
                    · replace hf := ifn c89 hf
                      refine g_iconst C (gdec kL_isSound_1 53 rfl) ?_
                      refine g_icmp_ne C (tgt := 210) (by decide) (by decide) (by decide) (gdec kL_isSound_1 54 rfl) (fun c91 => absurd c91 (by decide)) (fun c91 => ?_)
                      refine g_iconst C (gdec kL_isSound_1 57 rfl) ?_
                      refine g_istore C [(7, vI 0), (6, vI (x6 + 1)), (5, vI (x5 + r26)), (0, rO B), (1, vI p2), (2, vI x2), (3, vI x3), (4, vI x4), (8, vI x8)] hl (by decide) rfl (gdec kL_isSound_1 58 rfl) (fun ls hl => ?_)
                      refine g_iinc C (k := 8) [(8, vI (x8 + 1)), (7, vI 0), (6, vI (x6 + 1)), (5, vI (x5 + r26)), (0, rO B), (1, vI p2), (2, vI x2), (3, vI x3), (4, vI x4)] hl rfl (by decide) rfl (gdec kL_isSound_1 59 rfl) (fun ls hl => ?_)
                      refine g_goto C (tgt := 92) (by decide) (gdec kL_isSound_2 0 rfl) ?_
                      exact ih _ _ _ _ _ _ _ k hK H locs h ls (lv_sub hl [4, 5, 6, 7, 8, 3, 2, 1, 0] rfl) hf
                  · replace hf := ifn c85 hf
                    refine g_iconst C (gdec kL_isSound_1 51 rfl) ?_
                    refine g_goto C (tgt := 203) (by decide) (gdec kL_isSound_1 52 rfl) ?_
                    refine g_icmp_ne C (tgt := 210) (by decide) (by decide) (by decide) (gdec kL_isSound_1 54 rfl) (fun c92 => ?_) (fun c92 => absurd (by decide) c92)
                    refine g_iconst C (gdec kL_isSound_1 55 rfl) ?_
                    refine g_goto C (tgt := 211) (by decide) (gdec kL_isSound_1 56 rfl) ?_
                    refine g_istore C [(7, vI 1), (6, vI (x6 + 1)), (5, vI (x5 + r26)), (0, rO B), (1, vI p2), (2, vI x2), (3, vI x3), (4, vI x4), (8, vI x8)] hl (by decide) rfl (gdec kL_isSound_1 58 rfl) (fun ls hl => ?_)
                    refine g_iinc C (k := 8) [(8, vI (x8 + 1)), (7, vI 1), (6, vI (x6 + 1)), (5, vI (x5 + r26)), (0, rO B), (1, vI p2), (2, vI x2), (3, vI x3), (4, vI x4)] hl rfl (by decide) rfl (gdec kL_isSound_1 59 rfl) (fun ls hl => ?_)
                    refine g_goto C (tgt := 92) (by decide) (gdec kL_isSound_2 0 rfl) ?_
                    exact ih _ _ _ _ _ _ _ k hK H locs h ls (lv_sub hl [4, 5, 6, 7, 8, 3, 2, 1, 0] rfl) hf
                · replace hf := ifn c81 hf
                  refine g_iconst C (gdec kL_isSound_1 39 rfl) ?_
                  refine g_aload_n C hl 2 rfl rfl (gdec kL_isSound_1 40 rfl) ?_
                  refine g_iload C hl 8 rfl (gdec kL_isSound_1 41 rfl) ?_
                  refine g_iconst C (gdec kL_isSound_1 42 rfl) ?_
                  obtain ⟨r93, q94, hf⟩ := bxr_s hf
                  refine g_ci h (g_runV (CO F) h ok_o (by decide) rfl (c_X7_team l (eo E0 B F) G x8 4 ok_o _ q94) wM_L_49 wI_X7_team wS_X7_team wN_X7 wC_X7_team rfl ny_X7_team rfl ⟨Nat.le_of_ble_eq_true rfl, Nat.le_of_ble_eq_true rfl⟩ hl.1 rfl (Nat.le_of_ble_eq_true rfl) (gdec kL_isSound_1 43 rfl) ⟨Nat.zero_le _, Nat.zero_le _⟩) (fun H locs h => ?_)
                  obtain ⟨h95, hf⟩ := gd_s hf
                  refine g_if_ge C (tgt := 198) h95 (by decide) (gdec kL_isSound_1 44 rfl) (fun c96 => ?_) (fun c96 => ?_)
                  · replace hf := ifp c96 hf
                    refine g_aload_n C hl 2 rfl rfl (gdec kL_isSound_1 45 rfl) ?_
                    refine g_iload C hl 8 rfl (gdec kL_isSound_1 46 rfl) ?_
                    refine g_iconst C (gdec kL_isSound_1 47 rfl) ?_
                    obtain ⟨r97, q98, hf⟩ := bxr_s hf
                    refine g_ci h (g_runV (CO F) h ok_o (by decide) rfl (c_X7_team l (eo E0 B F) G x8 5 ok_o _ q98) wM_L_49 wI_X7_team wS_X7_team wN_X7 wC_X7_team rfl ny_X7_team rfl ⟨Nat.le_of_ble_eq_true rfl, Nat.le_of_ble_eq_true rfl⟩ hl.1 rfl (Nat.le_of_ble_eq_true rfl) (gdec kL_isSound_1 48 rfl) ⟨Nat.zero_le _, Nat.zero_le _⟩) (fun H locs h => ?_)
                    refine g_iconst C (gdec kL_isSound_1 49 rfl) ?_
                    obtain ⟨h99, hf⟩ := gd_s hf
                    refine g_icmp_ne C (tgt := 202) h99 (by decide) (by decide) (gdec kL_isSound_1 50 rfl) (fun c100 => ?_) (fun c100 => ?_)
                    · replace hf := ifp c100 hf
                      refine g_iconst C (gdec kL_isSound_1 51 rfl) ?_
                      refine g_goto C (tgt := 203) (by decide) (gdec kL_isSound_1 52 rfl) ?_
                      refine g_icmp_ne C (tgt := 210) (by decide) (by decide) (by decide) (gdec kL_isSound_1 54 rfl) (fun c101 => absurd c101 (by decide)) (fun c101 => ?_)
                      refine g_iconst C (gdec kL_isSound_1 57 rfl) ?_
                      refine g_istore C [(7, vI 0), (6, vI (x6 + 1)), (5, vI (x5 + r26)), (0, rO B), (1, vI p2), (2, vI x2), (3, vI x3), (4, vI x4), (8, vI x8)] hl (by decide) rfl (gdec kL_isSound_1 58 rfl) (fun ls hl => ?_)
                      refine g_iinc C (k := 8) [(8, vI (x8 + 1)), (7, vI 0), (6, vI (x6 + 1)), (5, vI (x5 + r26)), (0, rO B), (1, vI p2), (2, vI x2), (3, vI x3), (4, vI x4)] hl rfl (by decide) rfl (gdec kL_isSound_1 59 rfl) (fun ls hl => ?_)
                      refine g_goto C (tgt := 92) (by decide) (gdec kL_isSound_2 0 rfl) ?_
                      exact ih _ _ _ _ _ _ _ k hK H locs h ls (lv_sub hl [4, 5, 6, 7, 8, 3, 2, 1, 0] rfl) hf
                    · replace hf := ifn c100 hf
                      refine g_iconst C (gdec kL_isSound_1 53 rfl) ?_
                      refine g_icmp_ne C (tgt := 210) (by decide) (by decide) (by decide) (gdec kL_isSound_1 54 rfl) (fun c102 => ?_) (fun c102 => absurd (by decide) c102)
                      refine g_iconst C (gdec kL_isSound_1 55 rfl) ?_
                      refine g_goto C (tgt := 211) (by decide) (gdec kL_isSound_1 56 rfl) ?_
                      refine g_istore C [(7, vI 1), (6, vI (x6 + 1)), (5, vI (x5 + r26)), (0, rO B), (1, vI p2), (2, vI x2), (3, vI x3), (4, vI x4), (8, vI x8)] hl (by decide) rfl (gdec kL_isSound_1 58 rfl) (fun ls hl => ?_)
                      refine g_iinc C (k := 8) [(8, vI (x8 + 1)), (7, vI 1), (6, vI (x6 + 1)), (5, vI (x5 + r26)), (0, rO B), (1, vI p2), (2, vI x2), (3, vI x3), (4, vI x4)] hl rfl (by decide) rfl (gdec kL_isSound_1 59 rfl) (fun ls hl => ?_)
                      refine g_goto C (tgt := 92) (by decide) (gdec kL_isSound_2 0 rfl) ?_
                      exact ih _ _ _ _ _ _ _ k hK H locs h ls (lv_sub hl [4, 5, 6, 7, 8, 3, 2, 1, 0] rfl) hf
                  · replace hf := ifn c96 hf
                    refine g_iconst C (gdec kL_isSound_1 51 rfl) ?_
                    refine g_goto C (tgt := 203) (by decide) (gdec kL_isSound_1 52 rfl) ?_
                    refine g_icmp_ne C (tgt := 210) (by decide) (by decide) (by decide) (gdec kL_isSound_1 54 rfl) (fun c103 => absurd c103 (by decide)) (fun c103 => ?_)
                    refine g_iconst C (gdec kL_isSound_1 57 rfl) ?_
                    refine g_istore C [(7, vI 0), (6, vI (x6 + 1)), (5, vI (x5 + r26)), (0, rO B), (1, vI p2), (2, vI x2), (3, vI x3), (4, vI x4), (8, vI x8)] hl (by decide) rfl (gdec kL_isSound_1 58 rfl) (fun ls hl => ?_)
                    refine g_iinc C (k := 8) [(8, vI (x8 + 1)), (7, vI 0), (6, vI (x6 + 1)), (5, vI (x5 + r26)), (0, rO B), (1, vI p2), (2, vI x2), (3, vI x3), (4, vI x4)] hl rfl (by decide) rfl (gdec kL_isSound_1 59 rfl) (fun ls hl => ?_)
                    refine g_goto C (tgt := 92) (by decide) (gdec kL_isSound_2 0 rfl) ?_
                    exact ih _ _ _ _ _ _ _ k hK H locs h ls (lv_sub hl [4, 5, 6, 7, 8, 3, 2, 1, 0] rfl) hf
      · replace hf := ifn c25 hf
        exact hK _ _ _ _ _ _ _ hf H locs h ls (lv_sub hl [0, 1, 2, 3, 4, 5, 6, 7, 8] rfl)
  have L222 : ∀ (n : Nat) (x2 : Int) (x3 : Int) (x4 : Int) (x5 : Int) (x6 : Int) (x7 : Int) (x8 : Int) (k : (Int → Int → Int → Int → Int → Int → Int → Option (Int))) (hK : ∀ (x2 : Int) (x3 : Int) (x4 : Int) (x5 : Int) (x6 : Int) (x7 : Int) (x8 : Int), k x2 x3 x4 x5 x6 x7 x8 = some rz → ∀ (H : Heap) (locs : List Loc), gH (eo E0 B F) s G H locs → ∀ ls, lv_has ls 9 [(0, rO B), (1, vI p2), (2, vI x2), (3, vI x3), (4, vI x4), (5, vI x5), (6, vI x6), (7, vI x7), (8, vI x8)] → W p l e (gRm 5 110 0 0) s m ([rO B, vI p2] : List Value).toArray below meth c H locs 0 0 (MQ below (gQi (eo E0 B F) G rz) ([rO B, vI p2] : List Value).toArray s 0 0 (eF (eo E0 B F))) (F0 m 246 ls [])), ∀ (H : Heap) (locs : List Loc), gH (eo E0 B F) s G H locs → ∀ ls, lv_has ls 9 [(0, rO B), (1, vI p2), (2, vI x2), (3, vI x3), (4, vI x4), (5, vI x5), (6, vI x6), (7, vI x7), (8, vI x8)] → f_L_isSound_L222 G F p2 n x2 x3 x4 x5 x6 x7 x8 k = some rz → W p l e (gRm 5 110 0 0) s m ([rO B, vI p2] : List Value).toArray below meth c H locs 0 0 (MQ below (gQi (eo E0 B F) G rz) ([rO B, vI p2] : List Value).toArray s 0 0 (eF (eo E0 B F))) (F0 m 222 ls []) := by
    intro n
    induction n with
    | zero =>
      intro x2 x3 x4 x5 x6 x7 x8 k hK H locs h ls hl hf
      exact absurd hf (by simp [f_L_isSound_L222])
    | succ n ih =>
      intro x2 x3 x4 x5 x6 x7 x8 k hK H locs h ls hl hf
      unfold f_L_isSound_L222 at hf
      refine g_iload C hl 8 rfl (gdec kL_isSound_2 3 rfl) ?_
      refine g_iload_n C hl 1 rfl rfl (gdec kL_isSound_2 4 rfl) ?_
      refine g_iconst C (gdec kL_isSound_2 5 rfl) ?_
      refine g_isub C (gdec kL_isSound_2 6 rfl) ?_
      obtain ⟨h105, hf⟩ := gd_s hf
      obtain ⟨h106, hf⟩ := gd_s hf
      refine g_icmp_ge C (tgt := 246) h105 h106 (by decide) (gdec kL_isSound_2 7 rfl) (fun c107 => ?_) (fun c107 => ?_)
      · replace hf := ifp c107 hf
        refine g_iload_n C hl 3 rfl rfl (gdec kL_isSound_2 8 rfl) ?_
        refine g_aload_n C hl 0 rfl rfl (gdec kL_isSound_2 9 rfl) ?_
        refine g_iload C hl 8 rfl (gdec kL_isSound_2 10 rfl) ?_
        refine g_iconst C (gdec kL_isSound_2 11 rfl) ?_
        obtain ⟨r108, q109, hf⟩ := bxr_s hf
        refine g_ci h (g_runV (CO F) h ok_o (by decide) rfl (c_X7_stage l (eo E0 B F) G x8 5 ok_o _ q109) wM_L_64 wI_X7_stage wS_X7_stage wN_X7 wC_X7_stage rfl ny_X7_stage rfl ⟨Nat.le_of_ble_eq_true rfl, Nat.le_of_ble_eq_true rfl⟩ hl.1 rfl (Nat.le_of_ble_eq_true rfl) (gdec kL_isSound_2 12 rfl) ⟨Nat.zero_le _, Nat.zero_le _⟩) (fun H locs h => ?_)
        refine g_isub C (gdec kL_isSound_2 13 rfl) ?_
        refine g_istore_n C [(3, vI (x3 - r108)), (0, rO B), (1, vI p2), (2, vI x2), (4, vI x4), (5, vI x5), (6, vI x6), (7, vI x7), (8, vI x8)] hl rfl (by decide) rfl (gdec kL_isSound_2 14 rfl) (fun ls hl => ?_)
        refine g_iinc C (k := 8) [(8, vI (x8 + 1)), (3, vI (x3 - r108)), (0, rO B), (1, vI p2), (2, vI x2), (4, vI x4), (5, vI x5), (6, vI x6), (7, vI x7)] hl rfl (by decide) rfl (gdec kL_isSound_2 15 rfl) (fun ls hl => ?_)
        refine g_goto C (tgt := 222) (by decide) (gdec kL_isSound_2 16 rfl) ?_
        exact ih _ _ _ _ _ _ _ k hK H locs h ls (lv_sub hl [2, 3, 4, 1, 5, 6, 7, 8, 0] rfl) hf
      · replace hf := ifn c107 hf
        exact hK _ _ _ _ _ _ _ hf H locs h ls (lv_sub hl [0, 1, 2, 3, 4, 5, 6, 7, 8] rfl)
  unfold f_L_isSound at hf
  refine g_iconst C (gdec kL_isSound 0 rfl) ?_
  refine g_istore_n C [(2, vI 0), (0, rO B), (1, vI p2)] hl rfl (by decide) rfl (gdec kL_isSound 1 rfl) (fun ls hl => ?_)
  refine g_iconst C (gdec kL_isSound 2 rfl) ?_
  refine g_istore_n C [(3, vI 0), (2, vI 0), (0, rO B), (1, vI p2)] hl rfl (by decide) rfl (gdec kL_isSound 3 rfl) (fun ls hl => ?_)
  refine g_iconst C (gdec kL_isSound 4 rfl) ?_
  refine g_istore C [(4, vI 0), (3, vI 0), (2, vI 0), (0, rO B), (1, vI p2)] hl (by decide) rfl (gdec kL_isSound 5 rfl) (fun ls hl => ?_)
  refine g_iconst C (gdec kL_isSound 6 rfl) ?_
  refine g_istore C [(5, vI 0), (4, vI 0), (3, vI 0), (2, vI 0), (0, rO B), (1, vI p2)] hl (by decide) rfl (gdec kL_isSound 7 rfl) (fun ls hl => ?_)
  refine g_iconst C (gdec kL_isSound 8 rfl) ?_
  refine g_istore C [(6, vI 0), (5, vI 0), (4, vI 0), (3, vI 0), (2, vI 0), (0, rO B), (1, vI p2)] hl (by decide) rfl (gdec kL_isSound 9 rfl) (fun ls hl => ?_)
  refine g_iconst C (gdec kL_isSound 10 rfl) ?_
  refine g_istore C [(7, vI 0), (6, vI 0), (5, vI 0), (4, vI 0), (3, vI 0), (2, vI 0), (0, rO B), (1, vI p2)] hl (by decide) rfl (gdec kL_isSound 11 rfl) (fun ls hl => ?_)
  refine L16 gFuel _ _ _ _ _ _ _ (fun y2_10 y3_10 y4_10 y5_10 y6_10 y7_10 hf H locs h ls hl => ?_) H locs h ls (lv_sub hl [6, 7, 5, 4, 3, 2, 1, 0] rfl) hf
  refine g_iload_n C hl 2 rfl rfl (gdec kL_isSound 38 rfl) ?_
  refine g_iload_n C hl 3 rfl rfl (gdec kL_isSound 39 rfl) ?_
  refine g_iadd C (gdec kL_isSound 40 rfl) ?_
  refine g_aload_n C hl 0 rfl rfl (gdec kL_isSound 41 rfl) ?_
  refine g_iconst C (gdec kL_isSound 42 rfl) ?_
  obtain ⟨r11, q12, hf⟩ := bxr_s hf
  refine g_ci h (g_runV (CO F) h ok_o (by decide) rfl (c_X7_value l (eo E0 B F) G 1 ok_o _ q12) wM_L_24 wI_X7_value wS_X7_value wN_X7 wC_X7_value rfl ny_X7_value rfl ⟨Nat.le_of_ble_eq_true rfl, Nat.le_of_ble_eq_true rfl⟩ hl.1 rfl (Nat.le_of_ble_eq_true rfl) (gdec kL_isSound 43 rfl) ⟨Nat.zero_le _, Nat.zero_le _⟩) (fun H locs h => ?_)
  obtain ⟨h13, hf⟩ := gd_s hf
  obtain ⟨h14, hf⟩ := gd_s hf
  refine g_icmp_ne C (tgt := 86) h13 h14 (by decide) (gdec kL_isSound 44 rfl) (fun c15 => ?_) (fun c15 => ?_)
  · replace hf := ifp c15 hf
    refine g_iload C hl 4 rfl (gdec kL_isSound 45 rfl) ?_
    refine g_aload_n C hl 0 rfl rfl (gdec kL_isSound 46 rfl) ?_
    refine g_bipush C (gdec kL_isSound 47 rfl) rfl ?_
    obtain ⟨r16, q17, hf⟩ := bxr_s hf
    refine g_ci h (g_runV (CO F) h ok_o (by decide) rfl (c_X7_value l (eo E0 B F) G 9 ok_o _ q17) wM_L_24 wI_X7_value wS_X7_value wN_X7 wC_X7_value rfl ny_X7_value rfl ⟨Nat.le_of_ble_eq_true rfl, Nat.le_of_ble_eq_true rfl⟩ hl.1 rfl (Nat.le_of_ble_eq_true rfl) (gdec kL_isSound 48 rfl) ⟨Nat.zero_le _, Nat.zero_le _⟩) (fun H locs h => ?_)
    obtain ⟨h18, hf⟩ := gd_s hf
    obtain ⟨h19, hf⟩ := gd_s hf
    refine g_icmp_ne C (tgt := 86) h18 h19 (by decide) (gdec kL_isSound 49 rfl) (fun c20 => ?_) (fun c20 => ?_)
    · replace hf := ifp c20 hf
      refine g_iconst C (gdec kL_isSound 50 rfl) ?_
      refine g_goto C (tgt := 87) (by decide) (gdec kL_isSound 51 rfl) ?_
      refine g_istore C [(7, vI 1), (0, rO B), (1, vI p2), (2, vI y2_10), (3, vI y3_10), (4, vI y4_10), (5, vI y5_10), (6, vI y6_10)] hl (by decide) rfl (gdec kL_isSound 53 rfl) (fun ls hl => ?_)
      refine g_iconst C (gdec kL_isSound 54 rfl) ?_
      refine g_istore C [(8, vI 0), (7, vI 1), (0, rO B), (1, vI p2), (2, vI y2_10), (3, vI y3_10), (4, vI y4_10), (5, vI y5_10), (6, vI y6_10)] hl (by decide) rfl (gdec kL_isSound 55 rfl) (fun ls hl => ?_)
      refine L92 gFuel _ _ _ _ _ _ _ _ (fun y2_104 y3_104 y4_104 y5_104 y6_104 y7_104 y8_104 hf H locs h ls hl => ?_) H locs h ls (lv_sub hl [2, 3, 4, 5, 6, 7, 8, 1, 0] rfl) hf
      refine g_iconst C (gdec kL_isSound_2 1 rfl) ?_
      refine g_istore C [(8, vI 0), (0, rO B), (1, vI p2), (2, vI y2_104), (3, vI y3_104), (4, vI y4_104), (5, vI y5_104), (6, vI y6_104), (7, vI y7_104)] hl (by decide) rfl (gdec kL_isSound_2 2 rfl) (fun ls hl => ?_)
      refine L222 gFuel _ _ _ _ _ _ _ _ (fun y2_110 y3_110 y4_110 y5_110 y6_110 y7_110 y8_110 hf H locs h ls hl => ?_) H locs h ls (lv_sub hl [1, 2, 3, 4, 5, 6, 7, 8, 0] rfl) hf
      refine g_iload C hl 7 rfl (gdec kL_isSound_2 17 rfl) ?_
      obtain ⟨h111, hf⟩ := gd_s hf
      refine g_if_eq C (tgt := 309) h111 (by decide) (gdec kL_isSound_2 18 rfl) (fun c112 => ?_) (fun c112 => ?_)
      · replace hf := ifp c112 hf
        refine g_iconst C (gdec kL_isSound_2 47 rfl) ?_
        exact g_zret (CO _) h (Or.inl rfl) (congrArg (Option.map (Prod.mk _)) hf) (gdec kL_isSound_2 48 rfl)
      · replace hf := ifn c112 hf
        refine g_iload_n C hl 3 rfl rfl (gdec kL_isSound_2 19 rfl) ?_
        obtain ⟨h113, hf⟩ := gd_s hf
        refine g_if_ne C (tgt := 309) h113 (by decide) (gdec kL_isSound_2 20 rfl) (fun c114 => ?_) (fun c114 => ?_)
        · replace hf := ifp c114 hf
          refine g_iload C hl 5 rfl (gdec kL_isSound_2 21 rfl) ?_
          refine g_aload_n C hl 0 rfl rfl (gdec kL_isSound_2 22 rfl) ?_
          refine g_bipush C (gdec kL_isSound_2 23 rfl) rfl ?_
          obtain ⟨r115, q116, hf⟩ := bxr_s hf
          refine g_ci h (g_runV (CO F) h ok_o (by decide) rfl (c_X7_value l (eo E0 B F) G 8 ok_o _ q116) wM_L_24 wI_X7_value wS_X7_value wN_X7 wC_X7_value rfl ny_X7_value rfl ⟨Nat.le_of_ble_eq_true rfl, Nat.le_of_ble_eq_true rfl⟩ hl.1 rfl (Nat.le_of_ble_eq_true rfl) (gdec kL_isSound_2 24 rfl) ⟨Nat.zero_le _, Nat.zero_le _⟩) (fun H locs h => ?_)
          obtain ⟨h117, hf⟩ := gd_s hf
          obtain ⟨h118, hf⟩ := gd_s hf
          refine g_icmp_ne C (tgt := 309) h117 h118 (by decide) (gdec kL_isSound_2 25 rfl) (fun c119 => ?_) (fun c119 => ?_)
          · replace hf := ifp c119 hf
            refine g_iload C hl 6 rfl (gdec kL_isSound_2 26 rfl) ?_
            refine g_aload_n C hl 0 rfl rfl (gdec kL_isSound_2 27 rfl) ?_
            refine g_bipush C (gdec kL_isSound_2 28 rfl) rfl ?_
            obtain ⟨r120, q121, hf⟩ := bxr_s hf
            refine g_ci h (g_runV (CO F) h ok_o (by decide) rfl (c_X7_value l (eo E0 B F) G 10 ok_o _ q121) wM_L_24 wI_X7_value wS_X7_value wN_X7 wC_X7_value rfl ny_X7_value rfl ⟨Nat.le_of_ble_eq_true rfl, Nat.le_of_ble_eq_true rfl⟩ hl.1 rfl (Nat.le_of_ble_eq_true rfl) (gdec kL_isSound_2 29 rfl) ⟨Nat.zero_le _, Nat.zero_le _⟩) (fun H locs h => ?_)
            obtain ⟨h122, hf⟩ := gd_s hf
            obtain ⟨h123, hf⟩ := gd_s hf
            refine g_icmp_ne C (tgt := 309) h122 h123 (by decide) (gdec kL_isSound_2 30 rfl) (fun c124 => ?_) (fun c124 => ?_)
            · replace hf := ifp c124 hf
              refine g_aload_n C hl 0 rfl rfl (gdec kL_isSound_2 31 rfl) ?_
              refine g_bipush C (gdec kL_isSound_2 32 rfl) rfl ?_
              obtain ⟨r125, q126, hf⟩ := bxr_s hf
              refine g_ci h (g_runV (CO F) h ok_o (by decide) rfl (c_X7_value l (eo E0 B F) G 6 ok_o _ q126) wM_L_24 wI_X7_value wS_X7_value wN_X7 wC_X7_value rfl ny_X7_value rfl ⟨Nat.le_of_ble_eq_true rfl, Nat.le_of_ble_eq_true rfl⟩ hl.1 rfl (Nat.le_of_ble_eq_true rfl) (gdec kL_isSound_2 33 rfl) ⟨Nat.zero_le _, Nat.zero_le _⟩) (fun H locs h => ?_)
              refine g_aload_n C hl 0 rfl rfl (gdec kL_isSound_2 34 rfl) ?_
              refine g_iconst C (gdec kL_isSound_2 35 rfl) ?_
              obtain ⟨r127, q128, hf⟩ := bxr_s hf
              refine g_ci h (g_runV (CO F) h ok_o (by decide) rfl (c_X7_value l (eo E0 B F) G 4 ok_o _ q128) wM_L_24 wI_X7_value wS_X7_value wN_X7 wC_X7_value rfl ny_X7_value rfl ⟨Nat.le_of_ble_eq_true rfl, Nat.le_of_ble_eq_true rfl⟩ hl.1 rfl (Nat.le_of_ble_eq_true rfl) (gdec kL_isSound_2 36 rfl) ⟨Nat.zero_le _, Nat.zero_le _⟩) (fun H locs h => ?_)
              obtain ⟨h129, hf⟩ := gd_s hf
              obtain ⟨h130, hf⟩ := gd_s hf
              refine g_icmp_gt C (tgt := 309) h129 h130 (by decide) (gdec kL_isSound_2 37 rfl) (fun c131 => ?_) (fun c131 => ?_)
              · replace hf := ifp c131 hf
                refine g_iconst C (gdec kL_isSound_2 47 rfl) ?_
                exact g_zret (CO _) h (Or.inl rfl) (congrArg (Option.map (Prod.mk _)) hf) (gdec kL_isSound_2 48 rfl)
              · replace hf := ifn c131 hf
                refine g_aload_n C hl 0 rfl rfl (gdec kL_isSound_2 38 rfl) ?_
                refine g_bipush C (gdec kL_isSound_2 39 rfl) rfl ?_
                obtain ⟨r132, q133, hf⟩ := bxr_s hf
                refine g_ci h (g_runV (CO F) h ok_o (by decide) rfl (c_X7_value l (eo E0 B F) G 7 ok_o _ q133) wM_L_24 wI_X7_value wS_X7_value wN_X7 wC_X7_value rfl ny_X7_value rfl ⟨Nat.le_of_ble_eq_true rfl, Nat.le_of_ble_eq_true rfl⟩ hl.1 rfl (Nat.le_of_ble_eq_true rfl) (gdec kL_isSound_2 40 rfl) ⟨Nat.zero_le _, Nat.zero_le _⟩) (fun H locs h => ?_)
                refine g_aload_n C hl 0 rfl rfl (gdec kL_isSound_2 41 rfl) ?_
                refine g_iconst C (gdec kL_isSound_2 42 rfl) ?_
                obtain ⟨r134, q135, hf⟩ := bxr_s hf
                refine g_ci h (g_runV (CO F) h ok_o (by decide) rfl (c_X7_value l (eo E0 B F) G 5 ok_o _ q135) wM_L_24 wI_X7_value wS_X7_value wN_X7 wC_X7_value rfl ny_X7_value rfl ⟨Nat.le_of_ble_eq_true rfl, Nat.le_of_ble_eq_true rfl⟩ hl.1 rfl (Nat.le_of_ble_eq_true rfl) (gdec kL_isSound_2 43 rfl) ⟨Nat.zero_le _, Nat.zero_le _⟩) (fun H locs h => ?_)
                obtain ⟨h136, hf⟩ := gd_s hf
                obtain ⟨h137, hf⟩ := gd_s hf
                refine g_icmp_gt C (tgt := 309) h136 h137 (by decide) (gdec kL_isSound_2 44 rfl) (fun c138 => ?_) (fun c138 => ?_)
                · replace hf := ifp c138 hf
                  refine g_iconst C (gdec kL_isSound_2 47 rfl) ?_
                  exact g_zret (CO _) h (Or.inl rfl) (congrArg (Option.map (Prod.mk _)) hf) (gdec kL_isSound_2 48 rfl)
                · replace hf := ifn c138 hf
                  refine g_iconst C (gdec kL_isSound_2 45 rfl) ?_
                  refine g_goto C (tgt := 310) (by decide) (gdec kL_isSound_2 46 rfl) ?_
                  exact g_zret (CO _) h (Or.inr rfl) (congrArg (Option.map (Prod.mk _)) hf) (gdec kL_isSound_2 48 rfl)
            · replace hf := ifn c124 hf
              refine g_iconst C (gdec kL_isSound_2 47 rfl) ?_
              exact g_zret (CO _) h (Or.inl rfl) (congrArg (Option.map (Prod.mk _)) hf) (gdec kL_isSound_2 48 rfl)
          · replace hf := ifn c119 hf
            refine g_iconst C (gdec kL_isSound_2 47 rfl) ?_
            exact g_zret (CO _) h (Or.inl rfl) (congrArg (Option.map (Prod.mk _)) hf) (gdec kL_isSound_2 48 rfl)
        · replace hf := ifn c114 hf
          refine g_iconst C (gdec kL_isSound_2 47 rfl) ?_
          exact g_zret (CO _) h (Or.inl rfl) (congrArg (Option.map (Prod.mk _)) hf) (gdec kL_isSound_2 48 rfl)
    · replace hf := ifn c20 hf
      refine g_iconst C (gdec kL_isSound 52 rfl) ?_
      refine g_istore C [(7, vI 0), (0, rO B), (1, vI p2), (2, vI y2_10), (3, vI y3_10), (4, vI y4_10), (5, vI y5_10), (6, vI y6_10)] hl (by decide) rfl (gdec kL_isSound 53 rfl) (fun ls hl => ?_)
      refine g_iconst C (gdec kL_isSound 54 rfl) ?_
      refine g_istore C [(8, vI 0), (7, vI 0), (0, rO B), (1, vI p2), (2, vI y2_10), (3, vI y3_10), (4, vI y4_10), (5, vI y5_10), (6, vI y6_10)] hl (by decide) rfl (gdec kL_isSound 55 rfl) (fun ls hl => ?_)
      refine L92 gFuel _ _ _ _ _ _ _ _ (fun y2_139 y3_139 y4_139 y5_139 y6_139 y7_139 y8_139 hf H locs h ls hl => ?_) H locs h ls (lv_sub hl [2, 3, 4, 5, 6, 7, 8, 1, 0] rfl) hf
      refine g_iconst C (gdec kL_isSound_2 1 rfl) ?_
      refine g_istore C [(8, vI 0), (0, rO B), (1, vI p2), (2, vI y2_139), (3, vI y3_139), (4, vI y4_139), (5, vI y5_139), (6, vI y6_139), (7, vI y7_139)] hl (by decide) rfl (gdec kL_isSound_2 2 rfl) (fun ls hl => ?_)
      refine L222 gFuel _ _ _ _ _ _ _ _ (fun y2_140 y3_140 y4_140 y5_140 y6_140 y7_140 y8_140 hf H locs h ls hl => ?_) H locs h ls (lv_sub hl [1, 2, 3, 4, 5, 6, 7, 8, 0] rfl) hf
      refine g_iload C hl 7 rfl (gdec kL_isSound_2 17 rfl) ?_
      obtain ⟨h141, hf⟩ := gd_s hf
      refine g_if_eq C (tgt := 309) h141 (by decide) (gdec kL_isSound_2 18 rfl) (fun c142 => ?_) (fun c142 => ?_)
      · replace hf := ifp c142 hf
        refine g_iconst C (gdec kL_isSound_2 47 rfl) ?_
        exact g_zret (CO _) h (Or.inl rfl) (congrArg (Option.map (Prod.mk _)) hf) (gdec kL_isSound_2 48 rfl)
      · replace hf := ifn c142 hf
        refine g_iload_n C hl 3 rfl rfl (gdec kL_isSound_2 19 rfl) ?_
        obtain ⟨h143, hf⟩ := gd_s hf
        refine g_if_ne C (tgt := 309) h143 (by decide) (gdec kL_isSound_2 20 rfl) (fun c144 => ?_) (fun c144 => ?_)
        · replace hf := ifp c144 hf
          refine g_iload C hl 5 rfl (gdec kL_isSound_2 21 rfl) ?_
          refine g_aload_n C hl 0 rfl rfl (gdec kL_isSound_2 22 rfl) ?_
          refine g_bipush C (gdec kL_isSound_2 23 rfl) rfl ?_
          obtain ⟨r145, q146, hf⟩ := bxr_s hf
          refine g_ci h (g_runV (CO F) h ok_o (by decide) rfl (c_X7_value l (eo E0 B F) G 8 ok_o _ q146) wM_L_24 wI_X7_value wS_X7_value wN_X7 wC_X7_value rfl ny_X7_value rfl ⟨Nat.le_of_ble_eq_true rfl, Nat.le_of_ble_eq_true rfl⟩ hl.1 rfl (Nat.le_of_ble_eq_true rfl) (gdec kL_isSound_2 24 rfl) ⟨Nat.zero_le _, Nat.zero_le _⟩) (fun H locs h => ?_)
          obtain ⟨h147, hf⟩ := gd_s hf
          obtain ⟨h148, hf⟩ := gd_s hf
          refine g_icmp_ne C (tgt := 309) h147 h148 (by decide) (gdec kL_isSound_2 25 rfl) (fun c149 => ?_) (fun c149 => ?_)
          · replace hf := ifp c149 hf
            refine g_iload C hl 6 rfl (gdec kL_isSound_2 26 rfl) ?_
            refine g_aload_n C hl 0 rfl rfl (gdec kL_isSound_2 27 rfl) ?_
            refine g_bipush C (gdec kL_isSound_2 28 rfl) rfl ?_
            obtain ⟨r150, q151, hf⟩ := bxr_s hf
            refine g_ci h (g_runV (CO F) h ok_o (by decide) rfl (c_X7_value l (eo E0 B F) G 10 ok_o _ q151) wM_L_24 wI_X7_value wS_X7_value wN_X7 wC_X7_value rfl ny_X7_value rfl ⟨Nat.le_of_ble_eq_true rfl, Nat.le_of_ble_eq_true rfl⟩ hl.1 rfl (Nat.le_of_ble_eq_true rfl) (gdec kL_isSound_2 29 rfl) ⟨Nat.zero_le _, Nat.zero_le _⟩) (fun H locs h => ?_)
            obtain ⟨h152, hf⟩ := gd_s hf
            obtain ⟨h153, hf⟩ := gd_s hf
            refine g_icmp_ne C (tgt := 309) h152 h153 (by decide) (gdec kL_isSound_2 30 rfl) (fun c154 => ?_) (fun c154 => ?_)
            · replace hf := ifp c154 hf
              refine g_aload_n C hl 0 rfl rfl (gdec kL_isSound_2 31 rfl) ?_
              refine g_bipush C (gdec kL_isSound_2 32 rfl) rfl ?_
              obtain ⟨r155, q156, hf⟩ := bxr_s hf
              refine g_ci h (g_runV (CO F) h ok_o (by decide) rfl (c_X7_value l (eo E0 B F) G 6 ok_o _ q156) wM_L_24 wI_X7_value wS_X7_value wN_X7 wC_X7_value rfl ny_X7_value rfl ⟨Nat.le_of_ble_eq_true rfl, Nat.le_of_ble_eq_true rfl⟩ hl.1 rfl (Nat.le_of_ble_eq_true rfl) (gdec kL_isSound_2 33 rfl) ⟨Nat.zero_le _, Nat.zero_le _⟩) (fun H locs h => ?_)
              refine g_aload_n C hl 0 rfl rfl (gdec kL_isSound_2 34 rfl) ?_
              refine g_iconst C (gdec kL_isSound_2 35 rfl) ?_
              obtain ⟨r157, q158, hf⟩ := bxr_s hf
              refine g_ci h (g_runV (CO F) h ok_o (by decide) rfl (c_X7_value l (eo E0 B F) G 4 ok_o _ q158) wM_L_24 wI_X7_value wS_X7_value wN_X7 wC_X7_value rfl ny_X7_value rfl ⟨Nat.le_of_ble_eq_true rfl, Nat.le_of_ble_eq_true rfl⟩ hl.1 rfl (Nat.le_of_ble_eq_true rfl) (gdec kL_isSound_2 36 rfl) ⟨Nat.zero_le _, Nat.zero_le _⟩) (fun H locs h => ?_)
              obtain ⟨h159, hf⟩ := gd_s hf
              obtain ⟨h160, hf⟩ := gd_s hf
              refine g_icmp_gt C (tgt := 309) h159 h160 (by decide) (gdec kL_isSound_2 37 rfl) (fun c161 => ?_) (fun c161 => ?_)
              · replace hf := ifp c161 hf
                refine g_iconst C (gdec kL_isSound_2 47 rfl) ?_
                exact g_zret (CO _) h (Or.inl rfl) (congrArg (Option.map (Prod.mk _)) hf) (gdec kL_isSound_2 48 rfl)
              · replace hf := ifn c161 hf
                refine g_aload_n C hl 0 rfl rfl (gdec kL_isSound_2 38 rfl) ?_
                refine g_bipush C (gdec kL_isSound_2 39 rfl) rfl ?_
                obtain ⟨r162, q163, hf⟩ := bxr_s hf
                refine g_ci h (g_runV (CO F) h ok_o (by decide) rfl (c_X7_value l (eo E0 B F) G 7 ok_o _ q163) wM_L_24 wI_X7_value wS_X7_value wN_X7 wC_X7_value rfl ny_X7_value rfl ⟨Nat.le_of_ble_eq_true rfl, Nat.le_of_ble_eq_true rfl⟩ hl.1 rfl (Nat.le_of_ble_eq_true rfl) (gdec kL_isSound_2 40 rfl) ⟨Nat.zero_le _, Nat.zero_le _⟩) (fun H locs h => ?_)
                refine g_aload_n C hl 0 rfl rfl (gdec kL_isSound_2 41 rfl) ?_
                refine g_iconst C (gdec kL_isSound_2 42 rfl) ?_
                obtain ⟨r164, q165, hf⟩ := bxr_s hf
                refine g_ci h (g_runV (CO F) h ok_o (by decide) rfl (c_X7_value l (eo E0 B F) G 5 ok_o _ q165) wM_L_24 wI_X7_value wS_X7_value wN_X7 wC_X7_value rfl ny_X7_value rfl ⟨Nat.le_of_ble_eq_true rfl, Nat.le_of_ble_eq_true rfl⟩ hl.1 rfl (Nat.le_of_ble_eq_true rfl) (gdec kL_isSound_2 43 rfl) ⟨Nat.zero_le _, Nat.zero_le _⟩) (fun H locs h => ?_)
                obtain ⟨h166, hf⟩ := gd_s hf
                obtain ⟨h167, hf⟩ := gd_s hf
                refine g_icmp_gt C (tgt := 309) h166 h167 (by decide) (gdec kL_isSound_2 44 rfl) (fun c168 => ?_) (fun c168 => ?_)
                · replace hf := ifp c168 hf
                  refine g_iconst C (gdec kL_isSound_2 47 rfl) ?_
                  exact g_zret (CO _) h (Or.inl rfl) (congrArg (Option.map (Prod.mk _)) hf) (gdec kL_isSound_2 48 rfl)
                · replace hf := ifn c168 hf
                  refine g_iconst C (gdec kL_isSound_2 45 rfl) ?_
                  refine g_goto C (tgt := 310) (by decide) (gdec kL_isSound_2 46 rfl) ?_
                  exact g_zret (CO _) h (Or.inr rfl) (congrArg (Option.map (Prod.mk _)) hf) (gdec kL_isSound_2 48 rfl)
            · replace hf := ifn c154 hf
              refine g_iconst C (gdec kL_isSound_2 47 rfl) ?_
              exact g_zret (CO _) h (Or.inl rfl) (congrArg (Option.map (Prod.mk _)) hf) (gdec kL_isSound_2 48 rfl)
          · replace hf := ifn c149 hf
            refine g_iconst C (gdec kL_isSound_2 47 rfl) ?_
            exact g_zret (CO _) h (Or.inl rfl) (congrArg (Option.map (Prod.mk _)) hf) (gdec kL_isSound_2 48 rfl)
        · replace hf := ifn c144 hf
          refine g_iconst C (gdec kL_isSound_2 47 rfl) ?_
          exact g_zret (CO _) h (Or.inl rfl) (congrArg (Option.map (Prod.mk _)) hf) (gdec kL_isSound_2 48 rfl)
  · replace hf := ifn c15 hf
    refine g_iconst C (gdec kL_isSound 52 rfl) ?_
    refine g_istore C [(7, vI 0), (0, rO B), (1, vI p2), (2, vI y2_10), (3, vI y3_10), (4, vI y4_10), (5, vI y5_10), (6, vI y6_10)] hl (by decide) rfl (gdec kL_isSound 53 rfl) (fun ls hl => ?_)
    refine g_iconst C (gdec kL_isSound 54 rfl) ?_
    refine g_istore C [(8, vI 0), (7, vI 0), (0, rO B), (1, vI p2), (2, vI y2_10), (3, vI y3_10), (4, vI y4_10), (5, vI y5_10), (6, vI y6_10)] hl (by decide) rfl (gdec kL_isSound 55 rfl) (fun ls hl => ?_)
    refine L92 gFuel _ _ _ _ _ _ _ _ (fun y2_169 y3_169 y4_169 y5_169 y6_169 y7_169 y8_169 hf H locs h ls hl => ?_) H locs h ls (lv_sub hl [2, 3, 4, 5, 6, 7, 8, 1, 0] rfl) hf
    refine g_iconst C (gdec kL_isSound_2 1 rfl) ?_
    refine g_istore C [(8, vI 0), (0, rO B), (1, vI p2), (2, vI y2_169), (3, vI y3_169), (4, vI y4_169), (5, vI y5_169), (6, vI y6_169), (7, vI y7_169)] hl (by decide) rfl (gdec kL_isSound_2 2 rfl) (fun ls hl => ?_)
    refine L222 gFuel _ _ _ _ _ _ _ _ (fun y2_170 y3_170 y4_170 y5_170 y6_170 y7_170 y8_170 hf H locs h ls hl => ?_) H locs h ls (lv_sub hl [1, 2, 3, 4, 5, 6, 7, 8, 0] rfl) hf
    refine g_iload C hl 7 rfl (gdec kL_isSound_2 17 rfl) ?_
    obtain ⟨h171, hf⟩ := gd_s hf
    refine g_if_eq C (tgt := 309) h171 (by decide) (gdec kL_isSound_2 18 rfl) (fun c172 => ?_) (fun c172 => ?_)
    · replace hf := ifp c172 hf
      refine g_iconst C (gdec kL_isSound_2 47 rfl) ?_
      exact g_zret (CO _) h (Or.inl rfl) (congrArg (Option.map (Prod.mk _)) hf) (gdec kL_isSound_2 48 rfl)
    · replace hf := ifn c172 hf
      refine g_iload_n C hl 3 rfl rfl (gdec kL_isSound_2 19 rfl) ?_
      obtain ⟨h173, hf⟩ := gd_s hf
      refine g_if_ne C (tgt := 309) h173 (by decide) (gdec kL_isSound_2 20 rfl) (fun c174 => ?_) (fun c174 => ?_)
      · replace hf := ifp c174 hf
        refine g_iload C hl 5 rfl (gdec kL_isSound_2 21 rfl) ?_
        refine g_aload_n C hl 0 rfl rfl (gdec kL_isSound_2 22 rfl) ?_
        refine g_bipush C (gdec kL_isSound_2 23 rfl) rfl ?_
        obtain ⟨r175, q176, hf⟩ := bxr_s hf
        refine g_ci h (g_runV (CO F) h ok_o (by decide) rfl (c_X7_value l (eo E0 B F) G 8 ok_o _ q176) wM_L_24 wI_X7_value wS_X7_value wN_X7 wC_X7_value rfl ny_X7_value rfl ⟨Nat.le_of_ble_eq_true rfl, Nat.le_of_ble_eq_true rfl⟩ hl.1 rfl (Nat.le_of_ble_eq_true rfl) (gdec kL_isSound_2 24 rfl) ⟨Nat.zero_le _, Nat.zero_le _⟩) (fun H locs h => ?_)
        obtain ⟨h177, hf⟩ := gd_s hf
        obtain ⟨h178, hf⟩ := gd_s hf
        refine g_icmp_ne C (tgt := 309) h177 h178 (by decide) (gdec kL_isSound_2 25 rfl) (fun c179 => ?_) (fun c179 => ?_)
        · replace hf := ifp c179 hf
          refine g_iload C hl 6 rfl (gdec kL_isSound_2 26 rfl) ?_
          refine g_aload_n C hl 0 rfl rfl (gdec kL_isSound_2 27 rfl) ?_
          refine g_bipush C (gdec kL_isSound_2 28 rfl) rfl ?_
          obtain ⟨r180, q181, hf⟩ := bxr_s hf
          refine g_ci h (g_runV (CO F) h ok_o (by decide) rfl (c_X7_value l (eo E0 B F) G 10 ok_o _ q181) wM_L_24 wI_X7_value wS_X7_value wN_X7 wC_X7_value rfl ny_X7_value rfl ⟨Nat.le_of_ble_eq_true rfl, Nat.le_of_ble_eq_true rfl⟩ hl.1 rfl (Nat.le_of_ble_eq_true rfl) (gdec kL_isSound_2 29 rfl) ⟨Nat.zero_le _, Nat.zero_le _⟩) (fun H locs h => ?_)
          obtain ⟨h182, hf⟩ := gd_s hf
          obtain ⟨h183, hf⟩ := gd_s hf
          refine g_icmp_ne C (tgt := 309) h182 h183 (by decide) (gdec kL_isSound_2 30 rfl) (fun c184 => ?_) (fun c184 => ?_)
          · replace hf := ifp c184 hf
            refine g_aload_n C hl 0 rfl rfl (gdec kL_isSound_2 31 rfl) ?_
            refine g_bipush C (gdec kL_isSound_2 32 rfl) rfl ?_
            obtain ⟨r185, q186, hf⟩ := bxr_s hf
            refine g_ci h (g_runV (CO F) h ok_o (by decide) rfl (c_X7_value l (eo E0 B F) G 6 ok_o _ q186) wM_L_24 wI_X7_value wS_X7_value wN_X7 wC_X7_value rfl ny_X7_value rfl ⟨Nat.le_of_ble_eq_true rfl, Nat.le_of_ble_eq_true rfl⟩ hl.1 rfl (Nat.le_of_ble_eq_true rfl) (gdec kL_isSound_2 33 rfl) ⟨Nat.zero_le _, Nat.zero_le _⟩) (fun H locs h => ?_)
            refine g_aload_n C hl 0 rfl rfl (gdec kL_isSound_2 34 rfl) ?_
            refine g_iconst C (gdec kL_isSound_2 35 rfl) ?_
            obtain ⟨r187, q188, hf⟩ := bxr_s hf
            refine g_ci h (g_runV (CO F) h ok_o (by decide) rfl (c_X7_value l (eo E0 B F) G 4 ok_o _ q188) wM_L_24 wI_X7_value wS_X7_value wN_X7 wC_X7_value rfl ny_X7_value rfl ⟨Nat.le_of_ble_eq_true rfl, Nat.le_of_ble_eq_true rfl⟩ hl.1 rfl (Nat.le_of_ble_eq_true rfl) (gdec kL_isSound_2 36 rfl) ⟨Nat.zero_le _, Nat.zero_le _⟩) (fun H locs h => ?_)
            obtain ⟨h189, hf⟩ := gd_s hf
            obtain ⟨h190, hf⟩ := gd_s hf
            refine g_icmp_gt C (tgt := 309) h189 h190 (by decide) (gdec kL_isSound_2 37 rfl) (fun c191 => ?_) (fun c191 => ?_)
            · replace hf := ifp c191 hf
              refine g_iconst C (gdec kL_isSound_2 47 rfl) ?_
              exact g_zret (CO _) h (Or.inl rfl) (congrArg (Option.map (Prod.mk _)) hf) (gdec kL_isSound_2 48 rfl)
            · replace hf := ifn c191 hf
              refine g_aload_n C hl 0 rfl rfl (gdec kL_isSound_2 38 rfl) ?_
              refine g_bipush C (gdec kL_isSound_2 39 rfl) rfl ?_
              obtain ⟨r192, q193, hf⟩ := bxr_s hf
              refine g_ci h (g_runV (CO F) h ok_o (by decide) rfl (c_X7_value l (eo E0 B F) G 7 ok_o _ q193) wM_L_24 wI_X7_value wS_X7_value wN_X7 wC_X7_value rfl ny_X7_value rfl ⟨Nat.le_of_ble_eq_true rfl, Nat.le_of_ble_eq_true rfl⟩ hl.1 rfl (Nat.le_of_ble_eq_true rfl) (gdec kL_isSound_2 40 rfl) ⟨Nat.zero_le _, Nat.zero_le _⟩) (fun H locs h => ?_)
              refine g_aload_n C hl 0 rfl rfl (gdec kL_isSound_2 41 rfl) ?_
              refine g_iconst C (gdec kL_isSound_2 42 rfl) ?_
              obtain ⟨r194, q195, hf⟩ := bxr_s hf
              refine g_ci h (g_runV (CO F) h ok_o (by decide) rfl (c_X7_value l (eo E0 B F) G 5 ok_o _ q195) wM_L_24 wI_X7_value wS_X7_value wN_X7 wC_X7_value rfl ny_X7_value rfl ⟨Nat.le_of_ble_eq_true rfl, Nat.le_of_ble_eq_true rfl⟩ hl.1 rfl (Nat.le_of_ble_eq_true rfl) (gdec kL_isSound_2 43 rfl) ⟨Nat.zero_le _, Nat.zero_le _⟩) (fun H locs h => ?_)
              obtain ⟨h196, hf⟩ := gd_s hf
              obtain ⟨h197, hf⟩ := gd_s hf
              refine g_icmp_gt C (tgt := 309) h196 h197 (by decide) (gdec kL_isSound_2 44 rfl) (fun c198 => ?_) (fun c198 => ?_)
              · replace hf := ifp c198 hf
                refine g_iconst C (gdec kL_isSound_2 47 rfl) ?_
                exact g_zret (CO _) h (Or.inl rfl) (congrArg (Option.map (Prod.mk _)) hf) (gdec kL_isSound_2 48 rfl)
              · replace hf := ifn c198 hf
                refine g_iconst C (gdec kL_isSound_2 45 rfl) ?_
                refine g_goto C (tgt := 310) (by decide) (gdec kL_isSound_2 46 rfl) ?_
                exact g_zret (CO _) h (Or.inr rfl) (congrArg (Option.map (Prod.mk _)) hf) (gdec kL_isSound_2 48 rfl)
          · replace hf := ifn c184 hf
            refine g_iconst C (gdec kL_isSound_2 47 rfl) ?_
            exact g_zret (CO _) h (Or.inl rfl) (congrArg (Option.map (Prod.mk _)) hf) (gdec kL_isSound_2 48 rfl)
        · replace hf := ifn c179 hf
          refine g_iconst C (gdec kL_isSound_2 47 rfl) ?_
          exact g_zret (CO _) h (Or.inl rfl) (congrArg (Option.map (Prod.mk _)) hf) (gdec kL_isSound_2 48 rfl)
      · replace hf := ifn c174 hf
        refine g_iconst C (gdec kL_isSound_2 47 rfl) ?_
        exact g_zret (CO _) h (Or.inl rfl) (congrArg (Option.map (Prod.mk _)) hf) (gdec kL_isSound_2 48 rfl)

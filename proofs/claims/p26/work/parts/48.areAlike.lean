def f_L_areAlike_L32 (p3 : Int) : Nat → GS → GS → Int → Int → (GS → GS → Int → Int → Option (GS × (GS × Int))) → Option (GS × (GS × Int))
  | 0, _, _, _, _, _ => none
  | n + 1, G, F, x3, x4, k => gd x4 (if x4 < 11 then gd x3 (if x3 = 0 then f_L_areAlike_L32 p3 n G F 0 (x4 + 1) k else bxr (f_X7_value G x4) (fun r20 => bxr (f_X7_value F x4) (fun r22 => gd r20 (gd r22 (if r20 = r22 then f_L_areAlike_L32 p3 n G F 1 (x4 + 1) k else f_L_areAlike_L32 p3 n G F 0 (x4 + 1) k))))) else k G F x3 x4)
def f_L_areAlike_L90 (p3 : Int) : Nat → GS → GS → Int → Int → Int → (GS → GS → Int → Int → Int → Option (GS × (GS × Int))) → Option (GS × (GS × Int))
  | 0, _, _, _, _, _, _ => none
  | n + 1, G, F, x3, x4, x5, k => gd x5 (if x5 < 10 then gd x3 (if x3 = 0 then f_L_areAlike_L90 p3 n G F 0 x4 (x5 + 1) k else if x5 = 0 then bxr (f_X7_team G x4 x5) (fun r42 => bxr (f_X7_team F x4 x5) (fun r44 => gd (r42 + r44) (gd (p3 - 1) (if (r42 + r44) = (p3 - 1) then f_L_areAlike_L90 p3 n G F 1 x4 (x5 + 1) k else f_L_areAlike_L90 p3 n G F 0 x4 (x5 + 1) k)))) else if x5 = 2 then bxr (f_X7_team G x4 x5) (fun r50 => bxr (f_X7_team F x4 x5) (fun r52 => gd (r50 + r52) (gd (p3 - 1) (if (r50 + r52) = (p3 - 1) then f_L_areAlike_L90 p3 n G F 1 x4 (x5 + 1) k else f_L_areAlike_L90 p3 n G F 0 x4 (x5 + 1) k)))) else bxr (f_X7_team G x4 x5) (fun r57 => bxr (f_X7_team F x4 x5) (fun r59 => gd r57 (gd r59 (if r57 = r59 then f_L_areAlike_L90 p3 n G F 1 x4 (x5 + 1) k else f_L_areAlike_L90 p3 n G F 0 x4 (x5 + 1) k))))) else k G F x3 x4 x5)
def f_L_areAlike_L73 (p3 : Int) : Nat → GS → GS → Int → Int → (GS → GS → Int → Int → Option (GS × (GS × Int))) → Option (GS × (GS × Int))
  | 0, _, _, _, _, _ => none
  | n + 1, G, F, x3, x4, k => bxr (f_X7_value G 1) (fun r30 => gd x4 (gd r30 (if x4 < r30 then gd x3 (if x3 = 0 then k G F x3 x4 else f_L_areAlike_L90 p3 gFuel G F x3 x4 0 (fun G65 F66 y3_64 y4_64 y5_64 => gd y3_64 (if y3_64 = 0 then f_L_areAlike_L73 p3 n G65 F66 0 (y4_64 + 1) k else bxr (f_X7_effortHome G65 y4_64) (fun r69 => bxr (f_X7_effortHome F66 y4_64) (fun r71 => gd r69 (gd r71 (if r69 = r71 then f_L_areAlike_L73 p3 n G65 F66 1 (y4_64 + 1) k else f_L_areAlike_L73 p3 n G65 F66 0 (y4_64 + 1) k))))))) else k G F x3 x4)))
def f_L_areAlike_L220 (p3 : Int) : Nat → GS → GS → Int → Int → Int → (GS → GS → Int → Int → Int → Option (GS × (GS × Int))) → Option (GS × (GS × Int))
  | 0, _, _, _, _, _, _ => none
  | n + 1, G, F, x3, x4, x5, k => gd x5 (if x5 < 8 then gd x3 (if x3 = 0 then f_L_areAlike_L220 p3 n G F 0 x4 (x5 + 1) k else if x5 < 2 then bxr (f_X7_letter G x4 x5) (fun r91 => bxr (f_X7_letter F x4 x5) (fun r93 => gd (r91 + r93) (gd (p3 - 1) (if (r91 + r93) = (p3 - 1) then f_L_areAlike_L220 p3 n G F 1 x4 (x5 + 1) k else f_L_areAlike_L220 p3 n G F 0 x4 (x5 + 1) k)))) else if x5 = 4 then bxr (f_X7_letter G x4 x5) (fun r99 => bxr (f_X7_letter F x4 x5) (fun r101 => gd (r99 + r101) (gd (p3 - 1) (if (r99 + r101) = (p3 - 1) then f_L_areAlike_L220 p3 n G F 1 x4 (x5 + 1) k else f_L_areAlike_L220 p3 n G F 0 x4 (x5 + 1) k)))) else bxr (f_X7_letter G x4 x5) (fun r106 => bxr (f_X7_letter F x4 x5) (fun r108 => gd r106 (gd r108 (if r106 = r108 then f_L_areAlike_L220 p3 n G F 1 x4 (x5 + 1) k else f_L_areAlike_L220 p3 n G F 0 x4 (x5 + 1) k))))) else k G F x3 x4 x5)
def f_L_areAlike_L203 (p3 : Int) : Nat → GS → GS → Int → Int → (GS → GS → Int → Int → Option (GS × (GS × Int))) → Option (GS × (GS × Int))
  | 0, _, _, _, _, _ => none
  | n + 1, G, F, x3, x4, k => bxr (f_X7_value G 2) (fun r79 => gd x4 (gd r79 (if x4 < r79 then gd x3 (if x3 = 0 then k G F x3 x4 else f_L_areAlike_L220 p3 gFuel G F x3 x4 0 (fun G114 F115 y3_113 y4_113 y5_113 => gd y3_113 (if y3_113 = 0 then f_L_areAlike_L203 p3 n G114 F115 0 (y4_113 + 1) k else bxr (f_X7_why G114 y4_113) (fun r118 => bxr (f_X7_why F115 y4_113) (fun r120 => gd r118 (gd r120 (if r118 = r120 then f_L_areAlike_L203 p3 n G114 F115 1 (y4_113 + 1) k else f_L_areAlike_L203 p3 n G114 F115 0 (y4_113 + 1) k))))))) else k G F x3 x4)))
def f_L_areAlike_L347 (p3 : Int) : Nat → GS → GS → Int → Int → Int → (GS → GS → Int → Int → Int → Option (GS × (GS × Int))) → Option (GS × (GS × Int))
  | 0, _, _, _, _, _, _ => none
  | n + 1, G, F, x3, x4, x5, k => gd x5 (if x5 < 7 then gd x3 (if x3 = 0 then f_L_areAlike_L347 p3 n G F 0 x4 (x5 + 1) k else bxr (f_X7_inn G x4 x5) (fun r137 => bxr (f_X7_inn F ((p3 - 1) - x4) x5) (fun r139 => gd r137 (gd r139 (if r137 = r139 then f_L_areAlike_L347 p3 n G F 1 x4 (x5 + 1) k else f_L_areAlike_L347 p3 n G F 0 x4 (x5 + 1) k))))) else k G F x3 x4 x5)
def f_L_areAlike_L334 (p3 : Int) : Nat → GS → GS → Int → Int → (GS → GS → Int → Int → Option (GS × (GS × Int))) → Option (GS × (GS × Int))
  | 0, _, _, _, _, _ => none
  | n + 1, G, F, x3, x4, k => gd x4 (gd p3 (if x4 < p3 then gd x3 (if x3 = 0 then k G F x3 x4 else f_L_areAlike_L347 p3 gFuel G F x3 x4 0 (fun G145 F146 y3_144 y4_144 y5_144 => f_L_areAlike_L334 p3 n G145 F146 y3_144 (y4_144 + 1) k)) else k G F x3 x4))
def f_L_areAlike_L402 (p3 : Int) : Nat → GS → GS → Int → Int → (GS → GS → Int → Int → Option (GS × (GS × Int))) → Option (GS × (GS × Int))
  | 0, _, _, _, _, _ => none
  | n + 1, G, F, x3, x4, k => gd x4 (gd (p3 - 1) (if x4 < (p3 - 1) then gd x3 (if x3 = 0 then k G F x3 x4 else bxr (f_X7_stage G x4 0) (fun r155 => bxr (f_X7_stage F ((p3 - 2) - x4) 0) (fun r157 => gd r155 (gd r157 (if r155 = r157 then bxr (f_X7_stage G x4 1) (fun r162 => bxr (f_X7_stage F ((p3 - 2) - x4) 1) (fun r164 => gd r162 (gd (-r164) (if r162 = (-r164) then bxr (f_X7_stage G x4 3) (fun r169 => bxr (f_X7_stage F ((p3 - 2) - x4) 4) (fun r171 => gd r169 (gd r171 (if r169 = r171 then bxr (f_X7_stage G x4 4) (fun r176 => bxr (f_X7_stage F ((p3 - 2) - x4) 3) (fun r178 => gd r176 (gd r178 (if r176 = r178 then bxr (f_X7_stage G x4 5) (fun r183 => bxr (f_X7_stage F ((p3 - 2) - x4) 5) (fun r185 => gd r183 (gd r185 (if r183 = r185 then f_L_areAlike_L402 p3 n G F 1 (x4 + 1) k else f_L_areAlike_L402 p3 n G F 0 (x4 + 1) k)))) else f_L_areAlike_L402 p3 n G F 0 (x4 + 1) k)))) else f_L_areAlike_L402 p3 n G F 0 (x4 + 1) k)))) else f_L_areAlike_L402 p3 n G F 0 (x4 + 1) k)))) else f_L_areAlike_L402 p3 n G F 0 (x4 + 1) k))))) else k G F x3 x4))
def f_L_areAlike (G F : GS) (p3 : Int) : Option (GS × (GS × Int)) :=
  bn1 (f_X7_meanTiredness G) (fun r1 => bn1 (f_X7_meanTiredness F) (fun r3 => gde r1 r3 (bnd (f_X7_hoursToAll G) (fun G9 r7 => bnd (f_X7_hoursToAll F) (fun F12 r10 => gd r7 (gd r10 (if r7 = r10 then f_L_areAlike_L32 p3 gFuel G9 F12 1 0 (fun G28 F29 y3_27 y4_27 => f_L_areAlike_L73 p3 gFuel G28 F29 y3_27 0 (fun G77 F78 y3_76 y4_76 => f_L_areAlike_L203 p3 gFuel G77 F78 y3_76 0 (fun G126 F127 y3_125 y4_125 => f_L_areAlike_L334 p3 gFuel G126 F127 y3_125 0 (fun G148 F149 y3_147 y4_147 => f_L_areAlike_L402 p3 gFuel G148 F149 y3_147 0 (fun G191 F192 y3_190 y4_190 => gb y3_190 (some (G191, (F192, y3_190)))))))) else f_L_areAlike_L32 p3 gFuel G9 F12 0 0 (fun G195 F196 y3_194 y4_194 => f_L_areAlike_L73 p3 gFuel G195 F196 y3_194 0 (fun G198 F199 y3_197 y4_197 => f_L_areAlike_L203 p3 gFuel G198 F199 y3_197 0 (fun G201 F202 y3_200 y4_200 => f_L_areAlike_L334 p3 gFuel G201 F202 y3_200 0 (fun G204 F205 y3_203 y4_203 => f_L_areAlike_L402 p3 gFuel G204 F205 y3_203 0 (fun G207 F208 y3_206 y4_206 => gb y3_206 (some (G207, (F208, y3_206)))))))))))))))
set_option maxHeartbeats 8000000 in
set_option maxRecDepth 100000 in
theorem c_L_areAlike (l : Launch) (E0 : gEnv) (B : Nat) (G F : GS) (p3 : Int) (Gz Fz : GS) (rz : Int) (hf : f_L_areAlike G F p3 = some (Gz, (Fz, rz))) : gMet l yL_areAlike cL_areAlike 6 (some .boolean) 7 157 0 0 [rO B, rP B, vI p3] (eo E0 B F) G (gQi (eo E0 B Fz) Gz rz) := by
  refine g_met (by decide +kernel) (Nat.le_of_ble_eq_true rfl) ?_
  intro p e s m below meth c C H locs h ls hl
  have C : gC p s m _ meth c RL cL_areAlike 6 (some .boolean) (eo E0 B F) := C
  have hl : lv_has ls 6 [(0, rO B), (1, rP B), (2, vI p3)] := hl
  have CO := gC_o C
  have CP := gC_p C
  have L32 : ∀ (n : Nat) (G F : GS) (x3 : Int) (x4 : Int) (k : (GS → GS → Int → Int → Option (GS × (GS × Int)))) (hK : ∀ (G F : GS) (x3 : Int) (x4 : Int), k G F x3 x4 = some (Gz, (Fz, rz)) → ∀ (H : Heap) (locs : List Loc), gH (eo E0 B F) s G H locs → ∀ ls, lv_has ls 6 [(0, rO B), (1, rP B), (2, vI p3), (3, vI x3), (4, vI x4)] → W p l e (gRm 7 157 0 0) s m ([rO B, rP B, vI p3] : List Value).toArray below meth c H locs 0 0 (MQ below (gQi (eo E0 B Fz) Gz rz) ([rO B, rP B, vI p3] : List Value).toArray s 0 0 (eF (eo E0 B F))) (F0 m 70 ls [])), ∀ (H : Heap) (locs : List Loc), gH (eo E0 B F) s G H locs → ∀ ls, lv_has ls 6 [(0, rO B), (1, rP B), (2, vI p3), (3, vI x3), (4, vI x4)] → f_L_areAlike_L32 p3 n G F x3 x4 k = some (Gz, (Fz, rz)) → W p l e (gRm 7 157 0 0) s m ([rO B, rP B, vI p3] : List Value).toArray below meth c H locs 0 0 (MQ below (gQi (eo E0 B Fz) Gz rz) ([rO B, rP B, vI p3] : List Value).toArray s 0 0 (eF (eo E0 B F))) (F0 m 32 ls []) := by
    intro n
    induction n with
    | zero =>
      intro G F x3 x4 k hK H locs h ls hl hf
      exact absurd hf (by simp [f_L_areAlike_L32])
    | succ n ih =>
      intro G F x3 x4 k hK H locs h ls hl hf
      unfold f_L_areAlike_L32 at hf
      refine g_iload C hl 4 rfl (gdec kL_areAlike 17 rfl) ?_
      refine g_bipush C (gdec kL_areAlike 18 rfl) rfl ?_
      obtain ⟨h16, hf⟩ := gd_s hf
      refine g_icmp_ge C (tgt := 70) h16 (by decide) (by decide) (gdec kL_areAlike 19 rfl) (fun c17 => ?_) (fun c17 => ?_)
      · replace hf := ifp c17 hf
        refine g_iload_n C hl 3 rfl rfl (gdec kL_areAlike 20 rfl) ?_
        obtain ⟨h18, hf⟩ := gd_s hf
        refine g_if_eq C (tgt := 62) h18 (by decide) (gdec kL_areAlike 21 rfl) (fun c19 => ?_) (fun c19 => ?_)
        · replace hf := ifp c19 hf
          refine g_iconst C (gdec kL_areAlike 31 rfl) ?_
          refine g_istore_n C [(3, vI 0), (0, rO B), (1, rP B), (2, vI p3), (4, vI x4)] hl rfl (by decide) rfl (gdec kL_areAlike 32 rfl) (fun ls hl => ?_)
          refine g_iinc C (k := 4) [(4, vI (x4 + 1)), (3, vI 0), (0, rO B), (1, rP B), (2, vI p3)] hl rfl (by decide) rfl (gdec kL_areAlike 33 rfl) (fun ls hl => ?_)
          refine g_goto C (tgt := 32) (by decide) (gdec kL_areAlike 34 rfl) ?_
          exact ih _ _ _ _ k hK H locs h ls (lv_sub hl [2, 3, 4, 1, 0] rfl) hf
        · replace hf := ifn c19 hf
          refine g_aload_n C hl 0 rfl rfl (gdec kL_areAlike 22 rfl) ?_
          refine g_iload C hl 4 rfl (gdec kL_areAlike 23 rfl) ?_
          obtain ⟨r20, q21, hf⟩ := bxr_s hf
          refine g_ci h (g_runV (CO F) h ok_o (by decide) rfl (c_X7_value l (eo E0 B F) G x4 ok_o _ q21) wM_L_24 wI_X7_value wS_X7_value wN_X7 wC_X7_value rfl ny_X7_value rfl ⟨Nat.le_of_ble_eq_true rfl, Nat.le_of_ble_eq_true rfl⟩ hl.1 rfl (Nat.le_of_ble_eq_true rfl) (gdec kL_areAlike 24 rfl) ⟨Nat.zero_le _, Nat.zero_le _⟩) (fun H locs h => ?_)
          refine g_aload_n C hl 1 rfl rfl (gdec kL_areAlike 25 rfl) ?_
          refine g_iload C hl 4 rfl (gdec kL_areAlike 26 rfl) ?_
          obtain ⟨r22, q23, hf⟩ := bxr_s hf
          refine g_ci (g_sw h) (g_runV (CP G) (g_sw h) ok_p (by decide) rfl (c_X7_value l (ep E0 B G) F x4 ok_p _ q23) wM_L_24 wI_X7_value wS_X7_value wN_X7 wC_X7_value rfl ny_X7_value rfl ⟨Nat.le_of_ble_eq_true rfl, Nat.le_of_ble_eq_true rfl⟩ hl.1 rfl (Nat.le_of_ble_eq_true rfl) (gdec kL_areAlike 27 rfl) ⟨Nat.zero_le _, Nat.zero_le _⟩) (fun H locs h => ?_)
          replace h := g_ws h
          obtain ⟨h24, hf⟩ := gd_s hf
          obtain ⟨h25, hf⟩ := gd_s hf
          refine g_icmp_ne C (tgt := 62) h24 h25 (by decide) (gdec kL_areAlike 28 rfl) (fun c26 => ?_) (fun c26 => ?_)
          · replace hf := ifp c26 hf
            refine g_iconst C (gdec kL_areAlike 29 rfl) ?_
            refine g_goto C (tgt := 63) (by decide) (gdec kL_areAlike 30 rfl) ?_
            refine g_istore_n C [(3, vI 1), (0, rO B), (1, rP B), (2, vI p3), (4, vI x4)] hl rfl (by decide) rfl (gdec kL_areAlike 32 rfl) (fun ls hl => ?_)
            refine g_iinc C (k := 4) [(4, vI (x4 + 1)), (3, vI 1), (0, rO B), (1, rP B), (2, vI p3)] hl rfl (by decide) rfl (gdec kL_areAlike 33 rfl) (fun ls hl => ?_)
            refine g_goto C (tgt := 32) (by decide) (gdec kL_areAlike 34 rfl) ?_
            exact ih _ _ _ _ k hK H locs h ls (lv_sub hl [2, 3, 4, 1, 0] rfl) hf
          · replace hf := ifn c26 hf
            refine g_iconst C (gdec kL_areAlike 31 rfl) ?_
            refine g_istore_n C [(3, vI 0), (0, rO B), (1, rP B), (2, vI p3), (4, vI x4)] hl rfl (by decide) rfl (gdec kL_areAlike 32 rfl) (fun ls hl => ?_)
            refine g_iinc C (k := 4) [(4, vI (x4 + 1)), (3, vI 0), (0, rO B), (1, rP B), (2, vI p3)] hl rfl (by decide) rfl (gdec kL_areAlike 33 rfl) (fun ls hl => ?_)
            refine g_goto C (tgt := 32) (by decide) (gdec kL_areAlike 34 rfl) ?_
            exact ih _ _ _ _ k hK H locs h ls (lv_sub hl [2, 3, 4, 1, 0] rfl) hf
      · replace hf := ifn c17 hf
        exact hK _ _ _ _ hf H locs h ls (lv_sub hl [0, 1, 2, 3, 4] rfl)
  have L90 : ∀ (n : Nat) (G F : GS) (x3 : Int) (x4 : Int) (x5 : Int) (k : (GS → GS → Int → Int → Int → Option (GS × (GS × Int)))) (hK : ∀ (G F : GS) (x3 : Int) (x4 : Int) (x5 : Int), k G F x3 x4 x5 = some (Gz, (Fz, rz)) → ∀ (H : Heap) (locs : List Loc), gH (eo E0 B F) s G H locs → ∀ ls, lv_has ls 6 [(0, rO B), (1, rP B), (2, vI p3), (3, vI x3), (4, vI x4), (5, vI x5)] → W p l e (gRm 7 157 0 0) s m ([rO B, rP B, vI p3] : List Value).toArray below meth c H locs 0 0 (MQ below (gQi (eo E0 B Fz) Gz rz) ([rO B, rP B, vI p3] : List Value).toArray s 0 0 (eF (eo E0 B F))) (F0 m 169 ls [])), ∀ (H : Heap) (locs : List Loc), gH (eo E0 B F) s G H locs → ∀ ls, lv_has ls 6 [(0, rO B), (1, rP B), (2, vI p3), (3, vI x3), (4, vI x4), (5, vI x5)] → f_L_areAlike_L90 p3 n G F x3 x4 x5 k = some (Gz, (Fz, rz)) → W p l e (gRm 7 157 0 0) s m ([rO B, rP B, vI p3] : List Value).toArray below meth c H locs 0 0 (MQ below (gQi (eo E0 B Fz) Gz rz) ([rO B, rP B, vI p3] : List Value).toArray s 0 0 (eF (eo E0 B F))) (F0 m 90 ls []) := by
    intro n
    induction n with
    | zero =>
      intro G F x3 x4 x5 k hK H locs h ls hl hf
      exact absurd hf (by simp [f_L_areAlike_L90])
    | succ n ih =>
      intro G F x3 x4 x5 k hK H locs h ls hl hf
      unfold f_L_areAlike_L90 at hf
      refine g_iload C hl 5 rfl (gdec kL_areAlike 46 rfl) ?_
      refine g_bipush C (gdec kL_areAlike 47 rfl) rfl ?_
      obtain ⟨h37, hf⟩ := gd_s hf
      refine g_icmp_ge C (tgt := 169) h37 (by decide) (by decide) (gdec kL_areAlike 48 rfl) (fun c38 => ?_) (fun c38 => ?_)
      · replace hf := ifp c38 hf
        refine g_iload_n C hl 3 rfl rfl (gdec kL_areAlike 49 rfl) ?_
        obtain ⟨h39, hf⟩ := gd_s hf
        refine g_if_eq C (tgt := 161) h39 (by decide) (gdec kL_areAlike 50 rfl) (fun c40 => ?_) (fun c40 => ?_)
        · replace hf := ifp c40 hf
          refine g_iconst C (gdec kL_areAlike_1 21 rfl) ?_
          refine g_istore_n C [(3, vI 0), (0, rO B), (1, rP B), (2, vI p3), (4, vI x4), (5, vI x5)] hl rfl (by decide) rfl (gdec kL_areAlike_1 22 rfl) (fun ls hl => ?_)
          refine g_iinc C (k := 5) [(5, vI (x5 + 1)), (3, vI 0), (0, rO B), (1, rP B), (2, vI p3), (4, vI x4)] hl rfl (by decide) rfl (gdec kL_areAlike_1 23 rfl) (fun ls hl => ?_)
          refine g_goto C (tgt := 90) (by decide) (gdec kL_areAlike_1 24 rfl) ?_
          exact ih _ _ _ _ _ k hK H locs h ls (lv_sub hl [2, 3, 4, 1, 5, 0] rfl) hf
        · replace hf := ifn c40 hf
          refine g_iload C hl 5 rfl (gdec kL_areAlike 51 rfl) ?_
          refine g_if_eq C (tgt := 112) h37 (by decide) (gdec kL_areAlike 52 rfl) (fun c41 => ?_) (fun c41 => ?_)
          · replace hf := ifp c41 hf
            refine g_aload_n C hl 0 rfl rfl (gdec kL_areAlike 56 rfl) ?_
            refine g_iload C hl 4 rfl (gdec kL_areAlike 57 rfl) ?_
            refine g_iload C hl 5 rfl (gdec kL_areAlike 58 rfl) ?_
            obtain ⟨r42, q43, hf⟩ := bxr_s hf
            refine g_ci h (g_runV (CO F) h ok_o (by decide) rfl (c_X7_team l (eo E0 B F) G x4 x5 ok_o _ q43) wM_L_49 wI_X7_team wS_X7_team wN_X7 wC_X7_team rfl ny_X7_team rfl ⟨Nat.le_of_ble_eq_true rfl, Nat.le_of_ble_eq_true rfl⟩ hl.1 rfl (Nat.le_of_ble_eq_true rfl) (gdec kL_areAlike 59 rfl) ⟨Nat.zero_le _, Nat.zero_le _⟩) (fun H locs h => ?_)
            refine g_aload_n C hl 1 rfl rfl (gdec kL_areAlike_1 0 rfl) ?_
            refine g_iload C hl 4 rfl (gdec kL_areAlike_1 1 rfl) ?_
            refine g_iload C hl 5 rfl (gdec kL_areAlike_1 2 rfl) ?_
            obtain ⟨r44, q45, hf⟩ := bxr_s hf
            refine g_ci (g_sw h) (g_runV (CP G) (g_sw h) ok_p (by decide) rfl (c_X7_team l (ep E0 B G) F x4 x5 ok_p _ q45) wM_L_49 wI_X7_team wS_X7_team wN_X7 wC_X7_team rfl ny_X7_team rfl ⟨Nat.le_of_ble_eq_true rfl, Nat.le_of_ble_eq_true rfl⟩ hl.1 rfl (Nat.le_of_ble_eq_true rfl) (gdec kL_areAlike_1 3 rfl) ⟨Nat.zero_le _, Nat.zero_le _⟩) (fun H locs h => ?_)
            replace h := g_ws h
            refine g_iadd C (gdec kL_areAlike_1 4 rfl) ?_
            refine g_iload_n C hl 2 rfl rfl (gdec kL_areAlike_1 5 rfl) ?_
            refine g_iconst C (gdec kL_areAlike_1 6 rfl) ?_
            refine g_isub C (gdec kL_areAlike_1 7 rfl) ?_
            obtain ⟨h46, hf⟩ := gd_s hf
            obtain ⟨h47, hf⟩ := gd_s hf
            refine g_icmp_ne C (tgt := 161) h46 h47 (by decide) (gdec kL_areAlike_1 8 rfl) (fun c48 => ?_) (fun c48 => ?_)
            · replace hf := ifp c48 hf
              refine g_goto C (tgt := 157) (by decide) (gdec kL_areAlike_1 9 rfl) ?_
              refine g_iconst C (gdec kL_areAlike_1 19 rfl) ?_
              refine g_goto C (tgt := 162) (by decide) (gdec kL_areAlike_1 20 rfl) ?_
              refine g_istore_n C [(3, vI 1), (0, rO B), (1, rP B), (2, vI p3), (4, vI x4), (5, vI x5)] hl rfl (by decide) rfl (gdec kL_areAlike_1 22 rfl) (fun ls hl => ?_)
              refine g_iinc C (k := 5) [(5, vI (x5 + 1)), (3, vI 1), (0, rO B), (1, rP B), (2, vI p3), (4, vI x4)] hl rfl (by decide) rfl (gdec kL_areAlike_1 23 rfl) (fun ls hl => ?_)
              refine g_goto C (tgt := 90) (by decide) (gdec kL_areAlike_1 24 rfl) ?_
              exact ih _ _ _ _ _ k hK H locs h ls (lv_sub hl [2, 3, 4, 1, 5, 0] rfl) hf
            · replace hf := ifn c48 hf
              refine g_iconst C (gdec kL_areAlike_1 21 rfl) ?_
              refine g_istore_n C [(3, vI 0), (0, rO B), (1, rP B), (2, vI p3), (4, vI x4), (5, vI x5)] hl rfl (by decide) rfl (gdec kL_areAlike_1 22 rfl) (fun ls hl => ?_)
              refine g_iinc C (k := 5) [(5, vI (x5 + 1)), (3, vI 0), (0, rO B), (1, rP B), (2, vI p3), (4, vI x4)] hl rfl (by decide) rfl (gdec kL_areAlike_1 23 rfl) (fun ls hl => ?_)
              refine g_goto C (tgt := 90) (by decide) (gdec kL_areAlike_1 24 rfl) ?_
              exact ih _ _ _ _ _ k hK H locs h ls (lv_sub hl [2, 3, 4, 1, 5, 0] rfl) hf
          · replace hf := ifn c41 hf
            refine g_iload C hl 5 rfl (gdec kL_areAlike 53 rfl) ?_
            refine g_iconst C (gdec kL_areAlike 54 rfl) ?_
            refine g_icmp_ne C (tgt := 138) h37 (by decide) (by decide) (gdec kL_areAlike 55 rfl) (fun c49 => ?_) (fun c49 => ?_)
            · replace hf := ifp c49 hf
              refine g_aload_n C hl 0 rfl rfl (gdec kL_areAlike 56 rfl) ?_
              refine g_iload C hl 4 rfl (gdec kL_areAlike 57 rfl) ?_
              refine g_iload C hl 5 rfl (gdec kL_areAlike 58 rfl) ?_
              obtain ⟨r50, q51, hf⟩ := bxr_s hf
              refine g_ci h (g_runV (CO F) h ok_o (by decide) rfl (c_X7_team l (eo E0 B F) G x4 x5 ok_o _ q51) wM_L_49 wI_X7_team wS_X7_team wN_X7 wC_X7_team rfl ny_X7_team rfl ⟨Nat.le_of_ble_eq_true rfl, Nat.le_of_ble_eq_true rfl⟩ hl.1 rfl (Nat.le_of_ble_eq_true rfl) (gdec kL_areAlike 59 rfl) ⟨Nat.zero_le _, Nat.zero_le _⟩) (fun H locs h => ?_)
              refine g_aload_n C hl 1 rfl rfl (gdec kL_areAlike_1 0 rfl) ?_
              refine g_iload C hl 4 rfl (gdec kL_areAlike_1 1 rfl) ?_
              refine g_iload C hl 5 rfl (gdec kL_areAlike_1 2 rfl) ?_
              obtain ⟨r52, q53, hf⟩ := bxr_s hf
              refine g_ci (g_sw h) (g_runV (CP G) (g_sw h) ok_p (by decide) rfl (c_X7_team l (ep E0 B G) F x4 x5 ok_p _ q53) wM_L_49 wI_X7_team wS_X7_team wN_X7 wC_X7_team rfl ny_X7_team rfl ⟨Nat.le_of_ble_eq_true rfl, Nat.le_of_ble_eq_true rfl⟩ hl.1 rfl (Nat.le_of_ble_eq_true rfl) (gdec kL_areAlike_1 3 rfl) ⟨Nat.zero_le _, Nat.zero_le _⟩) (fun H locs h => ?_)
              replace h := g_ws h
              refine g_iadd C (gdec kL_areAlike_1 4 rfl) ?_
              refine g_iload_n C hl 2 rfl rfl (gdec kL_areAlike_1 5 rfl) ?_
              refine g_iconst C (gdec kL_areAlike_1 6 rfl) ?_
              refine g_isub C (gdec kL_areAlike_1 7 rfl) ?_
              obtain ⟨h54, hf⟩ := gd_s hf
              obtain ⟨h55, hf⟩ := gd_s hf
              refine g_icmp_ne C (tgt := 161) h54 h55 (by decide) (gdec kL_areAlike_1 8 rfl) (fun c56 => ?_) (fun c56 => ?_)
              · replace hf := ifp c56 hf
                refine g_goto C (tgt := 157) (by decide) (gdec kL_areAlike_1 9 rfl) ?_
                refine g_iconst C (gdec kL_areAlike_1 19 rfl) ?_
                refine g_goto C (tgt := 162) (by decide) (gdec kL_areAlike_1 20 rfl) ?_
                refine g_istore_n C [(3, vI 1), (0, rO B), (1, rP B), (2, vI p3), (4, vI x4), (5, vI x5)] hl rfl (by decide) rfl (gdec kL_areAlike_1 22 rfl) (fun ls hl => ?_)
                refine g_iinc C (k := 5) [(5, vI (x5 + 1)), (3, vI 1), (0, rO B), (1, rP B), (2, vI p3), (4, vI x4)] hl rfl (by decide) rfl (gdec kL_areAlike_1 23 rfl) (fun ls hl => ?_)
                refine g_goto C (tgt := 90) (by decide) (gdec kL_areAlike_1 24 rfl) ?_
                exact ih _ _ _ _ _ k hK H locs h ls (lv_sub hl [2, 3, 4, 1, 5, 0] rfl) hf
              · replace hf := ifn c56 hf
                refine g_iconst C (gdec kL_areAlike_1 21 rfl) ?_
                refine g_istore_n C [(3, vI 0), (0, rO B), (1, rP B), (2, vI p3), (4, vI x4), (5, vI x5)] hl rfl (by decide) rfl (gdec kL_areAlike_1 22 rfl) (fun ls hl => ?_)
                refine g_iinc C (k := 5) [(5, vI (x5 + 1)), (3, vI 0), (0, rO B), (1, rP B), (2, vI p3), (4, vI x4)] hl rfl (by decide) rfl (gdec kL_areAlike_1 23 rfl) (fun ls hl => ?_)
                refine g_goto C (tgt := 90) (by decide) (gdec kL_areAlike_1 24 rfl) ?_
                exact ih _ _ _ _ _ k hK H locs h ls (lv_sub hl [2, 3, 4, 1, 5, 0] rfl) hf
            · replace hf := ifn c49 hf
              refine g_aload_n C hl 0 rfl rfl (gdec kL_areAlike_1 10 rfl) ?_
              refine g_iload C hl 4 rfl (gdec kL_areAlike_1 11 rfl) ?_
              refine g_iload C hl 5 rfl (gdec kL_areAlike_1 12 rfl) ?_
              obtain ⟨r57, q58, hf⟩ := bxr_s hf
              refine g_ci h (g_runV (CO F) h ok_o (by decide) rfl (c_X7_team l (eo E0 B F) G x4 x5 ok_o _ q58) wM_L_49 wI_X7_team wS_X7_team wN_X7 wC_X7_team rfl ny_X7_team rfl ⟨Nat.le_of_ble_eq_true rfl, Nat.le_of_ble_eq_true rfl⟩ hl.1 rfl (Nat.le_of_ble_eq_true rfl) (gdec kL_areAlike_1 13 rfl) ⟨Nat.zero_le _, Nat.zero_le _⟩) (fun H locs h => ?_)
              refine g_aload_n C hl 1 rfl rfl (gdec kL_areAlike_1 14 rfl) ?_
              refine g_iload C hl 4 rfl (gdec kL_areAlike_1 15 rfl) ?_
              refine g_iload C hl 5 rfl (gdec kL_areAlike_1 16 rfl) ?_
              obtain ⟨r59, q60, hf⟩ := bxr_s hf
              refine g_ci (g_sw h) (g_runV (CP G) (g_sw h) ok_p (by decide) rfl (c_X7_team l (ep E0 B G) F x4 x5 ok_p _ q60) wM_L_49 wI_X7_team wS_X7_team wN_X7 wC_X7_team rfl ny_X7_team rfl ⟨Nat.le_of_ble_eq_true rfl, Nat.le_of_ble_eq_true rfl⟩ hl.1 rfl (Nat.le_of_ble_eq_true rfl) (gdec kL_areAlike_1 17 rfl) ⟨Nat.zero_le _, Nat.zero_le _⟩) (fun H locs h => ?_)
              replace h := g_ws h
              obtain ⟨h61, hf⟩ := gd_s hf
              obtain ⟨h62, hf⟩ := gd_s hf
              refine g_icmp_ne C (tgt := 161) h61 h62 (by decide) (gdec kL_areAlike_1 18 rfl) (fun c63 => ?_) (fun c63 => ?_)
              · replace hf := ifp c63 hf
                refine g_iconst C (gdec kL_areAlike_1 19 rfl) ?_
                refine g_goto C (tgt := 162) (by decide) (gdec kL_areAlike_1 20 rfl) ?_
                refine g_istore_n C [(3, vI 1), (0, rO B), (1, rP B), (2, vI p3), (4, vI x4), (5, vI x5)] hl rfl (by decide) rfl (gdec kL_areAlike_1 22 rfl) (fun ls hl => ?_)
                refine g_iinc C (k := 5) [(5, vI (x5 + 1)), (3, vI 1), (0, rO B), (1, rP B), (2, vI p3), (4, vI x4)] hl rfl (by decide) rfl (gdec kL_areAlike_1 23 rfl) (fun ls hl => ?_)
                refine g_goto C (tgt := 90) (by decide) (gdec kL_areAlike_1 24 rfl) ?_
                exact ih _ _ _ _ _ k hK H locs h ls (lv_sub hl [2, 3, 4, 1, 5, 0] rfl) hf
              · replace hf := ifn c63 hf
                refine g_iconst C (gdec kL_areAlike_1 21 rfl) ?_
                refine g_istore_n C [(3, vI 0), (0, rO B), (1, rP B), (2, vI p3), (4, vI x4), (5, vI x5)] hl rfl (by decide) rfl (gdec kL_areAlike_1 22 rfl) (fun ls hl => ?_)
                refine g_iinc C (k := 5) [(5, vI (x5 + 1)), (3, vI 0), (0, rO B), (1, rP B), (2, vI p3), (4, vI x4)] hl rfl (by decide) rfl (gdec kL_areAlike_1 23 rfl) (fun ls hl => ?_)
                refine g_goto C (tgt := 90) (by decide) (gdec kL_areAlike_1 24 rfl) ?_
                exact ih _ _ _ _ _ k hK H locs h ls (lv_sub hl [2, 3, 4, 1, 5, 0] rfl) hf
      · replace hf := ifn c38 hf
        exact hK _ _ _ _ _ hf H locs h ls (lv_sub hl [0, 1, 2, 3, 4, 5] rfl)
  have L73 : ∀ (n : Nat) (G F : GS) (x3 : Int) (x4 : Int) (k : (GS → GS → Int → Int → Option (GS × (GS × Int)))) (hK : ∀ (G F : GS) (x3 : Int) (x4 : Int), k G F x3 x4 = some (Gz, (Fz, rz)) → ∀ (H : Heap) (locs : List Loc), gH (eo E0 B F) s G H locs → ∀ ls, lv_has ls 6 [(0, rO B), (1, rP B), (2, vI p3), (3, vI x3), (4, vI x4)] → W p l e (gRm 7 157 0 0) s m ([rO B, rP B, vI p3] : List Value).toArray below meth c H locs 0 0 (MQ below (gQi (eo E0 B Fz) Gz rz) ([rO B, rP B, vI p3] : List Value).toArray s 0 0 (eF (eo E0 B F))) (F0 m 200 ls [])), ∀ (H : Heap) (locs : List Loc), gH (eo E0 B F) s G H locs → ∀ ls, lv_has ls 6 [(0, rO B), (1, rP B), (2, vI p3), (3, vI x3), (4, vI x4)] → f_L_areAlike_L73 p3 n G F x3 x4 k = some (Gz, (Fz, rz)) → W p l e (gRm 7 157 0 0) s m ([rO B, rP B, vI p3] : List Value).toArray below meth c H locs 0 0 (MQ below (gQi (eo E0 B Fz) Gz rz) ([rO B, rP B, vI p3] : List Value).toArray s 0 0 (eF (eo E0 B F))) (F0 m 73 ls []) := by
    intro n
    induction n with
    | zero =>
      intro G F x3 x4 k hK H locs h ls hl hf
      exact absurd hf (by simp [f_L_areAlike_L73])
    | succ n ih =>
      intro G F x3 x4 k hK H locs h ls hl hf
      unfold f_L_areAlike_L73 at hf
      refine g_iload C hl 4 rfl (gdec kL_areAlike 37 rfl) ?_
      refine g_aload_n C hl 0 rfl rfl (gdec kL_areAlike 38 rfl) ?_
      refine g_iconst C (gdec kL_areAlike 39 rfl) ?_
      obtain ⟨r30, q31, hf⟩ := bxr_s hf
      refine g_ci h (g_runV (CO F) h ok_o (by decide) rfl (c_X7_value l (eo E0 B F) G 1 ok_o _ q31) wM_L_24 wI_X7_value wS_X7_value wN_X7 wC_X7_value rfl ny_X7_value rfl ⟨Nat.le_of_ble_eq_true rfl, Nat.le_of_ble_eq_true rfl⟩ hl.1 rfl (Nat.le_of_ble_eq_true rfl) (gdec kL_areAlike 40 rfl) ⟨Nat.zero_le _, Nat.zero_le _⟩) (fun H locs h => ?_)
      obtain ⟨h32, hf⟩ := gd_s hf
      obtain ⟨h33, hf⟩ := gd_s hf
      refine g_icmp_ge C (tgt := 200) h32 h33 (by decide) (gdec kL_areAlike 41 rfl) (fun c34 => ?_) (fun c34 => ?_)
      · replace hf := ifp c34 hf
        refine g_iload_n C hl 3 rfl rfl (gdec kL_areAlike 42 rfl) ?_
        obtain ⟨h35, hf⟩ := gd_s hf
        refine g_if_eq C (tgt := 200) h35 (by decide) (gdec kL_areAlike 43 rfl) (fun c36 => ?_) (fun c36 => ?_)
        · replace hf := ifp c36 hf
          exact hK _ _ _ _ hf H locs h ls (lv_sub hl [0, 1, 2, 3, 4] rfl)
        · replace hf := ifn c36 hf
          refine g_iconst C (gdec kL_areAlike 44 rfl) ?_
          refine g_istore C [(5, vI 0), (0, rO B), (1, rP B), (2, vI p3), (3, vI x3), (4, vI x4)] hl (by decide) rfl (gdec kL_areAlike 45 rfl) (fun ls hl => ?_)
          refine L90 gFuel _ _ _ _ _ _ (fun G65 F66 y3_64 y4_64 y5_64 hf H locs h ls hl => ?_) H locs h ls (lv_sub hl [1, 2, 3, 4, 5, 0] rfl) hf
          refine g_iload_n C hl 3 rfl rfl (gdec kL_areAlike_1 25 rfl) ?_
          obtain ⟨h67, hf⟩ := gd_s hf
          refine g_if_eq C (tgt := 192) h67 (by decide) (gdec kL_areAlike_1 26 rfl) (fun c68 => ?_) (fun c68 => ?_)
          · replace hf := ifp c68 hf
            refine g_iconst C (gdec kL_areAlike_1 36 rfl) ?_
            refine g_istore_n C [(3, vI 0), (0, rO B), (1, rP B), (2, vI p3), (4, vI y4_64), (5, vI y5_64)] hl rfl (by decide) rfl (gdec kL_areAlike_1 37 rfl) (fun ls hl => ?_)
            refine g_iinc C (k := 4) [(4, vI (y4_64 + 1)), (3, vI 0), (0, rO B), (1, rP B), (2, vI p3), (5, vI y5_64)] hl rfl (by decide) rfl (gdec kL_areAlike_1 38 rfl) (fun ls hl => ?_)
            refine g_goto C (tgt := 73) (by decide) (gdec kL_areAlike_1 39 rfl) ?_
            exact ih _ _ _ _ k hK H locs h ls (lv_sub hl [2, 3, 4, 1, 0] rfl) hf
          · replace hf := ifn c68 hf
            refine g_aload_n C hl 0 rfl rfl (gdec kL_areAlike_1 27 rfl) ?_
            refine g_iload C hl 4 rfl (gdec kL_areAlike_1 28 rfl) ?_
            obtain ⟨r69, q70, hf⟩ := bxr_s hf
            refine g_ci h (g_runV (CO F66) h ok_o (by decide) rfl (c_X7_effortHome l (eo E0 B F66) G65 y4_64 ok_o _ q70) wM_L_52 wI_X7_effortHome wS_X7_effortHome wN_X7 wC_X7_effortHome rfl ny_X7_effortHome rfl ⟨Nat.le_of_ble_eq_true rfl, Nat.le_of_ble_eq_true rfl⟩ hl.1 rfl (Nat.le_of_ble_eq_true rfl) (gdec kL_areAlike_1 29 rfl) ⟨Nat.zero_le _, Nat.zero_le _⟩) (fun H locs h => ?_)
            refine g_aload_n C hl 1 rfl rfl (gdec kL_areAlike_1 30 rfl) ?_
            refine g_iload C hl 4 rfl (gdec kL_areAlike_1 31 rfl) ?_
            obtain ⟨r71, q72, hf⟩ := bxr_s hf
            refine g_ci (g_sw h) (g_runV (CP G65) (g_sw h) ok_p (by decide) rfl (c_X7_effortHome l (ep E0 B G65) F66 y4_64 ok_p _ q72) wM_L_52 wI_X7_effortHome wS_X7_effortHome wN_X7 wC_X7_effortHome rfl ny_X7_effortHome rfl ⟨Nat.le_of_ble_eq_true rfl, Nat.le_of_ble_eq_true rfl⟩ hl.1 rfl (Nat.le_of_ble_eq_true rfl) (gdec kL_areAlike_1 32 rfl) ⟨Nat.zero_le _, Nat.zero_le _⟩) (fun H locs h => ?_)
            replace h := g_ws h
            obtain ⟨h73, hf⟩ := gd_s hf
            obtain ⟨h74, hf⟩ := gd_s hf
            refine g_icmp_ne C (tgt := 192) h73 h74 (by decide) (gdec kL_areAlike_1 33 rfl) (fun c75 => ?_) (fun c75 => ?_)
            · replace hf := ifp c75 hf
              refine g_iconst C (gdec kL_areAlike_1 34 rfl) ?_
              refine g_goto C (tgt := 193) (by decide) (gdec kL_areAlike_1 35 rfl) ?_
              refine g_istore_n C [(3, vI 1), (0, rO B), (1, rP B), (2, vI p3), (4, vI y4_64), (5, vI y5_64)] hl rfl (by decide) rfl (gdec kL_areAlike_1 37 rfl) (fun ls hl => ?_)
              refine g_iinc C (k := 4) [(4, vI (y4_64 + 1)), (3, vI 1), (0, rO B), (1, rP B), (2, vI p3), (5, vI y5_64)] hl rfl (by decide) rfl (gdec kL_areAlike_1 38 rfl) (fun ls hl => ?_)
              refine g_goto C (tgt := 73) (by decide) (gdec kL_areAlike_1 39 rfl) ?_
              exact ih _ _ _ _ k hK H locs h ls (lv_sub hl [2, 3, 4, 1, 0] rfl) hf
            · replace hf := ifn c75 hf
              refine g_iconst C (gdec kL_areAlike_1 36 rfl) ?_
              refine g_istore_n C [(3, vI 0), (0, rO B), (1, rP B), (2, vI p3), (4, vI y4_64), (5, vI y5_64)] hl rfl (by decide) rfl (gdec kL_areAlike_1 37 rfl) (fun ls hl => ?_)
              refine g_iinc C (k := 4) [(4, vI (y4_64 + 1)), (3, vI 0), (0, rO B), (1, rP B), (2, vI p3), (5, vI y5_64)] hl rfl (by decide) rfl (gdec kL_areAlike_1 38 rfl) (fun ls hl => ?_)
              refine g_goto C (tgt := 73) (by decide) (gdec kL_areAlike_1 39 rfl) ?_
              exact ih _ _ _ _ k hK H locs h ls (lv_sub hl [2, 3, 4, 1, 0] rfl) hf
      · replace hf := ifn c34 hf
        exact hK _ _ _ _ hf H locs h ls (lv_sub hl [0, 1, 2, 3, 4] rfl)
  have L220 : ∀ (n : Nat) (G F : GS) (x3 : Int) (x4 : Int) (x5 : Int) (k : (GS → GS → Int → Int → Int → Option (GS × (GS × Int)))) (hK : ∀ (G F : GS) (x3 : Int) (x4 : Int) (x5 : Int), k G F x3 x4 x5 = some (Gz, (Fz, rz)) → ∀ (H : Heap) (locs : List Loc), gH (eo E0 B F) s G H locs → ∀ ls, lv_has ls 6 [(0, rO B), (1, rP B), (2, vI p3), (3, vI x3), (4, vI x4), (5, vI x5)] → W p l e (gRm 7 157 0 0) s m ([rO B, rP B, vI p3] : List Value).toArray below meth c H locs 0 0 (MQ below (gQi (eo E0 B Fz) Gz rz) ([rO B, rP B, vI p3] : List Value).toArray s 0 0 (eF (eo E0 B F))) (F0 m 300 ls [])), ∀ (H : Heap) (locs : List Loc), gH (eo E0 B F) s G H locs → ∀ ls, lv_has ls 6 [(0, rO B), (1, rP B), (2, vI p3), (3, vI x3), (4, vI x4), (5, vI x5)] → f_L_areAlike_L220 p3 n G F x3 x4 x5 k = some (Gz, (Fz, rz)) → W p l e (gRm 7 157 0 0) s m ([rO B, rP B, vI p3] : List Value).toArray below meth c H locs 0 0 (MQ below (gQi (eo E0 B Fz) Gz rz) ([rO B, rP B, vI p3] : List Value).toArray s 0 0 (eF (eo E0 B F))) (F0 m 220 ls []) := by
    intro n
    induction n with
    | zero =>
      intro G F x3 x4 x5 k hK H locs h ls hl hf
      exact absurd hf (by simp [f_L_areAlike_L220])
    | succ n ih =>
      intro G F x3 x4 x5 k hK H locs h ls hl hf
      unfold f_L_areAlike_L220 at hf
      refine g_iload C hl 5 rfl (gdec kL_areAlike_1 51 rfl) ?_
      refine g_bipush C (gdec kL_areAlike_1 52 rfl) rfl ?_
      obtain ⟨h86, hf⟩ := gd_s hf
      refine g_icmp_ge C (tgt := 300) h86 (by decide) (by decide) (gdec kL_areAlike_1 53 rfl) (fun c87 => ?_) (fun c87 => ?_)
      · replace hf := ifp c87 hf
        refine g_iload_n C hl 3 rfl rfl (gdec kL_areAlike_1 54 rfl) ?_
        obtain ⟨h88, hf⟩ := gd_s hf
        refine g_if_eq C (tgt := 292) h88 (by decide) (gdec kL_areAlike_1 55 rfl) (fun c89 => ?_) (fun c89 => ?_)
        · replace hf := ifp c89 hf
          refine g_iconst C (gdec kL_areAlike_2 27 rfl) ?_
          refine g_istore_n C [(3, vI 0), (0, rO B), (1, rP B), (2, vI p3), (4, vI x4), (5, vI x5)] hl rfl (by decide) rfl (gdec kL_areAlike_2 28 rfl) (fun ls hl => ?_)
          refine g_iinc C (k := 5) [(5, vI (x5 + 1)), (3, vI 0), (0, rO B), (1, rP B), (2, vI p3), (4, vI x4)] hl rfl (by decide) rfl (gdec kL_areAlike_2 29 rfl) (fun ls hl => ?_)
          refine g_goto C (tgt := 220) (by decide) (gdec kL_areAlike_2 30 rfl) ?_
          exact ih _ _ _ _ _ k hK H locs h ls (lv_sub hl [2, 3, 4, 1, 5, 0] rfl) hf
        · replace hf := ifn c89 hf
          refine g_iload C hl 5 rfl (gdec kL_areAlike_1 56 rfl) ?_
          refine g_iconst C (gdec kL_areAlike_1 57 rfl) ?_
          refine g_icmp_lt C (tgt := 243) h86 (by decide) (by decide) (gdec kL_areAlike_1 58 rfl) (fun c90 => ?_) (fun c90 => ?_)
          · replace hf := ifp c90 hf
            refine g_aload_n C hl 0 rfl rfl (gdec kL_areAlike_2 2 rfl) ?_
            refine g_iload C hl 4 rfl (gdec kL_areAlike_2 3 rfl) ?_
            refine g_iload C hl 5 rfl (gdec kL_areAlike_2 4 rfl) ?_
            obtain ⟨r91, q92, hf⟩ := bxr_s hf
            refine g_ci h (g_runV (CO F) h ok_o (by decide) rfl (c_X7_letter l (eo E0 B F) G x4 x5 ok_o _ q92) wM_L_55 wI_X7_letter wS_X7_letter wN_X7 wC_X7_letter rfl ny_X7_letter rfl ⟨Nat.le_of_ble_eq_true rfl, Nat.le_of_ble_eq_true rfl⟩ hl.1 rfl (Nat.le_of_ble_eq_true rfl) (gdec kL_areAlike_2 5 rfl) ⟨Nat.zero_le _, Nat.zero_le _⟩) (fun H locs h => ?_)
            refine g_aload_n C hl 1 rfl rfl (gdec kL_areAlike_2 6 rfl) ?_
            refine g_iload C hl 4 rfl (gdec kL_areAlike_2 7 rfl) ?_
            refine g_iload C hl 5 rfl (gdec kL_areAlike_2 8 rfl) ?_
            obtain ⟨r93, q94, hf⟩ := bxr_s hf
            refine g_ci (g_sw h) (g_runV (CP G) (g_sw h) ok_p (by decide) rfl (c_X7_letter l (ep E0 B G) F x4 x5 ok_p _ q94) wM_L_55 wI_X7_letter wS_X7_letter wN_X7 wC_X7_letter rfl ny_X7_letter rfl ⟨Nat.le_of_ble_eq_true rfl, Nat.le_of_ble_eq_true rfl⟩ hl.1 rfl (Nat.le_of_ble_eq_true rfl) (gdec kL_areAlike_2 9 rfl) ⟨Nat.zero_le _, Nat.zero_le _⟩) (fun H locs h => ?_)
            replace h := g_ws h
            refine g_iadd C (gdec kL_areAlike_2 10 rfl) ?_
            refine g_iload_n C hl 2 rfl rfl (gdec kL_areAlike_2 11 rfl) ?_
            refine g_iconst C (gdec kL_areAlike_2 12 rfl) ?_
            refine g_isub C (gdec kL_areAlike_2 13 rfl) ?_
            obtain ⟨h95, hf⟩ := gd_s hf
            obtain ⟨h96, hf⟩ := gd_s hf
            refine g_icmp_ne C (tgt := 292) h95 h96 (by decide) (gdec kL_areAlike_2 14 rfl) (fun c97 => ?_) (fun c97 => ?_)
            · replace hf := ifp c97 hf
              refine g_goto C (tgt := 288) (by decide) (gdec kL_areAlike_2 15 rfl) ?_
              refine g_iconst C (gdec kL_areAlike_2 25 rfl) ?_
              refine g_goto C (tgt := 293) (by decide) (gdec kL_areAlike_2 26 rfl) ?_
              refine g_istore_n C [(3, vI 1), (0, rO B), (1, rP B), (2, vI p3), (4, vI x4), (5, vI x5)] hl rfl (by decide) rfl (gdec kL_areAlike_2 28 rfl) (fun ls hl => ?_)
              refine g_iinc C (k := 5) [(5, vI (x5 + 1)), (3, vI 1), (0, rO B), (1, rP B), (2, vI p3), (4, vI x4)] hl rfl (by decide) rfl (gdec kL_areAlike_2 29 rfl) (fun ls hl => ?_)
              refine g_goto C (tgt := 220) (by decide) (gdec kL_areAlike_2 30 rfl) ?_
              exact ih _ _ _ _ _ k hK H locs h ls (lv_sub hl [2, 3, 4, 1, 5, 0] rfl) hf
            · replace hf := ifn c97 hf
              refine g_iconst C (gdec kL_areAlike_2 27 rfl) ?_
              refine g_istore_n C [(3, vI 0), (0, rO B), (1, rP B), (2, vI p3), (4, vI x4), (5, vI x5)] hl rfl (by decide) rfl (gdec kL_areAlike_2 28 rfl) (fun ls hl => ?_)
              refine g_iinc C (k := 5) [(5, vI (x5 + 1)), (3, vI 0), (0, rO B), (1, rP B), (2, vI p3), (4, vI x4)] hl rfl (by decide) rfl (gdec kL_areAlike_2 29 rfl) (fun ls hl => ?_)
              refine g_goto C (tgt := 220) (by decide) (gdec kL_areAlike_2 30 rfl) ?_
              exact ih _ _ _ _ _ k hK H locs h ls (lv_sub hl [2, 3, 4, 1, 5, 0] rfl) hf
          · replace hf := ifn c90 hf
            refine g_iload C hl 5 rfl (gdec kL_areAlike_1 59 rfl) ?_
            refine g_iconst C (gdec kL_areAlike_2 0 rfl) ?_
            refine g_icmp_ne C (tgt := 269) h86 (by decide) (by decide) (gdec kL_areAlike_2 1 rfl) (fun c98 => ?_) (fun c98 => ?_)
            · replace hf := ifp c98 hf
              refine g_aload_n C hl 0 rfl rfl (gdec kL_areAlike_2 2 rfl) ?_
              refine g_iload C hl 4 rfl (gdec kL_areAlike_2 3 rfl) ?_
              refine g_iload C hl 5 rfl (gdec kL_areAlike_2 4 rfl) ?_
              obtain ⟨r99, q100, hf⟩ := bxr_s hf
              refine g_ci h (g_runV (CO F) h ok_o (by decide) rfl (c_X7_letter l (eo E0 B F) G x4 x5 ok_o _ q100) wM_L_55 wI_X7_letter wS_X7_letter wN_X7 wC_X7_letter rfl ny_X7_letter rfl ⟨Nat.le_of_ble_eq_true rfl, Nat.le_of_ble_eq_true rfl⟩ hl.1 rfl (Nat.le_of_ble_eq_true rfl) (gdec kL_areAlike_2 5 rfl) ⟨Nat.zero_le _, Nat.zero_le _⟩) (fun H locs h => ?_)
              refine g_aload_n C hl 1 rfl rfl (gdec kL_areAlike_2 6 rfl) ?_
              refine g_iload C hl 4 rfl (gdec kL_areAlike_2 7 rfl) ?_
              refine g_iload C hl 5 rfl (gdec kL_areAlike_2 8 rfl) ?_
              obtain ⟨r101, q102, hf⟩ := bxr_s hf
              refine g_ci (g_sw h) (g_runV (CP G) (g_sw h) ok_p (by decide) rfl (c_X7_letter l (ep E0 B G) F x4 x5 ok_p _ q102) wM_L_55 wI_X7_letter wS_X7_letter wN_X7 wC_X7_letter rfl ny_X7_letter rfl ⟨Nat.le_of_ble_eq_true rfl, Nat.le_of_ble_eq_true rfl⟩ hl.1 rfl (Nat.le_of_ble_eq_true rfl) (gdec kL_areAlike_2 9 rfl) ⟨Nat.zero_le _, Nat.zero_le _⟩) (fun H locs h => ?_)
              replace h := g_ws h
              refine g_iadd C (gdec kL_areAlike_2 10 rfl) ?_
              refine g_iload_n C hl 2 rfl rfl (gdec kL_areAlike_2 11 rfl) ?_
              refine g_iconst C (gdec kL_areAlike_2 12 rfl) ?_
              refine g_isub C (gdec kL_areAlike_2 13 rfl) ?_
              obtain ⟨h103, hf⟩ := gd_s hf
              obtain ⟨h104, hf⟩ := gd_s hf
              refine g_icmp_ne C (tgt := 292) h103 h104 (by decide) (gdec kL_areAlike_2 14 rfl) (fun c105 => ?_) (fun c105 => ?_)
              · replace hf := ifp c105 hf
                refine g_goto C (tgt := 288) (by decide) (gdec kL_areAlike_2 15 rfl) ?_
                refine g_iconst C (gdec kL_areAlike_2 25 rfl) ?_
                refine g_goto C (tgt := 293) (by decide) (gdec kL_areAlike_2 26 rfl) ?_
                refine g_istore_n C [(3, vI 1), (0, rO B), (1, rP B), (2, vI p3), (4, vI x4), (5, vI x5)] hl rfl (by decide) rfl (gdec kL_areAlike_2 28 rfl) (fun ls hl => ?_)
                refine g_iinc C (k := 5) [(5, vI (x5 + 1)), (3, vI 1), (0, rO B), (1, rP B), (2, vI p3), (4, vI x4)] hl rfl (by decide) rfl (gdec kL_areAlike_2 29 rfl) (fun ls hl => ?_)
                refine g_goto C (tgt := 220) (by decide) (gdec kL_areAlike_2 30 rfl) ?_
                exact ih _ _ _ _ _ k hK H locs h ls (lv_sub hl [2, 3, 4, 1, 5, 0] rfl) hf
              · replace hf := ifn c105 hf
                refine g_iconst C (gdec kL_areAlike_2 27 rfl) ?_
                refine g_istore_n C [(3, vI 0), (0, rO B), (1, rP B), (2, vI p3), (4, vI x4), (5, vI x5)] hl rfl (by decide) rfl (gdec kL_areAlike_2 28 rfl) (fun ls hl => ?_)
                refine g_iinc C (k := 5) [(5, vI (x5 + 1)), (3, vI 0), (0, rO B), (1, rP B), (2, vI p3), (4, vI x4)] hl rfl (by decide) rfl (gdec kL_areAlike_2 29 rfl) (fun ls hl => ?_)
                refine g_goto C (tgt := 220) (by decide) (gdec kL_areAlike_2 30 rfl) ?_
                exact ih _ _ _ _ _ k hK H locs h ls (lv_sub hl [2, 3, 4, 1, 5, 0] rfl) hf
            · replace hf := ifn c98 hf
              refine g_aload_n C hl 0 rfl rfl (gdec kL_areAlike_2 16 rfl) ?_
              refine g_iload C hl 4 rfl (gdec kL_areAlike_2 17 rfl) ?_
              refine g_iload C hl 5 rfl (gdec kL_areAlike_2 18 rfl) ?_
              obtain ⟨r106, q107, hf⟩ := bxr_s hf
              refine g_ci h (g_runV (CO F) h ok_o (by decide) rfl (c_X7_letter l (eo E0 B F) G x4 x5 ok_o _ q107) wM_L_55 wI_X7_letter wS_X7_letter wN_X7 wC_X7_letter rfl ny_X7_letter rfl ⟨Nat.le_of_ble_eq_true rfl, Nat.le_of_ble_eq_true rfl⟩ hl.1 rfl (Nat.le_of_ble_eq_true rfl) (gdec kL_areAlike_2 19 rfl) ⟨Nat.zero_le _, Nat.zero_le _⟩) (fun H locs h => ?_)
              refine g_aload_n C hl 1 rfl rfl (gdec kL_areAlike_2 20 rfl) ?_
              refine g_iload C hl 4 rfl (gdec kL_areAlike_2 21 rfl) ?_
              refine g_iload C hl 5 rfl (gdec kL_areAlike_2 22 rfl) ?_
              obtain ⟨r108, q109, hf⟩ := bxr_s hf
              refine g_ci (g_sw h) (g_runV (CP G) (g_sw h) ok_p (by decide) rfl (c_X7_letter l (ep E0 B G) F x4 x5 ok_p _ q109) wM_L_55 wI_X7_letter wS_X7_letter wN_X7 wC_X7_letter rfl ny_X7_letter rfl ⟨Nat.le_of_ble_eq_true rfl, Nat.le_of_ble_eq_true rfl⟩ hl.1 rfl (Nat.le_of_ble_eq_true rfl) (gdec kL_areAlike_2 23 rfl) ⟨Nat.zero_le _, Nat.zero_le _⟩) (fun H locs h => ?_)
              replace h := g_ws h
              obtain ⟨h110, hf⟩ := gd_s hf
              obtain ⟨h111, hf⟩ := gd_s hf
              refine g_icmp_ne C (tgt := 292) h110 h111 (by decide) (gdec kL_areAlike_2 24 rfl) (fun c112 => ?_) (fun c112 => ?_)
              · replace hf := ifp c112 hf
                refine g_iconst C (gdec kL_areAlike_2 25 rfl) ?_
                refine g_goto C (tgt := 293) (by decide) (gdec kL_areAlike_2 26 rfl) ?_
                refine g_istore_n C [(3, vI 1), (0, rO B), (1, rP B), (2, vI p3), (4, vI x4), (5, vI x5)] hl rfl (by decide) rfl (gdec kL_areAlike_2 28 rfl) (fun ls hl => ?_)
                refine g_iinc C (k := 5) [(5, vI (x5 + 1)), (3, vI 1), (0, rO B), (1, rP B), (2, vI p3), (4, vI x4)] hl rfl (by decide) rfl (gdec kL_areAlike_2 29 rfl) (fun ls hl => ?_)
                refine g_goto C (tgt := 220) (by decide) (gdec kL_areAlike_2 30 rfl) ?_
                exact ih _ _ _ _ _ k hK H locs h ls (lv_sub hl [2, 3, 4, 1, 5, 0] rfl) hf
              · replace hf := ifn c112 hf
                refine g_iconst C (gdec kL_areAlike_2 27 rfl) ?_
                refine g_istore_n C [(3, vI 0), (0, rO B), (1, rP B), (2, vI p3), (4, vI x4), (5, vI x5)] hl rfl (by decide) rfl (gdec kL_areAlike_2 28 rfl) (fun ls hl => ?_)
                refine g_iinc C (k := 5) [(5, vI (x5 + 1)), (3, vI 0), (0, rO B), (1, rP B), (2, vI p3), (4, vI x4)] hl rfl (by decide) rfl (gdec kL_areAlike_2 29 rfl) (fun ls hl => ?_)
                refine g_goto C (tgt := 220) (by decide) (gdec kL_areAlike_2 30 rfl) ?_
                exact ih _ _ _ _ _ k hK H locs h ls (lv_sub hl [2, 3, 4, 1, 5, 0] rfl) hf
      · replace hf := ifn c87 hf
        exact hK _ _ _ _ _ hf H locs h ls (lv_sub hl [0, 1, 2, 3, 4, 5] rfl)
  have L203 : ∀ (n : Nat) (G F : GS) (x3 : Int) (x4 : Int) (k : (GS → GS → Int → Int → Option (GS × (GS × Int)))) (hK : ∀ (G F : GS) (x3 : Int) (x4 : Int), k G F x3 x4 = some (Gz, (Fz, rz)) → ∀ (H : Heap) (locs : List Loc), gH (eo E0 B F) s G H locs → ∀ ls, lv_has ls 6 [(0, rO B), (1, rP B), (2, vI p3), (3, vI x3), (4, vI x4)] → W p l e (gRm 7 157 0 0) s m ([rO B, rP B, vI p3] : List Value).toArray below meth c H locs 0 0 (MQ below (gQi (eo E0 B Fz) Gz rz) ([rO B, rP B, vI p3] : List Value).toArray s 0 0 (eF (eo E0 B F))) (F0 m 331 ls [])), ∀ (H : Heap) (locs : List Loc), gH (eo E0 B F) s G H locs → ∀ ls, lv_has ls 6 [(0, rO B), (1, rP B), (2, vI p3), (3, vI x3), (4, vI x4)] → f_L_areAlike_L203 p3 n G F x3 x4 k = some (Gz, (Fz, rz)) → W p l e (gRm 7 157 0 0) s m ([rO B, rP B, vI p3] : List Value).toArray below meth c H locs 0 0 (MQ below (gQi (eo E0 B Fz) Gz rz) ([rO B, rP B, vI p3] : List Value).toArray s 0 0 (eF (eo E0 B F))) (F0 m 203 ls []) := by
    intro n
    induction n with
    | zero =>
      intro G F x3 x4 k hK H locs h ls hl hf
      exact absurd hf (by simp [f_L_areAlike_L203])
    | succ n ih =>
      intro G F x3 x4 k hK H locs h ls hl hf
      unfold f_L_areAlike_L203 at hf
      refine g_iload C hl 4 rfl (gdec kL_areAlike_1 42 rfl) ?_
      refine g_aload_n C hl 0 rfl rfl (gdec kL_areAlike_1 43 rfl) ?_
      refine g_iconst C (gdec kL_areAlike_1 44 rfl) ?_
      obtain ⟨r79, q80, hf⟩ := bxr_s hf
      refine g_ci h (g_runV (CO F) h ok_o (by decide) rfl (c_X7_value l (eo E0 B F) G 2 ok_o _ q80) wM_L_24 wI_X7_value wS_X7_value wN_X7 wC_X7_value rfl ny_X7_value rfl ⟨Nat.le_of_ble_eq_true rfl, Nat.le_of_ble_eq_true rfl⟩ hl.1 rfl (Nat.le_of_ble_eq_true rfl) (gdec kL_areAlike_1 45 rfl) ⟨Nat.zero_le _, Nat.zero_le _⟩) (fun H locs h => ?_)
      obtain ⟨h81, hf⟩ := gd_s hf
      obtain ⟨h82, hf⟩ := gd_s hf
      refine g_icmp_ge C (tgt := 331) h81 h82 (by decide) (gdec kL_areAlike_1 46 rfl) (fun c83 => ?_) (fun c83 => ?_)
      · replace hf := ifp c83 hf
        refine g_iload_n C hl 3 rfl rfl (gdec kL_areAlike_1 47 rfl) ?_
        obtain ⟨h84, hf⟩ := gd_s hf
        refine g_if_eq C (tgt := 331) h84 (by decide) (gdec kL_areAlike_1 48 rfl) (fun c85 => ?_) (fun c85 => ?_)
        · replace hf := ifp c85 hf
          exact hK _ _ _ _ hf H locs h ls (lv_sub hl [0, 1, 2, 3, 4] rfl)
        · replace hf := ifn c85 hf
          refine g_iconst C (gdec kL_areAlike_1 49 rfl) ?_
          refine g_istore C [(5, vI 0), (0, rO B), (1, rP B), (2, vI p3), (3, vI x3), (4, vI x4)] hl (by decide) rfl (gdec kL_areAlike_1 50 rfl) (fun ls hl => ?_)
          refine L220 gFuel _ _ _ _ _ _ (fun G114 F115 y3_113 y4_113 y5_113 hf H locs h ls hl => ?_) H locs h ls (lv_sub hl [1, 2, 3, 4, 5, 0] rfl) hf
          refine g_iload_n C hl 3 rfl rfl (gdec kL_areAlike_2 31 rfl) ?_
          obtain ⟨h116, hf⟩ := gd_s hf
          refine g_if_eq C (tgt := 323) h116 (by decide) (gdec kL_areAlike_2 32 rfl) (fun c117 => ?_) (fun c117 => ?_)
          · replace hf := ifp c117 hf
            refine g_iconst C (gdec kL_areAlike_2 42 rfl) ?_
            refine g_istore_n C [(3, vI 0), (0, rO B), (1, rP B), (2, vI p3), (4, vI y4_113), (5, vI y5_113)] hl rfl (by decide) rfl (gdec kL_areAlike_2 43 rfl) (fun ls hl => ?_)
            refine g_iinc C (k := 4) [(4, vI (y4_113 + 1)), (3, vI 0), (0, rO B), (1, rP B), (2, vI p3), (5, vI y5_113)] hl rfl (by decide) rfl (gdec kL_areAlike_2 44 rfl) (fun ls hl => ?_)
            refine g_goto C (tgt := 203) (by decide) (gdec kL_areAlike_2 45 rfl) ?_
            exact ih _ _ _ _ k hK H locs h ls (lv_sub hl [2, 3, 4, 1, 0] rfl) hf
          · replace hf := ifn c117 hf
            refine g_aload_n C hl 0 rfl rfl (gdec kL_areAlike_2 33 rfl) ?_
            refine g_iload C hl 4 rfl (gdec kL_areAlike_2 34 rfl) ?_
            obtain ⟨r118, q119, hf⟩ := bxr_s hf
            refine g_ci h (g_runV (CO F115) h ok_o (by decide) rfl (c_X7_why l (eo E0 B F115) G114 y4_113 ok_o _ q119) wM_L_58 wI_X7_why wS_X7_why wN_X7 wC_X7_why rfl ny_X7_why rfl ⟨Nat.le_of_ble_eq_true rfl, Nat.le_of_ble_eq_true rfl⟩ hl.1 rfl (Nat.le_of_ble_eq_true rfl) (gdec kL_areAlike_2 35 rfl) ⟨Nat.zero_le _, Nat.zero_le _⟩) (fun H locs h => ?_)
            refine g_aload_n C hl 1 rfl rfl (gdec kL_areAlike_2 36 rfl) ?_
            refine g_iload C hl 4 rfl (gdec kL_areAlike_2 37 rfl) ?_
            obtain ⟨r120, q121, hf⟩ := bxr_s hf
            refine g_ci (g_sw h) (g_runV (CP G114) (g_sw h) ok_p (by decide) rfl (c_X7_why l (ep E0 B G114) F115 y4_113 ok_p _ q121) wM_L_58 wI_X7_why wS_X7_why wN_X7 wC_X7_why rfl ny_X7_why rfl ⟨Nat.le_of_ble_eq_true rfl, Nat.le_of_ble_eq_true rfl⟩ hl.1 rfl (Nat.le_of_ble_eq_true rfl) (gdec kL_areAlike_2 38 rfl) ⟨Nat.zero_le _, Nat.zero_le _⟩) (fun H locs h => ?_)
            replace h := g_ws h
            obtain ⟨h122, hf⟩ := gd_s hf
            obtain ⟨h123, hf⟩ := gd_s hf
            refine g_icmp_ne C (tgt := 323) h122 h123 (by decide) (gdec kL_areAlike_2 39 rfl) (fun c124 => ?_) (fun c124 => ?_)
            · replace hf := ifp c124 hf
              refine g_iconst C (gdec kL_areAlike_2 40 rfl) ?_
              refine g_goto C (tgt := 324) (by decide) (gdec kL_areAlike_2 41 rfl) ?_
              refine g_istore_n C [(3, vI 1), (0, rO B), (1, rP B), (2, vI p3), (4, vI y4_113), (5, vI y5_113)] hl rfl (by decide) rfl (gdec kL_areAlike_2 43 rfl) (fun ls hl => ?_)
              refine g_iinc C (k := 4) [(4, vI (y4_113 + 1)), (3, vI 1), (0, rO B), (1, rP B), (2, vI p3), (5, vI y5_113)] hl rfl (by decide) rfl (gdec kL_areAlike_2 44 rfl) (fun ls hl => ?_)
              refine g_goto C (tgt := 203) (by decide) (gdec kL_areAlike_2 45 rfl) ?_
              exact ih _ _ _ _ k hK H locs h ls (lv_sub hl [2, 3, 4, 1, 0] rfl) hf
            · replace hf := ifn c124 hf
              refine g_iconst C (gdec kL_areAlike_2 42 rfl) ?_
              refine g_istore_n C [(3, vI 0), (0, rO B), (1, rP B), (2, vI p3), (4, vI y4_113), (5, vI y5_113)] hl rfl (by decide) rfl (gdec kL_areAlike_2 43 rfl) (fun ls hl => ?_)
              refine g_iinc C (k := 4) [(4, vI (y4_113 + 1)), (3, vI 0), (0, rO B), (1, rP B), (2, vI p3), (5, vI y5_113)] hl rfl (by decide) rfl (gdec kL_areAlike_2 44 rfl) (fun ls hl => ?_)
              refine g_goto C (tgt := 203) (by decide) (gdec kL_areAlike_2 45 rfl) ?_
              exact ih _ _ _ _ k hK H locs h ls (lv_sub hl [2, 3, 4, 1, 0] rfl) hf
      · replace hf := ifn c83 hf
        exact hK _ _ _ _ hf H locs h ls (lv_sub hl [0, 1, 2, 3, 4] rfl)
  have L347 : ∀ (n : Nat) (G F : GS) (x3 : Int) (x4 : Int) (x5 : Int) (k : (GS → GS → Int → Int → Int → Option (GS × (GS × Int)))) (hK : ∀ (G F : GS) (x3 : Int) (x4 : Int) (x5 : Int), k G F x3 x4 x5 = some (Gz, (Fz, rz)) → ∀ (H : Heap) (locs : List Loc), gH (eo E0 B F) s G H locs → ∀ ls, lv_has ls 6 [(0, rO B), (1, rP B), (2, vI p3), (3, vI x3), (4, vI x4), (5, vI x5)] → W p l e (gRm 7 157 0 0) s m ([rO B, rP B, vI p3] : List Value).toArray below meth c H locs 0 0 (MQ below (gQi (eo E0 B Fz) Gz rz) ([rO B, rP B, vI p3] : List Value).toArray s 0 0 (eF (eo E0 B F))) (F0 m 393 ls [])), ∀ (H : Heap) (locs : List Loc), gH (eo E0 B F) s G H locs → ∀ ls, lv_has ls 6 [(0, rO B), (1, rP B), (2, vI p3), (3, vI x3), (4, vI x4), (5, vI x5)] → f_L_areAlike_L347 p3 n G F x3 x4 x5 k = some (Gz, (Fz, rz)) → W p l e (gRm 7 157 0 0) s m ([rO B, rP B, vI p3] : List Value).toArray below meth c H locs 0 0 (MQ below (gQi (eo E0 B Fz) Gz rz) ([rO B, rP B, vI p3] : List Value).toArray s 0 0 (eF (eo E0 B F))) (F0 m 347 ls []) := by
    intro n
    induction n with
    | zero =>
      intro G F x3 x4 x5 k hK H locs h ls hl hf
      exact absurd hf (by simp [f_L_areAlike_L347])
    | succ n ih =>
      intro G F x3 x4 x5 k hK H locs h ls hl hf
      unfold f_L_areAlike_L347 at hf
      refine g_iload C hl 5 rfl (gdec kL_areAlike_2 55 rfl) ?_
      refine g_bipush C (gdec kL_areAlike_2 56 rfl) rfl ?_
      obtain ⟨h133, hf⟩ := gd_s hf
      refine g_icmp_ge C (tgt := 393) h133 (by decide) (by decide) (gdec kL_areAlike_2 57 rfl) (fun c134 => ?_) (fun c134 => ?_)
      · replace hf := ifp c134 hf
        refine g_iload_n C hl 3 rfl rfl (gdec kL_areAlike_2 58 rfl) ?_
        obtain ⟨h135, hf⟩ := gd_s hf
        refine g_if_eq C (tgt := 385) h135 (by decide) (gdec kL_areAlike_2 59 rfl) (fun c136 => ?_) (fun c136 => ?_)
        · replace hf := ifp c136 hf
          refine g_iconst C (gdec kL_areAlike_3 15 rfl) ?_
          refine g_istore_n C [(3, vI 0), (0, rO B), (1, rP B), (2, vI p3), (4, vI x4), (5, vI x5)] hl rfl (by decide) rfl (gdec kL_areAlike_3 16 rfl) (fun ls hl => ?_)
          refine g_iinc C (k := 5) [(5, vI (x5 + 1)), (3, vI 0), (0, rO B), (1, rP B), (2, vI p3), (4, vI x4)] hl rfl (by decide) rfl (gdec kL_areAlike_3 17 rfl) (fun ls hl => ?_)
          refine g_goto C (tgt := 347) (by decide) (gdec kL_areAlike_3 18 rfl) ?_
          exact ih _ _ _ _ _ k hK H locs h ls (lv_sub hl [2, 3, 4, 1, 5, 0] rfl) hf
        · replace hf := ifn c136 hf
          refine g_aload_n C hl 0 rfl rfl (gdec kL_areAlike_3 0 rfl) ?_
          refine g_iload C hl 4 rfl (gdec kL_areAlike_3 1 rfl) ?_
          refine g_iload C hl 5 rfl (gdec kL_areAlike_3 2 rfl) ?_
          obtain ⟨r137, q138, hf⟩ := bxr_s hf
          refine g_ci h (g_runV (CO F) h ok_o (by decide) rfl (c_X7_inn l (eo E0 B F) G x4 x5 ok_o _ q138) wM_L_61 wI_X7_inn wS_X7_inn wN_X7 wC_X7_inn rfl ny_X7_inn rfl ⟨Nat.le_of_ble_eq_true rfl, Nat.le_of_ble_eq_true rfl⟩ hl.1 rfl (Nat.le_of_ble_eq_true rfl) (gdec kL_areAlike_3 3 rfl) ⟨Nat.zero_le _, Nat.zero_le _⟩) (fun H locs h => ?_)
          refine g_aload_n C hl 1 rfl rfl (gdec kL_areAlike_3 4 rfl) ?_
          refine g_iload_n C hl 2 rfl rfl (gdec kL_areAlike_3 5 rfl) ?_
          refine g_iconst C (gdec kL_areAlike_3 6 rfl) ?_
          refine g_isub C (gdec kL_areAlike_3 7 rfl) ?_
          refine g_iload C hl 4 rfl (gdec kL_areAlike_3 8 rfl) ?_
          refine g_isub C (gdec kL_areAlike_3 9 rfl) ?_
          refine g_iload C hl 5 rfl (gdec kL_areAlike_3 10 rfl) ?_
          obtain ⟨r139, q140, hf⟩ := bxr_s hf
          refine g_ci (g_sw h) (g_runV (CP G) (g_sw h) ok_p (by decide) rfl (c_X7_inn l (ep E0 B G) F ((p3 - 1) - x4) x5 ok_p _ q140) wM_L_61 wI_X7_inn wS_X7_inn wN_X7 wC_X7_inn rfl ny_X7_inn rfl ⟨Nat.le_of_ble_eq_true rfl, Nat.le_of_ble_eq_true rfl⟩ hl.1 rfl (Nat.le_of_ble_eq_true rfl) (gdec kL_areAlike_3 11 rfl) ⟨Nat.zero_le _, Nat.zero_le _⟩) (fun H locs h => ?_)
          replace h := g_ws h
          obtain ⟨h141, hf⟩ := gd_s hf
          obtain ⟨h142, hf⟩ := gd_s hf
          refine g_icmp_ne C (tgt := 385) h141 h142 (by decide) (gdec kL_areAlike_3 12 rfl) (fun c143 => ?_) (fun c143 => ?_)
          · replace hf := ifp c143 hf
            refine g_iconst C (gdec kL_areAlike_3 13 rfl) ?_
            refine g_goto C (tgt := 386) (by decide) (gdec kL_areAlike_3 14 rfl) ?_
            refine g_istore_n C [(3, vI 1), (0, rO B), (1, rP B), (2, vI p3), (4, vI x4), (5, vI x5)] hl rfl (by decide) rfl (gdec kL_areAlike_3 16 rfl) (fun ls hl => ?_)
            refine g_iinc C (k := 5) [(5, vI (x5 + 1)), (3, vI 1), (0, rO B), (1, rP B), (2, vI p3), (4, vI x4)] hl rfl (by decide) rfl (gdec kL_areAlike_3 17 rfl) (fun ls hl => ?_)
            refine g_goto C (tgt := 347) (by decide) (gdec kL_areAlike_3 18 rfl) ?_
            exact ih _ _ _ _ _ k hK H locs h ls (lv_sub hl [2, 3, 4, 1, 5, 0] rfl) hf
          · replace hf := ifn c143 hf
            refine g_iconst C (gdec kL_areAlike_3 15 rfl) ?_
            refine g_istore_n C [(3, vI 0), (0, rO B), (1, rP B), (2, vI p3), (4, vI x4), (5, vI x5)] hl rfl (by decide) rfl (gdec kL_areAlike_3 16 rfl) (fun ls hl => ?_)
            refine g_iinc C (k := 5) [(5, vI (x5 + 1)), (3, vI 0), (0, rO B), (1, rP B), (2, vI p3), (4, vI x4)] hl rfl (by decide) rfl (gdec kL_areAlike_3 17 rfl) (fun ls hl => ?_)
            refine g_goto C (tgt := 347) (by decide) (gdec kL_areAlike_3 18 rfl) ?_
            exact ih _ _ _ _ _ k hK H locs h ls (lv_sub hl [2, 3, 4, 1, 5, 0] rfl) hf
      · replace hf := ifn c134 hf
        exact hK _ _ _ _ _ hf H locs h ls (lv_sub hl [0, 1, 2, 3, 4, 5] rfl)
  have L334 : ∀ (n : Nat) (G F : GS) (x3 : Int) (x4 : Int) (k : (GS → GS → Int → Int → Option (GS × (GS × Int)))) (hK : ∀ (G F : GS) (x3 : Int) (x4 : Int), k G F x3 x4 = some (Gz, (Fz, rz)) → ∀ (H : Heap) (locs : List Loc), gH (eo E0 B F) s G H locs → ∀ ls, lv_has ls 6 [(0, rO B), (1, rP B), (2, vI p3), (3, vI x3), (4, vI x4)] → W p l e (gRm 7 157 0 0) s m ([rO B, rP B, vI p3] : List Value).toArray below meth c H locs 0 0 (MQ below (gQi (eo E0 B Fz) Gz rz) ([rO B, rP B, vI p3] : List Value).toArray s 0 0 (eF (eo E0 B F))) (F0 m 399 ls [])), ∀ (H : Heap) (locs : List Loc), gH (eo E0 B F) s G H locs → ∀ ls, lv_has ls 6 [(0, rO B), (1, rP B), (2, vI p3), (3, vI x3), (4, vI x4)] → f_L_areAlike_L334 p3 n G F x3 x4 k = some (Gz, (Fz, rz)) → W p l e (gRm 7 157 0 0) s m ([rO B, rP B, vI p3] : List Value).toArray below meth c H locs 0 0 (MQ below (gQi (eo E0 B Fz) Gz rz) ([rO B, rP B, vI p3] : List Value).toArray s 0 0 (eF (eo E0 B F))) (F0 m 334 ls []) := by
    intro n
    induction n with
    | zero =>
      intro G F x3 x4 k hK H locs h ls hl hf
      exact absurd hf (by simp [f_L_areAlike_L334])
    | succ n ih =>
      intro G F x3 x4 k hK H locs h ls hl hf
      unfold f_L_areAlike_L334 at hf
      refine g_iload C hl 4 rfl (gdec kL_areAlike_2 48 rfl) ?_
      refine g_iload_n C hl 2 rfl rfl (gdec kL_areAlike_2 49 rfl) ?_
      obtain ⟨h128, hf⟩ := gd_s hf
      obtain ⟨h129, hf⟩ := gd_s hf
      refine g_icmp_ge C (tgt := 399) h128 h129 (by decide) (gdec kL_areAlike_2 50 rfl) (fun c130 => ?_) (fun c130 => ?_)
      · replace hf := ifp c130 hf
        refine g_iload_n C hl 3 rfl rfl (gdec kL_areAlike_2 51 rfl) ?_
        obtain ⟨h131, hf⟩ := gd_s hf
        refine g_if_eq C (tgt := 399) h131 (by decide) (gdec kL_areAlike_2 52 rfl) (fun c132 => ?_) (fun c132 => ?_)
        · replace hf := ifp c132 hf
          exact hK _ _ _ _ hf H locs h ls (lv_sub hl [0, 1, 2, 3, 4] rfl)
        · replace hf := ifn c132 hf
          refine g_iconst C (gdec kL_areAlike_2 53 rfl) ?_
          refine g_istore C [(5, vI 0), (0, rO B), (1, rP B), (2, vI p3), (3, vI x3), (4, vI x4)] hl (by decide) rfl (gdec kL_areAlike_2 54 rfl) (fun ls hl => ?_)
          refine L347 gFuel _ _ _ _ _ _ (fun G145 F146 y3_144 y4_144 y5_144 hf H locs h ls hl => ?_) H locs h ls (lv_sub hl [1, 2, 3, 4, 5, 0] rfl) hf
          refine g_iinc C (k := 4) [(4, vI (y4_144 + 1)), (0, rO B), (1, rP B), (2, vI p3), (3, vI y3_144), (5, vI y5_144)] hl rfl (by decide) rfl (gdec kL_areAlike_3 19 rfl) (fun ls hl => ?_)
          refine g_goto C (tgt := 334) (by decide) (gdec kL_areAlike_3 20 rfl) ?_
          exact ih _ _ _ _ k hK H locs h ls (lv_sub hl [1, 2, 3, 4, 0] rfl) hf
      · replace hf := ifn c130 hf
        exact hK _ _ _ _ hf H locs h ls (lv_sub hl [0, 1, 2, 3, 4] rfl)
  have L402 : ∀ (n : Nat) (G F : GS) (x3 : Int) (x4 : Int) (k : (GS → GS → Int → Int → Option (GS × (GS × Int)))) (hK : ∀ (G F : GS) (x3 : Int) (x4 : Int), k G F x3 x4 = some (Gz, (Fz, rz)) → ∀ (H : Heap) (locs : List Loc), gH (eo E0 B F) s G H locs → ∀ ls, lv_has ls 6 [(0, rO B), (1, rP B), (2, vI p3), (3, vI x3), (4, vI x4)] → W p l e (gRm 7 157 0 0) s m ([rO B, rP B, vI p3] : List Value).toArray below meth c H locs 0 0 (MQ below (gQi (eo E0 B Fz) Gz rz) ([rO B, rP B, vI p3] : List Value).toArray s 0 0 (eF (eo E0 B F))) (F0 m 532 ls [])), ∀ (H : Heap) (locs : List Loc), gH (eo E0 B F) s G H locs → ∀ ls, lv_has ls 6 [(0, rO B), (1, rP B), (2, vI p3), (3, vI x3), (4, vI x4)] → f_L_areAlike_L402 p3 n G F x3 x4 k = some (Gz, (Fz, rz)) → W p l e (gRm 7 157 0 0) s m ([rO B, rP B, vI p3] : List Value).toArray below meth c H locs 0 0 (MQ below (gQi (eo E0 B Fz) Gz rz) ([rO B, rP B, vI p3] : List Value).toArray s 0 0 (eF (eo E0 B F))) (F0 m 402 ls []) := by
    intro n
    induction n with
    | zero =>
      intro G F x3 x4 k hK H locs h ls hl hf
      exact absurd hf (by simp [f_L_areAlike_L402])
    | succ n ih =>
      intro G F x3 x4 k hK H locs h ls hl hf
      unfold f_L_areAlike_L402 at hf
      refine g_iload C hl 4 rfl (gdec kL_areAlike_3 23 rfl) ?_
      refine g_iload_n C hl 2 rfl rfl (gdec kL_areAlike_3 24 rfl) ?_
      refine g_iconst C (gdec kL_areAlike_3 25 rfl) ?_
      refine g_isub C (gdec kL_areAlike_3 26 rfl) ?_
      obtain ⟨h150, hf⟩ := gd_s hf
      obtain ⟨h151, hf⟩ := gd_s hf
      refine g_icmp_ge C (tgt := 532) h150 h151 (by decide) (gdec kL_areAlike_3 27 rfl) (fun c152 => ?_) (fun c152 => ?_)
      · replace hf := ifp c152 hf
        refine g_iload_n C hl 3 rfl rfl (gdec kL_areAlike_3 28 rfl) ?_
        obtain ⟨h153, hf⟩ := gd_s hf
        refine g_if_eq C (tgt := 532) h153 (by decide) (gdec kL_areAlike_3 29 rfl) (fun c154 => ?_) (fun c154 => ?_)
        · replace hf := ifp c154 hf
          exact hK _ _ _ _ hf H locs h ls (lv_sub hl [0, 1, 2, 3, 4] rfl)
        · replace hf := ifn c154 hf
          refine g_aload_n C hl 0 rfl rfl (gdec kL_areAlike_3 30 rfl) ?_
          refine g_iload C hl 4 rfl (gdec kL_areAlike_3 31 rfl) ?_
          refine g_iconst C (gdec kL_areAlike_3 32 rfl) ?_
          obtain ⟨r155, q156, hf⟩ := bxr_s hf
          refine g_ci h (g_runV (CO F) h ok_o (by decide) rfl (c_X7_stage l (eo E0 B F) G x4 0 ok_o _ q156) wM_L_64 wI_X7_stage wS_X7_stage wN_X7 wC_X7_stage rfl ny_X7_stage rfl ⟨Nat.le_of_ble_eq_true rfl, Nat.le_of_ble_eq_true rfl⟩ hl.1 rfl (Nat.le_of_ble_eq_true rfl) (gdec kL_areAlike_3 33 rfl) ⟨Nat.zero_le _, Nat.zero_le _⟩) (fun H locs h => ?_)
          refine g_aload_n C hl 1 rfl rfl (gdec kL_areAlike_3 34 rfl) ?_
          refine g_iload_n C hl 2 rfl rfl (gdec kL_areAlike_3 35 rfl) ?_
          refine g_iconst C (gdec kL_areAlike_3 36 rfl) ?_
          refine g_isub C (gdec kL_areAlike_3 37 rfl) ?_
          refine g_iload C hl 4 rfl (gdec kL_areAlike_3 38 rfl) ?_
          refine g_isub C (gdec kL_areAlike_3 39 rfl) ?_
          refine g_iconst C (gdec kL_areAlike_3 40 rfl) ?_
          obtain ⟨r157, q158, hf⟩ := bxr_s hf
          refine g_ci (g_sw h) (g_runV (CP G) (g_sw h) ok_p (by decide) rfl (c_X7_stage l (ep E0 B G) F ((p3 - 2) - x4) 0 ok_p _ q158) wM_L_64 wI_X7_stage wS_X7_stage wN_X7 wC_X7_stage rfl ny_X7_stage rfl ⟨Nat.le_of_ble_eq_true rfl, Nat.le_of_ble_eq_true rfl⟩ hl.1 rfl (Nat.le_of_ble_eq_true rfl) (gdec kL_areAlike_3 41 rfl) ⟨Nat.zero_le _, Nat.zero_le _⟩) (fun H locs h => ?_)
          replace h := g_ws h
          obtain ⟨h159, hf⟩ := gd_s hf
          obtain ⟨h160, hf⟩ := gd_s hf
          refine g_icmp_ne C (tgt := 524) h159 h160 (by decide) (gdec kL_areAlike_3 42 rfl) (fun c161 => ?_) (fun c161 => ?_)
          · replace hf := ifp c161 hf
            refine g_aload_n C hl 0 rfl rfl (gdec kL_areAlike_3 43 rfl) ?_
            refine g_iload C hl 4 rfl (gdec kL_areAlike_3 44 rfl) ?_
            refine g_iconst C (gdec kL_areAlike_3 45 rfl) ?_
            obtain ⟨r162, q163, hf⟩ := bxr_s hf
            refine g_ci h (g_runV (CO F) h ok_o (by decide) rfl (c_X7_stage l (eo E0 B F) G x4 1 ok_o _ q163) wM_L_64 wI_X7_stage wS_X7_stage wN_X7 wC_X7_stage rfl ny_X7_stage rfl ⟨Nat.le_of_ble_eq_true rfl, Nat.le_of_ble_eq_true rfl⟩ hl.1 rfl (Nat.le_of_ble_eq_true rfl) (gdec kL_areAlike_3 46 rfl) ⟨Nat.zero_le _, Nat.zero_le _⟩) (fun H locs h => ?_)
            refine g_aload_n C hl 1 rfl rfl (gdec kL_areAlike_3 47 rfl) ?_
            refine g_iload_n C hl 2 rfl rfl (gdec kL_areAlike_3 48 rfl) ?_
            refine g_iconst C (gdec kL_areAlike_3 49 rfl) ?_
            refine g_isub C (gdec kL_areAlike_3 50 rfl) ?_
            refine g_iload C hl 4 rfl (gdec kL_areAlike_3 51 rfl) ?_
            refine g_isub C (gdec kL_areAlike_3 52 rfl) ?_
            refine g_iconst C (gdec kL_areAlike_3 53 rfl) ?_
            obtain ⟨r164, q165, hf⟩ := bxr_s hf
            refine g_ci (g_sw h) (g_runV (CP G) (g_sw h) ok_p (by decide) rfl (c_X7_stage l (ep E0 B G) F ((p3 - 2) - x4) 1 ok_p _ q165) wM_L_64 wI_X7_stage wS_X7_stage wN_X7 wC_X7_stage rfl ny_X7_stage rfl ⟨Nat.le_of_ble_eq_true rfl, Nat.le_of_ble_eq_true rfl⟩ hl.1 rfl (Nat.le_of_ble_eq_true rfl) (gdec kL_areAlike_3 54 rfl) ⟨Nat.zero_le _, Nat.zero_le _⟩) (fun H locs h => ?_)
            replace h := g_ws h
            refine g_ineg C (gdec kL_areAlike_3 55 rfl) ?_
            obtain ⟨h166, hf⟩ := gd_s hf
            obtain ⟨h167, hf⟩ := gd_s hf
            refine g_icmp_ne C (tgt := 524) h166 h167 (by decide) (gdec kL_areAlike_3 56 rfl) (fun c168 => ?_) (fun c168 => ?_)
            · replace hf := ifp c168 hf
              refine g_aload_n C hl 0 rfl rfl (gdec kL_areAlike_3 57 rfl) ?_
              refine g_iload C hl 4 rfl (gdec kL_areAlike_3 58 rfl) ?_
              refine g_iconst C (gdec kL_areAlike_3 59 rfl) ?_
              obtain ⟨r169, q170, hf⟩ := bxr_s hf
              refine g_ci h (g_runV (CO F) h ok_o (by decide) rfl (c_X7_stage l (eo E0 B F) G x4 3 ok_o _ q170) wM_L_64 wI_X7_stage wS_X7_stage wN_X7 wC_X7_stage rfl ny_X7_stage rfl ⟨Nat.le_of_ble_eq_true rfl, Nat.le_of_ble_eq_true rfl⟩ hl.1 rfl (Nat.le_of_ble_eq_true rfl) (gdec kL_areAlike_4 0 rfl) ⟨Nat.zero_le _, Nat.zero_le _⟩) (fun H locs h => ?_)
              refine g_aload_n C hl 1 rfl rfl (gdec kL_areAlike_4 1 rfl) ?_
              refine g_iload_n C hl 2 rfl rfl (gdec kL_areAlike_4 2 rfl) ?_
              refine g_iconst C (gdec kL_areAlike_4 3 rfl) ?_
              refine g_isub C (gdec kL_areAlike_4 4 rfl) ?_
              refine g_iload C hl 4 rfl (gdec kL_areAlike_4 5 rfl) ?_
              refine g_isub C (gdec kL_areAlike_4 6 rfl) ?_
              refine g_iconst C (gdec kL_areAlike_4 7 rfl) ?_
              obtain ⟨r171, q172, hf⟩ := bxr_s hf
              refine g_ci (g_sw h) (g_runV (CP G) (g_sw h) ok_p (by decide) rfl (c_X7_stage l (ep E0 B G) F ((p3 - 2) - x4) 4 ok_p _ q172) wM_L_64 wI_X7_stage wS_X7_stage wN_X7 wC_X7_stage rfl ny_X7_stage rfl ⟨Nat.le_of_ble_eq_true rfl, Nat.le_of_ble_eq_true rfl⟩ hl.1 rfl (Nat.le_of_ble_eq_true rfl) (gdec kL_areAlike_4 8 rfl) ⟨Nat.zero_le _, Nat.zero_le _⟩) (fun H locs h => ?_)
              replace h := g_ws h
              obtain ⟨h173, hf⟩ := gd_s hf
              obtain ⟨h174, hf⟩ := gd_s hf
              refine g_icmp_ne C (tgt := 524) h173 h174 (by decide) (gdec kL_areAlike_4 9 rfl) (fun c175 => ?_) (fun c175 => ?_)
              · replace hf := ifp c175 hf
                refine g_aload_n C hl 0 rfl rfl (gdec kL_areAlike_4 10 rfl) ?_
                refine g_iload C hl 4 rfl (gdec kL_areAlike_4 11 rfl) ?_
                refine g_iconst C (gdec kL_areAlike_4 12 rfl) ?_
                obtain ⟨r176, q177, hf⟩ := bxr_s hf
                refine g_ci h (g_runV (CO F) h ok_o (by decide) rfl (c_X7_stage l (eo E0 B F) G x4 4 ok_o _ q177) wM_L_64 wI_X7_stage wS_X7_stage wN_X7 wC_X7_stage rfl ny_X7_stage rfl ⟨Nat.le_of_ble_eq_true rfl, Nat.le_of_ble_eq_true rfl⟩ hl.1 rfl (Nat.le_of_ble_eq_true rfl) (gdec kL_areAlike_4 13 rfl) ⟨Nat.zero_le _, Nat.zero_le _⟩) (fun H locs h => ?_)
                refine g_aload_n C hl 1 rfl rfl (gdec kL_areAlike_4 14 rfl) ?_
                refine g_iload_n C hl 2 rfl rfl (gdec kL_areAlike_4 15 rfl) ?_
                refine g_iconst C (gdec kL_areAlike_4 16 rfl) ?_
                refine g_isub C (gdec kL_areAlike_4 17 rfl) ?_
                refine g_iload C hl 4 rfl (gdec kL_areAlike_4 18 rfl) ?_
                refine g_isub C (gdec kL_areAlike_4 19 rfl) ?_
                refine g_iconst C (gdec kL_areAlike_4 20 rfl) ?_
                obtain ⟨r178, q179, hf⟩ := bxr_s hf
                refine g_ci (g_sw h) (g_runV (CP G) (g_sw h) ok_p (by decide) rfl (c_X7_stage l (ep E0 B G) F ((p3 - 2) - x4) 3 ok_p _ q179) wM_L_64 wI_X7_stage wS_X7_stage wN_X7 wC_X7_stage rfl ny_X7_stage rfl ⟨Nat.le_of_ble_eq_true rfl, Nat.le_of_ble_eq_true rfl⟩ hl.1 rfl (Nat.le_of_ble_eq_true rfl) (gdec kL_areAlike_4 21 rfl) ⟨Nat.zero_le _, Nat.zero_le _⟩) (fun H locs h => ?_)
                replace h := g_ws h
                obtain ⟨h180, hf⟩ := gd_s hf
                obtain ⟨h181, hf⟩ := gd_s hf
                refine g_icmp_ne C (tgt := 524) h180 h181 (by decide) (gdec kL_areAlike_4 22 rfl) (fun c182 => ?_) (fun c182 => ?_)
                · replace hf := ifp c182 hf
                  refine g_aload_n C hl 0 rfl rfl (gdec kL_areAlike_4 23 rfl) ?_
                  refine g_iload C hl 4 rfl (gdec kL_areAlike_4 24 rfl) ?_
                  refine g_iconst C (gdec kL_areAlike_4 25 rfl) ?_
                  obtain ⟨r183, q184, hf⟩ := bxr_s hf
                  refine g_ci h (g_runV (CO F) h ok_o (by decide) rfl (c_X7_stage l (eo E0 B F) G x4 5 ok_o _ q184) wM_L_64 wI_X7_stage wS_X7_stage wN_X7 wC_X7_stage rfl ny_X7_stage rfl ⟨Nat.le_of_ble_eq_true rfl, Nat.le_of_ble_eq_true rfl⟩ hl.1 rfl (Nat.le_of_ble_eq_true rfl) (gdec kL_areAlike_4 26 rfl) ⟨Nat.zero_le _, Nat.zero_le _⟩) (fun H locs h => ?_)
                  refine g_aload_n C hl 1 rfl rfl (gdec kL_areAlike_4 27 rfl) ?_
                  refine g_iload_n C hl 2 rfl rfl (gdec kL_areAlike_4 28 rfl) ?_
                  refine g_iconst C (gdec kL_areAlike_4 29 rfl) ?_
                  refine g_isub C (gdec kL_areAlike_4 30 rfl) ?_
                  refine g_iload C hl 4 rfl (gdec kL_areAlike_4 31 rfl) ?_
                  refine g_isub C (gdec kL_areAlike_4 32 rfl) ?_
                  refine g_iconst C (gdec kL_areAlike_4 33 rfl) ?_
                  obtain ⟨r185, q186, hf⟩ := bxr_s hf
                  refine g_ci (g_sw h) (g_runV (CP G) (g_sw h) ok_p (by decide) rfl (c_X7_stage l (ep E0 B G) F ((p3 - 2) - x4) 5 ok_p _ q186) wM_L_64 wI_X7_stage wS_X7_stage wN_X7 wC_X7_stage rfl ny_X7_stage rfl ⟨Nat.le_of_ble_eq_true rfl, Nat.le_of_ble_eq_true rfl⟩ hl.1 rfl (Nat.le_of_ble_eq_true rfl) (gdec kL_areAlike_4 34 rfl) ⟨Nat.zero_le _, Nat.zero_le _⟩) (fun H locs h => ?_)
                  replace h := g_ws h
                  obtain ⟨h187, hf⟩ := gd_s hf
                  obtain ⟨h188, hf⟩ := gd_s hf
                  refine g_icmp_ne C (tgt := 524) h187 h188 (by decide) (gdec kL_areAlike_4 35 rfl) (fun c189 => ?_) (fun c189 => ?_)
                  · replace hf := ifp c189 hf
                    refine g_iconst C (gdec kL_areAlike_4 36 rfl) ?_
                    refine g_goto C (tgt := 525) (by decide) (gdec kL_areAlike_4 37 rfl) ?_
                    refine g_istore_n C [(3, vI 1), (0, rO B), (1, rP B), (2, vI p3), (4, vI x4)] hl rfl (by decide) rfl (gdec kL_areAlike_4 39 rfl) (fun ls hl => ?_)
                    refine g_iinc C (k := 4) [(4, vI (x4 + 1)), (3, vI 1), (0, rO B), (1, rP B), (2, vI p3)] hl rfl (by decide) rfl (gdec kL_areAlike_4 40 rfl) (fun ls hl => ?_)
                    refine g_goto C (tgt := 402) (by decide) (gdec kL_areAlike_4 41 rfl) ?_
                    exact ih _ _ _ _ k hK H locs h ls (lv_sub hl [2, 3, 4, 1, 0] rfl) hf
                  · replace hf := ifn c189 hf
                    refine g_iconst C (gdec kL_areAlike_4 38 rfl) ?_
                    refine g_istore_n C [(3, vI 0), (0, rO B), (1, rP B), (2, vI p3), (4, vI x4)] hl rfl (by decide) rfl (gdec kL_areAlike_4 39 rfl) (fun ls hl => ?_)
                    refine g_iinc C (k := 4) [(4, vI (x4 + 1)), (3, vI 0), (0, rO B), (1, rP B), (2, vI p3)] hl rfl (by decide) rfl (gdec kL_areAlike_4 40 rfl) (fun ls hl => ?_)
                    refine g_goto C (tgt := 402) (by decide) (gdec kL_areAlike_4 41 rfl) ?_
                    exact ih _ _ _ _ k hK H locs h ls (lv_sub hl [2, 3, 4, 1, 0] rfl) hf
                · replace hf := ifn c182 hf
                  refine g_iconst C (gdec kL_areAlike_4 38 rfl) ?_
                  refine g_istore_n C [(3, vI 0), (0, rO B), (1, rP B), (2, vI p3), (4, vI x4)] hl rfl (by decide) rfl (gdec kL_areAlike_4 39 rfl) (fun ls hl => ?_)
                  refine g_iinc C (k := 4) [(4, vI (x4 + 1)), (3, vI 0), (0, rO B), (1, rP B), (2, vI p3)] hl rfl (by decide) rfl (gdec kL_areAlike_4 40 rfl) (fun ls hl => ?_)
                  refine g_goto C (tgt := 402) (by decide) (gdec kL_areAlike_4 41 rfl) ?_
                  exact ih _ _ _ _ k hK H locs h ls (lv_sub hl [2, 3, 4, 1, 0] rfl) hf
              · replace hf := ifn c175 hf
                refine g_iconst C (gdec kL_areAlike_4 38 rfl) ?_
                refine g_istore_n C [(3, vI 0), (0, rO B), (1, rP B), (2, vI p3), (4, vI x4)] hl rfl (by decide) rfl (gdec kL_areAlike_4 39 rfl) (fun ls hl => ?_)
                refine g_iinc C (k := 4) [(4, vI (x4 + 1)), (3, vI 0), (0, rO B), (1, rP B), (2, vI p3)] hl rfl (by decide) rfl (gdec kL_areAlike_4 40 rfl) (fun ls hl => ?_)
                refine g_goto C (tgt := 402) (by decide) (gdec kL_areAlike_4 41 rfl) ?_
                exact ih _ _ _ _ k hK H locs h ls (lv_sub hl [2, 3, 4, 1, 0] rfl) hf
            · replace hf := ifn c168 hf
              refine g_iconst C (gdec kL_areAlike_4 38 rfl) ?_
              refine g_istore_n C [(3, vI 0), (0, rO B), (1, rP B), (2, vI p3), (4, vI x4)] hl rfl (by decide) rfl (gdec kL_areAlike_4 39 rfl) (fun ls hl => ?_)
              refine g_iinc C (k := 4) [(4, vI (x4 + 1)), (3, vI 0), (0, rO B), (1, rP B), (2, vI p3)] hl rfl (by decide) rfl (gdec kL_areAlike_4 40 rfl) (fun ls hl => ?_)
              refine g_goto C (tgt := 402) (by decide) (gdec kL_areAlike_4 41 rfl) ?_
              exact ih _ _ _ _ k hK H locs h ls (lv_sub hl [2, 3, 4, 1, 0] rfl) hf
          · replace hf := ifn c161 hf
            refine g_iconst C (gdec kL_areAlike_4 38 rfl) ?_
            refine g_istore_n C [(3, vI 0), (0, rO B), (1, rP B), (2, vI p3), (4, vI x4)] hl rfl (by decide) rfl (gdec kL_areAlike_4 39 rfl) (fun ls hl => ?_)
            refine g_iinc C (k := 4) [(4, vI (x4 + 1)), (3, vI 0), (0, rO B), (1, rP B), (2, vI p3)] hl rfl (by decide) rfl (gdec kL_areAlike_4 40 rfl) (fun ls hl => ?_)
            refine g_goto C (tgt := 402) (by decide) (gdec kL_areAlike_4 41 rfl) ?_
            exact ih _ _ _ _ k hK H locs h ls (lv_sub hl [2, 3, 4, 1, 0] rfl) hf
      · replace hf := ifn c152 hf
        exact hK _ _ _ _ hf H locs h ls (lv_sub hl [0, 1, 2, 3, 4] rfl)
  unfold f_L_areAlike at hf
  refine g_aload_n C hl 0 rfl rfl (gdec kL_areAlike 0 rfl) ?_
  obtain ⟨r1, q2, hf⟩ := bn1_s hf
  refine g_cd h (g_runV (CO F) h ok_o (by decide) rfl (c_X7_meanTiredness l (eo E0 B F) G ok_o _ q2) wM_L_42 wI_X7_meanTiredness wS_X7_meanTiredness wN_X7 wC_X7_meanTiredness rfl ny_X7_meanTiredness rfl ⟨Nat.le_of_ble_eq_true rfl, Nat.le_of_ble_eq_true rfl⟩ hl.1 rfl (Nat.le_of_ble_eq_true rfl) (gdec kL_areAlike 1 rfl) ⟨Nat.zero_le _, Nat.zero_le _⟩) (fun H locs h => ?_)
  refine g_aload_n C hl 1 rfl rfl (gdec kL_areAlike 2 rfl) ?_
  obtain ⟨r3, q4, hf⟩ := bn1_s hf
  refine g_cd (g_sw h) (g_runV (CP G) (g_sw h) ok_p (by decide) rfl (c_X7_meanTiredness l (ep E0 B G) F ok_p _ q4) wM_L_42 wI_X7_meanTiredness wS_X7_meanTiredness wN_X7 wC_X7_meanTiredness rfl ny_X7_meanTiredness rfl ⟨Nat.le_of_ble_eq_true rfl, Nat.le_of_ble_eq_true rfl⟩ hl.1 rfl (Nat.le_of_ble_eq_true rfl) (gdec kL_areAlike 3 rfl) ⟨Nat.zero_le _, Nat.zero_le _⟩) (fun H locs h => ?_)
  replace h := g_ws h
  obtain ⟨h5, hf⟩ := gde_s hf
  refine lv_dcmp C.1 C.2.1 (gdec kL_areAlike 4 rfl) ?_
  rw [dcmp_op h5]
  refine g_if_ne C (tgt := 27) (by decide) (by decide) (gdec kL_areAlike 5 rfl) (fun c6 => ?_) (fun c6 => absurd (by decide) c6)
  refine g_aload_n C hl 0 rfl rfl (gdec kL_areAlike 6 rfl) ?_
  obtain ⟨G9, r7, q8, hf⟩ := bnd_s hf
  refine g_ci h (g_runV (CO F) h ok_o (by decide) rfl (c_X7_hoursToAll l (eo E0 B F) G ok_o _ _ q8) wM_L_46 wI_X7_hoursToAll wS_X7_hoursToAll wN_X7 wC_X7_hoursToAll rfl ny_X7_hoursToAll rfl ⟨Nat.le_of_ble_eq_true rfl, Nat.le_of_ble_eq_true rfl⟩ hl.1 rfl (Nat.le_of_ble_eq_true rfl) (gdec kL_areAlike 7 rfl) ⟨Nat.zero_le _, Nat.zero_le _⟩) (fun H locs h => ?_)
  refine g_aload_n C hl 1 rfl rfl (gdec kL_areAlike 8 rfl) ?_
  obtain ⟨F12, r10, q11, hf⟩ := bnd_s hf
  refine g_ci (g_sw h) (g_runV (CP G9) (g_sw h) ok_p (by decide) rfl (c_X7_hoursToAll l (ep E0 B G9) F ok_p _ _ q11) wM_L_46 wI_X7_hoursToAll wS_X7_hoursToAll wN_X7 wC_X7_hoursToAll rfl ny_X7_hoursToAll rfl ⟨Nat.le_of_ble_eq_true rfl, Nat.le_of_ble_eq_true rfl⟩ hl.1 rfl (Nat.le_of_ble_eq_true rfl) (gdec kL_areAlike 9 rfl) ⟨Nat.zero_le _, Nat.zero_le _⟩) (fun H locs h => ?_)
  replace h := g_ws h
  obtain ⟨h13, hf⟩ := gd_s hf
  obtain ⟨h14, hf⟩ := gd_s hf
  refine g_icmp_ne C (tgt := 27) h13 h14 (by decide) (gdec kL_areAlike 10 rfl) (fun c15 => ?_) (fun c15 => ?_)
  · replace hf := ifp c15 hf
    refine g_iconst C (gdec kL_areAlike 11 rfl) ?_
    refine g_goto C (tgt := 28) (by decide) (gdec kL_areAlike 12 rfl) ?_
    refine g_istore_n C [(3, vI 1), (0, rO B), (1, rP B), (2, vI p3)] hl rfl (by decide) rfl (gdec kL_areAlike 14 rfl) (fun ls hl => ?_)
    refine g_iconst C (gdec kL_areAlike 15 rfl) ?_
    refine g_istore C [(4, vI 0), (3, vI 1), (0, rO B), (1, rP B), (2, vI p3)] hl (by decide) rfl (gdec kL_areAlike 16 rfl) (fun ls hl => ?_)
    refine L32 gFuel _ _ _ _ _ (fun G28 F29 y3_27 y4_27 hf H locs h ls hl => ?_) H locs h ls (lv_sub hl [2, 3, 4, 1, 0] rfl) hf
    refine g_iconst C (gdec kL_areAlike 35 rfl) ?_
    refine g_istore C [(4, vI 0), (0, rO B), (1, rP B), (2, vI p3), (3, vI y3_27)] hl (by decide) rfl (gdec kL_areAlike 36 rfl) (fun ls hl => ?_)
    refine L73 gFuel _ _ _ _ _ (fun G77 F78 y3_76 y4_76 hf H locs h ls hl => ?_) H locs h ls (lv_sub hl [1, 2, 3, 4, 0] rfl) hf
    refine g_iconst C (gdec kL_areAlike_1 40 rfl) ?_
    refine g_istore C [(4, vI 0), (0, rO B), (1, rP B), (2, vI p3), (3, vI y3_76)] hl (by decide) rfl (gdec kL_areAlike_1 41 rfl) (fun ls hl => ?_)
    refine L203 gFuel _ _ _ _ _ (fun G126 F127 y3_125 y4_125 hf H locs h ls hl => ?_) H locs h ls (lv_sub hl [1, 2, 3, 4, 0] rfl) hf
    refine g_iconst C (gdec kL_areAlike_2 46 rfl) ?_
    refine g_istore C [(4, vI 0), (0, rO B), (1, rP B), (2, vI p3), (3, vI y3_125)] hl (by decide) rfl (gdec kL_areAlike_2 47 rfl) (fun ls hl => ?_)
    refine L334 gFuel _ _ _ _ _ (fun G148 F149 y3_147 y4_147 hf H locs h ls hl => ?_) H locs h ls (lv_sub hl [1, 2, 3, 4, 0] rfl) hf
    refine g_iconst C (gdec kL_areAlike_3 21 rfl) ?_
    refine g_istore C [(4, vI 0), (0, rO B), (1, rP B), (2, vI p3), (3, vI y3_147)] hl (by decide) rfl (gdec kL_areAlike_3 22 rfl) (fun ls hl => ?_)
    refine L402 gFuel _ _ _ _ _ (fun G191 F192 y3_190 y4_190 hf H locs h ls hl => ?_) H locs h ls (lv_sub hl [1, 2, 3, 4, 0] rfl) hf
    refine g_iload_n C hl 3 rfl rfl (gdec kL_areAlike_4 42 rfl) ?_
    obtain ⟨h193, hf⟩ := gb_s hf
    cases hf
    exact g_zret (CO _) h h193 rfl (gdec kL_areAlike_4 43 rfl)
  · replace hf := ifn c15 hf
    refine g_iconst C (gdec kL_areAlike 13 rfl) ?_
    refine g_istore_n C [(3, vI 0), (0, rO B), (1, rP B), (2, vI p3)] hl rfl (by decide) rfl (gdec kL_areAlike 14 rfl) (fun ls hl => ?_)
    refine g_iconst C (gdec kL_areAlike 15 rfl) ?_
    refine g_istore C [(4, vI 0), (3, vI 0), (0, rO B), (1, rP B), (2, vI p3)] hl (by decide) rfl (gdec kL_areAlike 16 rfl) (fun ls hl => ?_)
    refine L32 gFuel _ _ _ _ _ (fun G195 F196 y3_194 y4_194 hf H locs h ls hl => ?_) H locs h ls (lv_sub hl [2, 3, 4, 1, 0] rfl) hf
    refine g_iconst C (gdec kL_areAlike 35 rfl) ?_
    refine g_istore C [(4, vI 0), (0, rO B), (1, rP B), (2, vI p3), (3, vI y3_194)] hl (by decide) rfl (gdec kL_areAlike 36 rfl) (fun ls hl => ?_)
    refine L73 gFuel _ _ _ _ _ (fun G198 F199 y3_197 y4_197 hf H locs h ls hl => ?_) H locs h ls (lv_sub hl [1, 2, 3, 4, 0] rfl) hf
    refine g_iconst C (gdec kL_areAlike_1 40 rfl) ?_
    refine g_istore C [(4, vI 0), (0, rO B), (1, rP B), (2, vI p3), (3, vI y3_197)] hl (by decide) rfl (gdec kL_areAlike_1 41 rfl) (fun ls hl => ?_)
    refine L203 gFuel _ _ _ _ _ (fun G201 F202 y3_200 y4_200 hf H locs h ls hl => ?_) H locs h ls (lv_sub hl [1, 2, 3, 4, 0] rfl) hf
    refine g_iconst C (gdec kL_areAlike_2 46 rfl) ?_
    refine g_istore C [(4, vI 0), (0, rO B), (1, rP B), (2, vI p3), (3, vI y3_200)] hl (by decide) rfl (gdec kL_areAlike_2 47 rfl) (fun ls hl => ?_)
    refine L334 gFuel _ _ _ _ _ (fun G204 F205 y3_203 y4_203 hf H locs h ls hl => ?_) H locs h ls (lv_sub hl [1, 2, 3, 4, 0] rfl) hf
    refine g_iconst C (gdec kL_areAlike_3 21 rfl) ?_
    refine g_istore C [(4, vI 0), (0, rO B), (1, rP B), (2, vI p3), (3, vI y3_203)] hl (by decide) rfl (gdec kL_areAlike_3 22 rfl) (fun ls hl => ?_)
    refine L402 gFuel _ _ _ _ _ (fun G207 F208 y3_206 y4_206 hf H locs h ls hl => ?_) H locs h ls (lv_sub hl [1, 2, 3, 4, 0] rfl) hf
    refine g_iload_n C hl 3 rfl rfl (gdec kL_areAlike_4 42 rfl) ?_
    obtain ⟨h209, hf⟩ := gb_s hf
    cases hf
    exact g_zret (CO _) h h209 rfl (gdec kL_areAlike_4 43 rfl)

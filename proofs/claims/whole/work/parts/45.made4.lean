/-! THE MODEL MADE -/
theorem r_begins2 {p1 : Int} {k : GS → Int → Option GS} : ∀ (d n : Nat) (G : GS) (i : Int), 0 ≤ i → i + d = 260 → d < n → f_X8_begins_L2 p1 n G i k = k (fun k' o' f => if k' = 10 ∧ o' = 0 ∧ i ≤ f ∧ f < 260 then 0 else G k' o' f) 260 := by
  intro d
  induction d with
  | zero =>
    intro n G i h0 h1 h2
    obtain ⟨n, rfl⟩ : ∃ m, n = m + 1 := ⟨n - 1, by omega⟩
    have : i = 260 := by omega
    subst this
    rw [f_X8_begins_L2, gd_t (by decide), if_neg (by omega)]
    congr 1
    funext k' o' f
    rw [if_neg (by omega)]
  | succ d ih =>
    intro n G i h0 h1 h2
    obtain ⟨n, rfl⟩ : ∃ m, n = m + 1 := ⟨n - 1, by omega⟩
    rw [f_X8_begins_L2, gd_t ⟨by omega, by omega⟩, if_pos (by omega), ga_t ⟨by omega, by omega⟩, ih n _ (i + 1) (by omega) (by omega) (by omega)]
    congr 1
    funext k' o' f
    unfold gup
    repeat' split
    all_goals first | rfl | omega
theorem r_begins31 {p1 : Int} (hp : p1 < 9) {k : GS → Int → Option GS} : ∀ (d n : Nat) (G : GS) (i : Int), 0 ≤ i → i + d = p1 → d < n → f_X8_begins_L31 p1 n G i k = k (fun k' o' f => if k' = 10 ∧ o' = 0 ∧ 30 + 3 * i ≤ f ∧ f < 30 + 3 * p1 ∧ f % 3 < 2 then (if f % 3 = 0 then 2 else 100) else G k' o' f) p1 := by
  intro d
  induction d with
  | zero =>
    intro n G i h0 h1 h2
    obtain ⟨n, rfl⟩ : ∃ m, n = m + 1 := ⟨n - 1, by omega⟩
    have : i = p1 := by omega
    subst this
    rw [f_X8_begins_L31, gd_t ⟨by omega, by omega⟩, gd_t ⟨by omega, by omega⟩, if_neg (by omega)]
    congr 1
    funext k' o' f
    rw [if_neg (by omega)]
  | succ d ih =>
    intro n G i h0 h1 h2
    obtain ⟨n, rfl⟩ : ∃ m, n = m + 1 := ⟨n - 1, by omega⟩
    rw [f_X8_begins_L31, gd_t ⟨by omega, by omega⟩, gd_t ⟨by omega, by omega⟩, if_pos (by omega), ga_t ⟨by omega, by omega⟩, ga_t ⟨by omega, by omega⟩, ih n _ (i + 1) (by omega) (by omega) (by omega)]
    congr 1
    funext k' o' f
    unfold gup
    repeat' split
    all_goals first | rfl | omega
def beG (G : GS) (p1 : Int) : GS := fun k o f => if k = 10 ∧ o = 0 ∧ 30 ≤ f ∧ f < 30 + 3 * p1 ∧ f % 3 < 2 then (if f % 3 = 0 then 2 else 100) else if k = 10 ∧ o = 0 ∧ f = 0 then p1 else if k = 10 ∧ o = 0 ∧ 0 ≤ f ∧ f < 260 then 0 else G k o f
theorem r_begins (G : GS) {p1 : Int} (hp : 0 ≤ p1 ∧ p1 < 9) : f_X8_begins G p1 = some (beG G p1) := by
  unfold f_X8_begins
  rw [r_begins2 260 gFuel G 0 (by decide) (by decide) (by decide), r_begins31 hp.2 p1.toNat gFuel _ 0 (by decide) (by omega) (by unfold gFuel; omega)]
  rfl
def eM (E : gEnv) (B : Nat) : gEnv := (eD E, eC E, fun k o => B + goff k o, fun q => B + 257 ≤ q, (List.range 7).map (fun j => gid (257 + j)))
theorem eM_at {E : gEnv} {B i : Nat} {p : Nat × Int} (h : (eL (eM E B))[i]? = some p) : i < 7 ∧ p = gid (257 + i) := range_at h
theorem eM_dis (E : gEnv) (B : Nat) : gDis (eM E B) := by
  have hm : ∀ q : Nat × Int, q ∈ eL (eM E B) ↔ q = (8, 0) ∨ q = (10, 0) ∨ q = (10, 1) ∨ q = (10, 2) ∨ q = (11, 0) ∨ q = (10, 3) ∨ q = (10, 4) := fun q => by
    have e : eL (eM E B) = [(8, 0), (10, 0), (10, 1), (10, 2), (11, 0), (10, 3), (10, 4)] := rfl
    rw [e]
    simp
  refine ⟨fun i j p q hi hj e => ?_, fun p hp => ?_, ?_, fun r h => ?_, fun r i h _ => ?_, fun r i h _ => ?_, fun r i h _ => ?_, fun r i h _ => ?_, fun h => ?_, fun h => ?_, fun h => ?_, fun h => ?_, fun h => ?_⟩
  · obtain ⟨li, rfl⟩ := eM_at hi
    obtain ⟨lj, rfl⟩ := eM_at hj
    have e2 : B + goff (gid (257 + i)).1 (gid (257 + i)).2 = B + goff (gid (257 + j)).1 (gid (257 + j)).2 := e
    rw [goff_gid _ (by omega), goff_gid _ (by omega)] at e2
    omega
  · obtain ⟨j, hj, rfl⟩ := List.mem_map.mp hp
    have hj := List.mem_range.mp hj
    show B + 257 ≤ B + goff (gid (257 + j)).1 (gid (257 + j)).2
    rw [goff_gid _ (by omega)]
    omega
  · show ([(8, 0), (10, 0), (10, 1), (10, 2), (11, 0), (10, 3), (10, 4)] : List (Nat × Int)).Nodup
    decide
  · have := (hm _).mp h; simp at this
  · have := (hm _).mp h; simp at this
  · have := (hm _).mp h; simp at this
  · have := (hm _).mp h; simp at this
  · have := (hm _).mp h; simp at this
  · have := (hm _).mp h; simp at this
  · have := (hm _).mp h; simp at this
  · have := (hm _).mp h; simp at this
  · have := (hm _).mp h; simp at this
  · exact ⟨(hm _).mpr (by simp), (hm _).mpr (by simp), (hm _).mpr (by simp), (hm _).mpr (by simp), (hm _).mpr (by simp), (hm _).mpr (by simp)⟩
theorem eM_gP {E : gEnv} {B : Nat} {G : GS} {H : Heap} : gP (eM E B) G H ↔ ∀ j, j < 7 → va_at (eD E) vwCl (B + 257 + j, gCell (eM E B) G (gid (257 + j)).1 (gid (257 + j)).2) H := by
  have ha : ∀ j, j < 7 → eA (eM E B) (gid (257 + j)).1 (gid (257 + j)).2 = B + 257 + j := fun j hj => by
    show B + goff (gid (257 + j)).1 (gid (257 + j)).2 = _
    rw [goff_gid _ (by omega)]
    omega
  have hw : wl (eM E B) G = (List.range 7).map (fun j => (eA (eM E B) (gid (257 + j)).1 (gid (257 + j)).2, gCell (eM E B) G (gid (257 + j)).1 (gid (257 + j)).2)) := by
    unfold wl
    show List.map (fun q => (eA (eM E B) q.fst q.snd, gCell (eM E B) G q.fst q.snd)) ((List.range 7).map (fun j => gid (257 + j))) = _
    rw [List.map_map]
    rfl
  constructor
  · intro h j hj
    rw [← ha j hj]
    refine h j _ ?_
    rw [hw, List.getElem?_map, List.getElem?_range hj]
    rfl
  · intro h k q hk
    rw [hw] at hk
    obtain ⟨hl, rfl⟩ := range_at hk
    have := h k hl
    rw [← ha k hl] at this
    exact this
abbrev gD8 : List Value := [.null, .null, .null, .int 0, .int 0, .null, .null, .int 0, .int 0, .null, .int 0]
def gM1 : GS := gup (beG gZ 2) 10 0 9 2
theorem gM1_I {j : Nat} (hj : j < 7) (f : Int) : gM1 (gid (257 + j)).1 (gid (257 + j)).2 f = gI (gid (257 + j)).1 (gid (257 + j)).2 f := by
  match j, hj with
  | 0, _ =>
    show gM1 8 0 f = gI 8 0 f
    unfold gM1 gup beG gI gZ
    simp
  | 1, _ =>
    show gM1 10 0 f = gI 10 0 f
    unfold gM1 gup beG gI gZ
    simp
    repeat' split
    all_goals first | rfl | omega
  | 2, _ =>
    show gM1 10 1 f = gI 10 1 f
    unfold gM1 gup beG gI gZ
    simp
  | 3, _ =>
    show gM1 10 2 f = gI 10 2 f
    unfold gM1 gup beG gI gZ
    simp
  | 4, _ =>
    show gM1 11 0 f = gI 11 0 f
    unfold gM1 gup beG gI gZ
    simp
  | 5, _ =>
    show gM1 10 3 f = gI 10 3 f
    unfold gM1 gup beG gI gZ
    simp
  | 6, _ =>
    show gM1 10 4 f = gI 10 4 f
    unfold gM1 gup beG gI gZ
    simp
set_option maxHeartbeats 4000000 in
set_option maxRecDepth 100000 in
theorem c_X8_init (l : Launch) (E0 : gEnv) (B : Nat) : Met l yX8_init (.code yX8_init cX8_init 1 none :: gWords) (gRm 1 50 6 1676) (va_Pc [.ref (B + 257)] (fun U => gK (eM E0 B) U ∧ cP (eM E0 B) (B + 257) 1 (fun _ => .inr (8, gD8)) U.heap)) (va_Qv (fun _ : Unit => True) (fun _ t => cP E0 (B + 257) 7 (Wi E0 B 257) t.heap) (fun q => B + 257 ≤ q)) 6 1676 (fun q => B + 257 ≤ q) := by
  refine n_met (E := eM E0 B) (by decide +kernel) (Nat.le_of_ble_eq_true rfl) rfl (fun s h => h.1) ?_
  intro p e s m below meth c C hin hp ls hl
  have h := hp.2
  obtain ⟨E, hE⟩ : ∃ E, E = eM E0 B := ⟨_, rfl⟩
  rw [← hE] at C h
  have hD : eD E = eD E0 := by rw [hE]; rfl
  have hC : eC E = eC E0 := by rw [hE]; rfl
  have hEf : eF E = fun q => B + 257 ≤ q := by rw [hE]; rfl
  have hA : ∀ q, B + 257 ≤ q → eF E q := fun q z => by rw [hEf]; exact z
  have hS : va_S (eF E) s.heap s.heap [] := va_S.rf
  have C : gC p s m _ meth c RX8 cX8_init 1 none E := C
  have hl : lv_has ls 1 [(0, .ref (B + 257))] := hl
  obtain ⟨Qr, hQr⟩ : ∃ Q, Q = va_Qv (fun _ : Unit => True) (fun _ t => cP E0 (B + 257) 7 (Wi E0 B 257) t.heap) (fun q => B + 257 ≤ q) := ⟨_, rfl⟩
  rw [← hQr]
  refine g_aload_n C hl 0 rfl rfl (gdec kX8_init 0 rfl) ?_
  refine n_super C wM_X8_1 hl.1 (by decide) (gdec kX8_init 1 rfl) ?_
  refine g_aload_n C hl 0 rfl rfl (gdec kX8_init 2 rfl) ?_
  refine g_sipush C (gdec kX8_init 3 rfl) rfl ?_
  refine n_newa C h hS (ty := .int) rfl wA_int 1 10 rfl (fun z => z) (n1 := 260) rfl (by decide) (x := .inl (fun _ => 0)) (fun _ => rfl) (by decide) (by decide) (gdec kX8_init 4 rfl) (fun H h hS => ?_)
  refine n_putF C h hS hA (k := 8) (j := 0) (by decide) rfl (T := TX8) rfl 0 (by decide) wF_X8_7 rfl hin rfl (ty := tyX8 0) (by decide +kernel) rfl rfl (by simp) (gdec kX8_init 5 rfl) (fun H locs h hS => ?_)
  refine g_aload_n C hl 0 rfl rfl (gdec kX8_init 6 rfl) ?_
  refine g_sipush C (gdec kX8_init 7 rfl) rfl ?_
  refine n_newa C h hS (ty := .int) rfl wA_int 1 10 rfl (fun z => z) (n1 := 1040) rfl (by decide) (x := .inl (fun _ => 0)) (fun _ => rfl) (by decide) (by decide) (gdec kX8_init 8 rfl) (fun H h hS => ?_)
  refine n_putF C h hS hA (k := 8) (j := 0) (by decide) rfl (T := TX8) rfl 1 (by decide) wF_X8_13 rfl hin rfl (ty := tyX8 1) (by decide +kernel) rfl rfl (by simp) (gdec kX8_init 9 rfl) (fun H locs h hS => ?_)
  refine g_aload_n C hl 0 rfl rfl (gdec kX8_init 10 rfl) ?_
  refine g_sipush C (gdec kX8_init 11 rfl) rfl ?_
  refine n_newa C h hS (ty := .int) rfl wA_int 1 10 rfl (fun z => z) (n1 := 260) rfl (by decide) (x := .inl (fun _ => 0)) (fun _ => rfl) (by decide) (by decide) (gdec kX8_init 12 rfl) (fun H h hS => ?_)
  refine n_putF C h hS hA (k := 8) (j := 0) (by decide) rfl (T := TX8) rfl 2 (by decide) wF_X8_16 rfl hin rfl (ty := tyX8 2) (by decide +kernel) rfl rfl (by simp) (gdec kX8_init 13 rfl) (fun H locs h hS => ?_)
  refine g_aload_n C hl 0 rfl rfl (gdec kX8_init 14 rfl) ?_
  refine g_bipush C (gdec kX8_init 15 rfl) rfl ?_
  refine n_newa C h hS (ty := .boolean) rfl wA_boolean 2 11 rfl (fun z => z) (n1 := 12) rfl (by decide) (x := .inl (fun _ => 0)) (fun _ => rfl) (by decide) (by decide) (gdec kX8_init 16 rfl) (fun H h hS => ?_)
  refine n_putF C h hS hA (k := 8) (j := 0) (by decide) rfl (T := TX8) rfl 5 (by decide) wF_X8_19 rfl hin rfl (ty := tyX8 5) (by decide +kernel) rfl rfl (by simp) (gdec kX8_init 17 rfl) (fun H locs h hS => ?_)
  refine g_aload_n C hl 0 rfl rfl (gdec kX8_init 18 rfl) ?_
  refine g_bipush C (gdec kX8_init 19 rfl) rfl ?_
  refine n_newa C h hS (ty := .int) rfl wA_int 1 10 rfl (fun z => z) (n1 := 90) rfl (by decide) (x := .inl (fun _ => 0)) (fun _ => rfl) (by decide) (by decide) (gdec kX8_init 20 rfl) (fun H h hS => ?_)
  refine n_putF C h hS hA (k := 8) (j := 0) (by decide) rfl (T := TX8) rfl 6 (by decide) wF_X8_23 rfl hin rfl (ty := tyX8 6) (by decide +kernel) rfl rfl (by simp) (gdec kX8_init 21 rfl) (fun H locs h hS => ?_)
  refine g_aload_n C hl 0 rfl rfl (gdec kX8_init 22 rfl) ?_
  refine g_bipush C (gdec kX8_init 23 rfl) rfl ?_
  refine n_newa C h hS (ty := .int) rfl wA_int 1 10 rfl (fun z => z) (n1 := 14) rfl (by decide) (x := .inl (fun _ => 0)) (fun _ => rfl) (by decide) (by decide) (gdec kX8_init 24 rfl) (fun H h hS => ?_)
  refine n_putF C h hS hA (k := 8) (j := 0) (by decide) rfl (T := TX8) rfl 9 (by decide) wF_X8_26 rfl hin rfl (ty := tyX8 9) (by decide +kernel) rfl rfl (by simp) (gdec kX8_init 25 rfl) (fun H locs h hS => ?_)
  have hP : gP E gZ H := by
    have h1 : ∀ j, j < 7 → va_at (eD E0) vwCl (B + 257 + j, gCell (eM E0 B) gZ (gid (257 + j)).1 (gid (257 + j)).2) H := fun j hj => by
      have h2 := h.2 j _ (cL_at hj)
      clear h hS
      subst hE
      match j, hj with
      | 0, _ => exact h2
      | 1, _ => exact h2
      | 2, _ => exact h2
      | 3, _ => exact h2
      | 4, _ => exact h2
      | 5, _ => exact h2
      | 6, _ => exact h2
    rw [hE]
    exact eM_gP.mpr h1
  have ho : gOk E 8 0 := by rw [hE]; exact List.mem_map.mpr ⟨0, List.mem_range.mpr (by decide), rfl⟩
  have ho1 : gOk E 10 0 := by rw [hE]; exact List.mem_map.mpr ⟨1, List.mem_range.mpr (by decide), rfl⟩
  have hsz := h.1
  refine g_aload_n C hl 0 rfl rfl (gdec kX8_init 26 rfl) ?_
  refine g_iconst C (gdec kX8_init 27 rfl) ?_
  have ea : eA E 8 0 = B + 257 := by rw [hE]; rfl
  refine W.eq (g2 := F0 m 57 ls [vI 2, .ref (eA E 8 0)]) (by rw [ea]) ?_
  refine g_cvz hS (fun _ z => z) (g_runV C ⟨hP, hS⟩ ho (by decide) rfl (c_X8_begins l E _ _ ho _ (r_begins gZ (by decide))) wM_X8_29 wI_X8_begins wS_X8_begins wN_X8 wC_X8_begins rfl ny_X8_begins rfl (by decide) hl.1 rfl (Nat.le_of_ble_eq_true rfl) (gdec kX8_init 28 rfl) ⟨by decide, by decide⟩) (fun H locs hz9 hk9 hPx hSx => ?_)
  have h : gH E s _ H locs := ⟨hPx, hSx⟩
  refine W_size fun hz => ?_
  have hszH : H.size = B + 264 := by
    have h1 : s.heap.size = B + 257 + 1 := hp.2.1
    omega
  refine g_aload_n C hl 0 rfl rfl (gdec kX8_init 29 rfl) ?_
  refine W.eq (g2 := F0 m 61 ls [.ref (eA E 8 0)]) (by rw [ea]) ?_
  refine gf_X8_7 C h ho (gdec kX8_init 30 rfl) ?_
  refine g_bipush C (gdec kX8_init 31 rfl) rfl ?_
  refine g_iconst C (gdec kX8_init 32 rfl) ?_
  have hS0 := h.2
  refine g_iast C h ho1 (n := 260) rfl (by decide) (by decide) (gdec kX8_init 33 rfl) (fun H2 locs2 h2 => ?_)
  refine W_size fun hz2 => ?_
  have hszH2 : H2.size = B + 264 := by
    have h1 : s.heap.size = B + 257 + 1 := hp.2.1
    have h3 := h2.2.1
    have h4 : B + 264 ≤ H2.size := by
      refine Nat.le_of_not_lt fun z => ?_
      have h5 := eM_gP.mp (by have := h2.1; rw [hE] at this; exact this) 6 (by decide)
      have h6 := va_at.lt h5
      have h7 : B + 257 + 6 < H2.size := h6
      omega
    omega
  have h9 : cP E0 (B + 257) 7 (Wi E0 B 257) H2 := by
    refine ⟨by omega, fun k q hk => ?_⟩
    obtain ⟨hl9, rfl⟩ := cL_in hk
    have h5 := eM_gP.mp (by have := h2.1; rw [hE] at this; exact this) k hl9
    have e5 : gCell (eM E0 B) gM1 (gid (257 + k)).1 (gid (257 + k)).2 = Wi E0 B 257 k := (gCell_congr (gM1_I hl9)).trans rfl
    rw [← e5]
    exact h5
  subst hQr
  exact W.vret C.1 C.2.1 C.2.2.1 (fun t ht hW => ⟨⟨(), rfl, trivial, by simpa only [ht] using h9⟩, by have := h2.2.F ht; rw [hEf] at this; exact this⟩) (by have := h2.2.2.2; rw [hEf] at this; exact this) (gdec kX8_init 34 rfl) C.2.2.2.2.2.2.1

/-! THE ROAD IS SOUND -/
theorem so16 {n : Int} {G F : GS} {A : Int → Int} (hG : St G A) (hn : A 0 = n) (k : Int → Int → Int → Int → Int → Int → Option Int) : f_L_isSound_L16 G F n gFuel 0 0 0 0 0 0 k = k (tot (fun i => cnt (pSt A i) (A 7).toNat) n.toNat) (tot (fun i => cnt (pOn A i) (A 7).toNat) n.toNat) (tot (fun i => cnt (pLa A i) (A 8).toNat) n.toNat) 0 0 n := by
  have hWh := (St_R hG).2.1
  unfold WfH at hWh
  have hg : gFuel = 3000 := rfl
  have hN : ((n.toNat : Nat) : Int) = n := by omega
  have h := idx_loop (fun q (s : Int × Int × Int × Int × Int × Int) c => f_L_isSound_L16 G F n q s.1 s.2.1 s.2.2.1 s.2.2.2.1 s.2.2.2.2.1 s.2.2.2.2.2 (fun a b d e f g => c (a, b, d, e, f, g))) n.toNat (fun i => (tot (fun i => cnt (pSt A i) (A 7).toNat) i, tot (fun i => cnt (pOn A i) (A 7).toNat) i, tot (fun i => cnt (pLa A i) (A 8).toNat) i, 0, 0, (i : Int))) (fun q i c h1 => ?_) (fun q c => ?_) gFuel (fun s => k s.1 s.2.1 s.2.2.1 s.2.2.2.1 s.2.2.2.2.1 s.2.2.2.2.2) (by omega)
  · rw [hN] at h
    exact h
  · have v : ∀ w, 0 ≤ w ∧ w ≤ 6 → f_X7_inn G i w = some (0, inV A i w) := fun w hw => v_inn hG (by omega) (by omega) hw
    have i3 : inV A i 3 = cnt (pSt A i) (A 7).toNat := by unfold inV; rw [if_neg (by decide), if_pos rfl]
    have i4 : inV A i 4 = cnt (pOn A i) (A 7).toNat := by unfold inV; rw [if_neg (by decide), if_neg (by decide), if_pos rfl]
    have i5 : inV A i 5 = cnt (pLa A i) (A 8).toNat := by unfold inV; rw [if_neg (by decide), if_neg (by decide), if_neg (by decide), if_pos rfl]
    show f_L_isSound_L16 G F n (q + 1) _ _ _ 0 0 (i : Int) _ = f_L_isSound_L16 G F n q _ _ _ 0 0 ((i + 1 : Nat) : Int) _
    have ei : ((i + 1 : Nat) : Int) = (i : Int) + 1 := by omega
    rw [ei, f_L_isSound_L16, gd_t ⟨by omega, by omega⟩, gd_t ⟨by omega, by omega⟩, if_pos (by omega), v 3 (by decide), bxr_some, v 4 (by decide), bxr_some, v 5 (by decide), bxr_some, i3, i4, i5]
    rfl
  · show f_L_isSound_L16 G F n (q + 1) _ _ _ 0 0 ((n.toNat : Nat) : Int) _ = _
    rw [f_L_isSound_L16, gd_t ⟨by omega, by omega⟩, gd_t ⟨by omega, by omega⟩, if_neg (by omega)]
theorem so92 {n a b c : Int} {G F : GS} {A : Int → Int} (hG : St G A) (hB : Bnd 20000000 A) (k : Int → Int → Int → Int → Int → Int → Int → Option Int) : f_L_isSound_L92 G F n gFuel a b c 0 0 1 0 k = k a b c (tot (ate A) (A 7).toNat) (tot (car A) (A 7).toNat) 1 (A 7) := by
  have hW := (St_R hG).2
  have hWh := hW.1
  unfold WfH at hWh
  have hg : gFuel = 3000 := rfl
  have hN : (((A 7).toNat : Nat) : Int) = A 7 := by omega
  have v1 := v_value hG (w := 1) (by decide)
  rw [va_1] at v1
  have h := idx_loop (fun q (s : Int × Int × Int × Int × Int × Int × Int) z => f_L_isSound_L92 G F n q s.1 s.2.1 s.2.2.1 s.2.2.2.1 s.2.2.2.2.1 s.2.2.2.2.2.1 s.2.2.2.2.2.2 (fun a b d e f g h => z (a, b, d, e, f, g, h))) (A 7).toNat (fun i => (a, b, c, tot (ate A) i, tot (car A) i, 1, (i : Int))) (fun q i z h1 => ?_) (fun q z => ?_) gFuel (fun s => k s.1 s.2.1 s.2.2.1 s.2.2.2.1 s.2.2.2.2.1 s.2.2.2.2.2.1 s.2.2.2.2.2.2) (by omega)
  · rw [hN] at h
    exact h
  · have w := hW.2.2.2.1 (i : Int) (by omega) (by omega)
    unfold WfT at w
    obtain ⟨-, w1, -, w3, wz, wr⟩ := w
    have v : ∀ w, 0 ≤ w ∧ w ≤ 9 → f_X7_team G i w = some (0, A (54 + 11 * i + w)) := fun w hw => v_team hG (by omega) (by omega) hw
    show f_L_isSound_L92 G F n (q + 1) a b c _ _ 1 (i : Int) _ = f_L_isSound_L92 G F n q a b c _ _ 1 ((i + 1 : Nat) : Int) _
    have ei : ((i + 1 : Nat) : Int) = (i : Int) + 1 := by omega
    rw [ei, f_L_isSound_L92, v1, bxr_some, gd_t ⟨by omega, by omega⟩, gd_t ⟨by omega, by omega⟩, if_pos (by omega), v 9 (by decide), bxr_some, v 4 (by decide), bxr_some]
    have c9 : tot (ate A) (i + 1) = tot (ate A) i + A (54 + 11 * (i : Int) + 9) := rfl
    have cc : tot (car A) (i + 1) = tot (car A) i + car A (i : Int) := rfl
    rw [c9, cc]
    unfold car
    by_cases c4 : A (54 + 11 * (i : Int) + 4) < 0
    · rw [if_pos c4, gd_t ⟨by
        by_cases q3 : A (54 + 11 * (i : Int) + 3) = 0
        · have := (wz q3).1; omega
        · have := (wr (by omega)).2.2; omega, by omega⟩, if_pos c4, gd_t (by decide), if_neg (by decide), v 1 (by decide), bxr_some, gd_t ⟨by omega, by omega⟩, if_neg (by omega), bxr_some, gd_t ⟨by omega, by omega⟩, if_neg (by omega), v 3 (by decide), bxr_some, gd_t ⟨by omega, by omega⟩]
      by_cases q3 : A (54 + 11 * (i : Int) + 3) = 0
      · have z := wz q3
        rw [if_neg (by omega), bxr_some, gd_t ⟨by omega, by omega⟩, if_pos c4, v 5 (by decide), bxr_some, gd_t ⟨by omega, by omega⟩, if_neg (by omega)]
      · have z := (wr (by omega)).2.2
        rw [if_pos (by omega), bxr_some, gd_t ⟨by omega, by omega⟩, if_pos c4, v 5 (by decide), bxr_some, gd_t ⟨by omega, by omega⟩, if_pos (by omega)]
    · have q3 : ¬ A (54 + 11 * (i : Int) + 3) = 0 := fun q3 => by have := (wz q3).1; omega
      have z := (wr (by omega)).2.2
      rw [if_neg c4, gd_t ⟨by omega, by omega⟩, if_neg c4, gd_t (by decide), if_neg (by decide), v 1 (by decide), bxr_some, gd_t ⟨by omega, by omega⟩, if_neg (by omega), bxr_some, gd_t ⟨by omega, by omega⟩, if_neg (by omega), v 3 (by decide), bxr_some, gd_t ⟨by omega, by omega⟩, if_pos (by omega), bxr_some, gd_t ⟨by omega, by omega⟩, if_neg c4]
  · show f_L_isSound_L92 G F n (q + 1) a b c _ _ 1 (((A 7).toNat : Nat) : Int) _ = _
    rw [f_L_isSound_L92, v1, bxr_some, gd_t ⟨by omega, by omega⟩, gd_t ⟨by omega, by omega⟩, if_neg (by omega)]
theorem so222 {n a b c d e g : Int} {G F : GS} {A : Int → Int} (hG : St G A) (hn : A 0 = n) (k : Int → Int → Int → Int → Int → Int → Int → Option Int) : f_L_isSound_L222 G F n gFuel a b c d e g 0 k = k a (b - tot (fun s => cnt (pSg A s) (A 7).toNat) (n - 1).toNat) c d e g (n - 1) := by
  have hW := (St_R hG).2
  have hWh := hW.1
  unfold WfH at hWh
  have hg : gFuel = 3000 := rfl
  have hN : (((n - 1).toNat : Nat) : Int) = n - 1 := by omega
  have h := idx_loop (fun q (s : Int × Int × Int × Int × Int × Int × Int) z => f_L_isSound_L222 G F n q s.1 s.2.1 s.2.2.1 s.2.2.2.1 s.2.2.2.2.1 s.2.2.2.2.2.1 s.2.2.2.2.2.2 (fun a b d e f g h => z (a, b, d, e, f, g, h))) (n - 1).toNat (fun i => (a, b - tot (fun s => cnt (pSg A s) (A 7).toNat) i, c, d, e, g, (i : Int))) (fun q i z h1 => ?_) (fun q z => ?_) gFuel (fun s => k s.1 s.2.1 s.2.2.1 s.2.2.2.1 s.2.2.2.2.1 s.2.2.2.2.2.1 s.2.2.2.2.2.2) (by omega)
  · rw [hN] at h
    have e0 : b - tot (fun s => cnt (pSg A s) (A 7).toNat) 0 = b := by rw [tot]; omega
    rw [e0] at h
    exact h
  · have v5 := v_stage hG (s := (i : Int)) (by omega) (by omega) (w := 5) (by decide)
    rw [(st_w A i).2.2.2.2] at v5
    have ct : tot (fun s => cnt (pSg A s) (A 7).toNat) (i + 1) = tot (fun s => cnt (pSg A s) (A 7).toNat) i + cnt (pSg A i) (A 7).toNat := rfl
    show f_L_isSound_L222 G F n (q + 1) a _ c d e g (i : Int) _ = f_L_isSound_L222 G F n q a _ c d e g ((i + 1 : Nat) : Int) _
    have ei : ((i + 1 : Nat) : Int) = (i : Int) + 1 := by omega
    rw [ei, f_L_isSound_L222, gd_t ⟨by omega, by omega⟩, gd_t ⟨by omega, by omega⟩, if_pos (by omega), v5, bxr_some, ct, Int.sub_sub]
  · show f_L_isSound_L222 G F n (q + 1) a _ c d e g (((n - 1).toNat : Nat) : Int) _ = _
    rw [f_L_isSound_L222, gd_t ⟨by omega, by omega⟩, gd_t ⟨by omega, by omega⟩, if_neg (by omega)]
theorem is_sound {n : Int} {G F : GS} {A : Int → Int} (hG : St G A) (hn : A 0 = n) (hJ : Jv A) (hB : Bnd 20000000 A) : f_L_isSound G F n = some 1 := by
  have hW := (St_R hG).2
  have hWh := hW.1
  unfold WfH at hWh
  have v1 := v_value hG (w := 1) (by decide)
  rw [va_1] at v1
  have v9 := v_value hG (w := 9) (by decide)
  have e9 : vaV A 9 = cnt (pLy A) (A 8).toNat := by unfold vaV; rw [if_neg (by decide), if_neg (by decide), if_neg (by decide), if_neg (by decide), if_pos rfl]
  have v10 := v_value hG (w := 10) (by decide)
  have e10 : vaV A 10 = cnt (pWi A) (A 8).toNat := by unfold vaV; rw [if_neg (by decide), if_neg (by decide), if_neg (by decide), if_neg (by decide), if_neg (by decide), if_pos rfl]
  have hv : ∀ w, 4 ≤ w → w ≤ 8 → vaV A w = A (w - 2) := fun w z0 z1 => by
    unfold vaV
    rw [if_neg (by omega), if_neg (by omega), if_neg (by omega), if_neg (by omega), if_neg (by omega), if_neg (by omega)]
  have v4 := v_value hG (w := 4) (by decide)
  have v5 := v_value hG (w := 5) (by decide)
  have v6 := v_value hG (w := 6) (by decide)
  have v7 := v_value hG (w := 7) (by decide)
  have v8 := v_value hG (w := 8) (by decide)
  rw [hv 4 (by decide) (by decide)] at v4
  rw [hv 5 (by decide) (by decide)] at v5
  rw [hv 6 (by decide) (by decide)] at v6
  rw [hv 7 (by decide) (by decide)] at v7
  rw [hv 8 (by decide) (by decide)] at v8
  have v4' : f_X7_value G 4 = some (0, A 2) := v4
  have v5' : f_X7_value G 5 = some (0, A 3) := v5
  have v6' : f_X7_value G 6 = some (0, A 4) := v6
  have v7' : f_X7_value G 7 = some (0, A 5) := v7
  have v8' : f_X7_value G 8 = some (0, A 6) := v8
  rw [e9] at v9
  rw [e10] at v10
  have s1 := s_there hW
  have s2 := s_on hW
  have s3 := s_all hW
  have s4 := s_lies hW
  have s5 := s_sg hW
  have s6 := s_car hW
  rw [hn] at s1 s2 s4 s5
  have cy := cnt_le (pLy A) (A 8).toNat
  have cw := cnt_le (pWi A) (A 8).toNat
  have cr := cnt_le (pRn A) (A 7).toNat
  obtain ⟨b2, b3, b4, b5, b6, -, -⟩ := id hB
  obtain ⟨j1, j2, j3⟩ := hJ
  unfold f_L_isSound
  rw [so16 hG hn, v1, bxr_some, s1, s2, s3, s4, gd_t ⟨by omega, by omega⟩, gd_t ⟨by omega, by omega⟩, if_pos rfl, v9, bxr_some, gd_t ⟨by omega, by omega⟩, gd_t ⟨by omega, by omega⟩, if_pos rfl, so92 hG hB, so222 hG hn, gd_t (by decide), if_neg (by decide), s5, Int.sub_self, gd_t (by decide), if_pos rfl, v8', bxr_some, j1, gd_t ⟨by omega, by omega⟩, gd_t ⟨by omega, by omega⟩, if_pos rfl, v10, bxr_some, s6, gd_t ⟨by omega, by omega⟩, gd_t ⟨by omega, by omega⟩, if_pos rfl, v6', bxr_some, v4', bxr_some, gd_t ⟨by omega, by omega⟩, gd_t ⟨by omega, by omega⟩, if_neg (by omega), v7', bxr_some, v5', bxr_some, gd_t ⟨by omega, by omega⟩, gd_t ⟨by omega, by omega⟩, if_neg (by omega)]

/-! THE HOUR, ON BOTH SIDES -/
theorem keep_hour {o m : Int} {G G' H H' : GS} (hR : Rd G o (H 10 0)) (hW : Wf m (H 10 0)) (hG : ∀ k x f, ¬ (k = 3 ∧ x = o ∧ f = 7) → G' k x f = G k x f) (g : G' 3 o 7 = G 3 o 7 + 1) (hA : ∀ f, f ≠ 1 → H' 10 0 f = H 10 0 f) (a : H' 10 0 1 = H 10 0 1 + 1) : Rd G' o (H' 10 0) ∧ Wf (m + 1) (H' 10 0) := by
  have hWh := hW.1
  unfold WfH at hWh
  have e0 : H' 10 0 0 = H 10 0 0 := hA 0 (by omega)
  have e7 : H' 10 0 7 = H 10 0 7 := hA 7 (by omega)
  have e8 : H' 10 0 8 = H 10 0 8 := hA 8 (by omega)
  have aL : ∀ l f, 0 ≤ l → 0 ≤ f → H' 10 0 (164 + 8 * l + f) = H 10 0 (164 + 8 * l + f) := fun l f h2 h3 => hA _ (by omega)
  have aT : ∀ u f, 0 ≤ u → 0 ≤ f → H' 10 0 (54 + 11 * u + f) = H 10 0 (54 + 11 * u + f) := fun u f h2 h3 => hA _ (by omega)
  constructor
  · refine Rd_hour hR e0 e7 e8 (fun x f => hG _ _ _ (by omega)) (fun j h2 h3 => hA j (by omega)) (fun x => hG _ _ _ (by omega)) ?_ (fun n h2 h3 => ?_) (fun u h2 h3 => ?_) (fun l h2 h3 => ?_) hWh.2.1
    · have r := hR.1
      unfold RdH at r ⊢
      rw [g, a, e0, e7, e8, hG 3 o 4 (by omega), hG 3 o 5 (by omega), hG 3 o 6 (by omega), hG 3 o 8 (by omega), hG 3 o 9 (by omega), hG 3 o 10 (by omega), hG 3 o 11 (by omega), hG 3 o 12 (by omega), hA 2 (by omega), hA 3 (by omega), hA 4 (by omega), hA 5 (by omega), hA 6 (by omega)]
      omega
    · exact RdN_c (hR.2.2.1 n h2 h3) (fun f => hG _ _ _ (by omega)) ⟨hA _ (by omega), hA _ (by omega), hA _ (by omega)⟩
    · exact RdT_c (hR.2.2.2.1 u h2 h3) (fun f => hG _ _ _ (by omega)) (fun f h4 h5 => aT u f h2 h4)
    · exact RdL_c (hR.2.2.2.2.1 l h2 h3) (fun f => hG _ _ _ (by omega)) (fun f h4 h5 => aL l f h2 h4)
  · obtain ⟨w1, w2, w3, w4, w5, w6, w7, w8⟩ := hW
    refine ⟨?_, fun s h1 h2 => ?_, fun n h1 h2 => ?_, fun t h1 h2 => ?_, fun l h1 h2 => ?_, fun l h1 h2 => ?_, fun t h1 h2 => ?_, fun l l' h1 h2 h3 => ?_⟩
    · unfold WfH at w1 ⊢
      rw [e0, e7, e8, a]
      omega
    · have r := w2 s h1 (by omega)
      unfold WfS at r ⊢
      rw [hA _ (by omega), hA _ (by omega), hA _ (by omega)]
      exact r
    · have r := w3 n h1 (by omega)
      unfold WfN at r ⊢
      rw [hA _ (by omega), hA _ (by omega), hA _ (by omega)]
      exact r
    · exact WfT_c (w4 t h1 (by omega)) e0 e8 (fun f h4 h5 => aT t f h1 h4)
    · have r := w5 l h1 (by omega)
      unfold WfL at r ⊢
      simp only [e0, e7, a, aL l 1 h1 (by decide), aL l 2 h1 (by decide), aL l 3 h1 (by decide), aL l 4 h1 (by decide), aL l 5 h1 (by decide), aL l 6 h1 (by decide)]
      exact ⟨r.1, r.2.1, ⟨r.2.2.1.1, by omega⟩, r.2.2.2⟩
    · have r := w6 l h1 (by omega)
      have w := w5 l h1 (by omega)
      unfold WfL at w
      unfold WfX at r ⊢
      rw [aL l 5 h1 (by decide)]
      intro hz
      rw [aT _ 3 (by omega) (by decide), aT _ 4 (by omega) (by decide), aT _ 5 (by omega) (by decide)]
      exact r hz
    · have r := w7 t h1 (by omega)
      have w := w4 t h1 (by omega)
      unfold WfT at w
      unfold WfY at r ⊢
      rw [aT t 3 h1 (by decide), aT t 5 h1 (by decide), aT t 4 h1 (by decide), aT t 2 h1 (by decide)]
      intro hx hy
      rw [aL _ 5 (by omega) (by decide), aL _ 4 (by omega) (by decide), aL _ 6 (by omega) (by decide)]
      exact r hx hy
    · rw [aL l 3 h1 (by decide), aL l' 3 (by omega) (by decide)]
      exact w8 l l' h1 h2 (by omega)
theorem h_hour {o m : Int} (hm : m ≤ 20000) {G H : GS} (hR : Rd G o (H 10 0)) (hW : Wf m (H 10 0)) : ∃ G' H' H1 H3, f_X3_passHour G o = some G' ∧ f_X8_hour H = some H' ∧ Rd G' o (H' 10 0) ∧ Wf (m + 1) (H' 10 0) ∧ frC o G G' ∧ frM H H' ∧ H' 10 0 8 = H 10 0 8 ∧ f_X8_rests H = some H1 ∧ f_X8_roads H1 = some H3 ∧ (((∀ f, f ≠ 1 → H' 10 0 f = H3 10 0 f) ∧ (∀ l, 0 ≤ l → l < H3 10 0 8 → wn (H3 10 0) l ≠ 0) ∧ ∀ t, 0 ≤ t → t < H3 10 0 7 → ¬ wk (H3 10 0) t) ∨ (((∃ l, 0 ≤ l ∧ l < H3 10 0 8 ∧ wn (H3 10 0) l = 0) ∨ ∃ t, 0 ≤ t ∧ t < H3 10 0 7 ∧ wk (H3 10 0) t) ∧ ∃ t, 0 ≤ t ∧ t < H' 10 0 7 ∧ 0 < H' 10 0 (54 + 11 * t + 3))) := by
  obtain ⟨G1, H1, a1, a2, a3, a4, a5, a6, a8⟩ := h_rests hR hW
  obtain ⟨G3, H3, b1, b2, b3, b4, b5, b6, b8⟩ := h_roads hm a3 a4
  obtain ⟨G5, G7, H5, c1, c2, c3, c4, c5, c6, c7, c8⟩ := h_goOn hm b3 b4
  obtain ⟨G9, H7, d1, d2, d3, d4, d5, d6, d7⟩ := h_walkBack c4 c5
  obtain ⟨Gz, ez, fz, vz⟩ := gup_ex G9 3 o 7 (G9 3 o 7 + 1)
  obtain ⟨Hz, ey, fy, vy⟩ := gup_ex H7 10 0 1 (H7 10 0 1 + 1)
  obtain ⟨q1, q2⟩ := keep_hour d3 d4 fz vz (fun f z => fy 10 0 f (by omega)) vy
  have hWh := c5.1
  unfold WfH at hWh
  refine ⟨Gz, Hz, H1, H3, ?_, ?_, q1, q2, ?_, ?_, by rw [fy 10 0 8 (by omega), d6.2.1 8 (by omega), c7.2.1 8 (by omega), b8, a8], a2, b2, ?_⟩
  · unfold f_X3_passHour
    rw [a1, bn1_some, b1, bn1_some, c1, bn1_some, c2, bn1_some, d1, bn1_some, ez]
  · unfold f_X8_hour
    rw [a2, bn1_some, b2, bn1_some, c3, bn1_some, d2, bn1_some, ey]
  · refine frC_tr a5 (frC_tr b5 (frC_tr c6 (frC_tr d5 (fun k x f z => ?_))))
    unfold ofR at z
    exact fz _ _ _ (by omega)
  · refine frM_tr a6 (frM_tr b6 (frM_tr (fun k x f z z2 => c7.1 k x f z z2) (frM_tr (fun k x f z z2 => d6.1 k x f z z2) (fun k x f z z2 => fy _ _ _ (by omega)))))
  · have e7 : H7 10 0 7 = H5 10 0 7 := d6.2.1 7 (by omega)
    have e5 : H5 10 0 7 = H3 10 0 7 := c7.2.1 7 (by omega)
    have ez7 : Hz 10 0 7 = H7 10 0 7 := fy 10 0 7 (by omega)
    rcases d7 with ⟨d7, d8⟩ | ⟨⟨v, v1, v2, v3⟩, t, t0, t1, t2⟩
    · rcases c8 with ⟨c8, c9⟩ | ⟨c9, t, t0, t1, t2⟩
      · refine Or.inl ⟨fun f z => ?_, c9, fun t z1 z2 => ?_⟩
        · rw [fy 10 0 f (by omega), d7, c8]
        · rw [← c8]
          exact d8 t z1 (by omega)
      · refine Or.inr ⟨Or.inl c9, t, t0, by omega, ?_⟩
        rw [fy 10 0 _ (by omega), d7]
        exact t2
    · refine Or.inr ⟨?_, t, t0, by omega, by rw [fy 10 0 _ (by omega)]; exact t2⟩
      rcases c8 with ⟨c8, c9⟩ | ⟨c9, -⟩
      · exact Or.inr ⟨v, v1, by omega, by rw [← c8]; exact v3⟩
      · exact Or.inl c9

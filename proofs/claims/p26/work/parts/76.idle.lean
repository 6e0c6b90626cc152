/-! A STILL ROAD -/
def idle (A : Int → Int) : Prop := ∀ t, 0 ≤ t → t < A 7 → A (54 + 11 * t + 3) = 0 ∧ A (54 + 11 * t + 1) = 0
theorem gup_same0 {G : GS} {f v : Int} (h : v = G 10 0 f) : (gup G 10 0 f v) 10 0 = G 10 0 := funext fun j => by
  by_cases c : j = f
  · rw [c, gup_s, h]
  · exact gup_n (by omega)
theorem m_rests_idle {m : Int} {H : GS} (hW : Wf m (H 10 0)) (hI : idle (H 10 0)) : ∃ H', f_X8_rests H = some H' ∧ H' 10 0 = H 10 0 := by
  have hWh := hW.1
  unfold WfH at hWh
  obtain ⟨e1, e2⟩ := nT hW
  have K := run1 (fun n (s : GS × Int) k => f_X8_rests_L2 n s.1 s.2 (fun a b => k (a, b))) (fun d s => s.2 + d = H 10 0 7 ∧ 0 ≤ s.2 ∧ s.1 10 0 = H 10 0) (by
    rintro d ⟨H1, i⟩ ⟨h1, h0, hA⟩
    dsimp only at h1 h0 hA ⊢
    have hw := hW.2.2.2.1 i h0 (by omega)
    have hi := hI i h0 (by omega)
    unfold WfT at hw
    obtain ⟨n, hn⟩ : ∃ n, n = H 10 0 (54 + 11 * i + 2) := ⟨_, rfl⟩
    obtain ⟨Ha, ea, fa⟩ : ∃ Ha, gup H1 10 0 (30 + 3 * n + 1) (H1 10 0 (30 + 3 * n + 1) - 0) = Ha ∧ Ha 10 0 = H 10 0 := ⟨_, rfl, (gup_same0 (Int.sub_zero _)).trans hA⟩
    obtain ⟨Hb, eb, fb⟩ : ∃ Hb, gup Ha 10 0 6 (Ha 10 0 6 + 0) = Hb ∧ Hb 10 0 = H 10 0 := ⟨_, rfl, (gup_same0 (Int.add_zero _)).trans fa⟩
    obtain ⟨Hc, ec, fc⟩ : ∃ Hc, gup Hb 10 0 (54 + 11 * i + 9) (Hb 10 0 (54 + 11 * i + 9) + 0) = Hc ∧ Hc 10 0 = H 10 0 := ⟨_, rfl, (gup_same0 (Int.add_zero _)).trans fb⟩
    obtain ⟨Hd, ed, fd⟩ : ∃ Hd, gup Hc 10 0 (54 + 11 * i + 1) 0 = Hd ∧ Hd 10 0 = H 10 0 := ⟨_, rfl, (gup_same0 (by rw [fc, hi.2])).trans fc⟩
    refine ⟨(Hd, i + 1), fun n' k => ?_, by show i + 1 + (d : Int) = _; omega, by show 0 ≤ i + 1; omega, fd⟩
    show f_X8_rests_L2 (n' + 1) H1 i _ = f_X8_rests_L2 n' Hd (i + 1) _
    rw [f_X8_rests_L2, gd_t ⟨by omega, by omega⟩, hA, gd_t ⟨by omega, by omega⟩, if_pos (by omega), m_of ⟨by omega, by omega⟩, bn1_some, hA, hi.1, gd_t (by decide), if_pos rfl, m_of ⟨by omega, by omega⟩, bn1_some, hA, ← hn, m_of ⟨by omega, by omega⟩, bn1_some, hA, hi.2, gd_t (by decide), if_neg (by decide), bn1_some, ga_t ⟨by omega, by omega⟩, ← hA, ea, eb, nm_eq, m_teamAt, bn1_some, ga_t ⟨by omega, by omega⟩, ec, m_teamAt, bn1_some, gd_t (by decide), if_pos (by decide), ga_t ⟨by omega, by omega⟩, ed]) (by
    rintro ⟨H1, i⟩ ⟨h1, h0, hA⟩ n k
    dsimp only at h1 h0 hA ⊢
    rw [f_X8_rests_L2, gd_t ⟨by omega, by omega⟩, hA, gd_t ⟨by omega, by omega⟩, if_neg (by omega)]) (H 10 0 7).toNat (H, 0) ⟨by show (0 : Int) + _ = _; omega, by show (0 : Int) ≤ 0; omega, rfl⟩
  obtain ⟨s', e, -, -, hA⟩ := K
  refine ⟨s'.1, ?_, hA⟩
  unfold f_X8_rests
  exact e gFuel (fun s => some s.1) e2
theorem m_roads_idle {m : Int} {H : GS} (hW : Wf m (H 10 0)) (hI : ∀ t, 0 ≤ t → t < H 10 0 7 → H 10 0 (54 + 11 * t + 3) = 0) : f_X8_roads H = some H := by
  have hWh := hW.1
  unfold WfH at hWh
  obtain ⟨e1, e2⟩ := nT hW
  refine idx_loop (fun n (s : GS × Int) k => f_X8_roads_L2 n s.1 s.2 (fun a b => k (a, b))) (H 10 0 7).toNat (fun i => (H, (i : Int))) (fun n i k h1 => ?_) (fun n k => ?_) gFuel (fun s => some s.1) e2
  · have hi := hI i (by omega) (by omega)
    show f_X8_roads_L2 (n + 1) H i _ = f_X8_roads_L2 n H ((i + 1 : Nat) : Int) _
    have ei : ((i + 1 : Nat) : Int) = (i : Int) + 1 := by omega
    rw [ei, f_X8_roads_L2, gd_t ⟨by omega, by omega⟩, gd_t ⟨by omega, by omega⟩, if_pos (by omega), m_of ⟨by omega, by omega⟩, bn1_some, hi, gd_t (by decide), if_neg (by decide)]
  · show f_X8_roads_L2 (n + 1) H ((H 10 0 7).toNat : Int) _ = _
    rw [f_X8_roads_L2, gd_t ⟨by omega, by omega⟩, gd_t ⟨by omega, by omega⟩, if_neg (by omega)]

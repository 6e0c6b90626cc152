/-! A LETTER SENT ON, ON BOTH SIDES -/
theorem send_both {o m l : Int} {G H : GS} (hR : Rd G o (H 10 0)) (hW : Wf m (H 10 0)) (l0 : 0 ≤ l) (l1 : l < H 10 0 8) : ∃ G' H', (∀ k : GS → Option GS, bn1 (f_X3_hindrance G o l) (fun r9 => gd r9 (if r9 = 0 then bn1 (f_X3_sendLetter G o l) (fun G13 => k G13) else k G)) = k G') ∧ f_X8_goesOn H l = some H' ∧ Rd G' o (H' 10 0) ∧ Wf m (H' 10 0) ∧ frC o G G' ∧ (∀ k x f, ¬ (k = 10 ∧ x = 0) → H' k x f = H k x f) ∧ (∀ f, f < 54 → H' 10 0 f = H 10 0 f) ∧ (∀ x f, 0 ≤ x → x < 12 → x ≠ l → 0 ≤ f → f < 8 → H' 10 0 (164 + 8 * x + f) = H 10 0 (164 + 8 * x + f)) ∧ (∀ f, f = 2 ∨ f = 3 → H' 10 0 (164 + 8 * l + f) = H 10 0 (164 + 8 * l + f)) ∧ (wn (H 10 0) l ≠ 0 → G' = G ∧ H' = H) ∧ (wn (H 10 0) l = 0 → ∃ t, 0 ≤ t ∧ t < H 10 0 7 ∧ 0 < H' 10 0 (54 + 11 * t + 3)) ∧ (∀ t, 0 ≤ t → t < 10 → 0 < H 10 0 (54 + 11 * t + 3) → 0 < H' 10 0 (54 + 11 * t + 3)) := by
  have hWh := hW.1
  unfold WfH at hWh
  have rw := wn_r (H 10 0) l
  have cw := c_why hR hW l0 l1
  by_cases c : wn (H 10 0) l = 0
  · have wL := hW.2.2.2.2.1 l l0 l1
    have rL := hR.2.2.2.2.1 l l0 l1
    unfold WfL at wL
    unfold RdL at rL
    obtain ⟨a, ha⟩ : ∃ a, a = H 10 0 (164 + 8 * l + 4) := ⟨_, rfl⟩
    obtain ⟨b, hb⟩ : ∃ b, b = nx a (H 10 0 (164 + 8 * l + 1)) := ⟨_, rfl⟩
    obtain ⟨s, hs⟩ : ∃ s, s = sg a b := ⟨_, rfl⟩
    obtain ⟨t, ht⟩ : ∃ t, t = ft (H 10 0) a (H 10 0 7).toNat := ⟨_, rfl⟩
    obtain ⟨z6, z5, zf, zt, ze⟩ := wn_zero c ha hb hs ht
    have hne : a ≠ H 10 0 (164 + 8 * l + 1) := by rw [ha]; exact wL.2.2.2.2.2.2.2 z6 z5
    have wy := way_r (A := H 10 0) (a := a) (b := H 10 0 (164 + 8 * l + 1)) ⟨by omega, by omega⟩ ⟨by omega, by omega⟩ hne
    rw [← hb, ← hs] at wy
    have rt := ft_r (H 10 0) a (H 10 0 7).toNat
    rw [← ht] at rt
    have rt2 : 0 ≤ t ∧ t < H 10 0 7 := by omega
    have rT := hR.2.2.2.1 t rt2.1 rt2.2
    unfold RdT at rT
    have rS := hR.2.1 s wy.2.1.1 wy.2.1.2
    have wS := hW.2.1 s wy.2.1.1 wy.2.1.2
    unfold RdS at rS
    unfold WfS at wS
    have cf := c_fittest hR hW (n := a) ⟨by omega, by omega⟩
    rw [← ht] at cf
    obtain ⟨G', eg, fg, g2, g3, g4, g5, g6, k4, k5, k7⟩ := c_sendLetter (G := G) (o := o) (l := l) (a := a) (to := H 10 0 (164 + 8 * l + 1)) (b := b) (s := s) (t := t) (h := H 10 0 (9 + 3 * s)) ⟨by omega, by omega⟩ (by rw [rL.2.2.2.2.1, ha]) rL.2.1 ⟨by omega, by omega⟩ ⟨by omega, by omega⟩ hb hs ⟨by omega, by omega⟩ ⟨by omega, by omega⟩ cf ⟨by omega, by omega⟩ (by rw [rT.2.2.1]; omega) rS.1
    obtain ⟨H', eh, fh, b2, b3, b4, b10, m4, m5, m7⟩ := m_goes hW l0 l1 c ha hb hs ht hne zt ze
    obtain ⟨q1, q2⟩ := keep_send hR hW rt2.1 rt2.2 l0 l1 (a := a) (b := b) (s := s) (h := H 10 0 (9 + 3 * s)) (by omega) (by omega) z5 z6 wy.1 (by omega) (by omega) fg g2 g3 g4 g5 g6 k4 k5 k7 (fun f y1 y2 y3 y4 y5 y6 y7 => fh _ _ _ (by omega)) b2 b3 b4 b10 m4 m5 m7
    refine ⟨G', H', fun k => ?_, eh, q1, q2, fun k x f z => ?_, fun k x f z => fh _ _ _ (by omega), fun f z => fh _ _ _ (by omega), fun x f y1 y2 y3 y4 y5 => fh _ _ _ (by omega), fun f z => fh _ _ _ (by omega), fun z => absurd c z, fun _ => ⟨t, rt2.1, rt2.2, by rw [b3]; omega⟩, fun u y1 y2 y3 => ?_⟩
    · rw [cw, bn1_some, c, gd_t (by decide), if_pos rfl, eg, bn1_some]
    · unfold ofR at z
      exact fg _ _ _ (by omega) (by omega)
    · by_cases hu : u = t
      · rw [hu] at y3
        omega
      · rw [fh _ _ _ (by omega)]
        exact y3
  · refine ⟨G, H, fun k => ?_, m_stays hW l0 l1 c ⟨by omega, by omega⟩, hR, hW, frC_rf, fun _ _ _ _ => rfl, fun _ _ => rfl, fun _ _ _ _ _ _ _ => rfl, fun _ _ => rfl, fun _ => ⟨rfl, rfl⟩, fun z => absurd z c, fun _ _ _ z => z⟩
    rw [cw, bn1_some, gd_t ⟨by omega, by omega⟩, if_neg c]
/-! TEAMS THAT WALK BACK -/
/-- a team can walk now -/
def wk (A : Int → Int) (t : Int) : Prop := A (54 + 11 * t + 3) = 0 ∧ A (54 + 11 * t + 2) ≠ A (54 + 11 * t + 0) ∧ A (54 + 11 * t + 1) = 0 ∧ cnt (pLa A (A (54 + 11 * t + 2))) (A 8).toNat = 0 ∧ A (9 + 3 * sg (A (54 + 11 * t + 2)) (nx (A (54 + 11 * t + 2)) (A (54 + 11 * t + 0))) + 2) = 0 ∧ 0 < fb A (nx (A (54 + 11 * t + 2)) (A (54 + 11 * t + 0)))
set_option maxHeartbeats 4000000 in
theorem back_both {o m t : Int} {G H : GS} (hR : Rd G o (H 10 0)) (hW : Wf m (H 10 0)) (t0 : 0 ≤ t) (t1 : t < H 10 0 7) : ∃ G' H', (∀ n (k : GS → Int → Option GS), f_X3_sendTeamsBack_L2 o (n + 1) G t k = f_X3_sendTeamsBack_L2 o n G' (t + 1) k) ∧ (∀ n (k : GS → Int → Option GS), f_X8_walkBack_L2 (n + 1) H t k = f_X8_walkBack_L2 n H' (t + 1) k) ∧ Rd G' o (H' 10 0) ∧ Wf m (H' 10 0) ∧ frC o G G' ∧ (∀ k x f, ¬ (k = 10 ∧ x = 0) → H' k x f = H k x f) ∧ (∀ f, f < 54 → H' 10 0 f = H 10 0 f) ∧ (¬ wk (H 10 0) t → H' = H) ∧ (wk (H 10 0) t → 0 < H' 10 0 (54 + 11 * t + 3)) ∧ (∀ u, 0 ≤ u → u < 10 → 0 < H 10 0 (54 + 11 * u + 3) → 0 < H' 10 0 (54 + 11 * u + 3)) := by
  have hWh := hW.1
  unfold WfH at hWh
  have r5 : G 3 o 5 = H 10 0 7 := hR.1.2.1
  have rT := hR.2.2.2.1 t t0 t1
  have wT := hW.2.2.2.1 t t0 t1
  unfold RdT at rT
  unfold WfT at wT
  obtain ⟨y0, y1, y2, y5, y6, y7, y8, y9, y10, y11, y4, y3a, y3b⟩ := rT
  have stay : ¬ wk (H 10 0) t → (∀ n (k : GS → Int → Option GS), f_X3_sendTeamsBack_L2 o (n + 1) G t k = f_X3_sendTeamsBack_L2 o n G (t + 1) k) → (∀ n (k : GS → Int → Option GS), f_X8_walkBack_L2 (n + 1) H t k = f_X8_walkBack_L2 n H (t + 1) k) → ∃ G' H', (∀ n (k : GS → Int → Option GS), f_X3_sendTeamsBack_L2 o (n + 1) G t k = f_X3_sendTeamsBack_L2 o n G' (t + 1) k) ∧ (∀ n (k : GS → Int → Option GS), f_X8_walkBack_L2 (n + 1) H t k = f_X8_walkBack_L2 n H' (t + 1) k) ∧ Rd G' o (H' 10 0) ∧ Wf m (H' 10 0) ∧ frC o G G' ∧ (∀ k x f, ¬ (k = 10 ∧ x = 0) → H' k x f = H k x f) ∧ (∀ f, f < 54 → H' 10 0 f = H 10 0 f) ∧ (¬ wk (H 10 0) t → H' = H) ∧ (wk (H 10 0) t → 0 < H' 10 0 (54 + 11 * t + 3)) ∧ (∀ u, 0 ≤ u → u < 10 → 0 < H 10 0 (54 + 11 * u + 3) → 0 < H' 10 0 (54 + 11 * u + 3)) := fun z e1 e2 => ⟨G, H, e1, e2, hR, hW, frC_rf, fun _ _ _ _ => rfl, fun _ _ => rfl, fun _ => rfl, fun w => absurd w z, fun _ _ _ w => w⟩
  have b1 : ∀ n (k : GS → Int → Option GS), f_X3_sendTeamsBack_L2 o (n + 1) G t k = bn1 (f_X6_stands G (10 * o + t)) (fun r6 => gd r6 (if r6 = 0 then f_X3_sendTeamsBack_L2 o n G (t + 1) k else gd (G 6 (10 * o + t) 2) (gd (G 6 (10 * o + t) 0) (if (G 6 (10 * o + t) 2) = (G 6 (10 * o + t) 0) then f_X3_sendTeamsBack_L2 o n G (t + 1) k else gd (G 6 (10 * o + t) 1) (if (G 6 (10 * o + t) 1) = 0 then bn1 (f_X3_lettersAt G o (G 6 (10 * o + t) 2)) (fun r15 => gd r15 (if r15 = 0 then bn1 (f_X3_sendBack G o (10 * o + t)) (fun G19 => f_X3_sendTeamsBack_L2 o n G19 (t + 1) k) else f_X3_sendTeamsBack_L2 o n G (t + 1) k)) else f_X3_sendTeamsBack_L2 o n G (t + 1) k))))) := fun n k => by
    rw [f_X3_sendTeamsBack_L2, gd_t ⟨by omega, by omega⟩, gd_t ⟨by omega, by omega⟩, if_pos (by omega), ga_t ⟨by omega, by omega⟩]
  unfold f_X6_stands at b1
  rw [y2, y1, y0] at b1
  have a2 : f_X8_of H t 2 = some (H 10 0 (54 + 11 * t + 2)) := m_of ⟨by omega, by omega⟩
  have a3 : f_X8_of H t 3 = some (H 10 0 (54 + 11 * t + 3)) := m_of ⟨by omega, by omega⟩
  have a0 : f_X8_of H t 0 = some (H 10 0 (54 + 11 * t + 0)) := m_of ⟨by omega, by omega⟩
  have a1 : f_X8_of H t 1 = some (H 10 0 (54 + 11 * t + 1)) := m_of ⟨by omega, by omega⟩
  by_cases c3 : H 10 0 (54 + 11 * t + 3) = 0
  · have cS : G 6 (10 * o + t) 3 = -1 := y3a c3
    rw [cS] at b1
    by_cases c2 : H 10 0 (54 + 11 * t + 2) = H 10 0 (54 + 11 * t + 0)
    · refine stay (fun z => z.2.1 c2) (fun n k => ?_) (fun n k => ?_)
      · rw [b1, gd_t (by decide), if_pos rfl, bn1_some, gd_t (by decide), if_neg (by decide), gd_t ⟨by omega, by omega⟩, gd_t ⟨by omega, by omega⟩, if_pos c2]
      · rw [f_X8_walkBack_L2, gd_t ⟨by omega, by omega⟩, gd_t ⟨by omega, by omega⟩, if_pos t1, a2, bn1_some, a3, bn1_some, gd_t ⟨by omega, by omega⟩, if_pos c3, a0, bn1_some, gd_t ⟨by omega, by omega⟩, gd_t ⟨by omega, by omega⟩, if_pos c2]
    · by_cases c1 : H 10 0 (54 + 11 * t + 1) = 0
      · have cl := cnt_le (pLa (H 10 0) (H 10 0 (54 + 11 * t + 2))) (H 10 0 8).toNat
        by_cases cL : cnt (pLa (H 10 0) (H 10 0 (54 + 11 * t + 2))) (H 10 0 8).toNat = 0
        · -- where it goes
          have wy := way_r (A := H 10 0) (a := H 10 0 (54 + 11 * t + 2)) (b := H 10 0 (54 + 11 * t + 0)) ⟨by omega, by omega⟩ ⟨by omega, by omega⟩ c2
          obtain ⟨b, hb⟩ : ∃ b, b = nx (H 10 0 (54 + 11 * t + 2)) (H 10 0 (54 + 11 * t + 0)) := ⟨_, rfl⟩
          rw [← hb] at wy
          obtain ⟨s, hs⟩ : ∃ s, s = sg (H 10 0 (54 + 11 * t + 2)) b := ⟨_, rfl⟩
          rw [← hs] at wy
          have rS := hR.2.1 s wy.2.1.1 wy.2.1.2
          have wS := hW.2.1 s wy.2.1.1 wy.2.1.2
          unfold RdS at rS
          unfold WfS at wS
          have rf := fb_r hW wy.1.1 wy.1.2
          have rB := hR.2.2.1 b wy.1.1 wy.1.2
          have wB := hW.2.2.1 b wy.1.1 wy.1.2
          unfold RdN at rB
          unfold WfN at wB
          have hc := cnt_le (pAt (H 10 0) b) (H 10 0 7).toNat
          have hWh := hW.1
          unfold WfH at hWh
          have eb1 : (if H 10 0 (54 + 11 * t + 2) < H 10 0 (54 + 11 * t + 0) then H 10 0 (54 + 11 * t + 2) + 1 else H 10 0 (54 + 11 * t + 2) - 1) = b := hb.symm
          have es1 : (if H 10 0 (54 + 11 * t + 2) < b then H 10 0 (54 + 11 * t + 2) else b) = s := hs.symm
          have b9 : ∀ n (k : GS → Int → Option GS), f_X3_sendTeamsBack_L2 o (n + 1) G t k = bn1 (f_X3_sendBack G o (10 * o + t)) (fun G19 => f_X3_sendTeamsBack_L2 o n G19 (t + 1) k) := fun n k => by
            rw [b1, gd_t (by decide), if_pos rfl, bn1_some, gd_t (by decide), if_neg (by decide), gd_t ⟨by omega, by omega⟩, gd_t ⟨by omega, by omega⟩, if_neg c2, c1, gd_t (by decide), if_pos rfl, c_lettersAt hR hW ⟨by omega, by omega⟩, bn1_some, cL, gd_t (by decide), if_pos rfl]
          have d9 : ∀ n (k : GS → Int → Option GS), f_X8_walkBack_L2 (n + 1) H t k = (if H 10 0 (9 + 3 * s + 2) = 0 then (if 0 < fb (H 10 0) b then bn1 (f_X8_leaves H t b (2 * H 10 0 (9 + 3 * s))) (fun G39 => bn1 (f_X8_teamAt G39 t 5) (fun r41 => ga r41 260 (f_X8_walkBack_L2 n (gup G39 10 0 r41 1) (t + 1) k))) else f_X8_walkBack_L2 n H (t + 1) k) else f_X8_walkBack_L2 n H (t + 1) k) := fun n k => by
            rw [f_X8_walkBack_L2, gd_t ⟨by omega, by omega⟩, gd_t ⟨by omega, by omega⟩, if_pos t1, a2, bn1_some, a3, bn1_some, gd_t ⟨by omega, by omega⟩, if_pos c3, a0, bn1_some, gd_t ⟨by omega, by omega⟩, gd_t ⟨by omega, by omega⟩, if_neg c2, a1, bn1_some, c1, gd_t (by decide), if_pos rfl, m_lettersAt hW ⟨by omega, by omega⟩, bn1_some, cL, gd_t (by decide), if_pos rfl, bn1_some, m_toward ⟨by omega, by omega⟩ ⟨by omega, by omega⟩, bn1_some, eb1, m_between ⟨by omega, by omega⟩ ⟨by omega, by omega⟩, bn1_some, es1, m_blocked ⟨by omega, by omega⟩ wS.2.2, bn1_some, gd_t ⟨by omega, by omega⟩, m_freeBeds hW wy.1.1 wy.1.2, bn1_some, gd_t ⟨by omega, by omega⟩, m_hours ⟨by omega, by omega⟩, bn1_some]
          have s9 : f_X3_sendBack G o (10 * o + t) = (if H 10 0 (9 + 3 * s + 2) = 0 then (if 0 < fb (H 10 0) b then bn1 (f_X6_setOut G (10 * o + t) b (2 * H 10 0 (9 + 3 * s))) (fun G13 => some (gup G13 6 (10 * o + t) 7 1)) else some G) else some G) := by
            unfold f_X3_sendBack
            rw [y2, y0, c_next ⟨by omega, by omega⟩ ⟨by omega, by omega⟩, bn1_some, ← hb, c_between ⟨by omega, by omega⟩ ⟨by omega, by omega⟩, bn1_some, ← hs, ga_t ⟨by omega, by omega⟩, rS.2.2, gd_t ⟨by omega, by omega⟩, c_bedsTaken hR hW ⟨by omega, by omega⟩, bn1_some, ga_t ⟨by omega, by omega⟩, gd_t ⟨by omega, by omega⟩, rB.1, gd_t ⟨by omega, by omega⟩, rS.1]
            by_cases dB : H 10 0 (9 + 3 * s + 2) = 0
            · rw [if_pos dB, if_pos dB]
              by_cases dF : 0 < fb (H 10 0) b
              · rw [if_pos dF, if_pos ((fb_p (H 10 0) b).mp dF)]
              · rw [if_neg dF, if_neg (fun z => dF ((fb_p (H 10 0) b).mpr z))]
            · rw [if_neg dB, if_neg dB]
          by_cases dB : H 10 0 (9 + 3 * s + 2) = 0
          · by_cases dF : 0 < fb (H 10 0) b
            · rw [if_pos dB, if_pos dF] at s9
              obtain ⟨Ga, ea, fa, v2, v3, v4, v5⟩ := c_setOut (G := G) (p := 10 * o + t) (a := H 10 0 (54 + 11 * t + 2)) (b := b) (h := 2 * H 10 0 (9 + 3 * s)) y2 ⟨by omega, by omega⟩ ⟨by omega, by omega⟩
              obtain ⟨Gb, eb, fb, vb⟩ := gup_ex Ga 6 (10 * o + t) 7 1
              obtain ⟨Ha, eh, fh, w2, w3, w10⟩ := m_leaves (H := H) (t := t) (b := b) (h := 2 * H 10 0 (9 + 3 * s)) ⟨by omega, by omega⟩
              obtain ⟨Hb, ek, fk, vk⟩ := gup_ex Ha 10 0 (54 + 11 * t + 5) 1
              obtain ⟨q1, q2⟩ := keep_back (G' := Gb) (H' := Hb) hR hW t0 t1 (a := H 10 0 (54 + 11 * t + 2)) (b := b) (s := s) (h := 2 * H 10 0 (9 + 3 * s)) rfl c3 wy.1 (by omega) (by omega) (fun k x f z => by rw [fb _ _ _ (by omega), fa _ _ _ (by omega)]) (by rw [fb _ _ _ (by omega), v2]) (by rw [fb _ _ _ (by omega), v3, hs]) (by rw [fb _ _ _ (by omega), v4]) (by rw [fb _ _ _ (by omega), v5]) vb (fun f z1 z2 z3 z4 => by rw [fk _ _ _ (by omega), fh _ _ _ (by omega)]) (by rw [fk _ _ _ (by omega), w2]) (by rw [fk _ _ _ (by omega), w3]) vk (by rw [fk _ _ _ (by omega), w10])
              refine ⟨Gb, Hb, fun n k => ?_, fun n k => ?_, q1, q2, fun k x f z => ?_, fun k x f z => ?_, fun f z => ?_, fun z => ?_, fun _ => ?_, fun u z1 z2 z3 => ?_⟩
              · rw [b9, s9, ea, bn1_some, eb, bn1_some]
              · rw [d9, if_pos dB, if_pos dF, eh, bn1_some, m_teamAt, bn1_some, ga_t ⟨by omega, by omega⟩, ek]
              · unfold ofR at z
                rw [fb _ _ _ (by omega), fa _ _ _ (by omega)]
              · rw [fk _ _ _ (by omega), fh _ _ _ (by omega)]
              · rw [fk _ _ _ (by omega), fh _ _ _ (by omega)]
              · exact absurd (show wk (H 10 0) t from ⟨c3, c2, c1, cL, by rw [← hb, ← hs]; exact dB, by rw [← hb]; exact dF⟩) z
              · rw [fk _ _ _ (by omega), w3]
                omega
              · by_cases hu : u = t
                · rw [hu] at z3
                  omega
                · rw [fk _ _ _ (by omega), fh _ _ _ (by omega)]
                  exact z3
            · refine stay (fun z => dF (by have := z.2.2.2.2.2; rw [← hb] at this; exact this)) (fun n k => ?_) (fun n k => ?_)
              · rw [b9, s9, if_pos dB, if_neg dF, bn1_some]
              · rw [d9, if_pos dB, if_neg dF]
          · refine stay (fun z => dB (by have := z.2.2.2.2.1; rw [← hb, ← hs] at this; exact this)) (fun n k => ?_) (fun n k => ?_)
            · rw [b9, s9, if_neg dB, bn1_some]
            · rw [d9, if_neg dB]
        · refine stay (fun z => cL z.2.2.2.1) (fun n k => ?_) (fun n k => ?_)
          · rw [b1, gd_t (by decide), if_pos rfl, bn1_some, gd_t (by decide), if_neg (by decide), gd_t ⟨by omega, by omega⟩, gd_t ⟨by omega, by omega⟩, if_neg c2, c1, gd_t (by decide), if_pos rfl, c_lettersAt hR hW ⟨by omega, by omega⟩, bn1_some, gd_t ⟨by omega, by omega⟩, if_neg cL]
          · rw [f_X8_walkBack_L2, gd_t ⟨by omega, by omega⟩, gd_t ⟨by omega, by omega⟩, if_pos t1, a2, bn1_some, a3, bn1_some, gd_t ⟨by omega, by omega⟩, if_pos c3, a0, bn1_some, gd_t ⟨by omega, by omega⟩, gd_t ⟨by omega, by omega⟩, if_neg c2, a1, bn1_some, c1, gd_t (by decide), if_pos rfl, m_lettersAt hW ⟨by omega, by omega⟩, bn1_some, gd_t ⟨by omega, by omega⟩, if_neg cL]
      · refine stay (fun z => c1 z.2.2.1) (fun n k => ?_) (fun n k => ?_)
        · rw [b1, gd_t (by decide), if_pos rfl, bn1_some, gd_t (by decide), if_neg (by decide), gd_t ⟨by omega, by omega⟩, gd_t ⟨by omega, by omega⟩, if_neg c2, gd_t ⟨by omega, by omega⟩, if_neg c1]
        · rw [f_X8_walkBack_L2, gd_t ⟨by omega, by omega⟩, gd_t ⟨by omega, by omega⟩, if_pos t1, a2, bn1_some, a3, bn1_some, gd_t ⟨by omega, by omega⟩, if_pos c3, a0, bn1_some, gd_t ⟨by omega, by omega⟩, gd_t ⟨by omega, by omega⟩, if_neg c2, a1, bn1_some, gd_t ⟨by omega, by omega⟩, if_neg c1]
  · have cS : ¬ G 6 (10 * o + t) 3 = -1 := by omega
    refine stay (fun z => c3 z.1) (fun n k => ?_) (fun n k => ?_)
    · rw [b1, gd_t ⟨by omega, by omega⟩, if_neg cS, bn1_some, gd_t (by decide), if_pos rfl]
    · rw [f_X8_walkBack_L2, gd_t ⟨by omega, by omega⟩, gd_t ⟨by omega, by omega⟩, if_pos t1, a2, bn1_some, a3, bn1_some, gd_t ⟨by omega, by omega⟩, if_neg c3]

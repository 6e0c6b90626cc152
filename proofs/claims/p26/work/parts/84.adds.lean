/-! A TEAM ADDED -/
theorem arr_loop2 {α κ : Type} (ap : κ → GS → Int → Option α) (L : Nat → GS → Int → κ → Option α) (N : Nat) (a b : Int) (v : Int → Int) (G0 : GS)
    (step : ∀ G i, 0 ≤ i → i < (N : Int) → (∀ k x f, ¬ (k = 10 ∧ x = a ∧ b ≤ f ∧ f < b + i) → G k x f = G0 k x f) → ∀ n k, L (n + 1) G i k = L n (gup G 10 a (b + i) (v i)) (i + 1) k)
    (fin : ∀ G, (∀ k x f, ¬ (k = 10 ∧ x = a ∧ b ≤ f ∧ f < b + (N : Int)) → G k x f = G0 k x f) → ∀ n k, L (n + 1) G N k = ap k G N) :
    ∃ G', (∀ n k, N < n → L n G0 0 k = ap k G' N) ∧ (∀ k x f, ¬ (k = 10 ∧ x = a ∧ b ≤ f ∧ f < b + (N : Int)) → G' k x f = G0 k x f) ∧ ∀ j : Int, 0 ≤ j → j < (N : Int) → G' 10 a (b + j) = v j := by
  have main : ∀ (d : Nat) (i : Nat) (G : GS), i + d = N → (∀ k x f, ¬ (k = 10 ∧ x = a ∧ b ≤ f ∧ f < b + (i : Int)) → G k x f = G0 k x f) → (∀ j : Int, 0 ≤ j → j < (i : Int) → G 10 a (b + j) = v j) → ∃ G', (∀ n k, d < n → L n G i k = ap k G' N) ∧ (∀ k x f, ¬ (k = 10 ∧ x = a ∧ b ≤ f ∧ f < b + (N : Int)) → G' k x f = G0 k x f) ∧ ∀ j : Int, 0 ≤ j → j < (N : Int) → G' 10 a (b + j) = v j := by
    intro d
    induction d with
    | zero =>
      intro i G hi hf hv
      have e : i = N := by omega
      subst e
      refine ⟨G, fun n k hn => ?_, hf, hv⟩
      obtain ⟨n, rfl⟩ : ∃ q, n = q + 1 := ⟨n - 1, by omega⟩
      exact fin G hf n k
    | succ d ih =>
      intro i G hi hf hv
      obtain ⟨Ga, ea, fa, va⟩ := gup_ex G 10 a (b + i) (v i)
      have ei : ((i + 1 : Nat) : Int) = (i : Int) + 1 := by omega
      obtain ⟨G', q1, q2, q3⟩ := ih (i + 1) Ga (by omega) (fun k x f z => by rw [fa _ _ _ (by omega), hf _ _ _ (by omega)]) (fun j z1 z2 => by
        by_cases hj : j = i
        · rw [hj, va]
        · rw [fa _ _ _ (by omega)]
          exact hv j z1 (by omega))
      rw [ei] at q1
      refine ⟨G', fun n k hn => ?_, q2, q3⟩
      obtain ⟨n, rfl⟩ : ∃ q, n = q + 1 := ⟨n - 1, by omega⟩
      rw [step G i (by omega) (by omega) hf n k, ea]
      exact q1 n k (by omega)
  exact main N 0 G0 (by omega) (fun _ _ _ _ => rfl) (fun j z1 z2 => by omega)
theorem keep_add {G G' : GS} {o m t home tired : Int} {A A' : Int → Int} (hR : Rd G o A) (hW : Wf m A) (ht : A 7 = t) (h7 : t < 10) (hh : 0 ≤ home ∧ home < A 0) (hi : 0 ≤ tired ∧ tired ≤ 100)
    (hG : ∀ k x f, ¬ (k = 6 ∧ x = 10 * o + t) → ¬ (k = 3 ∧ x = o ∧ f = 5) → G' k x f = G k x f) (g5 : G' 3 o 5 = t + 1) (g : G' 6 (10 * o + t) 0 = home ∧ G' 6 (10 * o + t) 1 = tired ∧ G' 6 (10 * o + t) 2 = home ∧ G' 6 (10 * o + t) 3 = -1 ∧ G' 6 (10 * o + t) 4 = 0 ∧ G' 6 (10 * o + t) 5 = 0 ∧ G' 6 (10 * o + t) 6 = -1 ∧ G' 6 (10 * o + t) 7 = 0 ∧ G' 6 (10 * o + t) 8 = 0 ∧ G' 6 (10 * o + t) 9 = 0 ∧ G' 6 (10 * o + t) 10 = 0 ∧ G' 6 (10 * o + t) 11 = 0)
    (hA : ∀ f, f ≠ 7 → ¬ (54 + 11 * t ≤ f ∧ f < 54 + 11 * t + 11) → A' f = A f) (a7 : A' 7 = t + 1) (a : A' (54 + 11 * t + 0) = home ∧ A' (54 + 11 * t + 1) = tired ∧ A' (54 + 11 * t + 2) = home ∧ A' (54 + 11 * t + 3) = 0 ∧ A' (54 + 11 * t + 4) = -1 ∧ A' (54 + 11 * t + 5) = 0 ∧ A' (54 + 11 * t + 6) = 0 ∧ A' (54 + 11 * t + 7) = 0 ∧ A' (54 + 11 * t + 8) = 0 ∧ A' (54 + 11 * t + 9) = 0) : Rd G' o A' ∧ Wf m A' := by
  have hWh := hW.1
  unfold WfH at hWh
  obtain ⟨g0, g1, g2, g3, g4, g6, g7, g8, g9, g10, g11, g12⟩ := g
  obtain ⟨a0, a1, a2, a3, a4, a5, a6, a8, a9, a10⟩ := a
  have e0 : A' 0 = A 0 := hA 0 (by omega) (by omega)
  have e1 : A' 1 = A 1 := hA 1 (by omega) (by omega)
  have e8 : A' 8 = A 8 := hA 8 (by omega) (by omega)
  have aL : ∀ x f, 0 ≤ x → 0 ≤ f → A' (164 + 8 * x + f) = A (164 + 8 * x + f) := fun x f h2 h4 => hA _ (by omega) (by omega)
  have aT : ∀ u f, 0 ≤ u → 0 ≤ f → f < 11 → u ≠ t → A' (54 + 11 * u + f) = A (54 + 11 * u + f) := fun u f h2 h4 h5 h6 => hA _ (by omega) (by omega)
  constructor
  · obtain ⟨r1, r2, r3, r4, r5, r6, r7⟩ := hR
    refine ⟨?_, fun s h1 h2 => ?_, fun n h1 h2 => ?_, fun u h1 h2 => ?_, fun l h1 h2 => ?_, fun s h1 h2 => ?_, fun n h1 h2 => ?_⟩
    · unfold RdH at r1 ⊢
      rw [g5, a7, e0, e8, e1, hG 3 o 4 (by omega) (by omega), hG 3 o 6 (by omega) (by omega), hG 3 o 7 (by omega) (by omega), hG 3 o 8 (by omega) (by omega), hG 3 o 9 (by omega) (by omega), hG 3 o 10 (by omega) (by omega), hG 3 o 11 (by omega) (by omega), hG 3 o 12 (by omega) (by omega), hA 2 (by omega) (by omega), hA 3 (by omega) (by omega), hA 4 (by omega) (by omega), hA 5 (by omega) (by omega), hA 6 (by omega) (by omega)]
      exact ⟨r1.1, rfl, r1.2.2⟩
    · exact RdS_c (r2 s h1 (by omega)) (fun f => hG _ _ _ (by omega) (by omega)) ⟨hA _ (by omega) (by omega), hA _ (by omega) (by omega), hA _ (by omega) (by omega)⟩
    · exact RdN_c (r3 n h1 (by omega)) (fun f => hG _ _ _ (by omega) (by omega)) ⟨hA _ (by omega) (by omega), hA _ (by omega) (by omega), hA _ (by omega) (by omega)⟩
    · by_cases hu : u = t
      · subst hu
        unfold RdT
        rw [g0, g1, g2, g3, g4, g6, g7, g8, g9, g10, g11, g12, a0, a1, a2, a3, a4, a5, a6, a8, a9, a10]
        exact ⟨rfl, rfl, rfl, rfl, rfl, rfl, rfl, rfl, rfl, rfl, Or.inl rfl, fun _ => rfl, fun z => absurd z (by decide)⟩
      · exact RdT_c (r4 u h1 (by omega)) (fun f => hG _ _ _ (by omega) (by omega)) (fun f h4 h5 => aT u f h1 h4 h5 hu)
    · exact RdL_c (r5 l h1 (by omega)) (fun f => hG _ _ _ (by omega) (by omega)) (fun f h4 h5 => aL l f h1 h4)
    · rw [hG _ _ _ (by omega) (by omega)]; exact r6 s h1 h2
    · rw [hG _ _ _ (by omega) (by omega)]; exact r7 n h1 h2
  · obtain ⟨w1, w2, w3, w4, w5, w6, w7, w8⟩ := hW
    refine ⟨?_, fun s h1 h2 => ?_, fun n h1 h2 => ?_, fun u h1 h2 => ?_, fun l h1 h2 => ?_, fun l h1 h2 => ?_, fun u h1 h2 => ?_, fun l l' h1 h2 h3 => ?_⟩
    · unfold WfH
      rw [e0, a7, e8, e1]
      omega
    · have r := w2 s h1 (by omega)
      unfold WfS at r ⊢
      rw [hA _ (by omega) (by omega), hA _ (by omega) (by omega), hA _ (by omega) (by omega)]
      exact r
    · have r := w3 n h1 (by omega)
      unfold WfN at r ⊢
      rw [hA _ (by omega) (by omega), hA _ (by omega) (by omega), hA _ (by omega) (by omega)]
      exact r
    · by_cases hu : u = t
      · subst hu
        unfold WfT
        rw [a0, a1, a2, a3, a4, a5, e0]
        exact ⟨hh, hi, hh, by omega, fun _ => ⟨rfl, rfl⟩, fun z => absurd z (by decide)⟩
      · exact WfT_c (w4 u h1 (by omega)) e0 e8 (fun f h4 h5 => aT u f h1 h4 h5 hu)
    · have r := w5 l h1 (by omega)
      unfold WfL at r ⊢
      rw [aL l 1 h1 (by decide), aL l 2 h1 (by decide), aL l 3 h1 (by decide), aL l 4 h1 (by decide), aL l 5 h1 (by decide), aL l 6 h1 (by decide), e0, e1, a7]
      obtain ⟨y1, y2, y3, y4, y5, y6⟩ := r
      exact ⟨y1, y2, y3, y4, by omega, y6⟩
    · have r := w6 l h1 (by omega)
      have w := w5 l h1 (by omega)
      unfold WfL at w
      unfold WfX at r ⊢
      rw [aL l 5 h1 (by decide)]
      intro hz
      rw [aT _ 3 (by omega) (by omega) (by omega) (by omega), aT _ 4 (by omega) (by omega) (by omega) (by omega), aT _ 5 (by omega) (by omega) (by omega) (by omega)]
      exact r hz
    · by_cases hu : u = t
      · subst hu
        unfold WfY
        rw [a3]
        exact fun z => absurd z (by decide)
      · have r := w7 u h1 (by omega)
        have w := w4 u h1 (by omega)
        unfold WfT at w
        unfold WfY at r ⊢
        rw [aT u 3 h1 (by decide) (by decide) hu, aT u 5 h1 (by decide) (by decide) hu, aT u 4 h1 (by decide) (by decide) hu, aT u 2 h1 (by decide) (by decide) hu]
        intro hx hy
        rw [aL _ 5 (by omega) (by decide), aL _ 4 (by omega) (by decide), aL _ 6 (by omega) (by decide)]
        exact r hx hy
    · rw [aL l 3 h1 (by decide), aL l' 3 (by omega) (by decide)]
      exact w8 l l' h1 h2 (by omega)
theorem c_place {G : GS} {o t p1 p2 : Int} (ht : G 3 o 5 = t) (h0 : 0 ≤ t ∧ t < 10) : ∃ G', f_X3_placeTeam G o p1 p2 = some (G', t) ∧ (∀ k x f, ¬ (k = 6 ∧ x = 10 * o + t) → ¬ (k = 3 ∧ x = o ∧ f = 5) → G' k x f = G k x f) ∧ G' 3 o 5 = t + 1 ∧ (G' 6 (10 * o + t) 0 = p1 ∧ G' 6 (10 * o + t) 1 = p2 ∧ G' 6 (10 * o + t) 2 = p1 ∧ G' 6 (10 * o + t) 3 = -1 ∧ G' 6 (10 * o + t) 4 = 0 ∧ G' 6 (10 * o + t) 5 = 0 ∧ G' 6 (10 * o + t) 6 = -1 ∧ G' 6 (10 * o + t) 7 = 0 ∧ G' 6 (10 * o + t) 8 = 0 ∧ G' 6 (10 * o + t) 9 = 0 ∧ G' 6 (10 * o + t) 10 = 0 ∧ G' 6 (10 * o + t) 11 = 0) := by
  obtain ⟨p, hp⟩ : ∃ p, p = 10 * o + t := ⟨_, rfl⟩
  obtain ⟨Ga, ea, fa, va⟩ := gup_ex G 6 p 0 p1
  obtain ⟨Gb, eb, fb, vb⟩ := gup_ex Ga 6 p 1 p2
  obtain ⟨Gc, ec, fc, c2, c3, c5, c6, c7⟩ := c_stand (G := Gb) (p := p) (i := p1)
  obtain ⟨Gd, ed, fd, vd⟩ := gup_ex Gc 6 p 4 0
  obtain ⟨Ge, ee, fe, ve⟩ := gup_ex Gd 6 p 8 0
  obtain ⟨Gf, ef, ff, vf⟩ := gup_ex Ge 6 p 9 0
  obtain ⟨Gg, eg, fg, vg⟩ := gup_ex Gf 6 p 10 0
  obtain ⟨Gh, eh, fh, vh⟩ := gup_ex Gg 6 p 11 0
  obtain ⟨Gi, ei, fi, vi⟩ := gup_ex Gh 3 o 5 (Gh 3 o 5 + 1)
  have v5 : Gi 3 o 5 = t + 1 := by rw [vi, fh _ _ _ (by omega), fg _ _ _ (by omega), ff _ _ _ (by omega), fe _ _ _ (by omega), fd _ _ _ (by omega), fc _ _ _ (by omega), fb _ _ _ (by omega), fa _ _ _ (by omega), ht]
  have r : ∀ f, f ≠ 11 → f ≠ 10 → f ≠ 9 → f ≠ 8 → f ≠ 4 → Gi 6 p f = Gc 6 p f := fun f z1 z2 z3 z4 z5 => by rw [fi _ _ _ (by omega), fh _ _ _ (by omega), fg _ _ _ (by omega), ff _ _ _ (by omega), fe _ _ _ (by omega), fd _ _ _ (by omega)]
  refine ⟨Gi, ?_, fun k x f z1 z2 => ?_, v5, ?_⟩
  · unfold f_X3_placeTeam f_X6_begin
    rw [ht, ga_t h0, ← hp, ea, eb, ec, bn1_some, ed, ee, ef, eg, eh, bn1_some, ei, v5]
    exact congrArg (fun z => some (Gi, z)) (by omega)
  · rw [fi _ _ _ (by omega), fh _ _ _ (by omega), fg _ _ _ (by omega), ff _ _ _ (by omega), fe _ _ _ (by omega), fd _ _ _ (by omega), fc _ _ _ (by omega), fb _ _ _ (by omega), fa _ _ _ (by omega)]
  · rw [← hp]
    refine ⟨?_, ?_, ?_, ?_, ?_, ?_, ?_, ?_, ?_, ?_, ?_, ?_⟩
    · rw [r 0 (by decide) (by decide) (by decide) (by decide) (by decide), fc _ _ _ (by omega), fb _ _ _ (by omega), va]
    · rw [r 1 (by decide) (by decide) (by decide) (by decide) (by decide), fc _ _ _ (by omega), vb]
    · rw [r 2 (by decide) (by decide) (by decide) (by decide) (by decide), c2]
    · rw [r 3 (by decide) (by decide) (by decide) (by decide) (by decide), c3]
    · rw [fi _ _ _ (by omega), fh _ _ _ (by omega), fg _ _ _ (by omega), ff _ _ _ (by omega), fe _ _ _ (by omega), vd]
    · rw [r 5 (by decide) (by decide) (by decide) (by decide) (by decide), c5]
    · rw [r 6 (by decide) (by decide) (by decide) (by decide) (by decide), c6]
    · rw [r 7 (by decide) (by decide) (by decide) (by decide) (by decide), c7]
    · rw [fi _ _ _ (by omega), fh _ _ _ (by omega), fg _ _ _ (by omega), ff _ _ _ (by omega), ve]
    · rw [fi _ _ _ (by omega), fh _ _ _ (by omega), fg _ _ _ (by omega), vf]
    · rw [fi _ _ _ (by omega), fh _ _ _ (by omega), vg]
    · rw [fi _ _ _ (by omega), vh]
theorem m_adds {H : GS} {t p1 p2 : Int} (ht : H 10 0 7 = t) (h0 : 0 ≤ t ∧ t < 10) : ∃ H', f_X8_adds H p1 p2 = some H' ∧ (∀ k x f, ¬ (k = 10 ∧ x = 0) → H' k x f = H k x f) ∧ (∀ f, f ≠ 7 → ¬ (54 + 11 * t ≤ f ∧ f < 54 + 11 * t + 11) → H' 10 0 f = H 10 0 f) ∧ H' 10 0 7 = t + 1 ∧ (H' 10 0 (54 + 11 * t + 0) = p1 ∧ H' 10 0 (54 + 11 * t + 1) = p2 ∧ H' 10 0 (54 + 11 * t + 2) = p1 ∧ H' 10 0 (54 + 11 * t + 3) = 0 ∧ H' 10 0 (54 + 11 * t + 4) = -1 ∧ H' 10 0 (54 + 11 * t + 5) = 0 ∧ H' 10 0 (54 + 11 * t + 6) = 0 ∧ H' 10 0 (54 + 11 * t + 7) = 0 ∧ H' 10 0 (54 + 11 * t + 8) = 0 ∧ H' 10 0 (54 + 11 * t + 9) = 0 ∧ H' 10 0 (54 + 11 * t + 10) = 0) := by
  obtain ⟨Ha, ea, fa, va⟩ := arr_loop2 (α := GS) (κ := GS → Int → Int → Option GS) (fun k G z => k G t z) (fun n G i k => f_X8_adds_L11 p1 p2 n G t i k) 11 0 (54 + 11 * t) (fun _ => 0) H (fun G i z1 z2 hG n k => by
    rw [f_X8_adds_L11, gd_t ⟨by omega, by omega⟩, if_pos (by omega), m_teamAt, bn1_some, ga_t ⟨by omega, by omega⟩]) (fun G hG n k => by
    rw [f_X8_adds_L11, gd_t (by decide), if_neg (by decide)])
  obtain ⟨Hb, eb, fb, vb⟩ := gup_ex Ha 10 0 (54 + 11 * t + 0) p1
  obtain ⟨Hc, ec, fc, vc⟩ := gup_ex Hb 10 0 (54 + 11 * t + 1) p2
  obtain ⟨Hd, ed, fd, vd⟩ := gup_ex Hc 10 0 (54 + 11 * t + 2) p1
  obtain ⟨He, ee, fe, ve⟩ := gup_ex Hd 10 0 (54 + 11 * t + 4) (-1)
  obtain ⟨Hf, ef, ff, vf⟩ := gup_ex He 10 0 7 (He 10 0 7 + 1)
  have z0 : ∀ j, 0 ≤ j → j < 11 → j ≠ 0 → j ≠ 1 → j ≠ 2 → j ≠ 4 → Hf 10 0 (54 + 11 * t + j) = 0 := fun j y1 y2 y3 y4 y5 y6 => by
    rw [ff _ _ _ (by omega), fe _ _ _ (by omega), fd _ _ _ (by omega), fc _ _ _ (by omega), fb _ _ _ (by omega), va j y1 y2]
  refine ⟨Hf, ?_, fun k x f z => ?_, fun f z1 z2 => ?_, ?_, ?_, ?_, ?_, z0 3 (by decide) (by decide) (by decide) (by decide) (by decide) (by decide), ?_, z0 5 (by decide) (by decide) (by decide) (by decide) (by decide) (by decide), z0 6 (by decide) (by decide) (by decide) (by decide) (by decide) (by decide), z0 7 (by decide) (by decide) (by decide) (by decide) (by decide) (by decide), z0 8 (by decide) (by decide) (by decide) (by decide) (by decide) (by decide), z0 9 (by decide) (by decide) (by decide) (by decide) (by decide) (by decide), z0 10 (by decide) (by decide) (by decide) (by decide) (by decide) (by decide)⟩
  · have hg : gFuel = 3000 := rfl
    unfold f_X8_adds
    rw [ht]
    refine (ea gFuel _ (by omega)).trans ?_
    rw [m_teamAt, bn1_some, ga_t ⟨by omega, by omega⟩, eb, m_teamAt, bn1_some, ga_t ⟨by omega, by omega⟩, ec, m_teamAt, bn1_some, ga_t ⟨by omega, by omega⟩, ed, m_teamAt, bn1_some, ga_t ⟨by omega, by omega⟩, ee, ef, nm_eq]
  · rw [ff _ _ _ (by omega), fe _ _ _ (by omega), fd _ _ _ (by omega), fc _ _ _ (by omega), fb _ _ _ (by omega), fa _ _ _ (by omega)]
  · rw [ff _ _ _ (by omega), fe _ _ _ (by omega), fd _ _ _ (by omega), fc _ _ _ (by omega), fb _ _ _ (by omega), fa _ _ _ (by omega)]
  · rw [vf, fe _ _ _ (by omega), fd _ _ _ (by omega), fc _ _ _ (by omega), fb _ _ _ (by omega), fa _ _ _ (by omega), ht]
  · rw [ff _ _ _ (by omega), fe _ _ _ (by omega), fd _ _ _ (by omega), fc _ _ _ (by omega), vb]
  · rw [ff _ _ _ (by omega), fe _ _ _ (by omega), fd _ _ _ (by omega), vc]
  · rw [ff _ _ _ (by omega), fe _ _ _ (by omega), vd]
  · rw [ff _ _ _ (by omega), ve]

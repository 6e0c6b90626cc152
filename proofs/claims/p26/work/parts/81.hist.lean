/-! THE SAVED STATES AND THE TEXT -/
/-- the class holds: the road A, c saved roads S, the text T of len bytes -/
def IC (G : GS) (A : Int → Int) (S : Int → Int → Int) (c len : Int) (T : Int → Int) : Prop := Rd G 0 A ∧ G 0 0 1 = c ∧ (∀ i, 0 ≤ i → i < 4 → 2 ≤ G 12 0 i ∧ G 12 0 i ≤ 5) ∧ (∀ i j, 0 ≤ i → i < 4 → 0 ≤ j → j < 4 → i ≠ j → G 12 0 i ≠ G 12 0 j) ∧ (∀ i, 0 ≤ i → i < c → Rd G (G 12 0 i) (S i)) ∧ G 4 0 1 = len ∧ (∀ j, 0 ≤ j → j < len → G 9 0 j = T j)
/-- the model holds the same -/
def IM (H : GS) (A : Int → Int) (S : Int → Int → Int) (c len : Int) (T : Int → Int) : Prop := (∀ f, 0 ≤ f → f < 260 → H 10 0 f = A f) ∧ (∀ i f, 0 ≤ i → i < c → 0 ≤ f → f < 260 → H 10 1 (260 * i + f) = S i f) ∧ H 8 0 3 = c ∧ H 8 0 7 = len ∧ (∀ j, 0 ≤ j → j < len → H 10 3 j = T j)
def IP (A : Int → Int) (S : Int → Int → Int) (c len : Int) (T : Int → Int) : Prop := Wf 10000 A ∧ (∀ i, 0 ≤ i → i < c → Wf 10000 (S i)) ∧ (0 ≤ c ∧ c ≤ 4) ∧ (0 ≤ len ∧ len ≤ 90) ∧ (∀ j, 0 ≤ j → j < len → 0 ≤ T j ∧ T j ≤ 127)
def psh (A : Int → Int) (S : Int → Int → Int) (c : Int) : Int → Int → Int := if c = 4 then (fun i => if i = 3 then A else S (i + 1)) else (fun i => if i = c then A else S i)
def pc (c : Int) : Int := if c = 4 then 4 else c + 1
theorem IC_fr {G G' : GS} {A : Int → Int} {S : Int → Int → Int} {c len : Int} {T : Int → Int} (h : IC G A S c len T) (hp : IP A S c len T) (hG : ∀ k x f, ¬ ofR 1 k x → ¬ (k = 4 ∧ f = 2) → k ≠ 8 → k ≠ 10 → k ≠ 11 → k ≠ 13 → G' k x f = G k x f) : IC G' A S c len T := by
  obtain ⟨h1, h2, h3, h4, h5, h6, h7⟩ := h
  have a12 : ∀ f, G' 12 0 f = G 12 0 f := fun f => hG _ _ _ (by unfold ofR; omega) (by omega) (by omega) (by omega) (by omega) (by omega)
  refine ⟨Rd_fr h1 hp.1.1 (fun _ _ _ => rfl) (fun k x f z => ?_), ?_, fun i z1 z2 => ?_, fun i j z1 z2 z3 z4 z5 => ?_, fun i z1 z2 => ?_, ?_, fun j z1 z2 => ?_⟩
  · unfold ofR at z
    exact hG _ _ _ (by unfold ofR; omega) (by omega) (by omega) (by omega) (by omega) (by omega)
  · rw [hG _ _ _ (by unfold ofR; omega) (by omega) (by omega) (by omega) (by omega) (by omega)]
    exact h2
  · rw [a12]
    exact h3 i z1 z2
  · rw [a12, a12]
    exact h4 i j z1 z2 z3 z4 z5
  · rw [a12]
    have hr := h3 i z1 (by have := hp.2.2.1; omega)
    refine Rd_fr (h5 i z1 z2) (hp.2.1 i z1 z2).1 (fun _ _ _ => rfl) (fun k x f z => ?_)
    unfold ofR at z
    exact hG _ _ _ (by unfold ofR; omega) (by omega) (by omega) (by omega) (by omega) (by omega)
  · rw [hG _ _ _ (by unfold ofR; omega) (by omega) (by omega) (by omega) (by omega) (by omega)]
    exact h6
  · rw [hG _ _ _ (by unfold ofR; omega) (by omega) (by omega) (by omega) (by omega) (by omega)]
    exact h7 j z1 z2
theorem IM_fr {H H' : GS} {A : Int → Int} {S : Int → Int → Int} {c len : Int} {T : Int → Int} (h : IM H A S c len T) (hG : ∀ k x f, (k = 8 ∧ (f = 3 ∨ f = 7)) ∨ (k = 10 ∧ (x = 0 ∨ x = 1 ∨ x = 3)) → H' k x f = H k x f) : IM H' A S c len T := by
  obtain ⟨h1, h2, h3, h4, h5⟩ := h
  refine ⟨fun f z1 z2 => ?_, fun i f z1 z2 z3 z4 => ?_, ?_, ?_, fun j z1 z2 => ?_⟩
  · rw [hG _ _ _ (by omega)]
    exact h1 f z1 z2
  · rw [hG _ _ _ (by omega)]
    exact h2 i f z1 z2 z3 z4
  · rw [hG _ _ _ (by omega)]
    exact h3
  · rw [hG _ _ _ (by omega)]
    exact h4
  · rw [hG _ _ _ (by omega)]
    exact h5 j z1 z2
theorem IP_save {A : Int → Int} {S : Int → Int → Int} {c len : Int} {T : Int → Int} (h : IP A S c len T) : IP A (psh A S c) (pc c) len T := by
  obtain ⟨h1, h2, h3, h4, h5⟩ := h
  unfold psh pc
  by_cases e : c = 4
  · rw [if_pos e, if_pos e]
    refine ⟨h1, fun i z1 z2 => ?_, by omega, h4, h5⟩
    dsimp only
    by_cases e3 : i = 3
    · rw [if_pos e3]; exact h1
    · rw [if_neg e3]; exact h2 (i + 1) (by omega) (by omega)
  · rw [if_neg e, if_neg e]
    refine ⟨h1, fun i z1 z2 => ?_, by omega, h4, h5⟩
    dsimp only
    by_cases e3 : i = c
    · rw [if_pos e3]; exact h1
    · rw [if_neg e3]; exact h2 i z1 (by omega)
/-! SAVING: THE CLASS -/
def frS (G G' : GS) : Prop := ∀ k x f, k ≠ 0 → k ≠ 12 → (∀ r, 2 ≤ r → r ≤ 5 → ¬ ofR r k x) → G' k x f = G k x f
theorem c_drop {G : GS} {A : Int → Int} {S : Int → Int → Int} {c len : Int} {T : Int → Int} (h : IC G A S c len T) (hp : IP A S c len T) (hc : c = 4) : ∃ G', f_X0_dropOldest G = some G' ∧ IC G' A (fun i => S (i + 1)) 3 len T ∧ frS G G' := by
  obtain ⟨h1, h2, h3, h4, h5, h6, h7⟩ := h
  have r0 := h3 0 (by omega) (by omega)
  have r1 := h3 1 (by omega) (by omega)
  have r2 := h3 2 (by omega) (by omega)
  have r3 := h3 3 (by omega) (by omega)
  obtain ⟨Ga, ea, fa, va⟩ := gup_ex G 12 0 (1 - 1) (G 12 0 1)
  obtain ⟨Gb, eb, fb, vb⟩ := gup_ex Ga 12 0 (1 + 1 - 1) (Ga 12 0 (1 + 1))
  obtain ⟨Gc, ec, fc, vc⟩ := gup_ex Gb 12 0 (1 + 1 + 1 - 1) (Gb 12 0 (1 + 1 + 1))
  obtain ⟨Gd, ed, fd, vd⟩ := gup_ex Gc 12 0 3 (G 12 0 0)
  obtain ⟨Ge, ee, fe, ve⟩ := gup_ex Gd 0 0 1 3
  have q0 : Ge 12 0 0 = G 12 0 1 := by rw [fe _ _ _ (by omega), fd _ _ _ (by omega), fc _ _ _ (by omega), fb _ _ _ (by omega)]; exact va
  have q1 : Ge 12 0 1 = G 12 0 2 := by rw [fe _ _ _ (by omega), fd _ _ _ (by omega), fc _ _ _ (by omega)]; exact vb.trans (fa _ _ _ (by omega))
  have q2 : Ge 12 0 2 = G 12 0 3 := by rw [fe _ _ _ (by omega), fd _ _ _ (by omega)]; exact vc.trans ((fb _ _ _ (by omega)).trans (fa _ _ _ (by omega)))
  have q3 : Ge 12 0 3 = G 12 0 0 := by rw [fe _ _ _ (by omega)]; exact vd
  have qs : ∀ i, 0 ≤ i → i < 3 → Ge 12 0 i = G 12 0 (i + 1) := fun i z1 z2 => by
    rcases (show i = 0 ∨ i = 1 ∨ i = 2 by omega) with rfl | rfl | rfl
    · exact q0
    · exact q1
    · exact q2
  have fr : ∀ k x f, k ≠ 0 → k ≠ 12 → Ge k x f = G k x f := fun k x f z1 z2 => by
    rw [fe _ _ _ (by omega), fd _ _ _ (by omega), fc _ _ _ (by omega), fb _ _ _ (by omega), fa _ _ _ (by omega)]
  refine ⟨Ge, ?_, ⟨Rd_fr h1 hp.1.1 (fun _ _ _ => rfl) (fun k x f z => ?_), ve, fun i z1 z2 => ?_, fun i j z1 z2 z3 z4 z5 => ?_, fun i z1 z2 => ?_, ?_, fun j z1 z2 => ?_⟩, fun k x f z1 z2 z3 => fr k x f z1 z2⟩
  · unfold f_X0_dropOldest
    obtain ⟨n, hn⟩ : ∃ n, gFuel = n + 4 := ⟨2996, rfl⟩
    have r2' : 2 ≤ G 12 0 (1 + 1) ∧ G 12 0 (1 + 1) ≤ 5 := r2
    have r3' : 2 ≤ G 12 0 (1 + 1 + 1) ∧ G 12 0 (1 + 1 + 1) ≤ 5 := r3
    have t2 : 0 ≤ Ga 12 0 (1 + 1) ∧ Ga 12 0 (1 + 1) < 6 := by rw [fa _ _ _ (by omega)]; exact ⟨by omega, by omega⟩
    have t3 : 0 ≤ Gb 12 0 (1 + 1 + 1) ∧ Gb 12 0 (1 + 1 + 1) < 6 := by rw [fb _ _ _ (by omega), fa _ _ _ (by omega)]; exact ⟨by omega, by omega⟩
    rw [hn, ga_t ⟨by omega, by omega⟩, f_X0_dropOldest_L9, gd_t (by decide), if_pos (by decide), ga_t (by decide), ga_t ⟨by omega, by omega⟩, ga_t (by decide), ea]
    rw [f_X0_dropOldest_L9, gd_t (by decide), if_pos (by decide), ga_t (by decide), ga_t t2, ga_t (by decide), eb]
    rw [f_X0_dropOldest_L9, gd_t (by decide), if_pos (by decide), ga_t (by decide), ga_t t3, ga_t (by decide), ec]
    rw [f_X0_dropOldest_L9, gd_t (by decide), if_neg (by decide), ed, ee]
  · unfold ofR at z
    exact fr _ _ _ (by omega) (by omega)
  · by_cases e : i = 3
    · rw [e, q3]; exact r0
    · rw [qs i z1 (by omega)]; exact h3 (i + 1) (by omega) (by omega)
  · by_cases e : i = 3
    · rw [e, q3, qs j z3 (by omega)]; exact h4 0 (j + 1) (by omega) (by omega) (by omega) (by omega) (by omega)
    · by_cases e2 : j = 3
      · rw [e2, q3, qs i z1 (by omega)]; exact h4 (i + 1) 0 (by omega) (by omega) (by omega) (by omega) (by omega)
      · rw [qs i z1 (by omega), qs j z3 (by omega)]; exact h4 (i + 1) (j + 1) (by omega) (by omega) (by omega) (by omega) (by omega)
  · rw [qs i z1 z2]
    refine Rd_fr (h5 (i + 1) (by omega) (by omega)) (hp.2.1 (i + 1) (by omega) (by omega)).1 (fun _ _ _ => rfl) (fun k x f z => ?_)
    unfold ofR at z
    exact fr _ _ _ (by omega) (by omega)
  · rw [fr _ _ _ (by omega) (by omega)]; exact h6
  · rw [fr _ _ _ (by omega) (by omega)]; exact h7 j z1 z2
theorem c_saveAt {G : GS} {A : Int → Int} {S : Int → Int → Int} {c len : Int} {T : Int → Int} (h : IC G A S c len T) (hp : IP A S c len T) (hc : c < 4) : ∃ G', ga (G 0 0 1) 4 (ga (G 12 0 (G 0 0 1)) 6 (bn1 (f_X3_copyFrom G (G 12 0 (G 0 0 1)) 0) (fun G13 => some (gup G13 0 0 1 ((G13 0 0 1) + 1))))) = some G' ∧ IC G' A (fun i => if i = c then A else S i) (c + 1) len T ∧ frS G G' := by
  obtain ⟨h1, h2, h3, h4, h5, h6, h7⟩ := h
  have hc2 := hp.2.2.1
  have rc := h3 c (by omega) (by omega)
  obtain ⟨r, hr⟩ : ∃ r, r = G 12 0 c := ⟨_, rfl⟩
  rw [← hr] at rc
  obtain ⟨Ga, ea, ra, fa⟩ := c_copy (G := G) (o := r) (p := 0) (by omega) h1 hp.1
  obtain ⟨Gb, eb, fb, vb⟩ := gup_ex Ga 0 0 1 (Ga 0 0 1 + 1)
  have fr : ∀ k x f, k ≠ 0 → ¬ ofR r k x → Gb k x f = G k x f := fun k x f z1 z2 => by
    rw [fb _ _ _ (by omega)]
    exact fa k x f z2
  have a12 : ∀ f, Gb 12 0 f = G 12 0 f := fun f => fr _ _ _ (by omega) (by unfold ofR; omega)
  refine ⟨Gb, ?_, ⟨Rd_fr h1 hp.1.1 (fun _ _ _ => rfl) (fun k x f z => ?_), ?_, fun i z1 z2 => ?_, fun i j z1 z2 z3 z4 z5 => ?_, fun i z1 z2 => ?_, ?_, fun j z1 z2 => ?_⟩, fun k x f z1 z2 z3 => fr k x f z1 (z3 r (by omega) (by omega))⟩
  · rw [h2, ga_t ⟨by omega, by omega⟩, ← hr, ga_t ⟨by omega, by omega⟩, ea, bn1_some, eb]
  · unfold ofR at z
    exact fr _ _ _ (by omega) (by unfold ofR; omega)
  · rw [vb, fa 0 0 1 (by unfold ofR; omega), h2]
  · rw [a12]; exact h3 i z1 z2
  · rw [a12, a12]; exact h4 i j z1 z2 z3 z4 z5
  · rw [a12]
    dsimp only
    by_cases e : i = c
    · rw [if_pos e, e, ← hr]
      refine Rd_fr ra hp.1.1 (fun _ _ _ => rfl) (fun k x f z => ?_)
      unfold ofR at z
      exact fb _ _ _ (by omega)
    · rw [if_neg e]
      have ne := h4 i c z1 (by omega) (by omega) (by omega) e
      rw [← hr] at ne
      refine Rd_fr (h5 i z1 (by omega)) (hp.2.1 i z1 (by omega)).1 (fun _ _ _ => rfl) (fun k x f z => ?_)
      unfold ofR at z
      exact fr _ _ _ (by omega) (by unfold ofR; omega)
  · rw [fr _ _ _ (by omega) (by unfold ofR; omega)]; exact h6
  · rw [fr _ _ _ (by omega) (by unfold ofR; omega)]; exact h7 j z1 z2
theorem c_save {G : GS} {A : Int → Int} {S : Int → Int → Int} {c len : Int} {T : Int → Int} (h : IC G A S c len T) (hp : IP A S c len T) : ∃ G', f_X0_save G 0 = some G' ∧ IC G' A (psh A S c) (pc c) len T ∧ frS G G' := by
  have hc := hp.2.2.1
  have h2 := h.2.1
  unfold f_X0_save psh pc
  rw [gd_t ⟨by omega, by omega⟩]
  by_cases e : c = 4
  · rw [if_pos e, if_pos e, if_pos (by omega)]
    obtain ⟨Ga, ea, ia, fa⟩ := c_drop h hp e
    obtain ⟨Gb, eb, ib, fb⟩ := c_saveAt ia ⟨hp.1, fun i z1 z2 => hp.2.1 (i + 1) (by omega) (by omega), ⟨by omega, by omega⟩, hp.2.2.2⟩ (by omega)
    refine ⟨Gb, ?_, ib, fun k x f z1 z2 z3 => (fb k x f z1 z2 z3).trans (fa k x f z1 z2 z3)⟩
    rw [ea, bn1_some]
    exact eb
  · rw [if_neg e, if_neg e, if_neg (by omega)]
    exact c_saveAt h hp (by omega)
/-! SAVING: THE MODEL -/
theorem m_saveAt {H : GS} {A : Int → Int} {S : Int → Int → Int} {c len : Int} {T : Int → Int} (h : IM H A S c len T) (hp : IP A S c len T) (hc : c < 4) : ∃ H', f_X8_save_L51 gFuel H 0 (fun G16 _ => some (gup G16 8 0 3 ((G16 8 0 3) + 1))) = some H' ∧ IM H' A (fun i => if i = c then A else S i) (c + 1) len T ∧ (∀ k x f, ¬ (k = 10 ∧ x = 1) → ¬ (k = 8 ∧ x = 0 ∧ f = 3) → H' k x f = H k x f) := by
  obtain ⟨h1, h2, h3, h4, h5⟩ := h
  have hc2 := hp.2.2.1
  obtain ⟨Ha, ea, fa, va⟩ := arr_loop (α := GS) f_X8_save_L51 260 1 (260 * c) (fun i => H 10 0 i) H (fun G i z1 z2 hG n k => by
    have e3 : G 8 0 3 = c := by rw [hG _ _ _ (by omega)]; exact h3
    rw [f_X8_save_L51, gd_t ⟨by omega, by omega⟩, if_pos (by omega), ga_t ⟨by omega, by omega⟩, e3, ga_t ⟨by omega, by omega⟩, hG 10 0 i (by omega)]) (fun G hG n k => by
    rw [f_X8_save_L51, gd_t (by decide), if_neg (by decide)])
  obtain ⟨Hb, eb, fb, vb⟩ := gup_ex Ha 8 0 3 (Ha 8 0 3 + 1)
  refine ⟨Hb, ?_, ⟨fun f z1 z2 => ?_, fun i f z1 z2 z3 z4 => ?_, ?_, ?_, fun j z1 z2 => ?_⟩, fun k x f z1 z2 => ?_⟩
  · have hg : gFuel = 3000 := rfl
    rw [ea gFuel _ (by omega), eb]
  · rw [fb _ _ _ (by omega), fa _ _ _ (by omega)]; exact h1 f z1 z2
  · dsimp only
    rw [fb _ _ _ (by omega)]
    by_cases e : i = c
    · rw [if_pos e, e, va f z3 z4]
      exact h1 f z3 z4
    · rw [if_neg e, fa _ _ _ (by omega)]
      exact h2 i f z1 (by omega) z3 z4
  · rw [vb, fa _ _ _ (by omega), h3]
  · rw [fb _ _ _ (by omega), fa _ _ _ (by omega)]; exact h4
  · rw [fb _ _ _ (by omega), fa _ _ _ (by omega)]; exact h5 j z1 z2
  · rw [fb _ _ _ (by omega), fa _ _ _ (by omega)]
theorem m_save {H : GS} {A : Int → Int} {S : Int → Int → Int} {c len : Int} {T : Int → Int} (h : IM H A S c len T) (hp : IP A S c len T) : ∃ H', f_X8_save H = some H' ∧ IM H' A (psh A S c) (pc c) len T ∧ (∀ k x f, ¬ (k = 10 ∧ x = 1) → ¬ (k = 8 ∧ x = 0 ∧ f = 3) → H' k x f = H k x f) := by
  have hc := hp.2.2.1
  obtain ⟨h1, h2, h3, h4, h5⟩ := id h
  unfold f_X8_save psh pc
  rw [gd_t ⟨by omega, by omega⟩]
  by_cases e : c = 4
  · rw [if_pos e, if_pos e, if_pos (by omega)]
    obtain ⟨Ha, ea, fa, va⟩ := arr_loop (α := GS) f_X8_save_L10 780 1 0 (fun i => H 10 1 (i + 260)) H (fun G i z1 z2 hG n k => by
      rw [f_X8_save_L10, gd_t ⟨by omega, by omega⟩, if_pos (by omega), ga_t ⟨by omega, by omega⟩, ga_t ⟨by omega, by omega⟩, hG 10 1 (i + 260) (by omega), Int.zero_add]) (fun G hG n k => by
      rw [f_X8_save_L10, gd_t (by decide), if_neg (by decide)])
    obtain ⟨Hb, eb, fb, vb⟩ := gup_ex Ha 8 0 3 (Ha 8 0 3 - 1)
    have ib : IM Hb A (fun i => S (i + 1)) 3 len T := by
      refine ⟨fun f z1 z2 => ?_, fun i f z1 z2 z3 z4 => ?_, ?_, ?_, fun j z1 z2 => ?_⟩
      · rw [fb _ _ _ (by omega), fa _ _ _ (by omega)]; exact h1 f z1 z2
      · have v := va (260 * i + f) (by omega) (by omega)
        rw [Int.zero_add] at v
        rw [fb _ _ _ (by omega), v, show 260 * i + f + 260 = 260 * (i + 1) + f by omega]
        exact h2 (i + 1) f (by omega) (by omega) z3 z4
      · rw [vb, fa _ _ _ (by omega), h3, e]; rfl
      · rw [fb _ _ _ (by omega), fa _ _ _ (by omega)]; exact h4
      · rw [fb _ _ _ (by omega), fa _ _ _ (by omega)]; exact h5 j z1 z2
    obtain ⟨Hc, ec, ic, fc⟩ := m_saveAt ib ⟨hp.1, fun i z1 z2 => hp.2.1 (i + 1) (by omega) (by omega), ⟨by omega, by omega⟩, hp.2.2.2⟩ (by omega)
    refine ⟨Hc, ?_, ic, fun k x f z1 z2 => ?_⟩
    · have hg : gFuel = 3000 := rfl
      rw [ea gFuel _ (by omega), eb]
      exact ec
    · rw [fc _ _ _ z1 z2, fb _ _ _ (by omega), fa _ _ _ (by omega)]
  · rw [if_neg e, if_neg e, if_neg (by omega)]
    exact m_saveAt h hp (by omega)
/-! TAKING BACK WHAT WAS SAVED -/
theorem c_restore {G : GS} {A : Int → Int} {S : Int → Int → Int} {c len : Int} {T : Int → Int} (h : IC G A S c len T) (hp : IP A S c len T) (hc : 0 < c) : ∃ G', f_X0_restore G 0 = some G' ∧ IC G' (S (c - 1)) S (c - 1) len T ∧ (∀ k x f, k ≠ 0 → ¬ ofR 0 k x → G' k x f = G k x f) := by
  obtain ⟨h1, h2, h3, h4, h5, h6, h7⟩ := h
  have hc2 := hp.2.2.1
  obtain ⟨Ga, ea, fa, va⟩ := gup_ex G 0 0 1 (G 0 0 1 - 1)
  have va : Ga 0 0 1 = c - 1 := by rw [va, h2]
  have rc := h3 (c - 1) (by omega) (by omega)
  have a12 : ∀ f, Ga 12 0 f = G 12 0 f := fun f => fa _ _ _ (by omega)
  obtain ⟨r, hr⟩ : ∃ r, r = G 12 0 (c - 1) := ⟨_, rfl⟩
  rw [← hr] at rc
  have wS := hp.2.1 (c - 1) (by omega) (by omega)
  have hS : Rd Ga r (S (c - 1)) := by
    rw [hr]
    refine Rd_fr (h5 (c - 1) (by omega) (by omega)) wS.1 (fun _ _ _ => rfl) (fun k x f z => ?_)
    unfold ofR at z
    exact fa _ _ _ (by omega)
  obtain ⟨Gb, eb, rb, fb⟩ := c_copy (G := Ga) (o := 0) (p := r) (by omega) hS wS
  have fr : ∀ k x f, k ≠ 0 → ¬ ofR 0 k x → Gb k x f = G k x f := fun k x f z1 z2 => by
    rw [fb _ _ _ z2]
    exact fa _ _ _ (by omega)
  have b12 : ∀ f, Gb 12 0 f = G 12 0 f := fun f => fr _ _ _ (by omega) (by unfold ofR; omega)
  refine ⟨Gb, ?_, ⟨rb, ?_, fun i z1 z2 => ?_, fun i j z1 z2 z3 z4 z5 => ?_, fun i z1 z2 => ?_, ?_, fun j z1 z2 => ?_⟩, fr⟩
  · unfold f_X0_restore
    rw [ea, va, ga_t ⟨by omega, by omega⟩, a12, ← hr, ga_t ⟨by omega, by omega⟩, eb, bn1_some]
  · rw [fb 0 0 1 (by unfold ofR; omega)]; exact va
  · rw [b12]; exact h3 i z1 z2
  · rw [b12, b12]; exact h4 i j z1 z2 z3 z4 z5
  · rw [b12]
    have ri := h3 i z1 (by omega)
    refine Rd_fr (h5 i z1 (by omega)) (hp.2.1 i z1 (by omega)).1 (fun _ _ _ => rfl) (fun k x f z => ?_)
    unfold ofR at z
    exact fr _ _ _ (by omega) (by unfold ofR; omega)
  · rw [fr _ _ _ (by omega) (by unfold ofR; omega)]; exact h6
  · rw [fr _ _ _ (by omega) (by unfold ofR; omega)]; exact h7 j z1 z2
theorem m_restore {H : GS} {A : Int → Int} {S : Int → Int → Int} {c len : Int} {T : Int → Int} (h : IM H A S c len T) (hp : IP A S c len T) (hc : 0 < c) : ∃ H', f_X8_undo H = some (H', c - 1) ∧ H' 8 0 4 = 0 ∧ IM H' (S (c - 1)) S (c - 1) len T ∧ (∀ k x f, ¬ (k = 8 ∨ k = 10) → H' k x f = H k x f) := by
  obtain ⟨h1, h2, h3, h4, h5⟩ := h
  have hc2 := hp.2.2.1
  obtain ⟨Ha, ea, fa, va⟩ := gup_ex H 8 0 3 (H 8 0 3 - 1)
  have va : Ha 8 0 3 = c - 1 := by rw [va, h3]
  obtain ⟨Hb, eb, fb, vb⟩ := arr_loop (α := GS × Int) f_X8_undo_L25 260 0 0 (fun i => H 10 1 (260 * (c - 1) + i)) Ha (fun G i z1 z2 hG n k => by
    have e3 : G 8 0 3 = c - 1 := by rw [hG _ _ _ (by omega)]; exact va
    rw [f_X8_undo_L25, gd_t ⟨by omega, by omega⟩, if_pos (by omega), e3, ga_t ⟨by omega, by omega⟩, ga_t ⟨by omega, by omega⟩, hG 10 1 _ (by omega), fa 10 1 _ (by omega), Int.zero_add]) (fun G hG n k => by
    rw [f_X8_undo_L25, gd_t (by decide), if_neg (by decide)])
  obtain ⟨Hc, ec, fc, vc⟩ := gup_ex Hb 8 0 4 0
  have b3 : Hb 8 0 3 = c - 1 := by rw [fb _ _ _ (by omega)]; exact va
  refine ⟨Hc, ?_, vc, ⟨fun f z1 z2 => ?_, fun i f z1 z2 z3 z4 => ?_, ?_, ?_, fun j z1 z2 => ?_⟩, fun k x f z => ?_⟩
  · have hg : gFuel = 3000 := rfl
    unfold f_X8_undo f_X8_fine
    rw [gd_t ⟨by omega, by omega⟩, if_neg (by omega), ea, eb gFuel _ (by omega), ec, b3, bnd_some]
  · have v := vb f z1 z2
    rw [Int.zero_add] at v
    rw [fc _ _ _ (by omega), v]
    exact h2 (c - 1) f (by omega) (by omega) z1 z2
  · rw [fc _ _ _ (by omega), fb _ _ _ (by omega), fa _ _ _ (by omega)]
    exact h2 i f z1 (by omega) z3 z4
  · rw [fc _ _ _ (by omega)]; exact b3
  · rw [fc _ _ _ (by omega), fb _ _ _ (by omega), fa _ _ _ (by omega)]; exact h4
  · rw [fc _ _ _ (by omega), fb _ _ _ (by omega), fa _ _ _ (by omega)]; exact h5 j z1 z2
  · rw [fc _ _ _ (by omega), fb _ _ _ (by omega), fa _ _ _ (by omega)]
/-! LAYING ASIDE -/
theorem m_aside (H : GS) : ∃ H', f_X8_laysAside H = some H' ∧ (∀ k x f, ¬ (k = 10 ∧ x = 2) → H' k x f = H k x f) ∧ ∀ f, 0 ≤ f → f < 260 → H' 10 2 f = H 10 0 f := by
  obtain ⟨Ha, ea, fa, va⟩ := arr_loop (α := GS) f_X8_laysAside_L2 260 2 0 (fun i => H 10 0 i) H (fun G i z1 z2 hG n k => by
    rw [f_X8_laysAside_L2, gd_t ⟨by omega, by omega⟩, if_pos (by omega), ga_t ⟨by omega, by omega⟩, hG 10 0 i (by omega), Int.zero_add]) (fun G hG n k => by
    rw [f_X8_laysAside_L2, gd_t (by decide), if_neg (by decide)])
  refine ⟨Ha, ?_, fun k x f z => fa _ _ _ (by omega), fun f z1 z2 => ?_⟩
  · have hg : gFuel = 3000 := rfl
    unfold f_X8_laysAside
    rw [ea gFuel _ (by omega)]
  · have v := va f z1 z2
    rw [Int.zero_add] at v
    exact v
theorem m_back (H : GS) : ∃ H', f_X8_takesBack H = some H' ∧ (∀ k x f, ¬ (k = 10 ∧ x = 0) → H' k x f = H k x f) ∧ ∀ f, 0 ≤ f → f < 260 → H' 10 0 f = H 10 2 f := by
  obtain ⟨Ha, ea, fa, va⟩ := arr_loop (α := GS) f_X8_takesBack_L2 260 0 0 (fun i => H 10 2 i) H (fun G i z1 z2 hG n k => by
    rw [f_X8_takesBack_L2, gd_t ⟨by omega, by omega⟩, if_pos (by omega), ga_t ⟨by omega, by omega⟩, hG 10 2 i (by omega), Int.zero_add]) (fun G hG n k => by
    rw [f_X8_takesBack_L2, gd_t (by decide), if_neg (by decide)])
  refine ⟨Ha, ?_, fun k x f z => fa _ _ _ (by omega), fun f z1 z2 => ?_⟩
  · have hg : gFuel = 3000 := rfl
    unfold f_X8_takesBack
    rw [ea gFuel _ (by omega)]
  · have v := va f z1 z2
    rw [Int.zero_add] at v
    exact v
/-- a look ahead that is taken back changes nothing -/
theorem IM_back {H H1 H2 H3 : GS} {A : Int → Int} {S : Int → Int → Int} {c len : Int} {T : Int → Int} (h : IM H A S c len T) (a1 : ∀ k x f, ¬ (k = 10 ∧ x = 2) → H1 k x f = H k x f) (a2 : ∀ f, 0 ≤ f → f < 260 → H1 10 2 f = H 10 0 f) (b : frM H1 H2) (c1 : ∀ k x f, ¬ (k = 10 ∧ x = 0) → H3 k x f = H2 k x f) (c2 : ∀ f, 0 ≤ f → f < 260 → H3 10 0 f = H2 10 2 f) : IM H3 A S c len T ∧ (∀ k x f, ¬ (k = 10 ∨ k = 11) → H3 k x f = H k x f) := by
  have fr : ∀ k x f, ¬ (k = 10 ∧ x = 0) → ¬ (k = 10 ∧ x = 2) → ¬ k = 11 → H3 k x f = H k x f := fun k x f z1 z2 z3 => by
    rw [c1 _ _ _ z1, b _ _ _ z1 z3, a1 _ _ _ z2]
  obtain ⟨h1, h2, h3, h4, h5⟩ := h
  refine ⟨⟨fun f z1 z2 => ?_, fun i f z1 z2 z3 z4 => ?_, ?_, ?_, fun j z1 z2 => ?_⟩, fun k x f z => fr _ _ _ (by omega) (by omega) (by omega)⟩
  · rw [c2 f z1 z2, b 10 2 f (by omega) (by omega), a2 f z1 z2]
    exact h1 f z1 z2
  · rw [fr _ _ _ (by omega) (by omega) (by omega)]; exact h2 i f z1 z2 z3 z4
  · rw [fr _ _ _ (by omega) (by omega) (by omega)]; exact h3
  · rw [fr _ _ _ (by omega) (by omega) (by omega)]; exact h4
  · rw [fr _ _ _ (by omega) (by omega) (by omega)]; exact h5 j z1 z2

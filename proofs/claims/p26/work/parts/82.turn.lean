/-! A TURN: WHAT HOLDS BEFORE AND AFTER IT -/
theorem bm_inR (z : Int) : inR (bm z) := by
  have h1 := Int.le_bmod (x := z) (m := 4294967296) (by decide)
  have h2 := Int.bmod_lt (x := z) (m := 4294967296) (by decide)
  unfold bm
  omega
theorem bm_inJ (z : Int) : inJ (bm z) := by
  have h := bm_inR z
  omega
theorem turnT {o : Option (GS × Int)} {mf : GS → Option (GS × Int)} {G1 G2 : GS} {k b : Int} (hC : o = some (G1, k)) (hM : mf G1 = some (G2, b)) (ht : G2 8 0 4 = k) (hk : inR k) (hv : k = 0 → G2 13 0 0 = bm b) : lwT o mf = some G2 := by
  unfold lwT f_X8_thrown
  rw [hC, bnd_some, hM, bnd_some, bn1_some, ht, gd_t hk, gd_t hk, if_pos rfl]
  by_cases c : k = 0
  · rw [if_pos c, hv c, gj_t (bm_inJ b), gj_t (bm_inJ b), if_pos rfl]
  · rw [if_neg c]
theorem turnU {o : Option (GS × Int)} {mf : GS → Option (GS × Int)} {G1 G2 : GS} {a : Int} (hC : o = some (G1, a)) (hM : mf G1 = some (G2, a)) (ha : inR a) : lwU o mf = some G2 := by
  unfold lwU
  rw [hC, bnd_some, hM, bnd_some, gd_t ha, gd_t ha, if_pos rfl]
theorem turnJ {o : Option (GS × Int)} {mf : GS → Option (GS × Int)} {G1 G2 : GS} {a : Int} (hC : o = some (G1, a)) (hM : mf G1 = some (G2, a)) : lwJ o mf = some G2 := by
  unfold lwJ
  rw [hC, bnd_some, hM, bnd_some, if_pos rfl]
def Inv (G : GS) : Prop := ∃ A S c len T, IC G A S c len T ∧ IM G A S c len T ∧ IP A S c len T
theorem Inv_road {G : GS} (h : Inv G) : Rd G 0 (G 10 0) ∧ Wf 10000 (G 10 0) := by
  obtain ⟨A, S, c, len, T, h1, h2, h3⟩ := h
  exact ⟨Rd_fr h1.1 h3.1.1 h2.1 (fun _ _ _ _ => rfl), Wf_ext h3.1 h2.1⟩
/-- what neither side rests on may change -/
theorem Inv_fr {G G' : GS} (h : Inv G) (hG : ∀ k x f, k ≠ 11 → k ≠ 13 → ¬ (k = 8 ∧ f ≠ 3 ∧ f ≠ 7) → ¬ (k = 10 ∧ x ≠ 0 ∧ x ≠ 1 ∧ x ≠ 3) → ¬ ofR 1 k x → ¬ (k = 4 ∧ f = 2) → G' k x f = G k x f) : Inv G' := by
  obtain ⟨A, S, c, len, T, h1, h2, h3⟩ := h
  refine ⟨A, S, c, len, T, IC_fr h1 h3 (fun k x f z1 z2 z3 z4 z5 z6 => hG k x f (by omega) (by omega) (by omega) (by omega) z1 z2), IM_fr h2 (fun k x f z => hG k x f (by omega) (by omega) (by omega) (by omega) (by unfold ofR; omega) (by omega)), h3⟩
theorem fin_throw {G : GS} {o : Option (GS × Int)} {mf : GS → Option (GS × Int)} {k : Int} (hI : Inv G) (hC : o = some (G, k)) (hM : mf G = some (gup G 8 0 4 k, 0)) (hk : 1 ≤ k ∧ k ≤ 3) : ∃ G2, lwT o mf = some G2 ∧ Inv G2 :=
  ⟨_, turnT hC hM gup_s ⟨by omega, by omega⟩ (fun z => by omega), Inv_fr hI (fun k x f z1 z2 z3 z4 z5 z6 => gup_n (by omega))⟩
theorem fin_read {G : GS} {o : Option (GS × Int)} {mf : GS → Option (GS × Int)} {r : Int} (hI : Inv G) (hC : o = some (gup G 13 0 0 (bm r), 0)) (hM : ∀ H : GS, H 10 0 = G 10 0 → mf H = some (gup H 8 0 4 0, r)) : ∃ G2, lwT o mf = some G2 ∧ Inv G2 := by
  obtain ⟨Ga, ea, fa, va⟩ := gup_ex G 13 0 0 (bm r)
  rw [ea] at hC
  have e : Ga 10 0 = G 10 0 := funext fun f => fa _ _ _ (by omega)
  refine ⟨_, turnT hC (hM Ga e) gup_s (by decide) (fun _ => by rw [gup_k (by decide)]; exact va), Inv_fr hI (fun k x f z1 z2 z3 z4 z5 z6 => ?_)⟩
  rw [gup_n (by omega), fa _ _ _ (by omega)]
/-- a call that changes the state -/
theorem fin_ok {G1 : GS} {o : Option (GS × Int)} {mf : GS → Option (GS × Int)} {r : Int} {A A' : Int → Int} {S S' : Int → Int → Int} {c c' len len' : Int} {T T' : Int → Int} (hC : o = some (gup G1 13 0 0 (bm r), 0)) (h1 : IC G1 A' S' c' len' T') (h2 : IM G1 A S c len T) (h3 : IP A' S' c' len' T') (hM : ∀ H, IM H A S c len T → ∃ H', mf H = some (H', r) ∧ H' 8 0 4 = 0 ∧ IM H' A' S' c' len' T' ∧ (∀ k x f, ¬ (k = 8 ∨ k = 10 ∨ k = 11) → H' k x f = H k x f)) : ∃ G2, lwT o mf = some G2 ∧ Inv G2 := by
  obtain ⟨Ga, ea, fa, va⟩ := gup_ex G1 13 0 0 (bm r)
  rw [ea] at hC
  obtain ⟨H', b1, b2, b3, b4⟩ := hM Ga (IM_fr h2 (fun k x f z => fa _ _ _ (by omega)))
  refine ⟨H', turnT hC b1 b2 (by decide) (fun _ => by rw [b4 _ _ _ (by omega)]; exact va), A', S', c', len', T', IC_fr h1 h3 (fun k x f z1 z2 z3 z4 z5 z6 => ?_), b3, h3⟩
  rw [b4 _ _ _ (by omega), fa _ _ _ (by omega)]
/-! THE CHECKS -/
theorem c_num {G : GS} {p n : Int} (hp : inR p) (hn : inR n) : f_X7_checkNumber G p n = some (if 0 ≤ p ∧ p < n then 0 else 1) := by
  unfold f_X7_checkNumber
  rw [gd_t hp]
  by_cases c : p < 0
  · rw [if_pos c, if_neg (by omega)]
  · rw [if_neg c, gd_t hn]
    by_cases d : p < n
    · rw [if_pos d, if_pos (by omega)]
    · rw [if_neg d, if_neg (by omega)]
theorem c_rng {G : GS} {p a b : Int} (hp : inR p) (ha : inR a) (hb : inR b) : f_X7_checkRange G p a b = some (if a ≤ p ∧ p ≤ b then 0 else 2) := by
  unfold f_X7_checkRange
  rw [gd_t hp, gd_t ha]
  by_cases c : p < a
  · rw [if_pos c, if_neg (by omega)]
  · rw [if_neg c, gd_t hb]
    by_cases d : b < p
    · rw [if_pos d, if_neg (by omega)]
    · rw [if_neg d, if_pos (by omega)]
theorem c_room {G : GS} {p n : Int} (hp : inR p) (hn : inR n) : f_X7_checkRoom G p n = some (if p < n then 0 else 3) := by
  unfold f_X7_checkRoom
  rw [gd_t hp, gd_t hn]
  split <;> rfl
theorem m_in {G : GS} {p a b : Int} (hp : inJ p) (ha : inJ a) (hb : inJ b) : f_X8_in G p a b = some (if a ≤ p ∧ p ≤ b then 1 else 0) := by
  unfold f_X8_in
  rw [gj_t hp, gj_t ha]
  by_cases c : p < a
  · rw [if_pos c, if_neg (by omega)]
  · rw [if_neg c, gj_t hb]
    by_cases d : b < p
    · rw [if_pos d, if_neg (by omega)]
    · rw [if_neg d, if_pos (by omega)]
theorem m_inB {G : GS} {p a b : Int} (hp : inR p) (ha : inJ a) (hb : inJ b) : f_X8_in G (bm p) a b = some (if a ≤ p ∧ p ≤ b then 1 else 0) := by
  rw [bm_in hp]
  exact m_in (by omega) ha hb
theorem m_isX {G : GS} {p n : Int} (hp : inR p) (hn : 0 ≤ n ∧ n ≤ 20) (d : Int) (hd : d = 1 ∨ d = 2) : bn1 (f_X8_in G (bm p) 0 ((bm n) - d)) (fun r1 => gb r1 (some r1)) = some (if 0 ≤ p ∧ p ≤ n - d then 1 else 0) := by
  rw [bm_in (z := n) ⟨by omega, by omega⟩, m_inB hp (by omega) (by omega), bn1_some, gb_t (by split <;> omega)]
theorem m_isStage {G : GS} {p : Int} (hp : inR p) (hn : 0 ≤ G 10 0 0 ∧ G 10 0 0 ≤ 20) : f_X8_isStage G p = some (if 0 ≤ p ∧ p ≤ G 10 0 0 - 2 then 1 else 0) := m_isX hp hn 2 (Or.inr rfl)
theorem m_isInn {G : GS} {p : Int} (hp : inR p) (hn : 0 ≤ G 10 0 0 ∧ G 10 0 0 ≤ 20) : f_X8_isInn G p = some (if 0 ≤ p ∧ p ≤ G 10 0 0 - 1 then 1 else 0) := m_isX hp hn 1 (Or.inl rfl)
theorem m_isTeam {G : GS} {p : Int} (hp : inR p) (hn : 0 ≤ G 10 0 7 ∧ G 10 0 7 ≤ 20) : f_X8_isTeam G p = some (if 0 ≤ p ∧ p ≤ G 10 0 7 - 1 then 1 else 0) := m_isX hp hn 1 (Or.inl rfl)
theorem m_isLetter {G : GS} {p : Int} (hp : inR p) (hn : 0 ≤ G 10 0 8 ∧ G 10 0 8 ≤ 20) : f_X8_isLetter G p = some (if 0 ≤ p ∧ p ≤ G 10 0 8 - 1 then 1 else 0) := m_isX hp hn 1 (Or.inl rfl)
theorem m_throw {G : GS} {k : Int} : bnd (f_X8_throwing G k) (fun G5 r6 => some (G5, r6)) = some (gup G 8 0 4 k, 0) := rfl
theorem m_fine {G : GS} {r : Int} : bnd (f_X8_fine G r) (fun G5 r6 => some (G5, r6)) = some (gup G 8 0 4 0, r) := rfl
theorem lwP_some {β : Type} {x r : Int} {k : Int → Int → Option β} : lwP (some (x, r)) k = k x r := rfl
theorem lwB_some {β : Type} {G : GS} {x r : Int} {k : GS → Int → Int → Option β} : lwB (some (G, (x, r))) k = k G x r := rfl
/-! WHAT THE READING CALLS TELL -/
def stV (A : Int → Int) (s w : Int) : Int := if w < 3 then A (9 + 3 * s + w) else if w = 3 then ef A s 1 else if w = 4 then ef A s 0 else cnt (pSg A s) (A 7).toNat
def inV (A : Int → Int) (n w : Int) : Int := if w < 3 then A (30 + 3 * n + w) else if w = 3 then cnt (pSt A n) (A 7).toNat else if w = 4 then cnt (pOn A n) (A 7).toNat else if w = 5 then cnt (pLa A n) (A 8).toNat else fb A n
def vaV (A : Int → Int) (w : Int) : Int := if w = 0 then A 0 else if w = 1 then A 7 else if w = 2 then A 8 else if w = 3 then A 1 else if w = 9 then cnt (pLy A) (A 8).toNat else if w = 10 then cnt (pWi A) (A 8).toNat else A (w - 2)
theorem c_oneIf {G : GS} {x : Int} (h : x = 0 ∨ x = 1) : f_X7_oneIf G x = some x := by
  unfold f_X7_oneIf
  rcases h with rfl | rfl
  · rfl
  · rw [gd_t (by decide), if_neg (by decide)]
theorem c_stV {G : GS} {o m s w : Int} {A : Int → Int} (hR : Rd G o A) (hW : Wf m A) (h0 : 0 ≤ s) (h1 : s < A 0 - 1) (hw : 0 ≤ w ∧ w ≤ 5) : f_X3_aboutStage G o s w = some (stV A s w) := by
  have hWh := hW.1
  unfold WfH at hWh
  have rS := hR.2.1 s h0 h1
  have wS := hW.2.1 s h0 h1
  have c1 := c_eff (u := 1) rS wS (Or.inr rfl)
  have c0 := c_eff (u := 0) rS wS (Or.inl rfl)
  unfold RdS at rS
  unfold WfS at wS
  unfold f_X3_aboutStage stV
  rw [ga_t ⟨by omega, by omega⟩, gd_t ⟨by omega, by omega⟩]
  rcases (show w = 0 ∨ w = 1 ∨ w = 2 ∨ w = 3 ∨ w = 4 ∨ w = 5 by omega) with rfl | rfl | rfl | rfl | rfl | rfl
  · rw [if_pos rfl, if_pos (by decide), Int.add_zero, rS.1]
  · rw [if_neg (by decide), if_pos rfl, if_pos (by decide), rS.2.1]
  · rw [if_neg (by decide), if_neg (by decide), if_pos rfl, if_pos (by decide), rS.2.2, c_oneIf wS.2.2, bn1_some]
  · rw [if_neg (by decide), if_neg (by decide), if_neg (by decide), if_pos rfl, if_neg (by decide), if_pos rfl, c1, bn1_some]
  · rw [if_neg (by decide), if_neg (by decide), if_neg (by decide), if_neg (by decide), if_pos rfl, if_neg (by decide), if_neg (by decide), if_pos rfl, c0, bn1_some]
  · rw [if_neg (by decide), if_neg (by decide), if_neg (by decide), if_neg (by decide), if_neg (by decide), if_neg (by decide), if_neg (by decide), if_neg (by decide), c_teamsOn hR hW ⟨by omega, by omega⟩, bn1_some]
theorem m_stV {H : GS} {m s w : Int} (hW : Wf m (H 10 0)) (h0 : 0 ≤ s) (h1 : s < H 10 0 0 - 1) (hw : 0 ≤ w ∧ w ≤ 5) : f_X8_stageOf H s w = some (stV (H 10 0) s w) := by
  have hWh := hW.1
  unfold WfH at hWh
  have wS := hW.2.1 s h0 h1
  have c1 := m_eff (G := H) (a := s) (b := s + 1) (s := s) (u := 1) (by omega) (Or.inl ⟨by omega, rfl, rfl⟩) ⟨by omega, by omega⟩ ⟨by omega, by omega⟩ wS
  have c0 := m_eff (G := H) (a := s + 1) (b := s) (s := s) (u := 0) (by omega) (Or.inr ⟨by omega, rfl, rfl⟩) ⟨by omega, by omega⟩ ⟨by omega, by omega⟩ wS
  unfold f_X8_stageOf stV
  rw [gd_t ⟨by omega, by omega⟩]
  by_cases c : w < 3
  · rw [if_pos c, if_pos c, ga_t ⟨by omega, by omega⟩]
  · rw [if_neg c, if_neg c]
    rcases (show w = 3 ∨ w = 4 ∨ w = 5 by omega) with rfl | rfl | rfl
    · rw [if_pos rfl, if_pos rfl, c1, bn1_some]
    · rw [if_neg (by decide), if_pos rfl, if_neg (by decide), if_pos rfl, c0, bn1_some]
    · rw [if_neg (by decide), if_neg (by decide), if_neg (by decide), if_neg (by decide), m_teamsOn hW ⟨by omega, by omega⟩, bn1_some]
theorem c_inV {G : GS} {o m s w : Int} {A : Int → Int} (hR : Rd G o A) (hW : Wf m A) (h0 : 0 ≤ s) (h1 : s < A 0) (hw : 0 ≤ w ∧ w ≤ 6) : f_X3_aboutInn G o s w = some (inV A s w) := by
  have hWh := hW.1
  unfold WfH at hWh
  have rS := hR.2.2.1 s h0 h1
  have wS := hW.2.2.1 s h0 h1
  unfold RdN at rS
  unfold WfN at wS
  unfold f_X3_aboutInn inV
  rw [ga_t ⟨by omega, by omega⟩, gd_t ⟨by omega, by omega⟩]
  rcases (show w = 0 ∨ w = 1 ∨ w = 2 ∨ w = 3 ∨ w = 4 ∨ w = 5 ∨ w = 6 by omega) with rfl | rfl | rfl | rfl | rfl | rfl | rfl
  · rw [if_pos rfl, if_pos (by decide), Int.add_zero, rS.1]
  · rw [if_neg (by decide), if_pos rfl, if_pos (by decide), rS.2.1]
  · rw [if_neg (by decide), if_neg (by decide), if_pos rfl, if_pos (by decide), rS.2.2, c_oneIf wS.2.2, bn1_some]
  · rw [if_neg (by decide), if_neg (by decide), if_neg (by decide), if_pos rfl, if_neg (by decide), if_pos rfl, c_teamsAt hR hW ⟨by omega, by omega⟩, bn1_some]
  · have e := cnt_add (p := pAt A s) (q := pOn A s) (r := pSt A s) (n := (A 7).toNat) (fun i z1 z2 => by
      have hw := hW.2.2.2.1 i z1 (by omega)
      unfold WfT at hw
      unfold pAt pOn pSt
      simp only [decide_eq_true_eq]
      by_cases c : A (54 + 11 * i + 2) = s
      · by_cases d : A (54 + 11 * i + 3) = 0
        · rw [if_pos c, if_neg (by omega), if_pos ⟨c, d⟩]; rfl
        · rw [if_pos c, if_pos (by omega), if_neg (by omega)]; rfl
      · rw [if_neg c, if_neg (fun z => c z.1), if_neg (fun z => c z.1)]; rfl)
    rw [if_neg (by decide), if_neg (by decide), if_neg (by decide), if_neg (by decide), if_pos rfl, if_neg (by decide), if_neg (by decide), if_pos rfl, c_bedsTaken hR hW ⟨by omega, by omega⟩, bn1_some, c_teamsAt hR hW ⟨by omega, by omega⟩, bn1_some]
    exact congrArg some (by omega)
  · rw [if_neg (by decide), if_neg (by decide), if_neg (by decide), if_neg (by decide), if_neg (by decide), if_pos rfl, if_neg (by decide), if_neg (by decide), if_neg (by decide), if_pos rfl, c_lettersAt hR hW ⟨by omega, by omega⟩, bn1_some]
  · rw [if_neg (by decide), if_neg (by decide), if_neg (by decide), if_neg (by decide), if_neg (by decide), if_neg (by decide), if_neg (by decide), if_neg (by decide), if_neg (by decide), if_neg (by decide), c_freeBeds hR hW h0 h1, bn1_some]
theorem m_inV {H : GS} {m s w : Int} (hW : Wf m (H 10 0)) (h0 : 0 ≤ s) (h1 : s < H 10 0 0) (hw : 0 ≤ w ∧ w ≤ 6) : f_X8_innOf H s w = some (inV (H 10 0) s w) := by
  have hWh := hW.1
  unfold WfH at hWh
  unfold f_X8_innOf inV
  rw [gd_t ⟨by omega, by omega⟩]
  by_cases c : w < 3
  · rw [if_pos c, if_pos c, ga_t ⟨by omega, by omega⟩]
  · rw [if_neg c, if_neg c]
    rcases (show w = 3 ∨ w = 4 ∨ w = 5 ∨ w = 6 by omega) with rfl | rfl | rfl | rfl
    · rw [if_pos (by decide), if_pos rfl, show (3 : Int) - 3 = 0 from rfl, m_teamsOf (p := pSt (H 10 0) s) hW ⟨by omega, by omega⟩ (Or.inr (Or.inl ⟨rfl, rfl⟩)), bn1_some]
    · rw [if_pos (by decide), if_neg (by decide), if_pos rfl, show (4 : Int) - 3 = 1 from rfl, m_teamsOf (p := pOn (H 10 0) s) hW ⟨by omega, by omega⟩ (Or.inr (Or.inr ⟨rfl, rfl⟩)), bn1_some]
    · rw [if_neg (by decide), if_pos rfl, if_neg (by decide), if_neg (by decide), if_pos rfl, m_lettersAt hW ⟨by omega, by omega⟩, bn1_some]
    · rw [if_neg (by decide), if_neg (by decide), if_neg (by decide), if_neg (by decide), if_neg (by decide), m_freeBeds hW h0 h1, bn1_some]
theorem c_teV {G : GS} {o m s w : Int} {A : Int → Int} (hR : Rd G o A) (hW : Wf m A) (h0 : 0 ≤ s) (h1 : s < A 7) (hw : 0 ≤ w ∧ w ≤ 9) : f_X6_about G (10 * o + s) w = some (A (54 + 11 * s + w)) := by
  have hT := hR.2.2.2.1 s h0 h1
  have wT := hW.2.2.2.1 s h0 h1
  unfold RdT at hT
  unfold WfT at wT
  obtain ⟨t0, t1, t2, t5, t6, t7, t8, t9, t10, t11, -⟩ := hT
  unfold f_X6_about
  rw [gd_t ⟨by omega, by omega⟩]
  rcases (show w = 0 ∨ w = 1 ∨ w = 2 ∨ w = 3 ∨ w = 4 ∨ w = 5 ∨ w = 6 ∨ w = 7 ∨ w = 8 ∨ w = 9 by omega) with rfl | rfl | rfl | rfl | rfl | rfl | rfl | rfl | rfl | rfl
  · rw [if_pos rfl, t0]
  · rw [if_neg (by decide), if_pos rfl, t1]
  · rw [if_neg (by decide), if_neg (by decide), if_pos rfl, t2]
  · rw [if_neg (by decide), if_neg (by decide), if_neg (by decide), if_pos rfl, t5]
  · rw [if_neg (by decide), if_neg (by decide), if_neg (by decide), if_neg (by decide), if_pos rfl, t6]
  · rw [if_neg (by decide), if_neg (by decide), if_neg (by decide), if_neg (by decide), if_neg (by decide), if_pos rfl, t7, c_oneIf (by omega), bn1_some]
  · rw [if_neg (by decide), if_neg (by decide), if_neg (by decide), if_neg (by decide), if_neg (by decide), if_neg (by decide), if_pos rfl, t8]
  · rw [if_neg (by decide), if_neg (by decide), if_neg (by decide), if_neg (by decide), if_neg (by decide), if_neg (by decide), if_neg (by decide), if_pos rfl, t9]
  · rw [if_neg (by decide), if_neg (by decide), if_neg (by decide), if_neg (by decide), if_neg (by decide), if_neg (by decide), if_neg (by decide), if_neg (by decide), if_pos rfl, t10]
  · rw [if_neg (by decide), if_neg (by decide), if_neg (by decide), if_neg (by decide), if_neg (by decide), if_neg (by decide), if_neg (by decide), if_neg (by decide), if_neg (by decide), t11]
theorem c_leV {G : GS} {o m s w : Int} {A : Int → Int} (hR : Rd G o A) (hW : Wf m A) (h0 : 0 ≤ s) (h1 : s < A 8) (hw : 0 ≤ w ∧ w ≤ 7) : f_X2_about G (12 * o + s) w = some (A (164 + 8 * s + w)) := by
  have hT := hR.2.2.2.2.1 s h0 h1
  have wT := hW.2.2.2.2.1 s h0 h1
  unfold RdL at hT
  unfold WfL at wT
  obtain ⟨t0, t1, t2, t3, t4, t5, t6, t7⟩ := hT
  unfold f_X2_about
  rw [gd_t ⟨by omega, by omega⟩]
  rcases (show w = 0 ∨ w = 1 ∨ w = 2 ∨ w = 3 ∨ w = 4 ∨ w = 5 ∨ w = 6 ∨ w = 7 by omega) with rfl | rfl | rfl | rfl | rfl | rfl | rfl | rfl
  · rw [if_pos rfl, t0]
  · rw [if_neg (by decide), if_pos rfl, t1]
  · rw [if_neg (by decide), if_neg (by decide), if_pos rfl, t2, c_oneIf wT.2.1, bn1_some]
  · rw [if_neg (by decide), if_neg (by decide), if_neg (by decide), if_pos rfl, t3]
  · rw [if_neg (by decide), if_neg (by decide), if_neg (by decide), if_neg (by decide), if_pos rfl, t4]
  · rw [if_neg (by decide), if_neg (by decide), if_neg (by decide), if_neg (by decide), if_neg (by decide), if_pos rfl, t5]
  · rw [if_neg (by decide), if_neg (by decide), if_neg (by decide), if_neg (by decide), if_neg (by decide), if_neg (by decide), if_pos rfl, t6]
  · rw [if_neg (by decide), if_neg (by decide), if_neg (by decide), if_neg (by decide), if_neg (by decide), if_neg (by decide), if_neg (by decide), t7]
theorem c_vaV {G : GS} {o m w : Int} {A : Int → Int} (hR : Rd G o A) (hW : Wf m A) (hw : 0 ≤ w ∧ w ≤ 10) : f_X3_number G o w = some (vaV A w) := by
  have hH := hR.1
  unfold RdH at hH
  obtain ⟨t0, t1, t2, t3, t4, t5, t6, t7, t8⟩ := hH
  unfold f_X3_number vaV
  rw [gd_t ⟨by omega, by omega⟩]
  rcases (show w = 0 ∨ w = 1 ∨ w = 2 ∨ w = 3 ∨ w = 4 ∨ w = 5 ∨ w = 6 ∨ w = 7 ∨ w = 8 ∨ w = 9 ∨ w = 10 by omega) with rfl | rfl | rfl | rfl | rfl | rfl | rfl | rfl | rfl | rfl | rfl
  · rw [if_pos rfl, if_pos rfl, t0]
  · rw [if_neg (by decide), if_pos rfl, if_neg (by decide), if_pos rfl, t1]
  · rw [if_neg (by decide), if_neg (by decide), if_pos rfl, if_neg (by decide), if_neg (by decide), if_pos rfl, t2]
  · rw [if_neg (by decide), if_neg (by decide), if_neg (by decide), if_pos rfl, if_neg (by decide), if_neg (by decide), if_neg (by decide), if_pos rfl, t3]
  · exact congrArg some t4
  · exact congrArg some t5
  · exact congrArg some t6
  · exact congrArg some t7
  · exact congrArg some t8
  · rw [if_neg (by decide), if_neg (by decide), if_neg (by decide), if_neg (by decide), if_neg (by decide), if_neg (by decide), if_neg (by decide), if_neg (by decide), if_neg (by decide), if_pos rfl, if_neg (by decide), if_neg (by decide), if_neg (by decide), if_neg (by decide), if_pos rfl, c_lettersLying hR hW, bn1_some]
  · rw [if_neg (by decide), if_neg (by decide), if_neg (by decide), if_neg (by decide), if_neg (by decide), if_neg (by decide), if_neg (by decide), if_neg (by decide), if_neg (by decide), if_neg (by decide), if_neg (by decide), if_neg (by decide), if_neg (by decide), if_neg (by decide), if_neg (by decide), if_pos rfl, c_lettersOnStages hR hW, bn1_some]
theorem m_vaV {H : GS} {m w : Int} (hW : Wf m (H 10 0)) (hw : 0 ≤ w ∧ w ≤ 10) : f_X8_valueOf H w = some (vaV (H 10 0) w) := by
  unfold f_X8_valueOf vaV
  rw [gd_t ⟨by omega, by omega⟩]
  rcases (show w = 0 ∨ w = 1 ∨ w = 2 ∨ w = 3 ∨ w = 4 ∨ w = 5 ∨ w = 6 ∨ w = 7 ∨ w = 8 ∨ w = 9 ∨ w = 10 by omega) with rfl | rfl | rfl | rfl | rfl | rfl | rfl | rfl | rfl | rfl | rfl
  · rfl
  · rfl
  · rfl
  · rfl
  · rfl
  · rfl
  · rfl
  · rfl
  · rfl
  · rw [if_neg (by decide), if_neg (by decide), if_neg (by decide), if_neg (by decide), if_neg (by decide), if_neg (by decide), if_neg (by decide), if_neg (by decide), if_neg (by decide), if_pos rfl, if_neg (by decide), if_neg (by decide), if_neg (by decide), if_neg (by decide), if_neg (by decide), if_pos rfl, m_lettersBy0 hW, bn1_some]
  · rw [if_neg (by decide), if_neg (by decide), if_neg (by decide), if_neg (by decide), if_neg (by decide), if_neg (by decide), if_neg (by decide), if_neg (by decide), if_neg (by decide), if_neg (by decide), if_pos rfl, if_neg (by decide), if_neg (by decide), if_neg (by decide), if_neg (by decide), if_neg (by decide), if_pos rfl, m_lettersBy1 hW, bn1_some]

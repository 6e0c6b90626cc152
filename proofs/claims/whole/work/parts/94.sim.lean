/-! EVERY RUN OF CALLS -/
theorem Inv_gI : Inv gI := by
  refine ⟨gI 10 0, fun _ => gI 10 0, 0, 0, fun _ => 0, ⟨⟨?_, fun s z1 z2 => ?_, fun n z1 z2 => ?_, fun t z1 z2 => ?_, fun l z1 z2 => ?_, fun s z1 z2 => Or.inl ?_, fun n z1 z2 => Or.inl ?_⟩, rfl, fun i z1 z2 => ?_, fun i j z1 z2 z3 z4 z5 => ?_, fun i z1 z2 => by omega, rfl, fun j z1 z2 => by omega⟩, ⟨fun _ _ _ => rfl, fun i f z1 z2 => by omega, rfl, rfl, fun j z1 z2 => by omega⟩, ⟨⟨?_, fun s z1 z2 => ?_, fun n z1 z2 => ?_, fun t z1 z2 => ?_, fun l z1 z2 => ?_, fun l z1 z2 => ?_, fun t z1 z2 => ?_, fun l l' z1 z2 z3 => ?_⟩, fun i z1 z2 => by omega, by decide, by decide, fun j z1 z2 => by omega⟩⟩
  · exact ⟨rfl, rfl, rfl, rfl, rfl, rfl, rfl, rfl, rfl⟩
  · have e : gI 10 0 0 = 2 := rfl
    have : s = 0 := by omega
    subst this
    exact ⟨rfl, rfl, rfl⟩
  · have e : gI 10 0 0 = 2 := rfl
    rcases (show n = 0 ∨ n = 1 by omega) with rfl | rfl
    · exact ⟨rfl, rfl, rfl⟩
    · exact ⟨rfl, rfl, rfl⟩
  · have e : gI 10 0 7 = 0 := rfl
    omega
  · have e : gI 10 0 8 = 0 := rfl
    omega
  · simp [gI]
  · simp [gI]
  · have e : gI 12 0 i = i + 2 := by simp [gI]
    omega
  · have e1 : gI 12 0 i = i + 2 := by simp [gI]
    have e2 : gI 12 0 j = j + 2 := by simp [gI]
    omega
  · have e0 : gI 10 0 0 = 2 := rfl
    have e1 : gI 10 0 1 = 0 := rfl
    have e7 : gI 10 0 7 = 0 := rfl
    have e8 : gI 10 0 8 = 0 := rfl
    unfold WfH
    omega
  · have e : gI 10 0 0 = 2 := rfl
    have : s = 0 := by omega
    subst this
    exact ⟨by decide, by decide, by decide⟩
  · have e : gI 10 0 0 = 2 := rfl
    rcases (show n = 0 ∨ n = 1 by omega) with rfl | rfl
    · exact ⟨by decide, by decide, by decide⟩
    · exact ⟨by decide, by decide, by decide⟩
  · have e : gI 10 0 7 = 0 := rfl
    omega
  · have e : gI 10 0 8 = 0 := rfl
    omega
  · have e : gI 10 0 8 = 0 := rfl
    omega
  · have e : gI 10 0 7 = 0 := rfl
    omega
  · have e : gI 10 0 8 = 0 := rfl
    omega
theorem lw_r (xs : Nat → Int32) (i k : Int) : inR (lw_w xs i k) := w_inR _
theorem nz_01 (z : Int) : nz z = 0 ∨ nz z = 1 := by
  unfold nz
  split
  · exact Or.inl rfl
  · exact Or.inr rfl
theorem sim_step {G : GS} (hI : Inv G) (xs : Nat → Int32) (i : Int) : ∃ G2, lw_step xs G i = some G2 ∧ Inv G2 := by
  unfold lw_step
  by_cases c0 : ((xs (i + 0).toNat) &&& 31).toInt = 0
  · rw [if_pos c0]
    exact op_setStage hI (lw_r _ _ _) (lw_r _ _ _) (lw_r _ _ _) (nz_01 _)
  rw [if_neg c0]
  by_cases c1 : ((xs (i + 0).toNat) &&& 31).toInt = 1
  · rw [if_pos c1]
    exact op_setInn hI (lw_r _ _ _) (lw_r _ _ _) (lw_r _ _ _) (nz_01 _)
  rw [if_neg c1]
  by_cases c2 : ((xs (i + 0).toNat) &&& 31).toInt = 2
  · rw [if_pos c2]
    exact op_addTeam hI (lw_r _ _ _) (lw_r _ _ _)
  rw [if_neg c2]
  by_cases c3 : ((xs (i + 0).toNat) &&& 31).toInt = 3
  · rw [if_pos c3]
    exact op_give hI (lw_r _ _ _) (lw_r _ _ _) (nz_01 _)
  rw [if_neg c3]
  by_cases c4 : ((xs (i + 0).toNat) &&& 31).toInt = 4
  · rw [if_pos c4]
    exact op_collect hI
  rw [if_neg c4]
  by_cases c5 : ((xs (i + 0).toNat) &&& 31).toInt = 5
  · rw [if_pos c5]
    exact op_pass hI (lw_r _ _ _)
  rw [if_neg c5]
  by_cases c6 : ((xs (i + 0).toNat) &&& 31).toInt = 6
  · rw [if_pos c6]
    exact op_stage hI (lw_r _ _ _) (lw_r _ _ _)
  rw [if_neg c6]
  by_cases c7 : ((xs (i + 0).toNat) &&& 31).toInt = 7
  · rw [if_pos c7]
    exact op_inn hI (lw_r _ _ _) (lw_r _ _ _)
  rw [if_neg c7]
  by_cases c8 : ((xs (i + 0).toNat) &&& 31).toInt = 8
  · rw [if_pos c8]
    exact op_team hI (lw_r _ _ _) (lw_r _ _ _)
  rw [if_neg c8]
  by_cases c9 : ((xs (i + 0).toNat) &&& 31).toInt = 9
  · rw [if_pos c9]
    exact op_letter hI (lw_r _ _ _) (lw_r _ _ _)
  rw [if_neg c9]
  by_cases c10 : ((xs (i + 0).toNat) &&& 31).toInt = 10
  · rw [if_pos c10]
    exact op_value hI (lw_r _ _ _)
  rw [if_neg c10]
  by_cases c11 : ((xs (i + 0).toNat) &&& 31).toInt = 11
  · rw [if_pos c11]
    exact op_why hI (lw_r _ _ _)
  rw [if_neg c11]
  by_cases c12 : ((xs (i + 0).toNat) &&& 31).toInt = 12
  · rw [if_pos c12]
    exact op_hoursTo hI (lw_r _ _ _)
  rw [if_neg c12]
  by_cases c13 : ((xs (i + 0).toNat) &&& 31).toInt = 13
  · rw [if_pos c13]
    exact op_hoursToAll hI
  rw [if_neg c13]
  by_cases c14 : ((xs (i + 0).toNat) &&& 31).toInt = 14
  · rw [if_pos c14]
    exact op_bestInn hI
  rw [if_neg c14]
  by_cases c15 : ((xs (i + 0).toNat) &&& 31).toInt = 15
  · rw [if_pos c15]
    exact op_way hI (lw_r _ _ _) (lw_r _ _ _)
  rw [if_neg c15]
  by_cases c16 : ((xs (i + 0).toNat) &&& 31).toInt = 16
  · rw [if_pos c16]
    exact op_effortHome hI (lw_r _ _ _)
  rw [if_neg c16]
  by_cases c17 : ((xs (i + 0).toNat) &&& 31).toInt = 17
  · rw [if_pos c17]
    exact op_meanTiredness hI
  rw [if_neg c17]
  by_cases c18 : ((xs (i + 0).toNat) &&& 31).toInt = 18
  · rw [if_pos c18]
    exact op_append hI (lw_r _ _ _)
  rw [if_neg c18]
  by_cases c19 : ((xs (i + 0).toNat) &&& 31).toInt = 19
  · rw [if_pos c19]
    exact op_clearText hI
  rw [if_neg c19]
  by_cases c20 : ((xs (i + 0).toNat) &&& 31).toInt = 20
  · rw [if_pos c20]
    exact op_parse hI
  rw [if_neg c20]
  by_cases c21 : ((xs (i + 0).toNat) &&& 31).toInt = 21
  · rw [if_pos c21]
    exact op_undo hI
  rw [if_neg c21]
  by_cases c22 : ((xs (i + 0).toNat) &&& 31).toInt = 22
  · rw [if_pos c22]
    exact op_digest hI
  rw [if_neg c22]
  exact ⟨G, rfl, hI⟩
theorem sim_go (xs : Nat → Int32) : ∀ (n : Nat) (G : GS) (i : Int), Inv G → ∃ G2, lw_go xs n G i = some G2 := by
  intro n
  induction n with
  | zero => exact fun G i _ => ⟨G, rfl⟩
  | succ n ih =>
    intro G i hI
    obtain ⟨G1, e, h1⟩ := sim_step hI xs i
    obtain ⟨G2, h2⟩ := ih G1 (i + 5) h1
    refine ⟨G2, ?_⟩
    rw [lw_go, e]
    exact h2
theorem sim_all (xs : Nat → Int32) (n : Nat) : ∃ G2, lw_go xs n gI 0 = some G2 := sim_go xs n gI 0 Inv_gI

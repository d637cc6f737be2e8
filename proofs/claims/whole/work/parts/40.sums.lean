/-! SUMS -/
section
variable {C M : Sx} {b N pc hc uc ic hr : Nat}
theorem s_wet (R : Rg (vw C b) (dR (M 6)) N pc hc uc ic hr) : ∀ n i (v : Int32), i ≤ pc → pc < n + i → o_X0_wetnessOfPitches_4 n b v (nI i) C ∧ o_X7_sumOfPitches_4 n 0 v (nI i) M ∧ b_X0_wetnessOfPitches_4 n b v (nI i) C = b_X7_sumOfPitches_4 n 0 v (nI i) M := by
  have hb := gb R
  intro n
  induction n with
  | zero => intro i v h1 h2; omega
  | succ n ih =>
    intro i v h1 h2
    have e1 := (g04 R).1
    have e2 := (g04 R).2
    by_cases hi : i < pc
    · have hle : ¬ nI pc ≤ nI i := nI_ge hi (by omega)
      have hin : vp_in (nI i) 4 := vp_in_nI (by omega) (by decide)
      have ecl := nI_clamp (n := i) (by omega)
      have G := gP R hi
      have a1 : C (b + 7 + i) 0 = dR (M 6) (7 + i) 0 := (vP (p := i) (f := 0) (by omega) (by decide) (by decide)).trans G.1.1
      have m1 : b_X7_of_0 (nI i) 0 M = dR (M 6) (7 + i) 0 := ofP (f := 0) (by omega) (by decide)
      have q1 : o_X7_of_0 (nI i) 0 M := oP (f := 0) (by omega) (by decide)
      have ih := fun w => ih (i + 1) w (by omega) (by omega)
      simp only [nI_succ] at ih
      simp only [o_X0_wetnessOfPitches_4, o_X7_sumOfPitches_4, b_X0_wetnessOfPitches_4, b_X7_sumOfPitches_4,  e1, e2, hle, hin, ecl]
      simp only [a1, m1, q1]
      simpa using ih _
    · have hie : i = pc := by omega
      subst hie
      have hle : nI i ≤ nI i := nI_le (Nat.le_refl i) (by omega)
      simp only [o_X0_wetnessOfPitches_4, o_X7_sumOfPitches_4, b_X0_wetnessOfPitches_4, b_X7_sumOfPitches_4, e1, e2, hle]
      simp
theorem q_s_wet (R : Rg (vw C b) (dR (M 6)) N pc hc uc ic hr) : o_X0_wetnessOfPitches_0 b C ∧ o_X7_sumOfPitches_0 0 M ∧ b_X0_wetnessOfPitches_0 b C = b_X7_sumOfPitches_0 0 M := s_wet R 100 0 0 (by omega) (by have := gb R; omega)
theorem s_hrs (R : Rg (vw C b) (dR (M 6)) N pc hc uc ic hr) : ∀ n i (v : Int32), i ≤ hc → hc < n + i → o_X0_hoursOfHorses_4 n b v (nI i) C ∧ o_X7_ofHorses_4 n 0 v (nI i) M ∧ b_X0_hoursOfHorses_4 n b v (nI i) C = b_X7_ofHorses_4 n 0 v (nI i) M := by
  have hb := gb R
  intro n
  induction n with
  | zero => intro i v h1 h2; omega
  | succ n ih =>
    intro i v h1 h2
    have e1 := (g06 R).1
    have e2 := (g06 R).2
    by_cases hi : i < hc
    · have hle : ¬ nI hc ≤ nI i := nI_ge hi (by omega)
      have hin : vp_in (nI i) 5 := vp_in_nI (by omega) (by decide)
      have ecl := nI_clamp (n := i) (by omega)
      have G := gH R hi
      have a1 : C (b + 11 + i) 5 = dR (M 6) (11 + i) 5 := (vH (p := i) (f := 5) (by omega) (by decide) (by decide)).trans G.1.2.2.2.2
      have m1 : b_X7_ofHorse_0 (nI i) 5 M = dR (M 6) (11 + i) 5 := ofH (f := 5) (by omega) (by decide)
      have q1 : o_X7_ofHorse_0 (nI i) 5 M := oH (f := 5) (by omega) (by decide)
      have ih := fun w => ih (i + 1) w (by omega) (by omega)
      simp only [nI_succ] at ih
      simp only [o_X0_hoursOfHorses_4, o_X7_ofHorses_4, b_X0_hoursOfHorses_4, b_X7_ofHorses_4, b_X7_ofHorses_43, o_X7_ofHorses_43, e1, e2, hle, hin, ecl]
      simp only [a1, m1, q1]
      simpa using ih _
    · have hie : i = hc := by omega
      subst hie
      have hle : nI i ≤ nI i := nI_le (Nat.le_refl i) (by omega)
      simp only [o_X0_hoursOfHorses_4, o_X7_ofHorses_4, b_X0_hoursOfHorses_4, b_X7_ofHorses_4, e1, e2, hle]
      simp
theorem q_s_hrs (R : Rg (vw C b) (dR (M 6)) N pc hc uc ic hr) : o_X0_hoursOfHorses_0 b C ∧ o_X7_ofHorses_0 0 M ∧ b_X0_hoursOfHorses_0 b C = b_X7_ofHorses_0 0 M := s_hrs R 100 0 0 (by omega) (by have := gb R; omega)
theorem s_bal (R : Rg (vw C b) (dR (M 6)) N pc hc uc ic hr) : ∀ n i (v : Int32), i ≤ ic → ic < n + i → o_X0_ballsInInnings_4 n b v (nI i) C ∧ o_X7_sumOfInnings_4 n 3 v (nI i) M ∧ b_X0_ballsInInnings_4 n b v (nI i) C = b_X7_sumOfInnings_4 n 3 v (nI i) M := by
  have hb := gb R
  intro n
  induction n with
  | zero => intro i v h1 h2; omega
  | succ n ih =>
    intro i v h1 h2
    have e1 := (g010 R).1
    have e2 := (g010 R).2
    by_cases hi : i < ic
    · have hle : ¬ nI ic ≤ nI i := nI_ge hi (by omega)
      have hin : vp_in (nI i) 12 := vp_in_nI (by omega) (by decide)
      have ecl := nI_clamp (n := i) (by omega)
      have G := gI R hi
      have a1 : C (b + 16 + i) 3 = dR (M 6) (16 + i) 3 := (vI (p := i) (f := 3) (by omega) (by decide) (by decide)).trans G.1.2.2.2.1
      have m1 : b_X7_ofInnings_0 (nI i) 3 M = dR (M 6) (16 + i) 3 := ofI (f := 3) (by omega) (by decide)
      have q1 : o_X7_ofInnings_0 (nI i) 3 M := oI (f := 3) (by omega) (by decide)
      have ih := fun w => ih (i + 1) w (by omega) (by omega)
      simp only [nI_succ] at ih
      simp only [o_X0_ballsInInnings_4, o_X7_sumOfInnings_4, b_X0_ballsInInnings_4, b_X7_sumOfInnings_4,  e1, e2, hle, hin, ecl]
      simp only [a1, m1, q1]
      simpa using ih _
    · have hie : i = ic := by omega
      subst hie
      have hle : nI i ≤ nI i := nI_le (Nat.le_refl i) (by omega)
      simp only [o_X0_ballsInInnings_4, o_X7_sumOfInnings_4, b_X0_ballsInInnings_4, b_X7_sumOfInnings_4, e1, e2, hle]
      simp
theorem q_s_bal (R : Rg (vw C b) (dR (M 6)) N pc hc uc ic hr) : o_X0_ballsInInnings_0 b C ∧ o_X7_sumOfInnings_0 3 M ∧ b_X0_ballsInInnings_0 b C = b_X7_sumOfInnings_0 3 M := s_bal R 100 0 0 (by omega) (by have := gb R; omega)
theorem s_run (R : Rg (vw C b) (dR (M 6)) N pc hc uc ic hr) : ∀ n i (v : Int32), i ≤ ic → ic < n + i → o_X0_runsInInnings_4 n b v (nI i) C ∧ o_X7_sumOfInnings_4 n 4 v (nI i) M ∧ b_X0_runsInInnings_4 n b v (nI i) C = b_X7_sumOfInnings_4 n 4 v (nI i) M := by
  have hb := gb R
  intro n
  induction n with
  | zero => intro i v h1 h2; omega
  | succ n ih =>
    intro i v h1 h2
    have e1 := (g010 R).1
    have e2 := (g010 R).2
    by_cases hi : i < ic
    · have hle : ¬ nI ic ≤ nI i := nI_ge hi (by omega)
      have hin : vp_in (nI i) 12 := vp_in_nI (by omega) (by decide)
      have ecl := nI_clamp (n := i) (by omega)
      have G := gI R hi
      have a1 : C (b + 16 + i) 4 = dR (M 6) (16 + i) 4 := (vI (p := i) (f := 4) (by omega) (by decide) (by decide)).trans G.1.2.2.2.2.1
      have m1 : b_X7_ofInnings_0 (nI i) 4 M = dR (M 6) (16 + i) 4 := ofI (f := 4) (by omega) (by decide)
      have q1 : o_X7_ofInnings_0 (nI i) 4 M := oI (f := 4) (by omega) (by decide)
      have ih := fun w => ih (i + 1) w (by omega) (by omega)
      simp only [nI_succ] at ih
      simp only [o_X0_runsInInnings_4, o_X7_sumOfInnings_4, b_X0_runsInInnings_4, b_X7_sumOfInnings_4,  e1, e2, hle, hin, ecl]
      simp only [a1, m1, q1]
      simpa using ih _
    · have hie : i = ic := by omega
      subst hie
      have hle : nI i ≤ nI i := nI_le (Nat.le_refl i) (by omega)
      simp only [o_X0_runsInInnings_4, o_X7_sumOfInnings_4, b_X0_runsInInnings_4, b_X7_sumOfInnings_4, e1, e2, hle]
      simp
theorem q_s_run (R : Rg (vw C b) (dR (M 6)) N pc hc uc ic hr) : o_X0_runsInInnings_0 b C ∧ o_X7_sumOfInnings_0 4 M ∧ b_X0_runsInInnings_0 b C = b_X7_sumOfInnings_0 4 M := s_run R 100 0 0 (by omega) (by have := gb R; omega)
theorem s_wik (R : Rg (vw C b) (dR (M 6)) N pc hc uc ic hr) : ∀ n i (v : Int32), i ≤ ic → ic < n + i → o_X0_wicketsInInnings_4 n b v (nI i) C ∧ o_X7_sumOfInnings_4 n 5 v (nI i) M ∧ b_X0_wicketsInInnings_4 n b v (nI i) C = b_X7_sumOfInnings_4 n 5 v (nI i) M := by
  have hb := gb R
  intro n
  induction n with
  | zero => intro i v h1 h2; omega
  | succ n ih =>
    intro i v h1 h2
    have e1 := (g010 R).1
    have e2 := (g010 R).2
    by_cases hi : i < ic
    · have hle : ¬ nI ic ≤ nI i := nI_ge hi (by omega)
      have hin : vp_in (nI i) 12 := vp_in_nI (by omega) (by decide)
      have ecl := nI_clamp (n := i) (by omega)
      have G := gI R hi
      have a1 : C (b + 16 + i) 5 = dR (M 6) (16 + i) 5 := (vI (p := i) (f := 5) (by omega) (by decide) (by decide)).trans G.1.2.2.2.2.2
      have m1 : b_X7_ofInnings_0 (nI i) 5 M = dR (M 6) (16 + i) 5 := ofI (f := 5) (by omega) (by decide)
      have q1 : o_X7_ofInnings_0 (nI i) 5 M := oI (f := 5) (by omega) (by decide)
      have ih := fun w => ih (i + 1) w (by omega) (by omega)
      simp only [nI_succ] at ih
      simp only [o_X0_wicketsInInnings_4, o_X7_sumOfInnings_4, b_X0_wicketsInInnings_4, b_X7_sumOfInnings_4,  e1, e2, hle, hin, ecl]
      simp only [a1, m1, q1]
      simpa using ih _
    · have hie : i = ic := by omega
      subst hie
      have hle : nI i ≤ nI i := nI_le (Nat.le_refl i) (by omega)
      simp only [o_X0_wicketsInInnings_4, o_X7_sumOfInnings_4, b_X0_wicketsInInnings_4, b_X7_sumOfInnings_4, e1, e2, hle]
      simp
theorem q_s_wik (R : Rg (vw C b) (dR (M 6)) N pc hc uc ic hr) : o_X0_wicketsInInnings_0 b C ∧ o_X7_sumOfInnings_0 5 M ∧ b_X0_wicketsInInnings_0 b C = b_X7_sumOfInnings_0 5 M := s_wik R 100 0 0 (by omega) (by have := gb R; omega)
theorem s_cov (R : Rg (vw C b) (dR (M 6)) N pc hc uc ic hr) : ∀ n i (v : Int32), i ≤ pc → pc < n + i → o_X0_coveredPitches_4 n b v (nI i) C ∧ o_X7_sumOfPitches_4 n 3 v (nI i) M ∧ b_X0_coveredPitches_4 n b v (nI i) C = b_X7_sumOfPitches_4 n 3 v (nI i) M := by
  have hb := gb R
  intro n
  induction n with
  | zero => intro i v h1 h2; omega
  | succ n ih =>
    intro i v h1 h2
    have e1 := (g04 R).1
    have e2 := (g04 R).2
    by_cases hi : i < pc
    · have hle : ¬ nI pc ≤ nI i := nI_ge hi (by omega)
      have hin : vp_in (nI i) 4 := vp_in_nI (by omega) (by decide)
      have ecl := nI_clamp (n := i) (by omega)
      have G := gP R hi
      have a1 : nb (C (b + 7 + i) 3) = dR (M 6) (7 + i) 3 := (vP3 (by omega)).trans G.1.2.2.2.1
      have m1 : b_X7_of_0 (nI i) 3 M = dR (M 6) (7 + i) 3 := ofP (f := 3) (by omega) (by decide)
      have q1 : o_X7_of_0 (nI i) 3 M := oP (f := 3) (by omega) (by decide)
      have ih := fun w => ih (i + 1) w (by omega) (by omega)
      simp only [nI_succ] at ih
      simp only [o_X0_coveredPitches_4, o_X7_sumOfPitches_4, b_X0_coveredPitches_4, b_X7_sumOfPitches_4, b_X0_coveredPitches_30, o_X0_coveredPitches_30, e1, e2, hle, hin, ecl]
      simp only [a1, m1, q1]
      rcases G.2.2.2.2 with z | z
      · simp only [z]
        simpa using ih _
      · have z1 : ¬ (1 : Int32) = 0 := by decide
        simp only [z, z1]
        simpa using ih _
    · have hie : i = pc := by omega
      subst hie
      have hle : nI i ≤ nI i := nI_le (Nat.le_refl i) (by omega)
      simp only [o_X0_coveredPitches_4, o_X7_sumOfPitches_4, b_X0_coveredPitches_4, b_X7_sumOfPitches_4, e1, e2, hle]
      simp
theorem q_s_cov (R : Rg (vw C b) (dR (M 6)) N pc hc uc ic hr) : o_X0_coveredPitches_0 b C ∧ o_X7_sumOfPitches_0 3 M ∧ b_X0_coveredPitches_0 b C = b_X7_sumOfPitches_0 3 M := s_cov R 100 0 0 (by omega) (by have := gb R; omega)
theorem s_boo (R : Rg (vw C b) (dR (M 6)) N pc hc uc ic hr) : ∀ n i (v : Int32), i ≤ hc → hc < n + i → o_X0_bootedHorses_4 n b v (nI i) C ∧ o_X7_booted_4 n v (nI i) M ∧ b_X0_bootedHorses_4 n b v (nI i) C = b_X7_booted_4 n v (nI i) M := by
  have hb := gb R
  intro n
  induction n with
  | zero => intro i v h1 h2; omega
  | succ n ih =>
    intro i v h1 h2
    have e1 := (g06 R).1
    have e2 := (g06 R).2
    by_cases hi : i < hc
    · have hle : ¬ nI hc ≤ nI i := nI_ge hi (by omega)
      have hin : vp_in (nI i) 5 := vp_in_nI (by omega) (by decide)
      have ecl := nI_clamp (n := i) (by omega)
      have G := gH R hi
      have a1 : nb (C (b + 11 + i) 1) = dR (M 6) (11 + i) 1 := (vH1 (by omega)).trans G.1.2.1
      have m1 : b_X7_ofHorse_0 (nI i) 1 M = dR (M 6) (11 + i) 1 := ofH (f := 1) (by omega) (by decide)
      have q1 : o_X7_ofHorse_0 (nI i) 1 M := oH (f := 1) (by omega) (by decide)
      have ih := fun w => ih (i + 1) w (by omega) (by omega)
      simp only [nI_succ] at ih
      simp only [o_X0_bootedHorses_4, o_X7_booted_4, b_X0_bootedHorses_4, b_X7_booted_4, b_X0_bootedHorses_30, o_X0_bootedHorses_30, e1, e2, hle, hin, ecl]
      simp only [a1, m1, q1]
      rcases G.2.1 with z | z
      · simp only [z]
        simpa using ih _
      · have z1 : ¬ (1 : Int32) = 0 := by decide
        simp only [z, z1]
        simpa using ih _
    · have hie : i = hc := by omega
      subst hie
      have hle : nI i ≤ nI i := nI_le (Nat.le_refl i) (by omega)
      simp only [o_X0_bootedHorses_4, o_X7_booted_4, b_X0_bootedHorses_4, b_X7_booted_4, e1, e2, hle]
      simp
theorem q_s_boo (R : Rg (vw C b) (dR (M 6)) N pc hc uc ic hr) : o_X0_bootedHorses_0 b C ∧ o_X7_booted_0 M ∧ b_X0_bootedHorses_0 b C = b_X7_booted_0 M := s_boo R 100 0 0 (by omega) (by have := gb R; omega)
theorem s_rgh (R : Rg (vw C b) (dR (M 6)) N pc hc uc ic hr) : ∀ n i (v : Int32), i ≤ hc → hc < n + i → o_X0_rollingHorses_4 n b v (nI i) C ∧ o_X7_ofHorses_4 n 1 v (nI i) M ∧ b_X0_rollingHorses_4 n b v (nI i) C = b_X7_ofHorses_4 n 1 v (nI i) M := by
  have hb := gb R
  intro n
  induction n with
  | zero => intro i v h1 h2; omega
  | succ n ih =>
    intro i v h1 h2
    have e1 := (g06 R).1
    have e2 := (g06 R).2
    by_cases hi : i < hc
    · have hle : ¬ nI hc ≤ nI i := nI_ge hi (by omega)
      have hin : vp_in (nI i) 5 := vp_in_nI (by omega) (by decide)
      have ecl := nI_clamp (n := i) (by omega)
      have G := gH R hi
      have a1 : C (b + 11 + i) 3 = dR (M 6) (11 + i) 3 := (vH (p := i) (f := 3) (by omega) (by decide) (by decide)).trans G.1.2.2.2.1
      have m1 : b_X7_ofHorse_0 (nI i) 3 M = dR (M 6) (11 + i) 3 := ofH (f := 3) (by omega) (by decide)
      have q1 : o_X7_ofHorse_0 (nI i) 3 M := oH (f := 3) (by omega) (by decide)
      have z0 : bz 0 := Or.inl rfl
      have z2 : bz 1 := Or.inr rfl
      have ih := fun w => ih (i + 1) w (by omega) (by omega)
      simp only [nI_succ] at ih
      simp only [o_X0_rollingHorses_4, o_X7_ofHorses_4, b_X0_rollingHorses_4, b_X7_ofHorses_4, b_X7_ofHorses_43, o_X7_ofHorses_43, b_X0_rollingHorses_30, o_X0_rollingHorses_30, b_X1_isRolling_0, o_X1_isRolling_0, b_X1_isRolling_12, o_X1_isRolling_12, e1, e2, hle, hin, ecl]
      have z1 : ¬ (1 : Int32) = 0 := by decide
      simp only [a1, m1, q1, z0, z2]
      by_cases z : dR (M 6) (11 + i) 3 ≤ 0
      · simp only [z, z1]
        simpa using ih _
      · simp only [z, z1]
        simpa using ih _
    · have hie : i = hc := by omega
      subst hie
      have hle : nI i ≤ nI i := nI_le (Nat.le_refl i) (by omega)
      simp only [o_X0_rollingHorses_4, o_X7_ofHorses_4, b_X0_rollingHorses_4, b_X7_ofHorses_4, e1, e2, hle]
      simp
theorem q_s_rgh (R : Rg (vw C b) (dR (M 6)) N pc hc uc ic hr) : o_X0_rollingHorses_0 b C ∧ o_X7_ofHorses_0 1 M ∧ b_X0_rollingHorses_0 b C = b_X7_ofHorses_0 1 M := s_rgh R 100 0 0 (by omega) (by have := gb R; omega)
theorem s_ovr (R : Rg (vw C b) (dR (M 6)) N pc hc uc ic hr) : ∀ n i (v : Int32), i ≤ ic → ic < n + i → o_X0_inningsOver_4 n b v (nI i) C ∧ o_X7_sumOfInnings_4 n 6 v (nI i) M ∧ b_X0_inningsOver_4 n b v (nI i) C = b_X7_sumOfInnings_4 n 6 v (nI i) M := by
  have hb := gb R
  intro n
  induction n with
  | zero => intro i v h1 h2; omega
  | succ n ih =>
    intro i v h1 h2
    have e1 := (g010 R).1
    have e2 := (g010 R).2
    by_cases hi : i < ic
    · have hle : ¬ nI ic ≤ nI i := nI_ge hi (by omega)
      have hin : vp_in (nI i) 12 := vp_in_nI (by omega) (by decide)
      have ecl := nI_clamp (n := i) (by omega)
      have G := gI R hi
      have ov := s_over (C := C) (b := b) (k := i) (by omega)
      have a1 : b_X2_isOver_0 (b + 16 + i) C = dR (M 6) (16 + i) 6 := by rw [ov.1, G.2.1.1]
      have m1 : b_X7_ofInnings_0 (nI i) 6 M = dR (M 6) (16 + i) 6 := ofI (f := 6) (by omega) (by decide)
      have q1 : o_X7_ofInnings_0 (nI i) 6 M := oI (f := 6) (by omega) (by decide)
      have z2 : dR (M 6) (16 + i) 6 = 0 ∨ dR (M 6) (16 + i) 6 = 1 := by rw [G.2.1.1]; exact over_01 _
      have ih := fun w => ih (i + 1) w (by omega) (by omega)
      simp only [nI_succ] at ih
      simp only [o_X0_inningsOver_4, o_X7_sumOfInnings_4, b_X0_inningsOver_4, b_X7_sumOfInnings_4, b_X0_inningsOver_30, o_X0_inningsOver_30, ov.2, e1, e2, hle, hin, ecl]
      simp only [a1, m1, q1]
      rcases z2 with z | z
      · simp only [z]
        simpa using ih _
      · have z1 : ¬ (1 : Int32) = 0 := by decide
        simp only [z, z1]
        simpa using ih _
    · have hie : i = ic := by omega
      subst hie
      have hle : nI i ≤ nI i := nI_le (Nat.le_refl i) (by omega)
      simp only [o_X0_inningsOver_4, o_X7_sumOfInnings_4, b_X0_inningsOver_4, b_X7_sumOfInnings_4, e1, e2, hle]
      simp
theorem q_s_ovr (R : Rg (vw C b) (dR (M 6)) N pc hc uc ic hr) : o_X0_inningsOver_0 b C ∧ o_X7_sumOfInnings_0 6 M ∧ b_X0_inningsOver_0 b C = b_X7_sumOfInnings_0 6 M := s_ovr R 100 0 0 (by omega) (by have := gb R; omega)
end

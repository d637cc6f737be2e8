/-! ALL ADDS UP -/
def sumI (U : Nat → Nat → Int32) (f : Nat) : Nat → Int32
  | 0 => 0
  | n + 1 => sumI U f n + U (16 + n) f
def sumP (U : Nat → Nat → Int32) (f : Nat) : Nat → Int32
  | 0 => 0
  | n + 1 => sumP U f n + U (7 + n) f
def sumQ (U : Nat → Nat → Int32) (n : Nat) : Nat → Int32
  | 0 => 0
  | m + 1 => sumQ U n m + sumOn U (nI m) n
def one (q : Nat) (x : Int32) : Nat → Int32
  | 0 => 0
  | m + 1 => one q x m + (if nI q = nI m then x else 0)
theorem one_v {q : Nat} {x : Int32} (hq : q < 100) : ∀ m, m < 100 → one q x m = (if q < m then x else 0) := by
  intro m
  induction m with
  | zero => intro _; rfl
  | succ m ih =>
    intro hm
    show one q x m + _ = _
    rw [ih (by omega)]
    by_cases e : q = m
    · subst e
      simp
    · have e2 : ¬ nI q = nI m := fun h => e ((nI_eq (by omega) (by omega)).mp h)
      by_cases h : q < m
      · have h2 : q < m + 1 := by omega
        simp [h, h2, e2]
      · have h2 : ¬ q < m + 1 := by omega
        simp [h, h2, e2]
theorem sumQ_s {U : Nat → Nat → Int32} {n q : Nat} (e : U (16 + n) 0 = nI q) : ∀ m, sumQ U (n + 1) m = sumQ U n m + one q (U (16 + n) 3) m := by
  intro m
  induction m with
  | zero => rfl
  | succ m ih =>
    show sumQ U (n + 1) m + (sumOn U (nI m) n + (if U (16 + n) 0 = nI m then U (16 + n) 3 else 0)) = (sumQ U n m + sumOn U (nI m) n) + (one q (U (16 + n) 3) m + (if nI q = nI m then U (16 + n) 3 else 0))
    rw [ih, e]
    ac_rfl
theorem sumQ_0 {U : Nat → Nat → Int32} : ∀ m, sumQ U 0 m = 0 := by
  intro m
  induction m with
  | zero => rfl
  | succ m ih =>
    show sumQ U 0 m + 0 = 0
    rw [ih]
    rfl
theorem sumQ_I {U : Nat → Nat → Int32} {pc : Nat} (hpc : pc ≤ 4) : ∀ n, (∀ k, k < n → ∃ q, q < pc ∧ U (16 + k) 0 = nI q) → sumQ U n pc = sumI U 3 n := by
  intro n
  induction n with
  | zero => intro _; exact sumQ_0 pc
  | succ n ih =>
    intro h
    obtain ⟨q, hq, e⟩ := h n (by omega)
    rw [sumQ_s e, ih (fun k hk => h k (by omega)), one_v (by omega) pc (by omega), if_pos hq]
    rfl
section
variable {C M : Sx} {b N pc hc uc ic hr : Nat}
theorem vl_sumI (R : Rg (vw C b) (dR (M 6)) N pc hc uc ic hr) : ∀ n i, i ≤ ic → ic < n + i → b_X7_sumOfInnings_4 n 3 (sumI (dR (M 6)) 3 i) (nI i) M = sumI (dR (M 6)) 3 ic := by
  have hb := gb R
  intro n
  induction n with
  | zero => intro i h1 h2; omega
  | succ n ih =>
    intro i h1 h2
    by_cases hi : i < ic
    · have hle : ¬ nI ic ≤ nI i := nI_ge hi (by omega)
      have m1 : b_X7_ofInnings_0 (nI i) 3 M = dR (M 6) (16 + i) 3 := ofI (f := 3) (by omega) (by decide)
      have J := ih (i + 1) (by omega) (by omega)
      rw [nI_succ] at J
      rw [b_X7_sumOfInnings_4, (g010 R).2, if_neg hle, m1]
      exact J
    · have hie : i = ic := by omega
      subst hie
      rw [b_X7_sumOfInnings_4, (g010 R).2, if_pos (nI_le (Nat.le_refl i) (by omega))]
theorem vl_sumP (R : Rg (vw C b) (dR (M 6)) N pc hc uc ic hr) : ∀ n i, i ≤ pc → pc < n + i → o_X7_sumOfPitches_4 n 4 (sumP (dR (M 6)) 4 i) (nI i) M ∧ b_X7_sumOfPitches_4 n 4 (sumP (dR (M 6)) 4 i) (nI i) M = sumP (dR (M 6)) 4 pc := by
  have hb := gb R
  intro n
  induction n with
  | zero => intro i h1 h2; omega
  | succ n ih =>
    intro i h1 h2
    by_cases hi : i < pc
    · have hle : ¬ nI pc ≤ nI i := nI_ge hi (by omega)
      have m1 : b_X7_of_0 (nI i) 4 M = dR (M 6) (7 + i) 4 := ofP (f := 4) (by omega) (by decide)
      have q1 : o_X7_of_0 (nI i) 4 M := oP (f := 4) (by omega) (by decide)
      have J := ih (i + 1) (by omega) (by omega)
      rw [nI_succ] at J
      rw [b_X7_sumOfPitches_4, o_X7_sumOfPitches_4, (g04 R).2, if_neg hle, m1]
      exact ⟨⟨fun e => absurd e hle, fun _ => ⟨q1, J.1⟩⟩, J.2⟩
    · have hie : i = pc := by omega
      subst hie
      have hle : nI i ≤ nI i := nI_le (Nat.le_refl i) (by omega)
      rw [b_X7_sumOfPitches_4, o_X7_sumOfPitches_4, (g04 R).2, if_pos hle]
      exact ⟨⟨fun _ => trivial, fun e => absurd hle e⟩, rfl⟩
theorem sums_eq (R : Rg (vw C b) (dR (M 6)) N pc hc uc ic hr) : sumI (dR (M 6)) 3 ic = sumP (dR (M 6)) 4 pc := by
  have hb := gb R
  have h1 := sumQ_I (U := dR (M 6)) (pc := pc) hb.1 ic (fun k hk => (gI R hk).2.1.2.1)
  rw [← h1]
  have h2 : ∀ m, m ≤ pc → sumQ (dR (M 6)) ic m = sumP (dR (M 6)) 4 m := by
    intro m
    induction m with
    | zero => intro _; rfl
    | succ m ih =>
      intro hm
      show sumQ (dR (M 6)) ic m + sumOn (dR (M 6)) (nI m) ic = sumP (dR (M 6)) 4 m + dR (M 6) (7 + m) 4
      rw [ih (by omega), R.2.2.2.2.2.2.2 m (by omega)]
  exact h2 pc (Nat.le_refl pc)
theorem s_rby (R : Rg (vw C b) (dR (M 6)) N pc hc uc ic hr) {k : Nat} (hk : k < ic) : ∀ n i (v : Int32), i ≤ 7 → 7 < n + i → o_X2_runsByWorth_4 n (b + 16 + k) v (nI i) C ∧ o_X7_runsBy_4 n (nI k) v (nI i) M ∧ b_X2_runsByWorth_4 n (b + 16 + k) v (nI i) C = b_X7_runsBy_4 n (nI k) v (nI i) M := by
  have hb := gb R
  have G := gI R hk
  intro n
  induction n with
  | zero => intro i v h1 h2; omega
  | succ n ih =>
    intro i v h1 h2
    have ih := fun w h => ih (i + 1) w h (by omega)
    simp only [nI_succ] at ih
    by_cases hi : i < 7
    · have hle : ¬ (7 : Int32) ≤ nI i := nI_ge (b := 7) hi (by decide)
      have hin : vp_in (nI i) 7 := vp_in_nI hi (by decide)
      have ecl := nI_clamp (n := i) (by omega)
      have a7 : (7 : Int32) + nI i = nI (7 + i) := m_add 7 _ _ rfl
      have m1 : b_X7_ofInnings_0 (nI k) (nI (7 + i)) M = dR (M 6) (28 + k) i := ofO (by omega) hi
      have q1 : o_X7_ofInnings_0 (nI k) (nI (7 + i)) M := oO (by omega) hi
      have c1 : C (b + 16 + k + 12) i = dR (M 6) (28 + k) i := (vO (p := k) (f := i) (by omega) hi).trans (G.2.2.2.1 i hi)
      simp only [o_X2_runsByWorth_4, o_X7_runsBy_4, b_X2_runsByWorth_4, b_X7_runsBy_4, hle, hin, ecl, a7, m1, q1, c1, b_X2_runsByWorth_26, o_X2_runsByWorth_26, b_X7_runsBy_31, o_X7_runsBy_31]
      by_cases h5 : nI i = 5
      · simp only [h5] at ih ⊢
        simpa using ih v (by omega)
      · simp only [h5]
        simpa using ih _ (by omega)
    · have hie : i = 7 := by omega
      subst hie
      have hle : (7 : Int32) ≤ nI 7 := by decide
      simp only [o_X2_runsByWorth_4, o_X7_runsBy_4, b_X2_runsByWorth_4, b_X7_runsBy_4, hle]
      simp
theorem q_rby (R : Rg (vw C b) (dR (M 6)) N pc hc uc ic hr) {k : Nat} (hk : k < ic) : o_X2_runsByWorth_0 (b + 16 + k) C ∧ o_X7_runsBy_0 (nI k) M ∧ b_X2_runsByWorth_0 (b + 16 + k) C = b_X7_runsBy_0 (nI k) M := s_rby R hk 100 0 0 (by omega) (by omega)
theorem st_rby {k : Nat} (hk : k < 12) (m : Nat) (v : Int32) {j : Nat} (hj : j < 7) (h5 : ¬ j = 5) : b_X7_runsBy_4 (m + 1) (nI k) v (nI j) M = b_X7_runsBy_4 m (nI k) (v + nI j * dR (M 6) (28 + k) j) (nI (j + 1)) M := by
  have a7 : (7 : Int32) + nI j = nI (7 + j) := m_add 7 _ _ rfl
  have m1 : b_X7_ofInnings_0 (nI k) (nI (7 + j)) M = dR (M 6) (28 + k) j := ofO hk hj
  have e5 : ¬ nI j = 5 := fun e => h5 ((nI_eq (a := j) (b := 5) (by omega) (by decide)).mp e)
  rw [b_X7_runsBy_4, if_neg (show ¬ (7 : Int32) ≤ nI j from nI_ge (b := 7) hj (by decide)), if_neg e5, a7, m1, b_X7_runsBy_31, nI_succ]
theorem st_rby5 {k : Nat} (m : Nat) (v : Int32) : b_X7_runsBy_4 (m + 1) (nI k) v (nI 5) M = b_X7_runsBy_4 m (nI k) (v + 0) (nI 6) M := by
  rw [b_X7_runsBy_4, if_neg (show ¬ (7 : Int32) ≤ nI 5 by decide), if_pos (show nI 5 = 5 from rfl), b_X7_runsBy_31]
  rfl
theorem vl_rby (R : Rg (vw C b) (dR (M 6)) N pc hc uc ic hr) {k : Nat} (hk : k < ic) : b_X7_runsBy_0 (nI k) M = dR (M 6) (16 + k) 4 := by
  have hb := gb R
  have G := gI R hk
  have hk12 : k < 12 := by omega
  have s0 := st_rby (M := M) hk12 99 0 (j := 0) (by decide) (by decide)
  have s1 := st_rby (M := M) hk12 98 (0 + nI 0 * dR (M 6) (28 + k) 0) (j := 1) (by decide) (by decide)
  have s2 := st_rby (M := M) hk12 97 (0 + nI 0 * dR (M 6) (28 + k) 0 + nI 1 * dR (M 6) (28 + k) 1) (j := 2) (by decide) (by decide)
  have s3 := st_rby (M := M) hk12 96 (0 + nI 0 * dR (M 6) (28 + k) 0 + nI 1 * dR (M 6) (28 + k) 1 + nI 2 * dR (M 6) (28 + k) 2) (j := 3) (by decide) (by decide)
  have s4 := st_rby (M := M) hk12 95 (0 + nI 0 * dR (M 6) (28 + k) 0 + nI 1 * dR (M 6) (28 + k) 1 + nI 2 * dR (M 6) (28 + k) 2 + nI 3 * dR (M 6) (28 + k) 3) (j := 4) (by decide) (by decide)
  have s5 := st_rby5 (M := M) (k := k) 94 (0 + nI 0 * dR (M 6) (28 + k) 0 + nI 1 * dR (M 6) (28 + k) 1 + nI 2 * dR (M 6) (28 + k) 2 + nI 3 * dR (M 6) (28 + k) 3 + nI 4 * dR (M 6) (28 + k) 4)
  have s6 := st_rby (M := M) hk12 93 (0 + nI 0 * dR (M 6) (28 + k) 0 + nI 1 * dR (M 6) (28 + k) 1 + nI 2 * dR (M 6) (28 + k) 2 + nI 3 * dR (M 6) (28 + k) 3 + nI 4 * dR (M 6) (28 + k) 4 + 0) (j := 6) (by decide) (by decide)
  have s7 : ∀ v, b_X7_runsBy_4 93 (nI k) v (nI 7) M = v := fun v => by rw [b_X7_runsBy_4, if_pos (show (7 : Int32) ≤ nI 7 by decide)]
  have e : b_X7_runsBy_0 (nI k) M = b_X7_runsBy_4 100 (nI k) 0 (nI 0) M := rfl
  rw [e, s0, s1, s2, s3, s4, s5, s6, s7, G.2.2.2.2.1]
  rw [show nI 0 = (0 : Int32) from rfl, show nI 1 = (1 : Int32) from rfl, show nI 2 = (2 : Int32) from rfl, show nI 3 = (3 : Int32) from rfl, show nI 4 = (4 : Int32) from rfl, show nI 6 = (6 : Int32) from rfl]
  simp
theorem st_bby {k : Nat} (R : Rg (vw C b) (dR (M 6)) N pc hc uc ic hr) (hk : k < ic) (m : Nat) (v : Int32) {j : Nat} (hj : j < 7) : b_X2_ballsByWorth_4 (m + 1) (b + 16 + k) v (nI j) C = b_X2_ballsByWorth_4 m (b + 16 + k) (v + dR (M 6) (28 + k) j) (nI (j + 1)) C ∧ (o_X2_ballsByWorth_4 m (b + 16 + k) (v + dR (M 6) (28 + k) j) (nI (j + 1)) C → o_X2_ballsByWorth_4 (m + 1) (b + 16 + k) v (nI j) C) := by
  have hb := gb R
  have c1 : C (b + 16 + k + 12) j = dR (M 6) (28 + k) j := (vO (p := k) (f := j) (by omega) hj).trans ((gI R hk).2.2.2.1 j hj)
  have hle : ¬ (7 : Int32) ≤ nI j := nI_ge (b := 7) hj (by decide)
  rw [b_X2_ballsByWorth_4, o_X2_ballsByWorth_4, if_neg hle, nI_clamp (by omega), c1, nI_succ]
  exact ⟨rfl, fun h => ⟨fun e => absurd e hle, fun _ => ⟨vp_in_nI hj (by decide), h⟩⟩⟩
theorem q_bby (R : Rg (vw C b) (dR (M 6)) N pc hc uc ic hr) {k : Nat} (hk : k < ic) : o_X2_ballsByWorth_0 (b + 16 + k) C ∧ b_X2_ballsByWorth_0 (b + 16 + k) C = dR (M 6) (16 + k) 3 := by
  have G := gI R hk
  have s0 := st_bby R hk 99 0 (j := 0) (by decide)
  have s1 := st_bby R hk 98 (0 + dR (M 6) (28 + k) 0) (j := 1) (by decide)
  have s2 := st_bby R hk 97 (0 + dR (M 6) (28 + k) 0 + dR (M 6) (28 + k) 1) (j := 2) (by decide)
  have s3 := st_bby R hk 96 (0 + dR (M 6) (28 + k) 0 + dR (M 6) (28 + k) 1 + dR (M 6) (28 + k) 2) (j := 3) (by decide)
  have s4 := st_bby R hk 95 (0 + dR (M 6) (28 + k) 0 + dR (M 6) (28 + k) 1 + dR (M 6) (28 + k) 2 + dR (M 6) (28 + k) 3) (j := 4) (by decide)
  have s5 := st_bby R hk 94 (0 + dR (M 6) (28 + k) 0 + dR (M 6) (28 + k) 1 + dR (M 6) (28 + k) 2 + dR (M 6) (28 + k) 3 + dR (M 6) (28 + k) 4) (j := 5) (by decide)
  have s6 := st_bby R hk 93 (0 + dR (M 6) (28 + k) 0 + dR (M 6) (28 + k) 1 + dR (M 6) (28 + k) 2 + dR (M 6) (28 + k) 3 + dR (M 6) (28 + k) 4 + dR (M 6) (28 + k) 5) (j := 6) (by decide)
  have s7 : ∀ v, b_X2_ballsByWorth_4 93 (b + 16 + k) v (nI 7) C = v ∧ o_X2_ballsByWorth_4 93 (b + 16 + k) v (nI 7) C := fun v => by
    rw [b_X2_ballsByWorth_4, o_X2_ballsByWorth_4, if_pos (show (7 : Int32) ≤ nI 7 by decide)]
    exact ⟨rfl, fun _ => trivial, fun e => absurd (by decide) e⟩
  have e : b_X2_ballsByWorth_0 (b + 16 + k) C = b_X2_ballsByWorth_4 100 (b + 16 + k) 0 (nI 0) C := rfl
  refine ⟨s0.2 (s1.2 (s2.2 (s3.2 (s4.2 (s5.2 (s6.2 (s7 _).2)))))), ?_⟩
  rw [e, s0.1, s1.1, s2.1, s3.1, s4.1, s5.1, s6.1, (s7 _).1, G.2.2.2.2.2.2]
  simp
theorem q_well1 (R : Rg (vw C b) (dR (M 6)) N pc hc uc ic hr) {k : Nat} (hk : k < ic) : o_X2_isWellCounted_0 (b + 16 + k) C ∧ b_X2_isWellCounted_0 (b + 16 + k) C = 1 := by
  have hb := gb R
  have G := gI R hk
  have a4 : C (b + 16 + k) 4 = dR (M 6) (16 + k) 4 := (vI (p := k) (f := 4) (by omega) (by decide) (by decide)).trans G.1.2.2.2.2.1
  have a3 : C (b + 16 + k) 3 = dR (M 6) (16 + k) 3 := (vI (p := k) (f := 3) (by omega) (by decide) (by decide)).trans G.1.2.2.2.1
  have a5 : C (b + 16 + k) 5 = dR (M 6) (28 + k) 5 := ((vI (p := k) (f := 5) (by omega) (by decide) (by decide)).trans G.1.2.2.2.2.2).trans G.2.2.2.2.2.1
  have c5 : C (b + 16 + k + 12) ((5 : Int32).toNatClampNeg) = dR (M 6) (28 + k) 5 := (vO (p := k) (f := 5) (by omega) (by decide)).trans (G.2.2.2.1 5 (by decide))
  have Q1 := q_rby R hk
  have Q2 := q_bby R hk
  have Q3 := vl_rby R hk
  unfold o_X2_isWellCounted_0 b_X2_isWellCounted_0 b_X2_isWellCounted_40 o_X2_isWellCounted_40
  rw [a4, a3, a5, c5, Q1.2.2, Q3, Q2.2, if_pos rfl, if_pos rfl, if_pos rfl]
  exact ⟨⟨Q1.1, fun _ => ⟨fun _ => ⟨Q2.1, fun _ => ⟨Or.inr rfl, trivial⟩, fun e => absurd rfl e⟩, fun e => absurd rfl e⟩, fun e => absurd rfl e⟩, rfl⟩
theorem s_wellI (R : Rg (vw C b) (dR (M 6)) N pc hc uc ic hr) : ∀ n i, i ≤ ic → ic < n + i → o_X0_areInningsWell_2 n b (nI i) C ∧ b_X0_areInningsWell_2 n b (nI i) C = 1 := by
  have hb := gb R
  intro n
  induction n with
  | zero => intro i h1 h2; omega
  | succ n ih =>
    intro i h1 h2
    have z1 : ¬ (1 : Int32) = 0 := by decide
    by_cases hi : i < ic
    · have hle : ¬ nI ic ≤ nI i := nI_ge hi (by omega)
      have Q := q_well1 R hi
      have J := ih (i + 1) (by omega) (by omega)
      rw [nI_succ] at J
      rw [b_X0_areInningsWell_2, o_X0_areInningsWell_2, (g010 R).1, if_neg hle, nI_clamp (by omega), Q.2, if_neg z1]
      exact ⟨⟨fun e => absurd e hle, fun _ => ⟨vp_in_nI (by omega) (by decide), Q.1, fun e => absurd e z1, fun _ => J.1⟩⟩, J.2⟩
    · have hie : i = ic := by omega
      subst hie
      have hle : nI i ≤ nI i := nI_le (Nat.le_refl i) (by omega)
      rw [b_X0_areInningsWell_2, o_X0_areInningsWell_2, (g010 R).1, if_pos hle]
      exact ⟨⟨fun _ => trivial, fun e => absurd hle e⟩, rfl⟩
theorem s_on (R : Rg (vw C b) (dR (M 6)) N pc hc uc ic hr) (x : Int32) : ∀ n i, i ≤ ic → ic < n + i → o_X0_ballsOfInningsOn_4 n b x (sumOn (dR (M 6)) x i) (nI i) C ∧ b_X0_ballsOfInningsOn_4 n b x (sumOn (dR (M 6)) x i) (nI i) C = sumOn (dR (M 6)) x ic := by
  have hb := gb R
  intro n
  induction n with
  | zero => intro i h1 h2; omega
  | succ n ih =>
    intro i h1 h2
    by_cases hi : i < ic
    · have hle : ¬ nI ic ≤ nI i := nI_ge hi (by omega)
      have G := gI R hi
      have a0 : C (b + 16 + i) 0 = dR (M 6) (16 + i) 0 := (vI (p := i) (f := 0) (by omega) (by decide) (by decide)).trans G.1.1
      have a3 : C (b + 16 + i) 3 = dR (M 6) (16 + i) 3 := (vI (p := i) (f := 3) (by omega) (by decide) (by decide)).trans G.1.2.2.2.1
      have J := ih (i + 1) (by omega) (by omega)
      rw [nI_succ] at J
      have hin : vp_in (nI i) 12 := vp_in_nI (by omega) (by decide)
      have es : sumOn (dR (M 6)) x (i + 1) = sumOn (dR (M 6)) x i + (if dR (M 6) (16 + i) 0 = x then dR (M 6) (16 + i) 3 else 0) := rfl
      rw [es] at J
      rw [b_X0_ballsOfInningsOn_4, o_X0_ballsOfInningsOn_4, (g010 R).1, if_neg hle, nI_clamp (by omega), a0, a3]
      by_cases h : dR (M 6) (16 + i) 0 = x
      · rw [if_pos h] at J ⊢
        exact ⟨⟨fun e => absurd e hle, fun _ => ⟨hin, fun _ => ⟨hin, J.1⟩, fun e => absurd h e⟩⟩, J.2⟩
      · rw [if_neg h] at J ⊢
        exact ⟨⟨fun e => absurd e hle, fun _ => ⟨hin, fun e => absurd e h, fun _ => J.1⟩⟩, J.2⟩
    · have hie : i = ic := by omega
      subst hie
      have hle : nI i ≤ nI i := nI_le (Nat.le_refl i) (by omega)
      rw [b_X0_ballsOfInningsOn_4, o_X0_ballsOfInningsOn_4, (g010 R).1, if_pos hle]
      exact ⟨⟨fun _ => trivial, fun e => absurd hle e⟩, rfl⟩
theorem vl_rol (R : Rg (vw C b) (dR (M 6)) N pc hc uc ic hr) (x : Int32) : ∀ n i j, i ≤ hc → hc < n + i → j < hc → b_X7_rollerOf_2 n x (nI i) M = nI j → ¬ dR (M 6) (11 + j) 3 = 0 ∧ dR (M 6) (11 + j) 4 = x := by
  have hb := gb R
  intro n
  induction n with
  | zero => intro i j h1 h2; omega
  | succ n ih =>
    intro i j h1 h2 hj he
    rw [b_X7_rollerOf_2, (g06 R).2] at he
    by_cases hi : i < hc
    · have hle : ¬ nI hc ≤ nI i := nI_ge hi (by omega)
      have m3 : b_X7_ofHorse_0 (nI i) 3 M = dR (M 6) (11 + i) 3 := ofH (f := 3) (by omega) (by decide)
      have m4 : b_X7_ofHorse_0 (nI i) 4 M = dR (M 6) (11 + i) 4 := ofH (f := 4) (by omega) (by decide)
      rw [if_neg hle, m3, m4, b_X7_rollerOf_34, ← nI_succ] at he
      by_cases h3 : dR (M 6) (11 + i) 3 ≤ 0
      · rw [if_pos h3] at he
        exact ih (i + 1) j (by omega) (by omega) hj he
      · rw [if_neg h3] at he
        by_cases h4 : dR (M 6) (11 + i) 4 = x
        · rw [if_pos h4] at he
          have e := (nI_eq (a := i) (b := j) (by omega) (by omega)).mp he
          subst e
          exact ⟨fun e => h3 (by rw [e]; decide), h4⟩
        · rw [if_neg h4] at he
          exact ih (i + 1) j (by omega) (by omega) hj he
    · have hie : i = hc := by omega
      subst hie
      rw [if_pos (nI_le (Nat.le_refl i) (by omega))] at he
      exact absurd he.symm (nI_m1 (by omega))
theorem vl_opn (R : Rg (vw C b) (dR (M 6)) N pc hc uc ic hr) (x : Int32) : ∀ n i j, i ≤ ic → ic < n + i → j < ic → b_X7_openOn_2 n x (nI i) M = nI j → dR (M 6) (16 + j) 6 = 0 ∧ dR (M 6) (16 + j) 0 = x := by
  have hb := gb R
  intro n
  induction n with
  | zero => intro i j h1 h2; omega
  | succ n ih =>
    intro i j h1 h2 hj he
    rw [b_X7_openOn_2, (g010 R).2] at he
    by_cases hi : i < ic
    · have hle : ¬ nI ic ≤ nI i := nI_ge hi (by omega)
      have m6 : b_X7_ofInnings_0 (nI i) 6 M = dR (M 6) (16 + i) 6 := ofI (f := 6) (by omega) (by decide)
      have m0 : b_X7_ofInnings_0 (nI i) 0 M = dR (M 6) (16 + i) 0 := ofI (f := 0) (by omega) (by decide)
      rw [if_neg hle, m6, m0, b_X7_openOn_35, ← nI_succ] at he
      by_cases h3 : dR (M 6) (16 + i) 6 = 0
      · rw [if_pos h3] at he
        by_cases h4 : dR (M 6) (16 + i) 0 = x
        · rw [if_pos h4] at he
          have e := (nI_eq (a := i) (b := j) (by omega) (by omega)).mp he
          subst e
          exact ⟨h3, h4⟩
        · rw [if_neg h4] at he
          exact ih (i + 1) j (by omega) (by omega) hj he
      · rw [if_neg h3] at he
        exact ih (i + 1) j (by omega) (by omega) hj he
    · have hie : i = ic := by omega
      subst hie
      rw [if_pos (nI_le (Nat.le_refl i) (by omega))] at he
      exact absurd he.symm (nI_m1 (by omega))
/-- never rolled and played on at once -/
theorem not_both (R : Rg (vw C b) (dR (M 6)) N pc hc uc ic hr) (x : Int32) : b_X7_rollerOf_0 x M = -1 ∨ b_X7_openOn_0 x M = -1 := by
  have hb := gb R
  rcases (q_rol R x).2.2.2 with h | ⟨j, hj, h⟩
  · exact Or.inl h
  · rcases (q_opn R x).2.2.2 with g | ⟨k, hk, g⟩
    · exact Or.inr g
    · have a := vl_rol R x 100 0 j (by omega) (by omega) hj h
      have c := vl_opn R x 100 0 k (by omega) (by omega) hk g
      exact absurd ⟨a.1, c.1, a.2.trans c.2.symm⟩ (R.2.2.2.2.2.2.1 j k hj hk)
theorem s_wellP (R : Rg (vw C b) (dR (M 6)) N pc hc uc ic hr) : ∀ n i, i ≤ pc → pc < n + i → o_X0_arePitchesWell_2 n b (nI i) C ∧ b_X0_arePitchesWell_2 n b (nI i) C = 1 := by
  have hb := gb R
  intro n
  induction n with
  | zero => intro i h1 h2; omega
  | succ n ih =>
    intro i h1 h2
    by_cases hi : i < pc
    · have hle : ¬ nI pc ≤ nI i := nI_ge hi (by omega)
      have G := gP R hi
      have a4 : C (b + 7 + i) 4 = dR (M 6) (7 + i) 4 := (vP (p := i) (f := 4) (by omega) (by decide) (by decide)).trans G.1.2.2.2.2
      have B := s_on R (nI i) 100 0 (by omega) (by omega)
      have e4 : C (b + 7 + i) 4 = b_X0_ballsOfInningsOn_0 b (nI i) C := a4.trans ((R.2.2.2.2.2.2.2 i hi).trans B.2.symm)
      have o4 : o_X0_ballsOfInningsOn_0 b (nI i) C := B.1
      have J := ih (i + 1) (by omega) (by omega)
      rw [nI_succ] at J
      have hin : vp_in (nI i) 4 := vp_in_nI (by omega) (by decide)
      have ecl := nI_clamp (n := i) (by omega)
      have T : o_X0_arePitchesWell_32 (o_X0_arePitchesWell_2 n) b (nI i) C ∧ b_X0_arePitchesWell_32 (b_X0_arePitchesWell_2 n) b (nI i) C = 1 := by
        unfold o_X0_arePitchesWell_32 b_X0_arePitchesWell_32 o_X0_arePitchesWell_33 b_X0_arePitchesWell_33
        rw [ecl, if_pos rfl, if_pos e4]
        exact ⟨⟨fun _ => ⟨hin, o4, fun _ => J.1, fun e => absurd e4 e⟩, fun e => absurd rfl e⟩, J.2⟩
      obtain ⟨r1, r2, r3, r4⟩ := q_rol R (nI i)
      obtain ⟨s1, s2, s3, s4⟩ := q_opn R (nI i)
      rw [b_X0_arePitchesWell_2, o_X0_arePitchesWell_2, (g04 R).1, if_neg hle]
      by_cases hz : b_X0_rollerOf_0 b (nI i) C = -1
      · rw [if_pos hz]
        exact ⟨⟨fun e => absurd e hle, fun _ => ⟨r1, fun _ => T.1, fun e => absurd hz e⟩⟩, T.2⟩
      · have hz2 : b_X0_playedOn_0 b (nI i) C = -1 := by
          rw [s3]
          rcases not_both R (nI i) with h | h
          · exact absurd (r3.trans h) hz
          · exact h
        rw [if_neg hz, if_pos hz2]
        exact ⟨⟨fun e => absurd e hle, fun _ => ⟨r1, fun e => absurd e hz, fun _ => ⟨s1, fun _ => T.1, fun e => absurd hz2 e⟩⟩⟩, T.2⟩
    · have hie : i = pc := by omega
      subst hie
      have hle : nI i ≤ nI i := nI_le (Nat.le_refl i) (by omega)
      rw [b_X0_arePitchesWell_2, o_X0_arePitchesWell_2, (g04 R).1, if_pos hle]
      exact ⟨⟨fun _ => trivial, fun e => absurd hle e⟩, rfl⟩
theorem s_m83 (R : Rg (vw C b) (dR (M 6)) N pc hc uc ic hr) : ∀ n i, i ≤ pc → pc < n + i → o_X7_isWell_83 n 1 (nI i) M ∧ b_X7_isWell_83 n 1 (nI i) M = (1, M) := by
  have hb := gb R
  intro n
  induction n with
  | zero => intro i h1 h2; omega
  | succ n ih =>
    intro i h1 h2
    by_cases hi : i < pc
    · have hle : ¬ nI pc ≤ nI i := nI_ge hi (by omega)
      have J := ih (i + 1) (by omega) (by omega)
      rw [nI_succ] at J
      obtain ⟨r1, r2, r3, r4⟩ := q_rol R (nI i)
      obtain ⟨s1, s2, s3, s4⟩ := q_opn R (nI i)
      have T : o_X7_isWell_111 (o_X7_isWell_83 n) (nI i) 1 M ∧ b_X7_isWell_111 (b_X7_isWell_83 n) (nI i) 1 M = (1, M) := J
      rw [b_X7_isWell_83, o_X7_isWell_83, (g04 R).2, if_neg hle]
      by_cases hz : b_X7_rollerOf_0 (nI i) M < 0
      · rw [if_pos hz]
        exact ⟨⟨fun e => absurd e hle, fun _ => ⟨r2, fun _ => T.1, fun e => absurd hz e⟩⟩, T.2⟩
      · have hz2 : b_X7_openOn_0 (nI i) M = -1 := by
          rcases not_both R (nI i) with h | h
          · rw [h] at hz
            exact absurd m1_lt hz
          · exact h
        have hz3 : ¬ 0 ≤ b_X7_openOn_0 (nI i) M := by rw [hz2]; decide
        rw [if_neg hz, if_neg hz3]
        exact ⟨⟨fun e => absurd e hle, fun _ => ⟨r2, fun e => absurd e hz, fun _ => ⟨s2, fun e => absurd e hz3, fun _ => T.1⟩⟩⟩, T.2⟩
    · have hie : i = pc := by omega
      subst hie
      have hle : nI i ≤ nI i := nI_le (Nat.le_refl i) (by omega)
      rw [b_X7_isWell_83, o_X7_isWell_83, (g04 R).2, if_pos hle]
      exact ⟨⟨fun _ => ⟨Or.inr rfl, trivial⟩, fun e => absurd hle e⟩, rfl⟩
theorem s_m26 (R : Rg (vw C b) (dR (M 6)) N pc hc uc ic hr) : ∀ n i, i ≤ ic → ic < n + i → o_X7_isWell_26 n 1 (nI i) M ∧ b_X7_isWell_26 n 1 (nI i) M = (1, M) := by
  have hb := gb R
  intro n
  induction n with
  | zero => intro i h1 h2; omega
  | succ n ih =>
    intro i h1 h2
    by_cases hi : i < ic
    · have hle : ¬ nI ic ≤ nI i := nI_ge hi (by omega)
      have J := ih (i + 1) (by omega) (by omega)
      rw [nI_succ] at J
      have G := gI R hi
      have m4 : b_X7_ofInnings_0 (nI i) 4 M = dR (M 6) (16 + i) 4 := ofI (f := 4) (by omega) (by decide)
      have m5 : b_X7_ofInnings_0 (nI i) 5 M = dR (M 6) (16 + i) 5 := ofI (f := 5) (by omega) (by decide)
      have m12 : b_X7_ofInnings_0 (nI i) 12 M = dR (M 6) (28 + i) 5 := ofO (f := 5) (by omega) (by decide)
      have q4 : o_X7_ofInnings_0 (nI i) 4 M := oI (f := 4) (by omega) (by decide)
      have q5 : o_X7_ofInnings_0 (nI i) 5 M := oI (f := 5) (by omega) (by decide)
      have q12 : o_X7_ofInnings_0 (nI i) 12 M := oO (f := 5) (by omega) (by decide)
      have T : o_X7_isWell_73 (o_X7_isWell_26 n) (nI i) 1 1 M ∧ b_X7_isWell_73 (b_X7_isWell_26 n) (nI i) 1 1 M = (1, M) := J
      have e1 : b_X7_ofInnings_0 (nI i) 4 M = b_X7_runsBy_0 (nI i) M := by rw [m4, vl_rby R hi]
      have e2 : b_X7_ofInnings_0 (nI i) 5 M = b_X7_ofInnings_0 (nI i) 12 M := by rw [m5, m12, G.2.2.2.2.2.1]
      rw [b_X7_isWell_26, o_X7_isWell_26, (g010 R).2, if_neg hle, if_pos e1, if_pos e2]
      exact ⟨⟨fun e => absurd e hle, fun _ => ⟨q4, (q_rby R hi).2.1, fun _ => ⟨q5, q12, fun _ => T.1, fun e => absurd e2 e⟩, fun e => absurd e1 e⟩⟩, T.2⟩
    · have hie : i = ic := by omega
      subst hie
      have hle : nI i ≤ nI i := nI_le (Nat.le_refl i) (by omega)
      have J := s_m83 R 100 0 (by omega) (by omega)
      rw [nI_0] at J
      rw [b_X7_isWell_26, o_X7_isWell_26, (g010 R).2, if_pos hle]
      exact ⟨⟨fun _ => J.1, fun e => absurd hle e⟩, J.2⟩
theorem q_wellC (R : Rg (vw C 15) (dR (M 6)) N pc hc uc ic hr) : o_X6_isWell_0 C ∧ b_X6_isWell_0 C = 1 := by
  have hb := gb R
  have z1 : ¬ (1 : Int32) = 0 := by decide
  have A := s_wellI R 100 0 (by omega) (by omega)
  have B := s_wellP R 100 0 (by omega) (by omega)
  have A1 : b_X0_areInningsWell_0 15 C = 1 := A.2
  have B1 : b_X0_arePitchesWell_0 15 C = 1 := B.2
  unfold o_X6_isWell_0 b_X6_isWell_0 b_X6_isWell_25 o_X6_isWell_25
  rw [A1, B1, if_neg z1, if_neg z1]
  exact ⟨⟨A.1, fun e => absurd e z1, fun _ => ⟨B.1, fun e => absurd e z1, fun _ => ⟨Or.inr rfl, trivial⟩⟩⟩, rfl⟩
theorem q_wellM (R : Rg (vw C b) (dR (M 6)) N pc hc uc ic hr) : o_X7_isWell_0 M ∧ b_X7_isWell_0 M = (1, up2 M 5 8 0) := by
  have hb := gb R
  have R' : Rg (vw C b) (dR ((up2 M 5 8 0) 6)) N pc hc uc ic hr := by
    rw [up2_ne (by decide)]
    exact R
  have A := vl_sumI R' 100 0 (by omega) (by omega)
  have B := vl_sumP R' 100 0 (by omega) (by omega)
  have O := q_s_bal R'
  have J := s_m26 R' 100 0 (by omega) (by omega)
  rw [nI_0] at J
  have e : b_X7_sumOfInnings_0 3 (up2 M 5 8 0) = b_X7_sumOfPitches_0 4 (up2 M 5 8 0) := (A.trans (sums_eq R')).trans B.2.symm
  unfold o_X7_isWell_0 b_X7_isWell_0
  rw [if_pos e]
  exact ⟨⟨O.2.1, B.1, fun _ => J.1, fun h => absurd e h⟩, J.2⟩
end

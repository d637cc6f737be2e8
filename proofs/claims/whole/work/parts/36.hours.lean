/-! AN HOUR, on both sides in step -/
def FC (b : Nat) (C C' : Sx) : Prop := ∀ j, (j < b ∨ b + 40 ≤ j) → C' j = C j
def FM (M M' : Sx) : Prop := ∀ j, ¬ j = 6 → M' j = M j
theorem FC.rf {b : Nat} {C : Sx} : FC b C C := fun _ _ => rfl
theorem FM.rf {M : Sx} : FM M M := fun _ _ => rfl
theorem FC.tr {b : Nat} {C C' C'' : Sx} (h : FC b C C') (h' : FC b C' C'') : FC b C C'' := fun j hj => (h' j hj).trans (h j hj)
theorem FM.tr {M M' M'' : Sx} (h : FM M M') (h' : FM M' M'') : FM M M'' := fun j hj => (h' j hj).trans (h j hj)
section
variable {b N pc hc uc ic hr : Nat}
theorem w_at {C M : Sx} (R : Rg (vw C b) (dR (M 6)) N pc hc uc ic hr) {x : Nat} (hx : x < 24) : ∃ r l, r ≤ 9 ∧ l ≤ 9 ∧ C (b + 1) (nI x).toNatClampNeg = nI r ∧ C (b + 2) (nI x).toNatClampNeg = nI l ∧ M 6 ((2 : Int32) + nI x).toNatClampNeg = nI r ∧ M 6 ((26 : Int32) + nI x).toNatClampNeg = nI l ∧ vp_in ((2 : Int32) + nI x) 275 ∧ vp_in ((26 : Int32) + nI x) 275 ∧ vp_in (nI x) 24 := by
  have w := R.2.1 x hx
  obtain ⟨r, hr1, er⟩ := w.2.2.1
  obtain ⟨l, hl1, el⟩ := w.2.2.2
  have e := nI_clamp (n := x) (by omega)
  have a2 : (2 : Int32) + nI x = nI (2 + x) := m_add 2 _ _ rfl
  have a26 : (26 : Int32) + nI x = nI (26 + x) := m_add 26 _ _ rfl
  refine ⟨r, l, hr1, hl1, ?_, ?_, ?_, ?_, ?_, ?_, vp_in_nI hx (by decide)⟩
  · rw [e]; exact (v1 hx).trans (w.1.trans er)
  · rw [e]; exact (v2 hx).trans (w.2.1.trans el)
  · rw [a2, nI_clamp (by omega), ← er]; unfold dR; rw [if_pos (rel_1 hx)]; rfl
  · rw [a26, nI_clamp (by omega), ← el]; unfold dR; rw [if_pos (rel_2 hx)]; rfl
  · rw [a2]; exact vp_in_nI (by omega) (by decide)
  · rw [a26]; exact vp_in_nI (by omega) (by decide)
theorem s_hourP (hN : N < 2 ^ 30) : ∀ n i (C M : Sx) (v : Int32), i ≤ pc → pc < n + i → Rg (vw C b) (dR (M 6)) N pc hc uc ic hr →
    o_X0_letHourGoBy_80 n b v (nI (hr % 24)) (nI i) C ∧ o_X7_hourGoes_61 n v (nI i) M ∧ (b_X0_letHourGoBy_80 n b v (nI (hr % 24)) (nI i) C).1 = (b_X7_hourGoes_61 n v (nI i) M).1 ∧ FC b C (b_X0_letHourGoBy_80 n b v (nI (hr % 24)) (nI i) C).2 ∧ FM M (b_X7_hourGoes_61 n v (nI i) M).2 ∧ Rg (vw (b_X0_letHourGoBy_80 n b v (nI (hr % 24)) (nI i) C).2 b) (dR ((b_X7_hourGoes_61 n v (nI i) M).2 6)) (N + 1) pc hc uc ic (hr + 1) := by
  intro n
  induction n with
  | zero => intro i C M v h1 h2; omega
  | succ n ih =>
    intro i C M v h1 h2 R
    have hb := gb R
    have e1 := (g04 R).1
    have e2 := (g04 R).2
    by_cases hi : i < pc
    · have hle : ¬ nI pc ≤ nI i := nI_ge hi (by omega)
      have hin : vp_in (nI i) 4 := vp_in_nI (by omega) (by decide)
      have ecl := nI_clamp (n := i) (by omega)
      have G := gP R hi
      have hod := (q_hod R hN)
      obtain ⟨rr, ll, hrr, hll, w1, w2, w3, w4, w5, w6, w7⟩ := w_at R hod.2.2.2
      have c3 : nb (C (b + 7 + i) 3) = dR (M 6) (7 + i) 3 := (vP3 (by omega)).trans G.1.2.2.2.1
      have m3 : b_X7_of_0 (nI i) 3 M = dR (M 6) (7 + i) 3 := ofP (f := 3) (by omega) (by decide)
      have q3 : o_X7_of_0 (nI i) 3 M := oP (f := 3) (by omega) (by decide)
      have q0 : o_X7_of_0 (nI i) 0 M := oP (f := 0) (by omega) (by decide)
      obtain ⟨wt, hw, ew⟩ := G.2.1
      simp only [o_X0_letHourGoBy_80, o_X7_hourGoes_61, b_X0_letHourGoBy_80, b_X7_hourGoes_61, e1, e2, hle, hin, ecl, c3, m3, q3, q0, hod.2.2.1, w1, w2, w3, w4, w5, w6, w7]
      rcases G.2.2.2.2 with k3 | k3
      · have z1 : ¬ (0 : Int32) = 1 := by decide
        have S0 : CS C C b (vw C b) := CS.rf
        have T0 : MS M M (dR (M 6)) := MS.rf
        have x1 : b_X6_more_0 (C (b + 7 + i) 0) (4 * nI rr) 99 C = nI (min (wt + 4 * rr) 99) := by
          rw [(vP (p := i) (f := 0) (by omega) (by decide) (by decide)).trans G.1.1, ew, show (4 : Int32) = nI 4 from rfl, nI_mul]
          exact more6 (m := 99) (by omega) (by decide)
        have S1 := S0.P (p := i) (f := 0) (v := nI (min (wt + 4 * rr) 99)) (by omega) (by decide) (Or.inl (by decide))
        have ea : b_X5_letWeatherAct_0 (b + 7 + i) (nI rr) (nI ll) C = up2 (up2 C (b + 7 + i) 0 (nI (min (wt + 4 * rr) 99))) (b + 7 + i) 0 (nI (min (wt + 4 * rr) 99 - ll / 2)) := by
          unfold b_X5_letWeatherAct_0 b_X5_letWeatherAct_16
          rw [x1]
          congr 1
          rw [P_of S1.2 (by omega) (by decide) (by decide), upV_at, show (2 : Int32) = nI 2 from rfl, i_div (by omega) (by decide) (by decide)]
          exact less6 (by omega) (by omega)
        have S2 := S1.P (p := i) (f := 0) (v := nI (min (wt + 4 * rr) 99 - ll / 2)) (by omega) (by decide) (Or.inl (by decide))
        rw [← ea] at S2
        have x2 : b_X7_less_0 99 (b_X7_of_0 (nI i) 0 M + 4 * nI rr) M = nI (min (wt + 4 * rr) 99) := by
          rw [(show b_X7_of_0 (nI i) 0 M = _ from ofP (f := 0) (by omega) (by decide)), ew, show (4 : Int32) = nI 4 from rfl, nI_mul, nI_add]
          exact less7 (a := 99) (by decide) (by omega)
        have x3 : b_X7_more_0 0 (b_X7_less_0 99 (b_X7_of_0 (nI i) 0 M + 4 * nI rr) M - nI ll / 2) M = nI (min (wt + 4 * rr) 99 - ll / 2) := by
          rw [x2, show (2 : Int32) = nI 2 from rfl, i_div (by omega) (by decide) (by decide)]
          exact more7 (by omega) (by omega)
        have T1 := T0.P (p := i) (f := 0) (v := nI (min (wt + 4 * rr) 99 - ll / 2)) (by omega) (by decide)
        have o1 : o_X7_lays_0 (nI i) 0 (nI (min (wt + 4 * rr) 99 - ll / 2)) M := oLP (f := 0) (by omega) (by decide)
        have R1 : Rg (vw (b_X5_letWeatherAct_0 (b + 7 + i) (nI rr) (nI ll) C) b) (dR ((b_X7_lays_0 (nI i) (nI 0) (nI (min (wt + 4 * rr) 99 - ll / 2)) M) 6)) N pc hc uc ic hr := by
          rw [S2.2, T1.2, upV_set, upV_set, upV_set, set_set, sv_at]
          refine rg_P R hi ?_ (by simp [upd])
          refine ⟨⟨by simp [upd], ?_, ?_, ?_, ?_⟩, ⟨_, (by omega : min (wt + 4 * rr) 99 - ll / 2 ≤ 99), by simp [upd]⟩, ?_, ?_, ?_⟩
          · simp [upd, G.1.2.1]
          · simp [upd, G.1.2.2.1]
          · simp [upd, G.1.2.2.2.1]
          · simp [upd, G.1.2.2.2.2]
          · simpa [upd] using G.2.2.1
          · simpa [upd] using G.2.2.2.1
          · simpa [upd] using G.2.2.2.2
        have J := ih (i + 1) _ _ v (by omega) (by omega) R1
        rw [nI_succ] at J
        obtain ⟨j1, j2, j3, j4, j5, j6⟩ := J
        simp only [b_X0_letHourGoBy_121, o_X0_letHourGoBy_121, b_X7_hourGoes_131, o_X7_hourGoes_131, b_X7_hourGoes_137, o_X7_hourGoes_137, k3, z1, x3, o1]
        simp only [if_true, if_false, true_and, and_true, not_true, not_false_iff, false_implies, true_implies]
        exact ⟨j1, j2, j3, FC.tr S2.1 j4, FM.tr T1.1 j5, j6⟩
      · have z1 : ¬ (1 : Int32) = 0 := by decide
        have J := ih (i + 1) C M v (by omega) (by omega) R
        rw [nI_succ] at J
        simp only [b_X0_letHourGoBy_121, o_X0_letHourGoBy_121, b_X7_hourGoes_137, o_X7_hourGoes_137, k3, z1]
        simpa using J
    · have hie : i = pc := by omega
      subst hie
      have hle : nI i ≤ nI i := nI_le (Nat.le_refl i) (by omega)
      have S0 : CS C C b (vw C b) := CS.rf
      have T0 : MS M M (dR (M 6)) := MS.rf
      have S1 := S0.up (i := 0) (k := 0) (v := nI (hr + 1)) (rel_0 (by simp)) (Or.inl rfl)
      have T1 := T0.up (i := 0) (k := 0) (v := nI (hr + 1)) (rel_0 (by simp))
      have f1 : C b 0 + 1 = nI (hr + 1) := by rw [(g00 R).1, ← nI_succ]
      have f2 : M 6 ((0 : Int32).toNatClampNeg) + 1 = nI (hr + 1) := by rw [(g00 R).2, ← nI_succ]
      have z0 : ((0 : Int32).toNatClampNeg) = pos 0 0 := by decide
      simp only [o_X0_letHourGoBy_80, o_X7_hourGoes_61, b_X0_letHourGoBy_80, b_X7_hourGoes_61, b_X7_hourGoes_153, e1, e2, hle, f1, f2]
      simp only [if_true, not_true, false_implies, true_implies, and_true, true_and, z0]
      refine ⟨S1.1, T1.1, ?_⟩
      have e5 : vw (up2 C b 0 (nI (hr + 1))) b = upV (vw C b) 0 0 (nI (hr + 1)) := S1.2
      rw [e5, T1.2, upV_set, upV_set]
      exact rg_hour R (by omega) ⟨by simp [upd], by simp [upd]⟩ (fun k hk => by simp [upd, hk]) (fun k hk => by simp [upd, hk])
theorem s_hourH (hN : N < 2 ^ 30) : ∀ n i (C M : Sx) (v : Int32), i ≤ hc → hc < n + i → Rg (vw C b) (dR (M 6)) N pc hc uc ic hr →
    o_X0_letHourGoBy_4 n b v (nI i) C ∧ o_X7_hourGoes_4 n v (nI i) M ∧ (b_X0_letHourGoBy_4 n b v (nI i) C).1 = (b_X7_hourGoes_4 n v (nI i) M).1 ∧ FC b C (b_X0_letHourGoBy_4 n b v (nI i) C).2 ∧ FM M (b_X7_hourGoes_4 n v (nI i) M).2 ∧ Rg (vw (b_X0_letHourGoBy_4 n b v (nI i) C).2 b) (dR ((b_X7_hourGoes_4 n v (nI i) M).2 6)) (N + 1) pc hc uc ic (hr + 1) := by
  intro n
  induction n with
  | zero => intro i C M v h1 h2; omega
  | succ n ih =>
    intro i C M v h1 h2 R
    have hb := gb R
    have e1 := (g06 R).1
    have e2 := (g06 R).2
    by_cases hi : i < hc
    · have hle : ¬ nI hc ≤ nI i := nI_ge hi (by omega)
      have hin : vp_in (nI i) 5 := vp_in_nI (by omega) (by decide)
      have ecl := nI_clamp (n := i) (by omega)
      have G := gH R hi
      have a3 : C (b + 11 + i) 3 = dR (M 6) (11 + i) 3 := (vH (p := i) (f := 3) (by omega) (by decide) (by decide)).trans G.1.2.2.2.1
      have m3 : b_X7_ofHorse_0 (nI i) 3 M = dR (M 6) (11 + i) 3 := ofH (f := 3) (by omega) (by decide)
      have q3 : o_X7_ofHorse_0 (nI i) 3 M := oH (f := 3) (by omega) (by decide)
      have q2 : o_X7_ofHorse_0 (nI i) 2 M := oH (f := 2) (by omega) (by decide)
      obtain ⟨d, hd, ed⟩ := G.2.2.2.2.1
      obtain ⟨t, ht, et⟩ := G.2.2.2.1
      obtain ⟨s, hs, es⟩ := G.2.2.1
      have z1 : bz 0 := Or.inl rfl
      have z2 : bz 1 := Or.inr rfl
      simp only [o_X0_letHourGoBy_4, o_X7_hourGoes_4, b_X0_letHourGoBy_4, b_X7_hourGoes_4, e1, e2, hle, hin, ecl, m3, q3, q2, b_X1_isRolling_0, o_X1_isRolling_0, b_X1_isRolling_12, o_X1_isRolling_12, a3, z1, z2]
      by_cases hz : d = 0
      · subst hz
        have e0 : dR (M 6) (11 + i) 3 = 0 := ed
        have l0 : (0 : Int32) ≤ 0 := by decide
        have S0 : CS C C b (vw C b) := CS.rf
        have T0 : MS M M (dR (M 6)) := MS.rf
        have x1 : b_X1_rest_0 (b + 11 + i) C = up2 C (b + 11 + i) 2 (nI (t - 1)) := by
          unfold b_X1_rest_0
          congr 1
          rw [(vH (C := C) (b := b) (p := i) (f := 2) (by omega) (by decide) (by decide)).trans G.1.2.2.1, et]
          exact less6 (c := 1) (by omega) (by decide)
        have x2 : b_X7_more_0 0 (b_X7_ofHorse_0 (nI i) 2 M - 1) M = nI (t - 1) := by
          rw [(show b_X7_ofHorse_0 (nI i) 2 M = _ from ofH (f := 2) (by omega) (by decide)), et]
          exact more7 (c := 1) (by omega) (by decide)
        have S1 := S0.H (p := i) (f := 2) (v := nI (t - 1)) (by omega) (by decide) (Or.inl (by decide))
        have T1 := T0.H (p := i) (f := 2) (v := nI (t - 1)) (by omega) (by decide)
        have o1 : o_X7_laysHorse_0 (nI i) 2 (nI (t - 1)) M := oLH (f := 2) (by omega) (by decide)
        rw [← x1] at S1
        have R1 : Rg (vw (b_X1_rest_0 (b + 11 + i) C) b) (dR ((b_X7_laysHorse_0 (nI i) (nI 2) (nI (t - 1)) M) 6)) N pc hc uc ic hr := by
          rw [S1.2, T1.2, upV_set, upV_set]
          refine rg_H R hi ?_ ?_
          · refine ⟨⟨?_, ?_, ?_, ?_, ?_⟩, ?_, ?_, ⟨t - 1, by omega, by simp [upd]⟩, ?_, ?_⟩
            · simpa [upd] using G.1.1
            · simpa [upd] using G.1.2.1
            · simp [upd]
            · simpa [upd] using G.1.2.2.2.1
            · simpa [upd] using G.1.2.2.2.2
            · simpa [upd] using G.2.1
            · simpa [upd] using G.2.2.1
            · simpa [upd] using G.2.2.2.2.1
            · simpa [upd] using G.2.2.2.2.2
          · intro k hk
            simpa [upd] using R.2.2.2.2.2.2.1 i k hi hk
        have J := ih (i + 1) _ _ v (by omega) (by omega) R1
        rw [nI_succ] at J
        obtain ⟨j1, j2, j3, j4, j5, j6⟩ := J
        simp only [b_X0_letHourGoBy_62, o_X0_letHourGoBy_62, b_X7_hourGoes_53, o_X7_hourGoes_53, e0, l0, x2, o1]
        simp only [if_true, if_false, true_and, and_true, not_true, not_false_iff, false_implies, true_implies]
        exact ⟨j1, j2, j3, FC.tr S1.1 j4, FM.tr T1.1 j5, j6⟩
      · have l0 : ¬ dR (M 6) (11 + i) 3 ≤ 0 := by rw [ed]; exact nI_nle (by omega) (by omega)
        have n0 : ¬ dR (M 6) (11 + i) 3 = 0 := by rw [ed]; exact nI_ne0 (by omega) (by omega)
        rcases G.2.2.2.2.2 with h | ⟨-, v4, p, hp, e4⟩
        · exact absurd h.1 n0
        · have K := gP R hp
          obtain ⟨w, hw, ew⟩ := K.2.1
          obtain ⟨a, ha, ea⟩ := K.2.2.1
          obtain ⟨r, hr2, er⟩ := K.2.2.2.1
          have a4 : C (b + 11 + i) 4 = nI p := ((vH (p := i) (f := 4) (by omega) (by decide) (by decide)).trans v4).trans e4
          have ep := nI_clamp (n := p) (by omega)
          have ip : vp_in (nI p) 4 := vp_in_nI (by omega) (by decide)
          have c1 := c_roll (C := C) (b := b) (V := vw C b) rfl (h := i) (p := p) (s := s) (w := w) (a := a) (r := r) (t := t) (d := d) (by omega) (by omega) (G.1.1.trans es) (G.1.2.2.1.trans et) (G.1.2.2.2.1.trans ed) (K.1.1.trans ew) (K.1.2.1.trans ea) (K.1.2.2.1.trans er) hs hw ha hr2 ht (by omega)
          have c2 := m_roll (M := M) (U := dR (M 6)) rfl (h := i) (p := p) (s := s) (w := w) (a := a) (r := r) (t := t) (d := d) (by omega) (by omega) es et ed e4 ew ea er hs hw ha hr2 ht (by omega)
          have R1 : Rg (vw (b_X1_rollForAnHour_0 (b + 11 + i) (b + 7 + p) C) b) (dR ((b_X7_rolls_0 (nI i) M) 6)) N pc hc uc ic hr := by
            rw [c1.2, c2.2.2, G.1.2.1]
            refine rg_H (rg_P R hp ?_ ?_) hi ?_ ?_
            · by_cases g1 : dR (M 6) (11 + i) 1 = 0
              · rw [if_pos g1, if_pos g1]
                refine ⟨⟨by simp [upd], by simp [upd], by simp [upd], ?_, ?_⟩, ⟨w - s / 2, by omega, by simp [upd]⟩, ⟨min (a + s) 99, by omega, by simp [upd]⟩, ⟨min (r + ((w - s / 2) / 10 + 1)) 99, by omega, by simp [upd]⟩, ?_⟩
                · simpa [upd] using K.1.2.2.2.1
                · simpa [upd] using K.1.2.2.2.2
                · simpa [upd] using K.2.2.2.2
              · rw [if_neg g1, if_neg g1]
                refine ⟨⟨by simp [upd], by simp [upd], ?_, ?_, ?_⟩, ⟨w - s / 2, by omega, by simp [upd]⟩, ⟨min (a + s) 99, by omega, by simp [upd]⟩, ?_, ?_⟩
                · simpa [upd] using K.1.2.2.1
                · simpa [upd] using K.1.2.2.2.1
                · simpa [upd] using K.1.2.2.2.2
                · simpa [upd] using K.2.2.2.1
                · simpa [upd] using K.2.2.2.2
            · by_cases g1 : dR (M 6) (11 + i) 1 = 0
              · rw [if_pos g1]; simp [upd]
              · rw [if_neg g1]; simp [upd]
            · by_cases hq : d - 1 = 0
              · rw [if_pos hq, hq]
                refine ⟨⟨?_, ?_, by simp [upd], by simp [upd], ?_⟩, ?_, ?_, ⟨min (t + 2) 20, by omega, by simp [upd]⟩, ⟨0, by omega, by simp [upd]⟩, Or.inl ⟨by simp [upd]; rfl, by simp [upd]⟩⟩
                · simpa [upd] using G.1.1
                · simpa [upd] using G.1.2.1
                · simp [upd, G.1.2.2.2.2]
                · simpa [upd] using G.2.1
                · simpa [upd] using G.2.2.1
              · rw [if_neg hq]
                refine ⟨⟨?_, ?_, by simp [upd], by simp [upd], ?_⟩, ?_, ?_, ⟨min (t + 2) 20, by omega, by simp [upd]⟩, ⟨d - 1, by omega, by simp [upd]⟩, Or.inr ⟨?_, ?_, p, hp, ?_⟩⟩
                · simpa [upd] using G.1.1
                · simpa [upd] using G.1.2.1
                · simp [upd, G.1.2.2.2.2]
                · simpa [upd] using G.2.1
                · simpa [upd] using G.2.2.1
                · simp only [upd]
                  simpa using nI_ne0 (n := d - 1) (by omega) (by omega)
                · simpa [upd] using v4
                · simpa [upd] using e4
            · intro k hk
              rw [sv_ne (a := 16 + k) (by omega)]
              have X := R.2.2.2.2.2.2.1 i k hi hk
              by_cases hq : d - 1 = 0
              · rw [if_pos hq, hq]
                intro ⟨y1, y2, y3⟩
                exact y1 (by simp [upd]; rfl)
              · rw [if_neg hq]
                intro ⟨y1, y2, y3⟩
                refine X ⟨n0, y2, ?_⟩
                simpa [upd] using y3
          have J := ih (i + 1) _ _ (v + 1) (by omega) (by omega) R1
          rw [nI_succ] at J
          obtain ⟨j1, j2, j3, j4, j5, j6⟩ := J
          have z3 : ¬ (1 : Int32) = 0 := by decide
          simp only [b_X0_letHourGoBy_47, o_X0_letHourGoBy_47, b_X0_letHourGoBy_62, o_X0_letHourGoBy_62, b_X7_hourGoes_53, o_X7_hourGoes_53, l0, a4, ep, ip, c2.1]
          simp only [if_true, if_false, true_and, and_true, not_true, not_false_iff, false_implies, true_implies, z3]
          exact ⟨j1, j2, j3, FC.tr c1.1 j4, FM.tr c2.2.1 j5, j6⟩
    · have hie : i = hc := by omega
      subst hie
      have hle : nI i ≤ nI i := nI_le (Nat.le_refl i) (by omega)
      have hod := q_hod R hN
      have J := s_hourP hN 100 0 C M v (by omega) (by omega) R
      rw [nI_0] at J
      simp only [o_X0_letHourGoBy_4, o_X7_hourGoes_4, b_X0_letHourGoBy_4, b_X7_hourGoes_4, e1, e2, hle, hod.1, hod.2.1]
      simpa using J
theorem s_hour (hN : N < 2 ^ 30) {C M : Sx} (R : Rg (vw C b) (dR (M 6)) N pc hc uc ic hr) : o_X0_letHourGoBy_0 b C ∧ o_X7_hourGoes_0 M ∧ (b_X0_letHourGoBy_0 b C).1 = (b_X7_hourGoes_0 M).1 ∧ FC b C (b_X0_letHourGoBy_0 b C).2 ∧ FM M (b_X7_hourGoes_0 M).2 ∧ Rg (vw (b_X0_letHourGoBy_0 b C).2 b) (dR ((b_X7_hourGoes_0 M).2 6)) (N + 1) pc hc uc ic (hr + 1) := s_hourH hN 100 0 C M 0 (by omega) (by have := gb R; omega) R
end

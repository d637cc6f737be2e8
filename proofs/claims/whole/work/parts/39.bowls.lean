/-! BALLS, on both sides in step -/
theorem rt3 (a b c : Int32) : a + b - c = a - c + b := by rw [Int32.sub_eq_add_neg, Int32.sub_eq_add_neg]; ac_rfl
theorem sub_self1 (x : Int32) : x + 1 - x = 1 := by
  rw [Int32.sub_eq_add_neg, Int32.add_comm x, Int32.add_assoc, Int32.add_right_neg, Int32.add_zero]
section
variable {b N pc hc uc ic hr : Nat}
theorem sums_b {z : Nat → Int32} {u4 u5 u3 : Int32} {wt : Nat} (hwt : wt < 7) (h4 : u4 = z 1 + 2 * z 2 + 3 * z 3 + 4 * z 4 + 6 * z 6) (h5 : u5 = z 5) (h3 : u3 = z 0 + z 1 + z 2 + z 3 + z 4 + z 5 + z 6) : (u4 + (if wt = 5 then 0 else nI wt) = zB z wt 1 + 2 * zB z wt 2 + 3 * zB z wt 3 + 4 * zB z wt 4 + 6 * zB z wt 6) ∧ ((if wt = 5 then u5 + 1 else u5) = zB z wt 5) ∧ (u3 + 1 = zB z wt 0 + zB z wt 1 + zB z wt 2 + zB z wt 3 + zB z wt 4 + zB z wt 5 + zB z wt 6) := by
  subst h4 h5 h3
  have hc : wt = 0 ∨ wt = 1 ∨ wt = 2 ∨ wt = 3 ∨ wt = 4 ∨ wt = 5 ∨ wt = 6 := by omega
  rcases hc with rfl | rfl | rfl | rfl | rfl | rfl | rfl
  · have e : nI 0 = 0 := rfl
    simp only [zB, upd, e]
    refine ⟨by simp, by simp, by simp; ac_rfl⟩
  · have e : nI 1 = 1 := rfl
    simp only [zB, upd, e]
    refine ⟨by simp; ac_rfl, by simp, by simp; ac_rfl⟩
  · have e : nI 2 = 2 := rfl
    simp only [zB, upd, e]
    refine ⟨by simp [Int32.mul_add]; ac_rfl, by simp, by simp; ac_rfl⟩
  · have e : nI 3 = 3 := rfl
    simp only [zB, upd, e]
    refine ⟨by simp [Int32.mul_add]; ac_rfl, by simp, by simp; ac_rfl⟩
  · have e : nI 4 = 4 := rfl
    simp only [zB, upd, e]
    refine ⟨by simp [Int32.mul_add]; ac_rfl, by simp, by simp; ac_rfl⟩
  · simp only [zB, upd]
    refine ⟨by simp, by simp, by simp; ac_rfl⟩
  · have e : nI 6 = 6 := rfl
    simp only [zB, upd, e]
    refine ⟨by simp [Int32.mul_add]; ac_rfl, by simp, by simp; ac_rfl⟩
theorem rg_ball {V U : Nat → Nat → Int32} (R : Rg V U N pc hc uc ic hr) {k p n a r F wk : Nat} (hk : k < ic) (hp : p < pc) (h6 : U (16 + k) 6 = 0) (e0 : U (16 + k) 0 = nI p) (e2 : U (16 + k) 2 = nI F) (e3 : U (16 + k) 3 = nI n) (e5 : U (16 + k) 5 = nI wk) (p1 : U (7 + p) 1 = nI a) (p2 : U (7 + p) 2 = nI r) (hn : n < F) (hF : F ≤ 120) (hwk : wk < 10) (ha : a ≤ 99) (hr2 : r ≤ 99) : Rg (setV (setV (setV V (16 + k) (vB (V (16 + k)) ((a + 3 * n + r) % 7))) (28 + k) (zB (V (28 + k)) ((a + 3 * n + r) % 7))) (7 + p) (pB (V (7 + p)) n a)) (setV (setV (setV U (16 + k) (uO (U (16 + k)) ((a + 3 * n + r) % 7) n F wk)) (28 + k) (zB (U (28 + k)) ((a + 3 * n + r) % 7))) (7 + p) (pB (U (7 + p)) n a)) N pc hc uc ic hr := by
  have hb := R.1.1
  have G := (R.2.2.2.2.2.1 k (by omega)).1 hk
  have K := (R.2.2.2.1 p (by omega)).1 hp
  have hwt : (a + 3 * n + r) % 7 < 7 := Nat.mod_lt _ (by decide)
  generalize (a + 3 * n + r) % 7 = wt at hwt ⊢
  obtain ⟨⟨g0, g1, g2, g3, g4, g5⟩, ⟨go, gp, gu⟩, -, gw, ⟨s4, s5, s3⟩⟩ := G
  have sb := sums_b (z := U (28 + k)) (u4 := U (16 + k) 4) (u5 := U (16 + k) 5) (u3 := U (16 + k) 3) hwt s4 s5 s3
  have u0 : uO (U (16 + k)) wt n F wk 0 = U (16 + k) 0 := by
    unfold uO uB
    repeat' split
    all_goals simp [upd]
  have u1 : uO (U (16 + k)) wt n F wk 1 = U (16 + k) 1 := by
    unfold uO uB
    repeat' split
    all_goals simp [upd]
  have u2 : uO (U (16 + k)) wt n F wk 2 = U (16 + k) 2 := by
    unfold uO uB
    repeat' split
    all_goals simp [upd]
  have u3 : uO (U (16 + k)) wt n F wk 3 = U (16 + k) 3 + 1 := by
    unfold uO uB
    repeat' split
    all_goals simp [upd]
  have u4 : uO (U (16 + k)) wt n F wk 4 = U (16 + k) 4 + (if wt = 5 then 0 else nI wt) := by
    unfold uO uB
    by_cases h : wt = 5
    · simp only [h, if_true]
      repeat' split
      all_goals simp [upd]
    · simp only [h, if_false]
      repeat' split
      all_goals simp [upd]
  have u5 : uO (U (16 + k)) wt n F wk 5 = (if wt = 5 then U (16 + k) 5 + 1 else U (16 + k) 5) := by
    unfold uO uB
    by_cases h : wt = 5
    · simp only [h, if_true]
      repeat' split
      all_goals simp [upd]
    · simp only [h, if_false]
      repeat' split
      all_goals simp [upd]
  have v0 : vB (V (16 + k)) wt 0 = V (16 + k) 0 := by
    unfold vB
    split <;> simp [upd]
  have v1 : vB (V (16 + k)) wt 1 = V (16 + k) 1 := by
    unfold vB
    split <;> simp [upd]
  have v2 : vB (V (16 + k)) wt 2 = V (16 + k) 2 := by
    unfold vB
    split <;> simp [upd]
  have v6 : vB (V (16 + k)) wt 6 = V (16 + k) 6 := by
    unfold vB
    split <;> simp [upd]
  have v3 : vB (V (16 + k)) wt 3 = V (16 + k) 3 + 1 := by
    unfold vB
    split <;> simp [upd]
  have v4 : vB (V (16 + k)) wt 4 = V (16 + k) 4 + (if wt = 5 then 0 else nI wt) := by
    unfold vB
    by_cases h : wt = 5
    · simp [h, upd]
    · simp [h, upd]
  have v5 : vB (V (16 + k)) wt 5 = (if wt = 5 then V (16 + k) 5 + 1 else V (16 + k) 5) := by
    unfold vB
    by_cases h : wt = 5
    · simp [h, upd]
    · simp [h, upd]
  have w5 : (if wt = 5 then U (16 + k) 5 + 1 else U (16 + k) 5) = nI (if wt = 5 then wk + 1 else wk) := by
    by_cases h : wt = 5
    · simp only [h, if_true, e5, nI_succ]
    · simp only [h, if_false, e5]
  have ov : V (16 + k) 6 = 0 := by
    have := go
    rw [h6] at this
    unfold over at this
    by_cases h : V (16 + k) 6 = 0
    · exact h
    · rw [if_neg h] at this
      exact absurd this.symm (by decide)
  have u6 : uO (U (16 + k)) wt n F wk 6 = over (vB (V (16 + k)) wt) := by
    unfold over
    rw [v6, ov, v2, v3, v5, g2, g3, g5, e2, e3, ← nI_succ, w5]
    simp only [if_true]
    unfold uO
    by_cases f1 : n + 1 = F
    · rw [if_pos f1, if_pos (nI_le (by omega) (by omega))]
      simp [upd]
    · rw [if_neg f1, if_neg (nI_ge (by omega) (by omega))]
      have hw10 : (if wt = 5 then wk + 1 else wk) ≤ 10 := by split <;> omega
      generalize (if wt = 5 then wk + 1 else wk) = w9 at hw10 ⊢
      by_cases f2 : w9 = 10
      · rw [if_pos f2, if_neg (show ¬ nI w9 < 10 from nI_nlt (a := w9) (b := 10) (by omega) (by omega))]
        simp [upd]
      · rw [if_neg f2, if_pos (show nI w9 < 10 from nI_lt (b := 10) (by omega) (by decide))]
        unfold uB
        split <;> simp [upd, h6]
  refine rg_I R hk hp ⟨⟨?_, ?_, ?_, ?_, ?_, ?_⟩, ⟨u6, ?_, ?_⟩, ⟨F, n + 1, (if wt = 5 then wk + 1 else wk), ?_, ?_, ?_, by omega, hF, by split <;> omega⟩, ?_, ?_⟩ ?_ e0 u0 (fun _ => h6) ?_
  · rw [v0, u0, g0]
  · rw [v1, u1, g1]
  · rw [v2, u2, g2]
  · rw [v3, u3, g3]
  · rw [v4, u4, g4]
  · rw [v5, u5, g5]
  · rw [u0]; exact gp
  · rw [u1]; exact gu
  · rw [u2, e2]
  · rw [u3, e3, nI_succ]
  · rw [u5, w5]
  · intro j hj
    unfold zB
    by_cases h : j = wt
    · subst h
      simp [upd, gw j hj]
    · simp [upd, h, gw j hj]
  · rw [u4, u5, u3]
    exact sb
  · have pb : ∀ v : Nat → Int32, pB v n a 0 = v 0 ∧ pB v n a 2 = v 2 ∧ pB v n a 3 = v 3 ∧ pB v n a 4 = v 4 + 1 ∧ pB v n a 1 = (if n % 6 = 5 then nI (a - 1) else v 1) := by
      intro v
      unfold pB
      split <;> simp [upd]
    have q1 := pb (V (7 + p))
    have q2 := pb (U (7 + p))
    refine ⟨⟨?_, ?_, ?_, ?_, ?_⟩, ?_, ?_, ?_, ?_⟩
    · rw [q1.1, q2.1, K.1.1]
    · rw [q1.2.2.2.2, q2.2.2.2.2, K.1.2.1]
    · rw [q1.2.1, q2.2.1, K.1.2.2.1]
    · rw [q1.2.2.1, q2.2.2.1, K.1.2.2.2.1]
    · rw [q1.2.2.2.1, q2.2.2.2.1, K.1.2.2.2.2]
    · rw [q2.1]; exact K.2.1
    · rw [q2.2.2.2.2]
      by_cases h : n % 6 = 5
      · rw [if_pos h]; exact ⟨a - 1, by omega, rfl⟩
      · rw [if_neg h]; exact K.2.2.1
    · rw [q2.2.1]; exact K.2.2.2.1
    · rw [q2.2.2.1]; exact K.2.2.2.2
  · rw [u3]
    have : pB (U (7 + p)) n a 4 = U (7 + p) 4 + 1 := by
      unfold pB
      split <;> simp [upd]
    rw [this, sub_self1]
theorem s_bowlL : ∀ n i (C M : Sx) (k m : Nat) (st sm : Int32), k < ic → m ≤ 36 → i ≤ m → m < n + i → Rg (vw C b) (dR (M 6)) N pc hc uc ic hr → sm = C (b + 16 + k) 4 - st →
    o_X0_bowlBalls_16 n b (nI m) (b + 16 + k) st (nI i) C ∧ o_X7_bowls_5 n (nI k) (nI m) sm (nI i) M ∧ (b_X0_bowlBalls_16 n b (nI m) (b + 16 + k) st (nI i) C).1 = (b_X7_bowls_5 n (nI k) (nI m) sm (nI i) M).1 ∧ FC b C (b_X0_bowlBalls_16 n b (nI m) (b + 16 + k) st (nI i) C).2 ∧ FM M (b_X7_bowls_5 n (nI k) (nI m) sm (nI i) M).2 ∧ Rg (vw (b_X0_bowlBalls_16 n b (nI m) (b + 16 + k) st (nI i) C).2 b) (dR ((b_X7_bowls_5 n (nI k) (nI m) sm (nI i) M).2 6)) N pc hc uc ic hr := by
  intro n
  induction n with
  | zero => intro i C M k m st sm _ _ h1 h2; omega
  | succ n ih =>
    intro i C M k m st sm hk hm h1 h2 R hsm
    have hb := gb R
    by_cases hi : i < m
    · have hle : ¬ nI m ≤ nI i := nI_ge hi (by omega)
      have G := gI R hk
      have ov := s_over (C := C) (b := b) (k := k) (by omega)
      have a6 : b_X2_isOver_0 (b + 16 + k) C = dR (M 6) (16 + k) 6 := by rw [ov.1, G.2.1.1]
      have m6 : b_X7_ofInnings_0 (nI k) 6 M = dR (M 6) (16 + k) 6 := ofI (f := 6) (by omega) (by decide)
      have q6 : o_X7_ofInnings_0 (nI k) 6 M := oI (f := 6) (by omega) (by decide)
      simp only [o_X0_bowlBalls_16, o_X7_bowls_5, b_X0_bowlBalls_16, b_X7_bowls_5, hle, a6, m6, q6, ov.2]
      by_cases h6 : dR (M 6) (16 + k) 6 = 0
      · obtain ⟨p, hp, ep⟩ := G.2.1.2.1
        obtain ⟨F, x, wk, eF, ex, ewk, hx, hF, hwk⟩ := G.2.2.1
        have K := gP R hp
        obtain ⟨a, ha, ea⟩ := K.2.2.1
        obtain ⟨r, hr2, er⟩ := K.2.2.2.1
        have c0 : C (b + 16 + k) 0 = nI p := ((vI (p := k) (f := 0) (by omega) (by decide) (by decide)).trans G.1.1).trans ep
        have pcl := nI_clamp (n := p) (by omega)
        have ipp : vp_in (nI p) 4 := vp_in_nI (by omega) (by decide)
        have no := G.2.1.1
        rw [h6] at no
        have nF : x < F ∧ wk < 10 := by
          unfold over at no
          by_cases z6 : vw C b (16 + k) 6 = 0
          · rw [if_pos z6, G.1.2.2.1, G.1.2.2.2.1, G.1.2.2.2.2.2, eF, ex, ewk] at no
            by_cases y1 : F ≤ x
            · rw [if_pos (nI_le y1 (by omega))] at no
              exact absurd no (by decide)
            · rw [if_neg (nI_ge (by omega) (by omega))] at no
              by_cases y2 : wk < 10
              · exact ⟨by omega, y2⟩
              · rw [if_neg (show ¬ nI wk < 10 from nI_nlt (a := wk) (b := 10) (by omega) (by omega))] at no
                exact absurd no (by decide)
          · rw [if_neg z6] at no
            exact absurd no (by decide)
        have c1 := c_ball (C := C) (b := b) (V := vw C b) rfl (k := k) (p := p) (n := x) (a := a) (r := r) (by omega) (by omega) (G.1.2.2.2.1.trans ex) (K.1.2.1.trans ea) (K.1.2.2.1.trans er) (by omega) ha hr2
        have c2 := m_ball (M := M) (U := dR (M 6)) rfl (k := k) (p := p) (n := x) (a := a) (r := r) (F := F) (wk := wk) (by omega) (by omega) ep eF ex ewk ea er (by omega) hF hwk ha hr2
        have R1 : Rg (vw (b_X2_bowlOne_0 (b + 16 + k) (b + 7 + p) C) b) (dR ((b_X7_ball_0 (nI k) M).2 6)) N pc hc uc ic hr := by
          rw [c1.2.2, c2.2.2.2]
          exact rg_ball R hk hp h6 ep eF ex ewk ea er nF.1 hF nF.2 ha hr2
        have run : b_X2_bowlOne_0 (b + 16 + k) (b + 7 + p) C (b + 16 + k) 4 = C (b + 16 + k) 4 + (if (a + 3 * x + r) % 7 = 5 then 0 else nI ((a + 3 * x + r) % 7)) := by
          rw [I_of c1.2.2 (by omega) (by decide) (by decide), sv_ne (by omega), sv_ne (by omega), sv_at, vI (C := C) (b := b) (p := k) (f := 4) (by omega) (by decide) (by decide)]
          unfold vB
          by_cases h : (a + 3 * x + r) % 7 = 5
          · simp [h, upd]
          · simp [h, upd]
        have J := ih (i + 1) _ _ k m st (sm + (b_X7_ball_0 (nI k) M).1) hk hm (by omega) (by omega) R1 (by rw [run, c2.2.1, hsm, rt3])
        rw [nI_succ] at J
        obtain ⟨j1, j2, j3, j4, j5, j6⟩ := J
        simp only [b_X0_bowlBalls_42, o_X0_bowlBalls_42, h6, c0, pcl, ipp, c1.1, c2.1]
        simp only [if_true, if_false, true_and, and_true, not_true, not_false_iff, false_implies, true_implies]
        exact ⟨j1, j2, j3, FC.tr c1.2.1 j4, FM.tr c2.2.2.1 j5, j6⟩
      · simp only [b_X0_bowlBalls_48, b_X7_bowls_35, h6]
        simp only [if_true, if_false, true_and, and_true, not_true, not_false_iff, false_implies, true_implies]
        exact ⟨hsm.symm, FC.rf, FM.rf, R⟩
    · have hie : i = m := by omega
      subst hie
      have hle : nI i ≤ nI i := nI_le (Nat.le_refl i) (by omega)
      simp only [o_X0_bowlBalls_16, o_X7_bowls_5, b_X0_bowlBalls_16, b_X7_bowls_5, b_X0_bowlBalls_48, b_X7_bowls_35, hle]
      simp only [if_true, if_false, true_and, and_true, not_true, not_false_iff, false_implies, true_implies]
      exact ⟨hsm.symm, FC.rf, FM.rf, R⟩
theorem s_bowl {C M : Sx} (R : Rg (vw C b) (dR (M 6)) N pc hc uc ic hr) {k m : Nat} (hk : k < ic) (hm : m ≤ 36) : o_X0_bowlBalls_0 b (nI k) (nI m) C ∧ o_X7_bowls_0 (nI k) (nI m) M ∧ (b_X0_bowlBalls_0 b (nI k) (nI m) C).1 = (b_X7_bowls_0 (nI k) (nI m) M).1 ∧ FC b C (b_X0_bowlBalls_0 b (nI k) (nI m) C).2 ∧ FM M (b_X7_bowls_0 (nI k) (nI m) M).2 ∧ Rg (vw (b_X0_bowlBalls_0 b (nI k) (nI m) C).2 b) (dR ((b_X7_bowls_0 (nI k) (nI m) M).2 6)) N pc hc uc ic hr := by
  have hb := gb R
  have kcl := nI_clamp (n := k) (by omega)
  have ik : vp_in (nI k) 12 := vp_in_nI (by omega) (by decide)
  have J := s_bowlL 100 0 C M k m (C (b + 16 + k) 4) 0 hk hm (by omega) (by omega) R (by rw [Int32.sub_self])
  unfold o_X0_bowlBalls_0 o_X7_bowls_0 b_X0_bowlBalls_0 b_X7_bowls_0
  rw [kcl]
  rw [nI_0] at J
  exact ⟨⟨ik, J.1⟩, J.2⟩
end

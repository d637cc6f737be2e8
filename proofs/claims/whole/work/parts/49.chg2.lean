/-! CHANGES that a text may order too: covers, balls, ends, hours -/
section
variable {C M : Sx} {b N pc hc uc ic hr : Nat}
theorem sv_self {V : Nat → Nat → Int32} {i : Nat} {g : Nat → Int32} (h : g = V i) : setV V i g = V := by
  funext a
  by_cases e : a = i
  · subst e
    rw [sv_at, h]
  · rw [sv_ne e]
def opC (b : Nat) (x1 x2 : Int32) (S : Sx) : Int32 × Sx := ((up2 S (b + 7 + x1.toNatClampNeg) 3 x2) (b + 7 + x1.toNatClampNeg) 0, up2 S (b + 7 + x1.toNatClampNeg) 3 x2)
def ooC (b : Nat) (x1 x2 : Int32) (S : Sx) : Prop := vp_in x1 4 ∧ (bz x2 ∧ (vp_in x1 4 ∧ True))
theorem K_cover (R : Rg (vw C b) (dR (M 6)) N pc hc uc ic hr) (hK : Kp M) (x1 x2 : Int32) (hz : bz x2) : o_X0_coverVerdict_0 b x1 x2 C ∧ o_X7_cover_0 x1 x2 M ∧ ¬ b_X0_coverVerdict_0 b x1 x2 C = -2 ∧ Out b N 0 2 C M (b_X0_coverVerdict_0 b x1 x2 C) (b_X7_cover_0 x1 x2 M) (opC b x1 x2) (ooC b x1 x2) := by
  have hb := gb R
  have of0 : ∀ w S, o_X7_fails_0 w S := fun w S => o_fails (M := S) (x := w)
  have R1 := R0 (x := 0) R
  rcases d_pit R x1 with ⟨c1, c2, p, hp, rfl⟩ | ⟨c1, c2⟩
  · obtain ⟨r1, r2, r3, r4⟩ := q_rol R1 (nI p)
    have K := gP R hp
    have ep := nI_clamp (n := p) (by omega)
    have i4 : vp_in (nI p) 4 := vp_in_nI (by omega) (by decide)
    have o3 : ∀ v S, o_X7_lays_0 (nI p) 3 v S := fun v S => oLP (f := 3) (by omega) (by decide)
    have o0 : ∀ S, o_X7_of_0 (nI p) 0 S := fun S => oP (M := S) (f := 0) (by omega) (by decide)
    have done : b_X0_coverVerdict_0 b (nI p) x2 C = 0 → b_X7_cover_0 (nI p) x2 M = b_X7_cover_66 (nI p) x2 3 (nI p) (b_X7_keeps_0 6 (up2 M 5 8 0)) → Out b N 0 2 C M (b_X0_coverVerdict_0 b (nI p) x2 C) (b_X7_cover_0 (nI p) x2 M) (opC b (nI p) x2) (ooC b (nI p) x2) := by
      intro w1 w2
      refine Or.inr (Or.inr (Or.inr ⟨w1, fun C1 hv => ?_⟩))
      rw [w2]
      unfold b_X7_cover_66 opC ooC
      have S1 := (MS.rf (M := b_X7_keeps_0 6 (up2 M 5 8 0))).P (p := p) (f := 3) (v := x2) (by omega) (by decide)
      rw [hK.2] at S1
      have eM : b_X7_lays_0 (nI p) 3 x2 (b_X7_keeps_0 6 (up2 M 5 8 0)) = b_X7_lays_0 (nI p) (nI 3) x2 (b_X7_keeps_0 6 (up2 M 5 8 0)) := rfl
      rw [eM]
      generalize b_X7_lays_0 (nI p) (nI 3) x2 (b_X7_keeps_0 6 (up2 M 5 8 0)) = M2 at S1 ⊢
      have T0 : CS C1 C1 b (vw C b) := ⟨fun _ _ => rfl, hv⟩
      have T1 := T0.P (p := p) (f := 3) (v := x2) (by omega) (by decide) (Or.inr hz)
      rw [ep]
      generalize up2 C1 (b + 7 + p) 3 x2 = C2 at T1 ⊢
      have e1 : C2 (b + 7 + p) 0 = dR (M 6) (7 + p) 0 := by
        rw [P_of T1.2 (by omega) (by decide) (by decide), upV_ne (by omega)]
        exact K.1.1
      have y1 : b_X7_of_0 (nI p) 0 M2 = dR (M 6) (7 + p) 0 := by
        rw [mP_of S1.2 (f := 0) 0 rfl (by omega) (by decide), upV_ne (by omega)]
      rw [e1, y1]
      refine ⟨⟨i4, hz, i4, trivial⟩, rfl, T1.1, S1.1, ?_⟩
      show Rl N (vw C2 b) (dR (M2 6))
      rw [T1.2, S1.2, upV_set, upV_set]
      refine ⟨_, _, _, _, _, rg_P R hp ?_ ?_⟩
      · obtain ⟨⟨g0, g1, g2, g3, g4⟩, s0, s1, s2, gb3⟩ := K
        refine ⟨⟨?_, ?_, ?_, ?_, ?_⟩, ?_, ?_, ?_, ?_⟩
        · simpa [upd] using g0
        · simpa [upd] using g1
        · simpa [upd] using g2
        · simp [upd]
        · simpa [upd] using g4
        · simpa [upd] using s0
        · simpa [upd] using s1
        · simpa [upd] using s2
        · simpa [upd] using hz
      · simp [upd]
    rcases hz with rfl | rfl
    · have w1 : b_X0_coverVerdict_0 b (nI p) 0 C = 0 := by simp [b_X0_coverVerdict_0, b_X0_coverVerdict_22, b_X0_coverVerdict_23, c1]
      have w2 : b_X7_cover_0 (nI p) 0 M = b_X7_cover_66 (nI p) 0 3 (nI p) (b_X7_keeps_0 6 (up2 M 5 8 0)) := by
        simp [b_X7_cover_0, b_X7_cover_14, b_X7_cover_46, c2, f_0]
      refine ⟨?_, ?_, by rw [w1]; decide, done w1 w2⟩
      · simp [o_X0_coverVerdict_0, c1]
      · simp [o_X7_cover_0, o_X7_cover_14, o_X7_cover_46, o_X7_cover_66, o_isPitch, c2, f_0, of0, hK.1, o3, o0]
    · have q0 : o_X0_rollerOf_0 b (nI p) C := r1
      have ov : o_X0_coverVerdict_0 b (nI p) 1 C := by simp [o_X0_coverVerdict_0, o_X0_rollerVerdict_0, c1, q0]
      rcases r4 with w | ⟨j, hj, w⟩
      · have w1 : b_X0_coverVerdict_0 b (nI p) 1 C = 0 := by
          simp [b_X0_coverVerdict_0, b_X0_coverVerdict_23, b_X0_rollerVerdict_0, b_X0_rollerVerdict_20, c1, r3, w]
        have w2 : b_X7_cover_0 (nI p) 1 M = b_X7_cover_66 (nI p) 1 3 (nI p) (b_X7_keeps_0 6 (up2 M 5 8 0)) := by
          simp [b_X7_cover_0, b_X7_cover_14, b_X7_cover_46, c2, f_0, w, m1_lt]
        refine ⟨ov, ?_, by rw [w1]; decide, done w1 w2⟩
        simp [o_X7_cover_0, o_X7_cover_14, o_X7_cover_46, o_X7_cover_66, o_isPitch, c2, f_0, of0, hK.1, o3, o0, r2, w, m1_lt]
      · have n1 : ¬ nI j = -1 := nI_m1 (by omega)
        have n2 : ¬ nI j < 0 := nI_pos (by omega)
        have w1 : b_X0_coverVerdict_0 b (nI p) 1 C = nI (4000 + j) := by
          have e := rfd (C := C) (a := 4) (d := j)
          have e4 : b_X6_refused_0 4 (nI j) C = nI (4000 + j) := e
          simp [b_X0_coverVerdict_0, b_X0_coverVerdict_23, b_X0_rollerVerdict_0, b_X0_rollerVerdict_20, c1, r3, w, n1, e4]
        have w2 : b_X7_cover_0 (nI p) 1 M = b_X7_refuses_0 2 4 (nI j) (up2 M 5 8 0) := by
          simp [b_X7_cover_0, b_X7_cover_14, c2, f_0, w, n2]
        refine ⟨ov, ?_, ?_, ?_⟩
        · simp [o_X7_cover_0, o_X7_cover_14, o_isPitch, c2, f_0, of0, r2, w, n2]
        · rw [w1]
          exact fun q => nI_pos (n := 4000 + j) (by omega) (by rw [q]; decide)
        · exact Or.inr (Or.inr (Or.inl ⟨4, j, by decide, by decide, by omega, w1, w2⟩))
  · have w1 : b_X0_coverVerdict_0 b x1 x2 C = -1 := by simp [b_X0_coverVerdict_0, b_X0_coverVerdict_22, b_X0_coverVerdict_23, c1]
    refine ⟨by simp [o_X0_coverVerdict_0, c1], by simp [o_X7_cover_0, o_X7_cover_14, o_isPitch, c2, f_1, of0], by rw [w1]; decide, Or.inl ⟨w1, ?_⟩⟩
    simp [b_X7_cover_0, b_X7_cover_14, c2, f_1]
/-- the verdict on an end -/
theorem v_end (R : Rg (vw C b) (dR (M 6)) N pc hc uc ic hr) {k : Nat} (hk : k < ic) : o_X0_endVerdict_0 b (nI k) C ∧ ((dR (M 6) (16 + k) 6 = 0 ∧ b_X0_endVerdict_0 b (nI k) C = 0) ∨ (dR (M 6) (16 + k) 6 = 1 ∧ b_X0_endVerdict_0 b (nI k) C = nI (9000 + k))) := by
  have hb := gb R
  have G := gI R hk
  have ek := nI_clamp (n := k) (by omega)
  have i12 : vp_in (nI k) 12 := vp_in_nI (by omega) (by decide)
  obtain ⟨q1, q2⟩ := s_over (C := C) (b := b) (k := k) (by omega)
  have vh := v_inn R hk
  have u6 : dR (M 6) (16 + k) 6 = over (vw C b (16 + k)) := G.2.1.1
  refine ⟨by simp [o_X0_endVerdict_0, vh, ek, i12, q2], ?_⟩
  have e9 : b_X6_refused_0 9 (nI k) C = nI (9000 + k) := rfd (C := C) (a := 9) (d := k)
  rcases over_01 (vw C b (16 + k)) with h | h
  · exact Or.inl ⟨u6.trans h, by simp [b_X0_endVerdict_0, b_X0_endVerdict_34, vh, ek, q1, h]⟩
  · exact Or.inr ⟨u6.trans h, by simp [b_X0_endVerdict_0, b_X0_endVerdict_34, vh, ek, q1, h, e9]⟩
def opE (b : Nat) (x1 : Int32) (S : Sx) : Int32 × Sx := ((up2 S (b + 16 + x1.toNatClampNeg) 6 1) (b + 16 + x1.toNatClampNeg) 4, up2 S (b + 16 + x1.toNatClampNeg) 6 1)
def ooE (b : Nat) (x1 : Int32) (S : Sx) : Prop := vp_in x1 12 ∧ (vp_in x1 12 ∧ True)
theorem K_end (R : Rg (vw C b) (dR (M 6)) N pc hc uc ic hr) (hK : Kp M) (x1 : Int32) : o_X0_endVerdict_0 b x1 C ∧ o_X7_end_0 x1 M ∧ ¬ b_X0_endVerdict_0 b x1 C = -2 ∧ Out b N 0 2 C M (b_X0_endVerdict_0 b x1 C) (b_X7_end_0 x1 M) (opE b x1) (ooE b x1) := by
  have hb := gb R
  have of0 : ∀ w S, o_X7_fails_0 w S := fun w S => o_fails (M := S) (x := w)
  have R1 := R0 (x := 0) R
  rcases d_inn R x1 with ⟨c1, c2, k, hk, rfl⟩ | ⟨c1, c2⟩
  · obtain ⟨v1, v2⟩ := v_end R hk
    have G := gI R hk
    have ek := nI_clamp (n := k) (by omega)
    have i12 : vp_in (nI k) 12 := vp_in_nI (by omega) (by decide)
    have o6 : ∀ S, o_X7_ofInnings_0 (nI k) 6 S := fun S => oI (M := S) (f := 6) (by omega) (by decide)
    have o4 : ∀ S, o_X7_ofInnings_0 (nI k) 4 S := fun S => oI (M := S) (f := 4) (by omega) (by decide)
    have l6 : ∀ v S, o_X7_laysInnings_0 (nI k) 6 v S := fun v S => oLI (f := 6) (by omega) (by decide)
    have m6 : b_X7_ofInnings_0 (nI k) 6 (up2 M 5 8 0) = dR (M 6) (16 + k) 6 := mI_of (M' := up2 M 5 8 0) (by rw [up2_ne (by decide)]) (f := 6) 6 rfl (by omega) (by decide)
    have z01 : ¬ (0 : Int32) = 1 := by decide
    rcases v2 with ⟨a6, w1⟩ | ⟨a6, w1⟩
    · have w2 : b_X7_end_0 (nI k) M = b_X7_end_58 (nI k) (b_X7_laysInnings_0 (nI k) 6 1 (b_X7_keeps_0 6 (up2 M 5 8 0))) := by
        simp only [b_X7_end_0, c2, z10, if_false, b_X7_end_14, f_0, if_true, m6, a6, z01]
      have om : o_X7_end_0 (nI k) M := by
        simp [o_X7_end_0, o_X7_end_14, o_X7_end_58, o_isInnings, c2, f_0, of0, o6, o4, l6, m6, a6, hK.1]
      refine ⟨v1, om, by rw [w1]; decide, Or.inr (Or.inr (Or.inr ⟨w1, fun C1 hv => ?_⟩))⟩
      rw [w2]
      unfold b_X7_end_58 opE ooE
      have S1 := (MS.rf (M := b_X7_keeps_0 6 (up2 M 5 8 0))).I (p := k) (f := 6) (v := 1) (by omega) (by decide)
      rw [hK.2] at S1
      have eM : b_X7_laysInnings_0 (nI k) 6 1 (b_X7_keeps_0 6 (up2 M 5 8 0)) = b_X7_laysInnings_0 (nI k) (nI 6) 1 (b_X7_keeps_0 6 (up2 M 5 8 0)) := rfl
      rw [eM]
      generalize b_X7_laysInnings_0 (nI k) (nI 6) 1 (b_X7_keeps_0 6 (up2 M 5 8 0)) = M2 at S1 ⊢
      have T0 : CS C1 C1 b (vw C b) := ⟨fun _ _ => rfl, hv⟩
      have T1 := T0.I (p := k) (f := 6) (v := 1) (by omega) (by decide) (Or.inr bz_1)
      rw [ek]
      generalize up2 C1 (b + 16 + k) 6 1 = C2 at T1 ⊢
      have e1 : C2 (b + 16 + k) 4 = dR (M 6) (16 + k) 4 := by
        rw [I_of T1.2 (by omega) (by decide) (by decide), upV_ne (by omega)]
        exact G.1.2.2.2.2.1
      have y1 : b_X7_ofInnings_0 (nI k) 4 M2 = dR (M 6) (16 + k) 4 := by
        rw [mI_of S1.2 (f := 4) 4 rfl (by omega) (by decide), upV_ne (by omega)]
      rw [e1, y1]
      refine ⟨⟨i12, i12, trivial⟩, rfl, T1.1, S1.1, ?_⟩
      show Rl N (vw C2 b) (dR (M2 6))
      rw [T1.2, S1.2, upV_set, upV_set]
      obtain ⟨⟨g0, g1, g2, g3, g4, g5⟩, ⟨-, ⟨p, hp, gp⟩, gu⟩, gn, gw, gs⟩ := G
      have Z := rg_I R hk hp (v := upd (vw C b (16 + k)) 6 1) (u := upd (dR (M 6) (16 + k)) 6 1) (w := vw C b (28 + k)) (z := dR (M 6) (28 + k)) (v2 := vw C b (7 + p)) (u2 := dR (M 6) (7 + p)) ?_ (gP R hp) gp (by simp [upd]) (by simp [upd]) (by simp [upd])
      · rw [sv_self (V := setV (vw C b) (16 + k) (upd (vw C b (16 + k)) 6 1)) (i := 28 + k) (by rw [sv_ne (by omega)]), sv_self (V := setV (vw C b) (16 + k) (upd (vw C b (16 + k)) 6 1)) (i := 7 + p) (by rw [sv_ne (by omega)]), sv_self (V := setV (dR (M 6)) (16 + k) (upd (dR (M 6) (16 + k)) 6 1)) (i := 28 + k) (by rw [sv_ne (by omega)]), sv_self (V := setV (dR (M 6)) (16 + k) (upd (dR (M 6) (16 + k)) 6 1)) (i := 7 + p) (by rw [sv_ne (by omega)])] at Z
        exact ⟨_, _, _, _, _, Z⟩
      · refine ⟨⟨?_, ?_, ?_, ?_, ?_, ?_⟩, ⟨?_, ⟨p, hp, ?_⟩, ?_⟩, ?_, gw, ?_⟩
        · simpa [upd] using g0
        · simpa [upd] using g1
        · simpa [upd] using g2
        · simpa [upd] using g3
        · simpa [upd] using g4
        · simpa [upd] using g5
        · simp [upd, over]
        · simpa [upd] using gp
        · simpa [upd] using gu
        · simpa [upd] using gn
        · simpa [upd] using gs
    · have w2 : b_X7_end_0 (nI k) M = b_X7_refuses_0 2 9 (nI k) (up2 M 5 8 0) := by
        simp only [b_X7_end_0, c2, z10, if_false, b_X7_end_14, f_0, if_true, m6, a6]
      refine ⟨v1, ?_, ?_, ?_⟩
      · simp [o_X7_end_0, o_X7_end_14, o_isInnings, c2, f_0, of0, o6, m6, a6]
      · rw [w1]
        exact fun q => nI_pos (n := 9000 + k) (by omega) (by rw [q]; decide)
      · exact Or.inr (Or.inr (Or.inl ⟨9, k, by decide, by decide, by omega, w1, w2⟩))
  · have w1 : b_X0_endVerdict_0 b x1 C = -1 := by simp [b_X0_endVerdict_0, c1]
    refine ⟨by simp [o_X0_endVerdict_0, c1], by simp [o_X7_end_0, o_X7_end_14, o_isInnings, c2, f_1, of0], by rw [w1]; decide, Or.inl ⟨w1, ?_⟩⟩
    simp [b_X7_end_0, b_X7_end_14, c2, f_1]
def opB (b : Nat) (x1 x2 : Int32) (S : Sx) : Int32 × Sx := b_X0_bowlBalls_0 b x1 x2 S
def ooB (b : Nat) (x1 x2 : Int32) (S : Sx) : Prop := o_X0_bowlBalls_0 b x1 x2 S ∧ True
theorem K_bowl (R : Rg (vw C b) (dR (M 6)) N pc hc uc ic hr) (hN : N < 2 ^ 30) (hK : Kp M) (x1 x2 : Int32) : o_X0_bowlVerdict_0 b x1 x2 C ∧ o_X7_bowl_0 x1 x2 M ∧ Out b N 2 3 C M (b_X0_bowlVerdict_0 b x1 x2 C) (b_X7_bowl_0 x1 x2 M) (opB b x1 x2) (ooB b x1 x2) := by
  have hb := gb R
  have of0 : ∀ w S, o_X7_fails_0 w S := fun w S => o_fails (M := S) (x := w)
  have R1 := R0 (x := 0) R
  rcases d_inn R x1 with ⟨c1, c2, k, hk, rfl⟩ | ⟨c1, c2⟩
  · rcases vd_rng (x := x2) (a := 1) (c := 36) (C := C) (M := M) (by decide) (by decide) with ⟨d1, d2, j, hj, hj6, rfl⟩ | ⟨d1, d2⟩
    · have d1' : b_X6_rangeVerdict_0 (nI j) 1 36 C = 0 := d1
      have d2' : b_X7_in_0 (nI j) 1 36 M = 1 := d2
      obtain ⟨v1, v2⟩ := v_end R hk
      obtain ⟨⟨g0, g1, g2, g3, g4, g5⟩, ⟨-, ⟨p, hp, gp⟩, ⟨x, hx, gx⟩⟩, ⟨F, n, wk, gF, gn, gk, hnF, hF, hwk⟩, gw, gs⟩ := gI R hk
      have ek := nI_clamp (n := k) (by omega)
      have i12 : vp_in (nI k) 12 := vp_in_nI (by omega) (by decide)
      have bv : b_X0_ballsVerdict_0 b (nI k) (nI j) C = 0 := by simp [b_X0_ballsVerdict_0, b_X0_ballsVerdict_21, c1, d1']
      have c0 : C (b + 16 + k) 0 = nI p := ((vI (p := k) (f := 0) (by omega) (by decide) (by decide)).trans g0).trans gp
      have c1x : C (b + 16 + k) 1 = nI x := ((vI (p := k) (f := 1) (by omega) (by decide) (by decide)).trans g1).trans gx
      have c2x : C (b + 16 + k) 2 = nI F := ((vI (p := k) (f := 2) (by omega) (by decide) (by decide)).trans g2).trans gF
      have c3x : C (b + 16 + k) 3 = nI n := ((vI (p := k) (f := 3) (by omega) (by decide) (by decide)).trans g3).trans gn
      have mm : ∀ (f : Nat) (y : Int32), y = nI f → f < 7 → b_X7_ofInnings_0 (nI k) y (up2 M 5 8 0) = dR (M 6) (16 + k) f := fun f y hy hf => mI_of (M' := up2 M 5 8 0) (by rw [up2_ne (by decide)]) (f := f) y hy (by omega) hf
      have qq : ∀ (f : Nat) (y : Int32) (S : Sx), y = nI f → f < 7 → o_X7_ofInnings_0 (nI k) y S := fun f y S hy hf => by rw [hy]; exact oI (M := S) (f := f) (by omega) hf
      have m0 := mm 0 0 rfl (by decide)
      have m1 := mm 1 1 rfl (by decide)
      have m2 := mm 2 2 rfl (by decide)
      have m3 := mm 3 3 rfl (by decide)
      have m6 := mm 6 6 rfl (by decide)
      have q0 := fun S => qq 0 0 S rfl (by decide)
      have q1 := fun S => qq 1 1 S rfl (by decide)
      have q2 := fun S => qq 2 2 S rfl (by decide)
      have q3 := fun S => qq 3 3 S rfl (by decide)
      have q6 := fun S => qq 6 6 S rfl (by decide)
      obtain ⟨t1, t2, t3, t, ht, t4⟩ := q_call R1 hN hx hp
      obtain ⟨t1C, -, t3C, -⟩ := q_call R hN hx hp
      have t3' : b_X0_callOf_0 b (nI x) (nI p) C = nI t := by rw [t3, t4]
      have lf : b_X7_left_0 (nI k) (up2 M 5 8 0) = nI (F - n) := by
        unfold b_X7_left_0
        rw [m2, m3, gF, gn, nI_subI hnF]
      have lc : nI F - nI n = nI (F - n) := nI_subI hnF
      have ol : o_X7_left_0 (nI k) (up2 M 5 8 0) := ⟨q2 _, q3 _, trivial⟩
      have z01 : ¬ (0 : Int32) = 1 := by decide
      rcases v2 with ⟨a6, w1⟩ | ⟨a6, w1⟩
      · by_cases hl : j ≤ F - n
        · have l1 : nI j ≤ nI (F - n) := nI_le hl (by omega)
          have ov : o_X0_bowlVerdict_0 b (nI k) (nI j) C := by
            simp [o_X0_bowlVerdict_0, o_X0_bowlVerdict_17, o_X0_callVerdict_0, bv, v1, w1, ek, i12, c0, c1x, c2x, c3x, lc, l1, t1C]
          by_cases t0 : t = 0
          · subst t0
            have t4' : b_X7_calls_0 (nI x) (nI p) (up2 M 5 8 0) = 0 := t4
            have t3'' : b_X0_callOf_0 b (nI x) (nI p) C = 0 := t3'
            have w3 : b_X0_bowlVerdict_0 b (nI k) (nI j) C = 0 := by
              simp [b_X0_bowlVerdict_0, b_X0_bowlVerdict_17, b_X0_bowlVerdict_74, b_X0_callVerdict_0, b_X0_callVerdict_21, bv, w1, ek, c0, c1x, c2x, c3x, lc, l1, t3'']
            have z00 : (0 : Int32) ≤ 0 := by decide
            have w2 : b_X7_bowl_0 (nI k) (nI j) M = b_X7_bowls_0 (nI k) (nI j) (b_X7_keeps_0 6 (up2 M 5 8 0)) := by
              simp only [b_X7_bowl_0, c2, d2', z10, if_false, b_X7_bowl_28, f_0, if_true, m6, a6, z01, lf, l1, m0, m1, gp, gx, t4', z00]
            have RK := kR (C1 := C) R hK rfl
            obtain ⟨-, b2, -⟩ := s_bowl RK hk (m := j) (by omega)
            have om : o_X7_bowl_0 (nI k) (nI j) M := by
              simp [o_X7_bowl_0, o_X7_bowl_28, o_isInnings, o_in, c2, d2', f_0, of0, q0, q1, q6, m0, m1, gp, gx, t2, m6, a6, ol, lf, l1, t4', hK.1, b2]
            refine ⟨ov, om, Or.inr (Or.inr (Or.inr ⟨w3, fun C1 hv => ?_⟩))⟩
            rw [w2]
            obtain ⟨b1, b2, b3, b4, b5, b6⟩ := s_bowl (kR (C1 := C1) R hK hv) hk (m := j) (by omega)
            exact ⟨⟨b1, trivial⟩, b3, b4, b5, b6.l⟩
          · have t5 : ¬ nI t ≤ 0 := nI_nle (by omega) (by omega)
            have t6 : ¬ nI t = 0 := nI_ne0 (by omega) (by omega)
            have e8 : b_X6_refused_0 8 (nI t) C = nI (8000 + t) := rfd (C := C) (a := 8) (d := t)
            have w3 : b_X0_bowlVerdict_0 b (nI k) (nI j) C = nI (8000 + t) := by
              simp [b_X0_bowlVerdict_0, b_X0_bowlVerdict_17, b_X0_bowlVerdict_74, b_X0_callVerdict_0, b_X0_callVerdict_21, bv, w1, ek, c0, c1x, c2x, c3x, lc, l1, t3', t6, e8]
            have w2 : b_X7_bowl_0 (nI k) (nI j) M = b_X7_refuses_0 3 8 (nI t) (up2 M 5 8 0) := by
              simp only [b_X7_bowl_0, c2, d2', z10, if_false, b_X7_bowl_28, f_0, if_true, m6, a6, z01, lf, l1, m0, m1, gp, gx, t4, t5]
            have om : o_X7_bowl_0 (nI k) (nI j) M := by
              simp [o_X7_bowl_0, o_X7_bowl_28, o_isInnings, o_in, c2, d2', f_0, of0, q0, q1, q6, m0, m1, gp, gx, t2, m6, a6, ol, lf, l1, t4, t5]
            exact ⟨ov, om, Or.inr (Or.inr (Or.inl ⟨8, t, by decide, by decide, by omega, w3, w2⟩))⟩
        · have l1 : ¬ nI j ≤ nI (F - n) := nI_ge (by omega) (by omega)
          have e10 : b_X6_refused_0 10 (nI (F - n)) C = nI (10000 + (F - n)) := rfd (C := C) (a := 10) (d := F - n)
          have ov : o_X0_bowlVerdict_0 b (nI k) (nI j) C := by
            simp [o_X0_bowlVerdict_0, o_X0_bowlVerdict_17, o_X0_callVerdict_0, bv, v1, w1, ek, i12, c0, c1x, c2x, c3x, lc, l1]
          have w3 : b_X0_bowlVerdict_0 b (nI k) (nI j) C = nI (10000 + (F - n)) := by
            simp [b_X0_bowlVerdict_0, b_X0_bowlVerdict_17, b_X0_bowlVerdict_74, bv, w1, ek, c0, c1x, c2x, c3x, lc, l1, e10]
          have w2 : b_X7_bowl_0 (nI k) (nI j) M = b_X7_refuses_0 3 10 (nI (F - n)) (up2 M 5 8 0) := by
            simp only [b_X7_bowl_0, c2, d2', z10, if_false, b_X7_bowl_28, f_0, if_true, m6, a6, z01, lf, l1]
          have om : o_X7_bowl_0 (nI k) (nI j) M := by
            simp [o_X7_bowl_0, o_X7_bowl_28, o_isInnings, o_in, c2, d2', f_0, of0, q0, q1, q6, m0, m1, gp, gx, t2, m6, a6, ol, lf, l1]
          exact ⟨ov, om, Or.inr (Or.inr (Or.inl ⟨10, F - n, by decide, by decide, by omega, w3, w2⟩))⟩
      · have n9 : ¬ nI (9000 + k) = 0 := nI_ne0 (by omega) (by omega)
        have ov : o_X0_bowlVerdict_0 b (nI k) (nI j) C := by
          simp [o_X0_bowlVerdict_0, o_X0_bowlVerdict_17, bv, v1, w1, n9]
        have w3 : b_X0_bowlVerdict_0 b (nI k) (nI j) C = nI (9000 + k) := by
          simp [b_X0_bowlVerdict_0, b_X0_bowlVerdict_17, bv, w1, n9]
        have w2 : b_X7_bowl_0 (nI k) (nI j) M = b_X7_refuses_0 3 9 (nI k) (up2 M 5 8 0) := by
          simp only [b_X7_bowl_0, c2, d2', z10, if_false, b_X7_bowl_28, f_0, if_true, m6, a6]
        have om : o_X7_bowl_0 (nI k) (nI j) M := by
          simp [o_X7_bowl_0, o_X7_bowl_28, o_isInnings, o_in, c2, d2', f_0, of0, q0, q1, q6, m0, m1, gp, gx, t2, m6, a6]
        exact ⟨ov, om, Or.inr (Or.inr (Or.inl ⟨9, k, by decide, by decide, by omega, w3, w2⟩))⟩
    · have d1' : b_X6_rangeVerdict_0 x2 1 36 C = -2 := d1
      have d2' : b_X7_in_0 x2 1 36 M = 0 := d2
      have m2 : ¬ (-2 : Int32) = 0 := by decide
      have bv : b_X0_ballsVerdict_0 b (nI k) x2 C = -2 := by simp [b_X0_ballsVerdict_0, b_X0_ballsVerdict_21, c1, d1']
      refine ⟨by simp [o_X0_bowlVerdict_0, o_X0_bowlVerdict_17, bv], by simp [o_X7_bowl_0, o_X7_bowl_28, o_isInnings, o_in, c2, d2', f_2, of0], Or.inr (Or.inl ⟨?_, ?_⟩)⟩
      · simp [b_X0_bowlVerdict_0, b_X0_bowlVerdict_17, bv]
      · simp [b_X7_bowl_0, b_X7_bowl_28, c2, d2', f_2]
        rfl
  · have bv : b_X0_ballsVerdict_0 b x1 x2 C = -1 := by simp [b_X0_ballsVerdict_0, b_X0_ballsVerdict_21, c1]
    refine ⟨by simp [o_X0_bowlVerdict_0, o_X0_bowlVerdict_17, bv], by simp [o_X7_bowl_0, o_X7_bowl_28, o_isInnings, c2, f_1, of0], Or.inl ⟨?_, ?_⟩⟩
    · simp [b_X0_bowlVerdict_0, b_X0_bowlVerdict_17, bv]
    · simp [b_X7_bowl_0, b_X7_bowl_28, c2, f_1]
theorem s_pass : ∀ n i m (C M : Sx) (v : Int32) (N hr : Nat), i ≤ m → m < n + i → m ≤ 100 → N + (m - i) < 2 ^ 30 → Rg (vw C b) (dR (M 6)) N pc hc uc ic hr → o_X0_letHoursGoBy_4 n b (nI m) v (nI i) C ∧ o_X7_pass_36 n (nI m) v (nI i) M ∧ (b_X0_letHoursGoBy_4 n b (nI m) v (nI i) C).1 = (b_X7_pass_36 n (nI m) v (nI i) M).1 ∧ FC b C (b_X0_letHoursGoBy_4 n b (nI m) v (nI i) C).2 ∧ FM M (b_X7_pass_36 n (nI m) v (nI i) M).2 ∧ Rl (N + (m - i)) (vw (b_X0_letHoursGoBy_4 n b (nI m) v (nI i) C).2 b) (dR ((b_X7_pass_36 n (nI m) v (nI i) M).2 6)) := by
  intro n
  induction n with
  | zero => intro i m C M v N hr h1 h2; omega
  | succ n ih =>
    intro i m C M v N hr h1 h2 hm hN R
    by_cases hi : i < m
    · have hle : ¬ nI m ≤ nI i := nI_ge hi (by omega)
      obtain ⟨a1, a2, a3, a4, a5, a6⟩ := s_hour (by omega) R
      obtain ⟨j1, j2, j3, j4, j5, j6⟩ := ih (i + 1) m _ _ (v + (b_X0_letHourGoBy_0 b C).1) (N + 1) (hr + 1) (by omega) (by omega) hm (by omega) a6
      rw [nI_succ] at j1 j2 j3 j4 j5 j6
      rw [b_X0_letHoursGoBy_4, o_X0_letHoursGoBy_4, b_X7_pass_36, o_X7_pass_36, if_neg hle, if_neg hle, ← a3]
      refine ⟨⟨fun e => absurd e hle, fun _ => ⟨a1, j1⟩⟩, ⟨fun e => absurd e hle, fun _ => ⟨a2, j2⟩⟩, j3, a4.tr j4, a5.tr j5, Rl_N j6 (by omega)⟩
    · have hie : i = m := by omega
      subst hie
      have hle : nI i ≤ nI i := nI_le (Nat.le_refl i) (by omega)
      rw [b_X0_letHoursGoBy_4, o_X0_letHoursGoBy_4, b_X7_pass_36, o_X7_pass_36, if_pos hle, if_pos hle]
      exact ⟨⟨fun _ => trivial, fun e => absurd hle e⟩, ⟨fun _ => trivial, fun e => absurd hle e⟩, rfl, FC.rf, FM.rf, ⟨_, _, _, _, _, rg_N R (by omega)⟩⟩
def opP (b : Nat) (x1 : Int32) (S : Sx) : Int32 × Sx := b_X0_letHoursGoBy_0 b x1 S
def ooP (b : Nat) (x1 : Int32) (S : Sx) : Prop := o_X0_letHoursGoBy_0 b x1 S ∧ True
theorem K_pass (R : Rg (vw C b) (dR (M 6)) N pc hc uc ic hr) (hN : N + 72 < 2 ^ 30) (hK : Kp M) (x1 : Int32) : o_X7_pass_0 x1 M ∧ ¬ b_X6_rangeVerdict_0 x1 1 72 C = -1 ∧ (b_X6_rangeVerdict_0 x1 1 72 C = 0 ∨ b_X6_rangeVerdict_0 x1 1 72 C = -2) ∧ Out b (N + 72) 1 0 C M (b_X6_rangeVerdict_0 x1 1 72 C) (b_X7_pass_0 x1 M) (opP b x1) (ooP b x1) := by
  have of0 : ∀ w S, o_X7_fails_0 w S := fun w S => o_fails (M := S) (x := w)
  rcases vd_rng (x := x1) (a := 1) (c := 72) (C := C) (M := M) (by decide) (by decide) with ⟨d1, d2, j, hj, hj6, rfl⟩ | ⟨d1, d2⟩
  · have d1' : b_X6_rangeVerdict_0 (nI j) 1 72 C = 0 := d1
    have d2' : b_X7_in_0 (nI j) 1 72 M = 1 := d2
    have w2 : b_X7_pass_0 (nI j) M = b_X7_pass_36 100 (nI j) 0 0 (b_X7_keeps_0 6 (up2 M 5 8 0)) := by
      simp only [b_X7_pass_0, d2', z10, if_false, b_X7_pass_16, f_0, if_true]
    have J : ∀ C1, vw C1 b = vw C b → _ := fun C1 hv => s_pass (b := b) 100 0 j C1 (b_X7_keeps_0 6 (up2 M 5 8 0)) 0 N hr (by omega) (by omega) (by omega) (by omega) (kR (C1 := C1) R hK hv)
    rw [nI_0] at J
    refine ⟨?_, by rw [d1']; decide, Or.inl d1', Or.inr (Or.inr (Or.inr ⟨d1', fun C1 hv => ?_⟩))⟩
    · simp [o_X7_pass_0, o_X7_pass_16, o_in, d2', f_0, of0, hK.1, (J C rfl).2.1]
    · rw [w2]
      obtain ⟨b1, b2, b3, b4, b5, b6⟩ := J C1 hv
      exact ⟨⟨b1, trivial⟩, b3, b4, b5, Rl_N b6 (by omega)⟩
  · have d1' : b_X6_rangeVerdict_0 x1 1 72 C = -2 := d1
    have d2' : b_X7_in_0 x1 1 72 M = 0 := d2
    refine ⟨by simp [o_X7_pass_0, o_X7_pass_16, o_in, d2', f_1, of0], by rw [d1']; decide, Or.inr d1', Or.inr (Or.inl ⟨d1', ?_⟩)⟩
    simp [b_X7_pass_0, b_X7_pass_16, d2', f_1]
    rfl
end
section
variable {C M : Sx} {N : Nat}
theorem L_roll (I : Inv N C M) (x1 x2 x3 : Int32) : o_X6_roll_0 x1 x2 x3 C ∧ o_X7_roll_0 x1 x2 x3 M ∧ Ok N [(1, 1), (2, 2), (3, 3)] C M (b_X6_roll_0 x1 x2 x3 C) (b_X7_roll_0 x1 x2 x3 M) := by
  obtain ⟨pc, hc, uc, ic, hr, R⟩ := id I.1
  obtain ⟨k1, k2, k3⟩ := K_roll R I.kp x1 x2 x3
  obtain ⟨h1, h2⟩ := chg (c := b_X6_roll_0 x1 x2 x3 C) (codes := [(1, 1), (2, 2), (3, 3)]) I (Nat.le_refl N) rfl k3 (fun _ => by simp) (fun _ => by simp) (fun _ _ _ => by simp)
  exact ⟨⟨k1, h1⟩, k2, h2⟩
theorem L_cover (I : Inv N C M) (x1 x2 : Int32) (hz : bz x2) : o_X6_cover_0 x1 x2 C ∧ o_X7_cover_0 x1 x2 M ∧ Ok N [(1, 1), (3, 2)] C M (b_X6_cover_0 x1 x2 C) (b_X7_cover_0 x1 x2 M) := by
  obtain ⟨pc, hc, uc, ic, hr, R⟩ := id I.1
  obtain ⟨k1, k2, k3, k4⟩ := K_cover R I.kp x1 x2 hz
  obtain ⟨h1, h2⟩ := chg (c := b_X6_cover_0 x1 x2 C) (codes := [(1, 1), (3, 2)]) I (Nat.le_refl N) rfl k4 (fun _ => by simp) (fun h => absurd h k3) (fun _ _ _ => by simp)
  exact ⟨⟨k1, h1⟩, k2, h2⟩
theorem L_bowl (I : Inv N C M) (hN : N < 2 ^ 30) (x1 x2 : Int32) : o_X6_bowl_0 x1 x2 C ∧ o_X7_bowl_0 x1 x2 M ∧ Ok N [(1, 1), (2, 2), (3, 3)] C M (b_X6_bowl_0 x1 x2 C) (b_X7_bowl_0 x1 x2 M) := by
  obtain ⟨pc, hc, uc, ic, hr, R⟩ := id I.1
  obtain ⟨k1, k2, k3⟩ := K_bowl R hN I.kp x1 x2
  obtain ⟨h1, h2⟩ := chg (c := b_X6_bowl_0 x1 x2 C) (codes := [(1, 1), (2, 2), (3, 3)]) I (Nat.le_refl N) rfl k3 (fun _ => by simp) (fun _ => by simp) (fun _ _ _ => by simp)
  exact ⟨⟨k1, h1⟩, k2, h2⟩
theorem L_end (I : Inv N C M) (x1 : Int32) : o_X6_end_0 x1 C ∧ o_X7_end_0 x1 M ∧ Ok N [(1, 1), (3, 2)] C M (b_X6_end_0 x1 C) (b_X7_end_0 x1 M) := by
  obtain ⟨pc, hc, uc, ic, hr, R⟩ := id I.1
  obtain ⟨k1, k2, k3, k4⟩ := K_end R I.kp x1
  obtain ⟨h1, h2⟩ := chg (c := b_X6_end_0 x1 C) (codes := [(1, 1), (3, 2)]) I (Nat.le_refl N) rfl k4 (fun _ => by simp) (fun h => absurd h k3) (fun _ _ _ => by simp)
  exact ⟨⟨k1, h1⟩, k2, h2⟩
theorem L_pass (I : Inv N C M) (hN : N + 72 < 2 ^ 30) (x1 : Int32) : o_X6_pass_0 x1 C ∧ o_X7_pass_0 x1 M ∧ Ok (N + 72) [(2, 1)] C M (b_X6_pass_0 x1 C) (b_X7_pass_0 x1 M) := by
  obtain ⟨pc, hc, uc, ic, hr, R⟩ := id I.1
  obtain ⟨k2, k3, k5, k4⟩ := K_pass R hN I.kp x1
  obtain ⟨h1, h2⟩ := chg (c := b_X6_pass_0 x1 C) (codes := [(2, 1)]) I (by omega) rfl k4 (fun h => absurd h k3) (fun _ => by simp) (fun _ a b => by rcases k5 with h | h; exact absurd h b; exact absurd h a)
  exact ⟨h1, k2, h2⟩
end

/-! CHANGES that a text may order too -/
section
variable {C M : Sx} {b N pc hc uc ic hr : Nat}
def Kp (M : Sx) : Prop := o_X7_keeps_0 6 (up2 M 5 8 0) ∧ b_X7_keeps_0 6 (up2 M 5 8 0) 6 = M 6
theorem Inv.kp (I : Inv N C M) : Kp M := by
  obtain ⟨-, k2, -, k4, -⟩ := (I.c0 0).keep
  exact ⟨k2, by rw [k4.1 6 (by decide) (by decide), up2_ne (by decide)]⟩
theorem kR {C1 : Sx} (R : Rg (vw C b) (dR (M 6)) N pc hc uc ic hr) (hK : Kp M) (hv : vw C1 b = vw C b) : Rg (vw C1 b) (dR (b_X7_keeps_0 6 (up2 M 5 8 0) 6)) N pc hc uc ic hr := by
  rw [hv, hK.2]
  exact R
theorem Rg.l (R : Rg (vw C b) (dR (M 6)) N pc hc uc ic hr) : Rl N (vw C b) (dR (M 6)) := ⟨_, _, _, _, _, R⟩
theorem mn99 (x : Int32) : (if x < 99 then x else 99) = (if x ≤ 99 then x else 99) := by
  by_cases h : x < 99
  · rw [if_pos h, if_pos (Int32.le_of_lt h)]
  · rw [if_neg h]
    by_cases h2 : x ≤ 99
    · rw [if_pos h2]
      exact (Int32.le_antisymm h2 (Int32.not_lt.mp h)).symm
    · rw [if_neg h2]
theorem s_opn_no (R : Rg (vw C b) (dR (M 6)) N pc hc uc ic hr) (x : Int32) : ∀ n i k, i ≤ k → k < ic → ic < n + i → b_X7_openOn_2 n x (nI i) M = -1 → ¬ (dR (M 6) (16 + k) 6 = 0 ∧ dR (M 6) (16 + k) 0 = x) := by
  have hb := gb R
  intro n
  induction n with
  | zero => intro i k h1 h2 h3; omega
  | succ n ih =>
    intro i k h1 hk h2 he
    rw [b_X7_openOn_2, (g010 R).2] at he
    have hi : i < ic := by omega
    have hle : ¬ nI ic ≤ nI i := nI_ge hi (by omega)
    have m6 : b_X7_ofInnings_0 (nI i) 6 M = dR (M 6) (16 + i) 6 := ofI (f := 6) (by omega) (by decide)
    have m0 : b_X7_ofInnings_0 (nI i) 0 M = dR (M 6) (16 + i) 0 := ofI (f := 0) (by omega) (by decide)
    rw [if_neg hle, m6, m0, b_X7_openOn_35, ← nI_succ] at he
    by_cases h3 : dR (M 6) (16 + i) 6 = 0
    · rw [if_pos h3] at he
      by_cases h4 : dR (M 6) (16 + i) 0 = x
      · rw [if_pos h4] at he
        exact absurd he (nI_m1 (by omega))
      · rw [if_neg h4] at he
        by_cases e : i = k
        · subst e
          exact fun q => h4 q.2
        · exact ih (i + 1) k (by omega) hk (by omega) he
    · rw [if_neg h3] at he
      by_cases e : i = k
      · subst e
        exact fun q => h3 q.1
      · exact ih (i + 1) k (by omega) hk (by omega) he
theorem s_rol_no (R : Rg (vw C b) (dR (M 6)) N pc hc uc ic hr) (x : Int32) : ∀ n i k, i ≤ k → k < hc → hc < n + i → b_X7_rollerOf_2 n x (nI i) M = -1 → ¬ (¬ dR (M 6) (11 + k) 3 = 0 ∧ dR (M 6) (11 + k) 4 = x) := by
  have hb := gb R
  intro n
  induction n with
  | zero => intro i k h1 h2 h3; omega
  | succ n ih =>
    intro i k h1 hk h2 he
    rw [b_X7_rollerOf_2, (g06 R).2] at he
    have hi : i < hc := by omega
    have hle : ¬ nI hc ≤ nI i := nI_ge hi (by omega)
    have m3 : b_X7_ofHorse_0 (nI i) 3 M = dR (M 6) (11 + i) 3 := ofH (f := 3) (by omega) (by decide)
    have m4 : b_X7_ofHorse_0 (nI i) 4 M = dR (M 6) (11 + i) 4 := ofH (f := 4) (by omega) (by decide)
    have s3 := (sm_le0 (gH R hi).2.2.2.2.1 (by decide))
    rw [if_neg hle, m3, m4, b_X7_rollerOf_34, ← nI_succ] at he
    by_cases h3 : dR (M 6) (11 + i) 3 ≤ 0
    · rw [if_pos h3] at he
      by_cases e : i = k
      · subst e
        exact fun q => q.1 (s3.mp h3)
      · exact ih (i + 1) k (by omega) hk (by omega) he
    · rw [if_neg h3] at he
      by_cases h4 : dR (M 6) (11 + i) 4 = x
      · rw [if_pos h4] at he
        exact absurd he (nI_m1 (by omega))
      · rw [if_neg h4] at he
        by_cases e : i = k
        · subst e
          exact fun q => h4 q.2
        · exact ih (i + 1) k (by omega) hk (by omega) he
theorem s_opn_none (R : Rg (vw C b) (dR (M 6)) N pc hc uc ic hr) (x : Int32) (k : Nat) (hk : k < ic) (h : b_X7_openOn_0 x M = -1) : ¬ (dR (M 6) (16 + k) 6 = 0 ∧ dR (M 6) (16 + k) 0 = x) := s_opn_no R x 100 0 k (by omega) hk (by have := gb R; omega) h
theorem s_rol_none (R : Rg (vw C b) (dR (M 6)) N pc hc uc ic hr) (x : Int32) (k : Nat) (hk : k < hc) (h : b_X7_rollerOf_0 x M = -1) : ¬ (¬ dR (M 6) (11 + k) 3 = 0 ∧ dR (M 6) (11 + k) 4 = x) := s_rol_no R x 100 0 k (by omega) hk (by have := gb R; omega) h
def opR (b : Nat) (x1 x2 x3 : Int32) (S : Sx) : Int32 × Sx := (if ((b_X0_beginRolling_0 b x1 x2 x3 S) (b + 7 + x2.toNatClampNeg) 1) + (x3 * ((b_X0_beginRolling_0 b x1 x2 x3 S) (b + 11 + x1.toNatClampNeg) 0)) < 99 then ((b_X0_beginRolling_0 b x1 x2 x3 S) (b + 7 + x2.toNatClampNeg) 1) + (x3 * ((b_X0_beginRolling_0 b x1 x2 x3 S) (b + 11 + x1.toNatClampNeg) 0)) else 99, b_X0_beginRolling_0 b x1 x2 x3 S)
def ooR (b : Nat) (x1 x2 x3 : Int32) (S : Sx) : Prop := o_X0_beginRolling_0 b x1 x2 x3 S ∧ (vp_in x2 4 ∧ (vp_in x1 5 ∧ True))
theorem K_roll (R : Rg (vw C b) (dR (M 6)) N pc hc uc ic hr) (hK : Kp M) (x1 x2 x3 : Int32) : o_X0_rollVerdict_0 b x1 x2 x3 C ∧ o_X7_roll_0 x1 x2 x3 M ∧ Out b N 2 3 C M (b_X0_rollVerdict_0 b x1 x2 x3 C) (b_X7_roll_0 x1 x2 x3 M) (opR b x1 x2 x3) (ooR b x1 x2 x3) := by
  have hb := gb R
  have of0 : ∀ w S, o_X7_fails_0 w S := fun w S => o_fails (M := S) (x := w)
  have R1 := R0 (x := 0) R
  rcases d_hor R x1 with ⟨a1, a2, h, hh, rfl⟩ | ⟨a1, a2⟩
  · rcases d_pit R x2 with ⟨c1, c2, p, hp, rfl⟩ | ⟨c1, c2⟩
    · rcases vd_rng (x := x3) (a := 1) (c := 6) (C := C) (M := M) (by decide) (by decide) with ⟨d1, d2, j, hj, hj6, rfl⟩ | ⟨d1, d2⟩
      · have d1' : b_X6_rangeVerdict_0 (nI j) 1 6 C = 0 := d1
        have d2' : b_X7_in_0 (nI j) 1 6 M = 1 := d2
        obtain ⟨v1, v2, v3⟩ := v_roll R1 hh hp (x3 := nI j) d1'
        rcases v3 with ⟨w1, w2, w3, w4, w5⟩ | ⟨w, d, q1, q2, q3, w1, w2, w3, w4⟩
        · have G := gH R hh
          have K := gP R hp
          have eh := nI_clamp (n := h) (by omega)
          have ep := nI_clamp (n := p) (by omega)
          have i5 : vp_in (nI h) 5 := vp_in_nI (by omega) (by decide)
          have i4 : vp_in (nI p) 4 := vp_in_nI (by omega) (by decide)
          have z0 : (0 : Int32) ≤ 0 := by decide
          have em : b_X7_roll_0 (nI h) (nI p) (nI j) M = b_X7_roll_88 (nI h) (nI p) (nI j) (b_X7_laysHorse_0 (nI h) 3 (nI j) (b_X7_keeps_0 6 (up2 M 5 8 0))) := by
            simp only [b_X7_roll_0, a2, c2, d2', z10, if_false, b_X7_roll_36, f_0, if_true, w1, z0]
          have S1 := (MS.rf (M := b_X7_keeps_0 6 (up2 M 5 8 0))).H (p := h) (f := 3) (v := nI j) (by omega) (by decide)
          have o3 : o_X7_laysHorse_0 (nI h) 3 (nI j) (b_X7_keeps_0 6 (up2 M 5 8 0)) := oLH (f := 3) (by omega) (by decide)
          have om : o_X7_roll_0 (nI h) (nI p) (nI j) M := by
            have o4 : ∀ S, o_X7_laysHorse_0 (nI h) 4 (nI p) S := fun S => oLH (f := 4) (by omega) (by decide)
            have o5 : ∀ S, o_X7_of_0 (nI p) 1 S := fun S => oP (M := S) (f := 1) (by omega) (by decide)
            have o6 : ∀ S, o_X7_ofHorse_0 (nI h) 0 S := fun S => oH (M := S) (f := 0) (by omega) (by decide)
            simp [o_X7_roll_0, o_X7_roll_36, o_X7_roll_88, o_isHorse, o_isPitch, o_in, a2, c2, d2', f_0, of0, v2, w1, hK.1, o3, o4, o5, o6]
          refine ⟨v1, om, Or.inr (Or.inr (Or.inr ⟨w2, fun C1 hv => ?_⟩))⟩
          rw [em]
          unfold b_X7_roll_88
          have S2 := S1.H (p := h) (f := 4) (v := nI p) (by omega) (by decide)
          rw [hK.2] at S2
          have eM : b_X7_laysHorse_0 (nI h) 4 (nI p) (b_X7_laysHorse_0 (nI h) 3 (nI j) (b_X7_keeps_0 6 (up2 M 5 8 0))) = b_X7_laysHorse_0 (nI h) (nI 4) (nI p) (b_X7_laysHorse_0 (nI h) (nI 3) (nI j) (b_X7_keeps_0 6 (up2 M 5 8 0))) := rfl
          rw [eM]
          generalize b_X7_laysHorse_0 (nI h) (nI 4) (nI p) (b_X7_laysHorse_0 (nI h) (nI 3) (nI j) (b_X7_keeps_0 6 (up2 M 5 8 0))) = M2 at S2 ⊢
          have T0 : CS C1 C1 b (vw C b) := ⟨fun _ _ => rfl, hv⟩
          have T1 := T0.H (p := h) (f := 4) (v := nI p) (by omega) (by decide) (Or.inl (by decide))
          have T2 := T1.H (p := h) (f := 3) (v := nI j) (by omega) (by decide) (Or.inl (by decide))
          have eC : b_X0_beginRolling_0 b (nI h) (nI p) (nI j) C1 = up2 (up2 C1 (b + 11 + h) 4 (nI p)) (b + 11 + h) 3 (nI j) := by
            unfold b_X0_beginRolling_0 b_X0_beginRolling_10
            rw [eh]
          unfold opR ooR
          rw [eC, ep, eh]
          generalize up2 (up2 C1 (b + 11 + h) 4 (nI p)) (b + 11 + h) 3 (nI j) = C2 at T2 ⊢
          have x1 : C2 (b + 7 + p) 1 = dR (M 6) (7 + p) 1 := by
            rw [P_of T2.2 (by omega) (by decide) (by decide), upV_ne (by omega), upV_ne (by omega)]
            exact K.1.2.1
          have x2 : C2 (b + 11 + h) 0 = dR (M 6) (11 + h) 0 := by
            rw [H_of T2.2 (by omega) (by decide) (by decide), upV_ne (by omega), upV_ne (by omega)]
            exact G.1.1
          have y1 : b_X7_of_0 (nI p) 1 M2 = dR (M 6) (7 + p) 1 := by
            rw [mP_of S2.2 (f := 1) 1 rfl (by omega) (by decide), upV_ne (by omega), upV_ne (by omega)]
          have y2 : b_X7_ofHorse_0 (nI h) 0 M2 = dR (M 6) (11 + h) 0 := by
            rw [mH_of S2.2 (f := 0) 0 rfl (by omega) (by decide), upV_ne (by omega), upV_ne (by omega)]
          rw [x1, x2, y1, y2]
          refine ⟨⟨⟨i5, i5, trivial⟩, i4, i5, trivial⟩, mn99 _, T2.1, S2.1, ?_⟩
          show Rl N (vw C2 b) (dR (M2 6))
          rw [T2.2, S2.2, upV_set, upV_set, upV_set, upV_set, set_set, set_set, sv_at, sv_at]
          refine ⟨_, _, _, _, _, rg_H R hh ?_ ?_⟩
          · obtain ⟨⟨g0, g1, g2, g3, g5⟩, gb1, gs0, gs2, gs3, gd⟩ := G
            have n34 : ¬ (3 : Nat) = 4 := by decide
            refine ⟨⟨?_, ?_, ?_, ?_, ?_⟩, ?_, ?_, ?_, ?_, Or.inr ⟨?_, ?_, p, hp, ?_⟩⟩
            · simpa [upd] using g0
            · simpa [upd] using g1
            · simpa [upd] using g2
            · simp [upd]
            · simpa [upd] using g5
            · simpa [upd] using gb1
            · simpa [upd] using gs0
            · simpa [upd] using gs2
            · exact ⟨j, hj6, by simp [upd]⟩
            · simpa [upd] using nI_ne0 (n := j) (by omega) (by omega)
            · simp [upd]
            · simp [upd]
          · intro k hk
            simp only [upd]
            simp
            intro _ h6 e
            have R1' := R1
            have hopen := w5
            have q := s_opn_none R1 (nI p) k hk hopen
            rw [up2_ne (by decide)] at q
            exact q ⟨h6, e.symm⟩
        · have n0 : ¬ nI w ≤ 0 := nI_nle (by omega) (by omega)
          have om : o_X7_roll_0 (nI h) (nI p) (nI j) M := by
            simp [o_X7_roll_0, o_X7_roll_36, o_isHorse, o_isPitch, o_in, a2, c2, d2', f_0, of0, v2, w1, n0, w2]
          refine ⟨v1, om, Or.inr (Or.inr (Or.inl ⟨w, d, q1, by omega, q3, w4, ?_⟩))⟩
          simp only [b_X7_roll_0, a2, c2, d2', z10, if_false, b_X7_roll_36, f_0, if_true, w1, n0, w3]
          rfl
      · have d1' : b_X6_rangeVerdict_0 x3 1 6 C = -2 := d1
        have d2' : b_X7_in_0 x3 1 6 M = 0 := d2
        have m2 : ¬ (-2 : Int32) = 0 := by decide
        refine ⟨by simp [o_X0_rollVerdict_0, a1, c1, d1'], by simp [o_X7_roll_0, o_X7_roll_36, o_isHorse, o_isPitch, o_in, a2, c2, d2', f_2, of0], Or.inr (Or.inl ⟨?_, ?_⟩)⟩
        · simp [b_X0_rollVerdict_0, a1, c1, d1']
        · simp [b_X7_roll_0, b_X7_roll_36, a2, c2, d2', f_2]
          rfl
    · refine ⟨by simp [o_X0_rollVerdict_0, a1, c1], by simp [o_X7_roll_0, o_X7_roll_17, o_X7_roll_36, o_isHorse, o_isPitch, a2, c2, f_1, of0], Or.inl ⟨?_, ?_⟩⟩
      · simp [b_X0_rollVerdict_0, b_X0_rollVerdict_16, a1, c1]
      · simp [b_X7_roll_0, b_X7_roll_17, b_X7_roll_36, a2, c2, f_1]
  · refine ⟨by simp [o_X0_rollVerdict_0, a1], by simp [o_X7_roll_0, o_X7_roll_17, o_X7_roll_36, o_isHorse, a2, f_1, of0], Or.inl ⟨?_, ?_⟩⟩
    · simp [b_X0_rollVerdict_0, b_X0_rollVerdict_16, a1]
    · simp [b_X7_roll_0, b_X7_roll_17, b_X7_roll_36, a2, f_1]
end

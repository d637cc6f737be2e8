/-! MORE CALLS THAT ONLY READ -/
section
variable {C M : Sx} {N : Nat}
theorem rd1w {codes : List (Nat × Nat)} {c : Nat × Int32 × Sx} {m : Int32 × Sx} {e k : Nat} {x w : Int32} (I : Inv N C M) (h : (e, k) ∈ codes) (hx : x = nI k) (h1 : c = (e, 0, C)) (h2 : m = (w, up2 M 5 8 x)) : Ok N codes C M c m := by
  rw [h1, h2]
  exact rd I rfl rfl (Or.inr ⟨e, k, h, rfl, hx⟩)
theorem L_sign (I : Inv N C M) (x1 : Int32) : o_X6_sign_0 x1 C ∧ o_X7_sign_0 x1 M ∧ Ok N [(1, 1)] C M (b_X6_sign_0 x1 C) (b_X7_sign_0 x1 M) := by
  obtain ⟨pc, hc, uc, ic, hr, R⟩ := id I.1
  have hb := gb R
  have of0 : ∀ w S, o_X7_fails_0 w S := fun w S => o_fails (M := S) (x := w)
  have R1 := R0 (x := 0) R
  rcases d_pit R x1 with ⟨a1, a2, p, hp, rfl⟩ | ⟨a1, a2⟩
  · have G := gP R hp
    have e := nI_clamp (n := p) (by omega)
    have i4 : vp_in (nI p) 4 := vp_in_nI (by omega) (by decide)
    obtain ⟨r1, r2, r3, r4⟩ := q_rol R1 (nI p)
    obtain ⟨s1, s2, s3, s4⟩ := q_opn R1 (nI p)
    have c0 : C (15 + 7 + p) 0 = dR (M 6) (7 + p) 0 := (vP (p := p) (f := 0) (by omega) (by decide) (by decide)).trans G.1.1
    have c3 : nb (C (15 + 7 + p) 3) = dR (M 6) (7 + p) 3 := (vP3 (by omega)).trans G.1.2.2.2.1
    have m0 : b_X7_of_0 (nI p) 0 (up2 M 5 8 0) = dR (M 6) (7 + p) 0 := mP_of (M' := up2 M 5 8 0) (by rw [up2_ne (by decide)]) (f := 0) 0 rfl (by omega) (by decide)
    have m3 : b_X7_of_0 (nI p) 3 (up2 M 5 8 0) = dR (M 6) (7 + p) 3 := mP_of (M' := up2 M 5 8 0) (by rw [up2_ne (by decide)]) (f := 3) 3 rfl (by omega) (by decide)
    have q0 : o_X7_of_0 (nI p) 0 (up2 M 5 8 0) := oP (M := up2 M 5 8 0) (f := 0) (by omega) (by decide)
    have q3 : o_X7_of_0 (nI p) 3 (up2 M 5 8 0) := oP (M := up2 M 5 8 0) (f := 3) (by omega) (by decide)
    have z100 : cz 100 := by unfold cz; decide
    have z119 : cz 119 := by unfold cz; decide
    have z105 : cz 105 := by unfold cz; decide
    have z104 : cz 104 := by unfold cz; decide
    have z99 : cz 99 := by unfold cz; decide
    refine ⟨?_, ?_, ?_⟩
    · simp [o_X6_sign_0, o_X6_sign_12, o_X6_sign_84, a1, set_0, i4, r1, s1, z100, z119, z105, z104, z99]
    · simp [o_X7_sign_0, o_X7_sign_14, o_X7_sign_78, a2, o_isPitch, of0, f_0, q0, q3, r2, s2, z100, z119, z105, z104, z99]
    · have k01 : ¬ (0 : Int32) = 1 := by decide
      rcases G.2.2.2.2 with z | z
      · rcases r4 with w | ⟨j, hj, w⟩
        · rcases s4 with y | ⟨i, hi, y⟩
          · by_cases h : dR (M 6) (7 + p) 0 ≤ 60
            · refine rd0 I (v := 100) ?_ ?_
              · simp [b_X6_sign_0, b_X6_sign_12, b_X6_sign_84, a1, set_0, e, c3, z, r3, w, s3, y, c0, h]
              · simp only [b_X7_sign_0, b_X7_sign_14, b_X7_sign_78, a2, f_0, z10, m3, z, k01, w, y, m1_lt, m0, h]
                simp
            · refine rd0 I (v := 119) ?_ ?_
              · simp [b_X6_sign_0, b_X6_sign_12, b_X6_sign_84, a1, set_0, e, c3, z, r3, w, s3, y, c0, h]
              · simp only [b_X7_sign_0, b_X7_sign_14, b_X7_sign_78, a2, f_0, z10, m3, z, k01, w, y, m1_lt, m0, h]
                simp
          · have n1 : ¬ nI i = -1 := nI_m1 (by omega)
            have n2 : ¬ nI i < 0 := nI_pos (by omega)
            refine rd0 I (v := 105) ?_ ?_
            · simp [b_X6_sign_0, b_X6_sign_12, b_X6_sign_84, a1, set_0, e, c3, z, r3, w, s3, y, n1]
            · simp only [b_X7_sign_0, b_X7_sign_14, b_X7_sign_78, a2, f_0, z10, m3, z, k01, w, y, m1_lt, n2]
              simp
        · have n1 : ¬ nI j = -1 := nI_m1 (by omega)
          have n2 : ¬ nI j < 0 := nI_pos (by omega)
          refine rd0 I (v := 104) ?_ ?_
          · simp [b_X6_sign_0, b_X6_sign_12, b_X6_sign_84, a1, set_0, e, c3, z, r3, w, n1]
          · simp only [b_X7_sign_0, b_X7_sign_14, b_X7_sign_78, a2, f_0, z10, m3, z, k01, w, n2]
            simp
      · refine rd0 I (v := 99) ?_ ?_
        · simp [b_X6_sign_0, b_X6_sign_12, b_X6_sign_84, a1, set_0, e, c3, z]
        · simp only [b_X7_sign_0, b_X7_sign_14, b_X7_sign_78, a2, f_0, z10, m3, z]
          simp
  · refine ⟨?_, ?_, rd1w I (w := 32) (e := 1) (k := 1) (x := 1) (by simp) rfl ?_ ?_⟩
    · simp [o_X6_sign_0, a1, set_m1]
    · simp [o_X7_sign_0, o_X7_sign_14, a2, o_isPitch, f_1, of0]
    · simp [b_X6_sign_0, a1, set_m1]
    · simp [b_X7_sign_0, b_X7_sign_14, a2, o_isPitch, f_1]
theorem L_horseOf (I : Inv N C M) (x1 x2 : Int32) : o_X6_horseOf_0 x1 x2 C ∧ o_X7_horseOf_0 x1 x2 M ∧ Ok N [(1, 1), (2, 2)] C M (b_X6_horseOf_0 x1 x2 C) (b_X7_horseOf_0 x1 x2 M) := by
  obtain ⟨pc, hc, uc, ic, hr, R⟩ := id I.1
  have hb := gb R
  have of0 : ∀ w S, o_X7_fails_0 w S := fun w S => o_fails (M := S) (x := w)
  have R1 := R0 (x := 0) R
  rcases d_hor R x1 with ⟨a1, a2, p, hp, rfl⟩ | ⟨a1, a2⟩
  · have G := gH R hp
    have e := nI_clamp (n := p) (by omega)
    have i5 : vp_in (nI p) 5 := vp_in_nI (by omega) (by decide)
    have cc : ∀ f, f < 6 → ¬ f = 1 → C (15 + 11 + p) f = vw C 15 (11 + p) f := fun f hf h1 => vH (p := p) (by omega) hf h1
    have c1 : nb (C (15 + 11 + p) 1) = dR (M 6) (11 + p) 1 := (vH1 (by omega)).trans G.1.2.1
    have c3 : C (15 + 11 + p) 3 = dR (M 6) (11 + p) 3 := (cc 3 (by decide) (by decide)).trans G.1.2.2.2.1
    have mm : ∀ f, f < 6 → b_X7_ofHorse_0 (nI p) (nI f) (up2 M 5 8 0) = dR (M 6) (11 + p) f := fun f hf => mH_of (M' := up2 M 5 8 0) (by rw [up2_ne (by decide)]) (nI f) rfl (by omega) hf
    have oc : o_X6_horseOf_0 (nI p) x2 C := by
      simp [o_X6_horseOf_0, o_X6_horseOf_12, o_X1_isRolling_0, o_X1_isRolling_12, a1, set_0, i5, bz]
    rcases vd_rng (x := x2) (a := 0) (c := 5) (C := C) (M := M) (by decide) (by decide) with ⟨-, b2, j, hj, hj6, rfl⟩ | ⟨-, b2⟩
    · have b2' : b_X7_in_0 (nI j) 0 5 M = 1 := b2
      have qj : o_X7_ofHorse_0 (nI p) (nI j) (up2 M 5 8 0) := oH (M := up2 M 5 8 0) (by omega) (by omega)
      have om : o_X7_horseOf_0 (nI p) (nI j) M := by
        simp [o_X7_horseOf_0, o_X7_horseOf_27, a2, b2', o_isHorse, o_in, of0, f_0, qj]
      have em : b_X7_horseOf_0 (nI p) (nI j) M = (dR (M 6) (11 + p) j, up2 M 5 8 0) := by
        simp only [b_X7_horseOf_0, b_X7_horseOf_27, b_X7_horseOf_43, a2, b2', f_0, z10, mm j (by omega)]
        simp
      refine ⟨oc, om, rd0 I (v := dR (M 6) (11 + p) j) ?_ em⟩
      have hj7 : j = 0 ∨ j = 1 ∨ j = 2 ∨ j = 3 ∨ j = 4 ∨ j = 5 := by omega
      rcases hj7 with rfl | rfl | rfl | rfl | rfl | rfl
      · simp only [b_X6_horseOf_0, b_X6_horseOf_12, a1, set_0, e, (cc 0 (by decide) (by decide)).trans G.1.1]
        simp [nI]
      · simp only [b_X6_horseOf_0, b_X6_horseOf_12, b_X6_horseOf_77, a1, set_0, e, c1]
        rcases G.2.1 with z | z
        · rw [z]; simp [nI]
        · rw [z]; simp [nI]
      · simp only [b_X6_horseOf_0, b_X6_horseOf_12, a1, set_0, e, (cc 2 (by decide) (by decide)).trans G.1.2.2.1]
        simp [nI]
      · simp only [b_X6_horseOf_0, b_X6_horseOf_12, a1, set_0, e, c3]
        simp [nI]
      · simp only [b_X6_horseOf_0, b_X6_horseOf_12, b_X6_horseOf_103, b_X1_isRolling_0, b_X1_isRolling_12, a1, set_0, e, c3]
        rcases G.2.2.2.2.2 with z | z
        · rw [z.1, z.2]
          simp [nI]
        · have l0 : ¬ dR (M 6) (11 + p) 3 ≤ 0 := fun q => z.1 ((sm_le0 G.2.2.2.2.1 (by decide)).mp q)
          rw [if_neg l0, (cc 4 (by decide) (by decide)).trans z.2.1]
          simp [nI]
      · simp only [b_X6_horseOf_0, b_X6_horseOf_12, a1, set_0, e, (cc 5 (by decide) (by decide)).trans G.1.2.2.2.2]
        simp [nI]
    · have b2' : b_X7_in_0 x2 0 5 M = 0 := b2
      have k : ∀ j, j ≤ 5 → ¬ x2 = nI j := fun j hj => in_no b2 (Nat.zero_le j) hj (by decide)
      have k0 : ¬ x2 = 0 := k 0 (by decide)
      have k1 : ¬ x2 = 1 := k 1 (by decide)
      have k2 : ¬ x2 = 2 := k 2 (by decide)
      have k3 : ¬ x2 = 3 := k 3 (by decide)
      have k4 : ¬ x2 = 4 := k 4 (by decide)
      have k5 : ¬ x2 = 5 := k 5 (by decide)
      refine ⟨oc, ?_, rd1 I (e := 2) (k := 2) (x := 2) (by simp) rfl ?_ ?_⟩
      · simp [o_X7_horseOf_0, o_X7_horseOf_27, a2, b2', o_isHorse, o_in, of0, f_2]
      · simp [b_X6_horseOf_0, b_X6_horseOf_12, a1, set_0, k0, k1, k2, k3, k4, k5]
      · simp [b_X7_horseOf_0, b_X7_horseOf_27, b_X7_horseOf_43, a2, b2', f_2]
  · refine ⟨?_, ?_, rd1 I (e := 1) (k := 1) (x := 1) (by simp) rfl ?_ ?_⟩
    · simp [o_X6_horseOf_0, a1, set_m1]
    · simp [o_X7_horseOf_0, o_X7_horseOf_27, b_X7_horseOf_43, a2, o_isHorse, f_1, of0]
    · simp [b_X6_horseOf_0, a1, set_m1]
    · simp [b_X7_horseOf_0, b_X7_horseOf_27, b_X7_horseOf_43, a2, o_isHorse, f_1]
theorem L_bestHorse (I : Inv N C M) (x1 : Int32) : o_X6_bestHorse_0 x1 C ∧ o_X7_bestHorse_0 x1 M ∧ Ok N [(1, 1), (4, 2)] C M (b_X6_bestHorse_0 x1 C) (b_X7_bestHorse_0 x1 M) := by
  obtain ⟨pc, hc, uc, ic, hr, R⟩ := id I.1
  have hb := gb R
  have of0 : ∀ w S, o_X7_fails_0 w S := fun w S => o_fails (M := S) (x := w)
  have R1 := R0 (x := 0) R
  rcases d_pit R x1 with ⟨a1, a2, p, hp, rfl⟩ | ⟨a1, a2⟩
  · obtain ⟨h1, h2, h3⟩ := s_horse R1 hp 100 0 (-1) (by omega) (by omega) (Or.inl rfl)
    rw [nI_0] at h1 h2 h3
    have h1' : o_X0_bestRollerFor_0 15 (nI p) C := h1
    have uu : ∀ x : Int32, up2 (up2 M 5 8 0) 5 8 x = up2 M 5 8 x := fun x => by
      funext a c
      by_cases q : a = 5
      · subst q
        by_cases q2 : c = 8 <;> simp [up2, q2]
      · simp [up2, q]
    rw [uu, uu] at h3
    refine ⟨?_, ?_, ?_⟩
    · simp [o_X6_bestHorse_0, o_X6_bestHorse_12, a1, set_0, h1']
    · simp [o_X7_bestHorse_0, o_X7_bestHorse_14, a2, o_isPitch, of0, f_0, h2]
    · rcases h3 with ⟨k1, k2⟩ | ⟨j, hj, k1, k2⟩
      · have k1' : b_X0_bestRollerFor_0 15 (nI p) C = -1 := k1
        refine rd1 I (e := 4) (k := 2) (x := 2) (by simp) rfl ?_ ?_
        · simp [b_X6_bestHorse_0, b_X6_bestHorse_12, a1, set_0, k1']
        · simp [b_X7_bestHorse_0, b_X7_bestHorse_14, a2, f_0, k2]
      · have k1' : b_X0_bestRollerFor_0 15 (nI p) C = nI j := k1
        have n1 : ¬ nI j = -1 := nI_m1 (by omega)
        refine rd0 I (v := nI j) ?_ ?_
        · simp [b_X6_bestHorse_0, b_X6_bestHorse_12, a1, set_0, k1', n1]
        · simp [b_X7_bestHorse_0, b_X7_bestHorse_14, a2, f_0, k2]
  · refine ⟨?_, ?_, rd1 I (e := 1) (k := 1) (x := 1) (by simp) rfl ?_ ?_⟩
    · simp [o_X6_bestHorse_0, a1, set_m1]
    · simp [o_X7_bestHorse_0, o_X7_bestHorse_14, a2, o_isPitch, f_1, of0]
    · simp [b_X6_bestHorse_0, a1, set_m1]
    · simp [b_X7_bestHorse_0, b_X7_bestHorse_14, a2, o_isPitch, f_1]
theorem L_bestPitch (I : Inv N C M) (hN : N < 2 ^ 30) (x1 : Int32) : o_X6_bestPitch_0 x1 C ∧ o_X7_bestPitch_0 x1 M ∧ Ok N [(1, 1), (4, 2)] C M (b_X6_bestPitch_0 x1 C) (b_X7_bestPitch_0 x1 M) := by
  obtain ⟨pc, hc, uc, ic, hr, R⟩ := id I.1
  have hb := gb R
  have of0 : ∀ w S, o_X7_fails_0 w S := fun w S => o_fails (M := S) (x := w)
  have R1 := R0 (x := 0) R
  rcases d_ump R x1 with ⟨a1, a2, p, hp, rfl⟩ | ⟨a1, a2⟩
  · obtain ⟨h1, h2, h3⟩ := s_pitch R1 hN hp 100 0 (-1) 0 (by omega) (by omega) (Or.inl rfl)
    rw [nI_0] at h1 h2 h3
    have h1' : o_X0_bestFitPitch_0 15 (nI p) C := h1
    have uu : ∀ x : Int32, up2 (up2 M 5 8 0) 5 8 x = up2 M 5 8 x := fun x => by
      funext a c
      by_cases q : a = 5
      · subst q
        by_cases q2 : c = 8 <;> simp [up2, q2]
      · simp [up2, q]
    rw [uu, uu] at h3
    refine ⟨?_, ?_, ?_⟩
    · simp [o_X6_bestPitch_0, o_X6_bestPitch_12, a1, set_0, h1']
    · simp [o_X7_bestPitch_0, o_X7_bestPitch_14, a2, o_isUmpire, of0, f_0, h2]
    · rcases h3 with ⟨k1, k2⟩ | ⟨j, hj, k1, k2⟩
      · have k1' : b_X0_bestFitPitch_0 15 (nI p) C = -1 := k1
        refine rd1 I (e := 4) (k := 2) (x := 2) (by simp) rfl ?_ ?_
        · simp [b_X6_bestPitch_0, b_X6_bestPitch_12, a1, set_0, k1']
        · simp [b_X7_bestPitch_0, b_X7_bestPitch_14, a2, f_0, k2]
      · have k1' : b_X0_bestFitPitch_0 15 (nI p) C = nI j := k1
        have n1 : ¬ nI j = -1 := nI_m1 (by omega)
        refine rd0 I (v := nI j) ?_ ?_
        · simp [b_X6_bestPitch_0, b_X6_bestPitch_12, a1, set_0, k1', n1]
        · simp [b_X7_bestPitch_0, b_X7_bestPitch_14, a2, f_0, k2]
  · refine ⟨?_, ?_, rd1 I (e := 1) (k := 1) (x := 1) (by simp) rfl ?_ ?_⟩
    · simp [o_X6_bestPitch_0, a1, set_m1]
    · simp [o_X7_bestPitch_0, o_X7_bestPitch_14, a2, o_isUmpire, f_1, of0]
    · simp [b_X6_bestPitch_0, a1, set_m1]
    · simp [b_X7_bestPitch_0, b_X7_bestPitch_14, a2, o_isUmpire, f_1]
theorem L_call (I : Inv N C M) (hN : N < 2 ^ 30) (x1 x2 : Int32) : o_X6_call_0 x1 x2 C ∧ o_X7_call_0 x1 x2 M ∧ Ok N [(1, 1)] C M (b_X6_call_0 x1 x2 C) (b_X7_call_0 x1 x2 M) := by
  obtain ⟨pc, hc, uc, ic, hr, R⟩ := id I.1
  have hb := gb R
  have of0 : ∀ w S, o_X7_fails_0 w S := fun w S => o_fails (M := S) (x := w)
  have R1 := R0 (x := 0) R
  rcases d_ump R x1 with ⟨a1, a2, u, hu, rfl⟩ | ⟨a1, a2⟩
  · rcases d_pit R x2 with ⟨b1, b2, p, hp, rfl⟩ | ⟨b1, b2⟩
    · obtain ⟨h1, h2, h3, -⟩ := q_call R1 hN hu hp
      refine ⟨?_, ?_, rd0 I (v := b_X7_calls_0 (nI u) (nI p) (up2 M 5 8 0)) ?_ ?_⟩
      · simp [o_X6_call_0, o_X6_call_13, b_X0_callerVerdict_0, b_X0_callerVerdict_19, a1, b1, set_0, h1]
      · simp [o_X7_call_0, o_X7_call_21, o_X7_call_22, a2, b2, o_isUmpire, o_isPitch, of0, f_0, h2]
      · simp [b_X6_call_0, b_X6_call_13, b_X0_callerVerdict_0, b_X0_callerVerdict_19, a1, b1, set_0, h3]
      · simp [b_X7_call_0, b_X7_call_21, b_X7_call_22, b_X7_call_38, a2, b2, f_0]
    · refine ⟨?_, ?_, rd1 I (e := 1) (k := 1) (x := 1) (by simp) rfl ?_ ?_⟩
      · simp [o_X6_call_0, b_X0_callerVerdict_0, b_X0_callerVerdict_19, a1, b1, set_m1]
      · simp [o_X7_call_0, o_X7_call_21, o_X7_call_22, b_X7_call_38, a2, b2, o_isUmpire, o_isPitch, f_1, of0]
      · simp [b_X6_call_0, b_X0_callerVerdict_0, b_X0_callerVerdict_19, a1, b1, set_m1]
      · simp [b_X7_call_0, b_X7_call_21, b_X7_call_22, b_X7_call_38, a2, b2, o_isUmpire, o_isPitch, f_1]
  · refine ⟨?_, ?_, rd1 I (e := 1) (k := 1) (x := 1) (by simp) rfl ?_ ?_⟩
    · simp [o_X6_call_0, b_X0_callerVerdict_0, b_X0_callerVerdict_19, a1, set_m1]
    · simp [o_X7_call_0, o_X7_call_21, o_X7_call_22, b_X7_call_38, a2, o_isUmpire, f_1, of0]
    · simp [b_X6_call_0, b_X0_callerVerdict_0, b_X0_callerVerdict_19, a1, set_m1]
    · simp [b_X7_call_0, b_X7_call_21, b_X7_call_22, b_X7_call_38, a2, o_isUmpire, f_1]
theorem L_inningsOf (I : Inv N C M) (x1 x2 : Int32) : o_X6_inningsOf_0 x1 x2 C ∧ o_X7_inningsOf_0 x1 x2 M ∧ Ok N [(1, 1), (2, 2)] C M (b_X6_inningsOf_0 x1 x2 C) (b_X7_inningsOf_0 x1 x2 M) := by
  obtain ⟨pc, hc, uc, ic, hr, R⟩ := id I.1
  have hb := gb R
  have of0 : ∀ w S, o_X7_fails_0 w S := fun w S => o_fails (M := S) (x := w)
  have R1 := R0 (x := 0) R
  rcases d_inn R x1 with ⟨a1, a2, p, hp, rfl⟩ | ⟨a1, a2⟩
  · have G := gI R hp
    have e := nI_clamp (n := p) (by omega)
    have i5 : vp_in (nI p) 12 := vp_in_nI (by omega) (by decide)
    have cc : ∀ f, f < 7 → ¬ f = 6 → C (15 + 16 + p) f = vw C 15 (16 + p) f := fun f hf h1 => vI (p := p) (by omega) hf h1
    have ov := s_over (C := C) (b := 15) (k := p) (by omega)
    have c6 : b_X2_isOver_0 (15 + 16 + p) C = dR (M 6) (16 + p) 6 := by rw [ov.1, G.2.1.1]
    have mm : ∀ f, f < 7 → b_X7_ofInnings_0 (nI p) (nI f) (up2 M 5 8 0) = dR (M 6) (16 + p) f := fun f hf => mI_of (M' := up2 M 5 8 0) (by rw [up2_ne (by decide)]) (nI f) rfl (by omega) hf
    have oc : o_X6_inningsOf_0 (nI p) x2 C := by
      have ov2 := ov.2
      simp [o_X6_inningsOf_0, o_X6_inningsOf_12, a1, set_0, i5, e, ov2]
    rcases vd_rng (x := x2) (a := 0) (c := 6) (C := C) (M := M) (by decide) (by decide) with ⟨-, b2, j, hj, hj6, rfl⟩ | ⟨-, b2⟩
    · have b2' : b_X7_in_0 (nI j) 0 6 M = 1 := b2
      have qj : o_X7_ofInnings_0 (nI p) (nI j) (up2 M 5 8 0) := oI (M := up2 M 5 8 0) (by omega) (by omega)
      have om : o_X7_inningsOf_0 (nI p) (nI j) M := by
        simp [o_X7_inningsOf_0, o_X7_inningsOf_28, a2, b2', o_isInnings, o_in, of0, f_0, qj]
      have em : b_X7_inningsOf_0 (nI p) (nI j) M = (dR (M 6) (16 + p) j, up2 M 5 8 0) := by
        simp only [b_X7_inningsOf_0, b_X7_inningsOf_28, b_X7_inningsOf_44, a2, b2', f_0, z10, mm j (by omega)]
        simp
      refine ⟨oc, om, rd0 I (v := dR (M 6) (16 + p) j) ?_ em⟩
      have hj7 : j = 0 ∨ j = 1 ∨ j = 2 ∨ j = 3 ∨ j = 4 ∨ j = 5 ∨ j = 6 := by omega
      rcases hj7 with rfl | rfl | rfl | rfl | rfl | rfl | rfl
      · simp only [b_X6_inningsOf_0, b_X6_inningsOf_12, a1, set_0, e, (cc 0 (by decide) (by decide)).trans G.1.1]
        simp [nI]
      · simp only [b_X6_inningsOf_0, b_X6_inningsOf_12, a1, set_0, e, (cc 1 (by decide) (by decide)).trans G.1.2.1]
        simp [nI]
      · simp only [b_X6_inningsOf_0, b_X6_inningsOf_12, a1, set_0, e, (cc 2 (by decide) (by decide)).trans G.1.2.2.1]
        simp [nI]
      · simp only [b_X6_inningsOf_0, b_X6_inningsOf_12, a1, set_0, e, (cc 3 (by decide) (by decide)).trans G.1.2.2.2.1]
        simp [nI]
      · simp only [b_X6_inningsOf_0, b_X6_inningsOf_12, a1, set_0, e, (cc 4 (by decide) (by decide)).trans G.1.2.2.2.2.1]
        simp [nI]
      · simp only [b_X6_inningsOf_0, b_X6_inningsOf_12, a1, set_0, e, (cc 5 (by decide) (by decide)).trans G.1.2.2.2.2.2]
        simp [nI]
      · have z2 : dR (M 6) (16 + p) 6 = 0 ∨ dR (M 6) (16 + p) 6 = 1 := by rw [G.2.1.1]; exact over_01 _
        simp only [b_X6_inningsOf_0, b_X6_inningsOf_12, b_X6_inningsOf_106, a1, set_0, e, c6]
        rcases z2 with z | z
        · rw [z]; simp [nI]
        · rw [z]; simp [nI]
    · have b2' : b_X7_in_0 x2 0 6 M = 0 := b2
      have k : ∀ j, j ≤ 6 → ¬ x2 = nI j := fun j hj => in_no b2 (Nat.zero_le j) hj (by decide)
      have k0 : ¬ x2 = 0 := k 0 (by decide)
      have k1 : ¬ x2 = 1 := k 1 (by decide)
      have k2 : ¬ x2 = 2 := k 2 (by decide)
      have k3 : ¬ x2 = 3 := k 3 (by decide)
      have k4 : ¬ x2 = 4 := k 4 (by decide)
      have k5 : ¬ x2 = 5 := k 5 (by decide)
      have k6 : ¬ x2 = 6 := k 6 (by decide)
      refine ⟨oc, ?_, rd1 I (e := 2) (k := 2) (x := 2) (by simp) rfl ?_ ?_⟩
      · simp [o_X7_inningsOf_0, o_X7_inningsOf_28, a2, b2', o_isInnings, o_in, of0, f_2]
      · simp [b_X6_inningsOf_0, b_X6_inningsOf_12, a1, set_0, k0, k1, k2, k3, k4, k5, k6]
      · simp [b_X7_inningsOf_0, b_X7_inningsOf_28, b_X7_inningsOf_44, a2, b2', f_2]
  · refine ⟨?_, ?_, rd1 I (e := 1) (k := 1) (x := 1) (by simp) rfl ?_ ?_⟩
    · simp [o_X6_inningsOf_0, a1, set_m1]
    · simp [o_X7_inningsOf_0, o_X7_inningsOf_28, b_X7_inningsOf_44, a2, o_isInnings, f_1, of0]
    · simp [b_X6_inningsOf_0, a1, set_m1]
    · simp [b_X7_inningsOf_0, b_X7_inningsOf_28, b_X7_inningsOf_44, a2, o_isInnings, f_1]
theorem L_balls (I : Inv N C M) (x1 x2 : Int32) : o_X6_balls_0 x1 x2 C ∧ o_X7_balls_0 x1 x2 M ∧ Ok N [(1, 1), (2, 2)] C M (b_X6_balls_0 x1 x2 C) (b_X7_balls_0 x1 x2 M) := by
  obtain ⟨pc, hc, uc, ic, hr, R⟩ := id I.1
  have hb := gb R
  have of0 : ∀ w S, o_X7_fails_0 w S := fun w S => o_fails (M := S) (x := w)
  have R1 := R0 (x := 0) R
  rcases d_inn R x1 with ⟨a1, a2, p, hp, rfl⟩ | ⟨a1, a2⟩
  · have G := gI R hp
    have e := nI_clamp (n := p) (by omega)
    have i5 : vp_in (nI p) 12 := vp_in_nI (by omega) (by decide)
    rcases vd_rng (x := x2) (a := 0) (c := 6) (C := C) (M := M) (by decide) (by decide) with ⟨b1, b2, j, hj, hj6, rfl⟩ | ⟨b1, b2⟩
    · have b1' : b_X6_rangeVerdict_0 (nI j) 0 6 C = 0 := b1
      have b2' : b_X7_in_0 (nI j) 0 6 M = 1 := b2
      have ej := nI_clamp (n := j) (by omega)
      have i7 : vp_in (nI j) 7 := vp_in_nI (by omega) (by decide)
      have a7 : (7 : Int32) + nI j = nI (7 + j) := m_add 7 _ _ rfl
      have c1 : C (15 + 16 + p + 12) j = dR (M 6) (28 + p) j := (vO (p := p) (f := j) (by omega) (by omega)).trans (G.2.2.2.1 j (by omega))
      have qj : o_X7_ofInnings_0 (nI p) (nI (7 + j)) (up2 M 5 8 0) := oO (M := up2 M 5 8 0) (by omega) (by omega)
      have mj : b_X7_ofInnings_0 (nI p) (nI (7 + j)) (up2 M 5 8 0) = dR (M 6) (28 + p) j := mO_of (M' := up2 M 5 8 0) (by rw [up2_ne (by decide)]) (by omega) (by omega)
      refine ⟨?_, ?_, rd0 I (v := dR (M 6) (28 + p) j) ?_ ?_⟩
      · simp [o_X6_balls_0, o_X6_balls_12, o_X6_balls_23, a1, b1', set_0, i5, i7]
      · simp [o_X7_balls_0, o_X7_balls_28, a2, b2', o_isInnings, o_in, of0, f_0, a7, qj]
      · simp [b_X6_balls_0, b_X6_balls_12, b_X6_balls_23, a1, b1', set_0, e, ej, c1]
      · simp [b_X7_balls_0, b_X7_balls_28, b_X7_balls_47, a2, b2', f_0, a7, mj]
    · have b1' : b_X6_rangeVerdict_0 x2 0 6 C = -2 := b1
      have b2' : b_X7_in_0 x2 0 6 M = 0 := b2
      refine ⟨?_, ?_, rd1 I (e := 2) (k := 2) (x := 2) (by simp) rfl ?_ ?_⟩
      · simp [o_X6_balls_0, o_X6_balls_12, a1, b1', set_0, set_m2]
      · simp [o_X7_balls_0, o_X7_balls_28, a2, b2', o_isInnings, o_in, of0, f_2]
      · simp [b_X6_balls_0, b_X6_balls_12, a1, b1', set_0, set_m2]
      · simp [b_X7_balls_0, b_X7_balls_28, b_X7_balls_47, a2, b2', f_2]
  · refine ⟨?_, ?_, rd1 I (e := 1) (k := 1) (x := 1) (by simp) rfl ?_ ?_⟩
    · simp [o_X6_balls_0, a1, set_m1]
    · simp [o_X7_balls_0, o_X7_balls_28, b_X7_balls_47, a2, o_isInnings, f_1, of0]
    · simp [b_X6_balls_0, a1, set_m1]
    · simp [b_X7_balls_0, b_X7_balls_28, b_X7_balls_47, a2, o_isInnings, f_1]
theorem L_runsAgain (I : Inv N C M) (x1 : Int32) : o_X6_runsAgain_0 x1 C ∧ o_X7_runsAgain_0 x1 M ∧ Ok N [(1, 1)] C M (b_X6_runsAgain_0 x1 C) (b_X7_runsAgain_0 x1 M) := by
  obtain ⟨pc, hc, uc, ic, hr, R⟩ := id I.1
  have hb := gb R
  have of0 : ∀ w S, o_X7_fails_0 w S := fun w S => o_fails (M := S) (x := w)
  have R1 := R0 (x := 0) R
  rcases d_inn R x1 with ⟨a1, a2, p, hp, rfl⟩ | ⟨a1, a2⟩
  · have e := nI_clamp (n := p) (by omega)
    have i5 : vp_in (nI p) 12 := vp_in_nI (by omega) (by decide)
    obtain ⟨h1, h2, h3⟩ := q_rby R1 hp
    refine ⟨?_, ?_, rd0 I (v := b_X7_runsBy_0 (nI p) (up2 M 5 8 0)) ?_ ?_⟩
    · simp [o_X6_runsAgain_0, o_X6_runsAgain_12, a1, set_0, i5, e, h1]
    · simp [o_X7_runsAgain_0, o_X7_runsAgain_14, a2, o_isInnings, of0, f_0, h2]
    · simp [b_X6_runsAgain_0, b_X6_runsAgain_12, a1, set_0, e, h3]
    · simp [b_X7_runsAgain_0, b_X7_runsAgain_14, b_X7_runsAgain_29, a2, f_0]
  · refine ⟨?_, ?_, rd1 I (e := 1) (k := 1) (x := 1) (by simp) rfl ?_ ?_⟩
    · simp [o_X6_runsAgain_0, a1, set_m1]
    · simp [o_X7_runsAgain_0, o_X7_runsAgain_14, b_X7_runsAgain_29, a2, o_isInnings, f_1, of0]
    · simp [b_X6_runsAgain_0, a1, set_m1]
    · simp [b_X7_runsAgain_0, b_X7_runsAgain_14, b_X7_runsAgain_29, a2, o_isInnings, f_1]
theorem L_ranked (I : Inv N C M) (x1 : Int32) : o_X6_ranked_0 x1 C ∧ o_X7_ranked_0 x1 M ∧ Ok N [(4, 1)] C M (b_X6_ranked_0 x1 C) (b_X7_ranked_0 x1 M) := by
  obtain ⟨pc, hc, uc, ic, hr, R⟩ := id I.1
  have hb := gb R
  have of0 : ∀ w S, o_X7_fails_0 w S := fun w S => o_fails (M := S) (x := w)
  have R1 := R0 (x := 0) R
  obtain ⟨h1, h2, h3⟩ := s_place R x1 100 0 (by omega) (by omega)
  rw [nI_0] at h1 h2 h3
  refine ⟨⟨h1, trivial⟩, h2, ?_⟩
  rcases h3 with ⟨k1, k2⟩ | ⟨j, hj, k1, k2⟩
  · have k1' : b_X0_inningsAtPlace_0 15 x1 C = -1 := k1
    refine rd1 I (e := 4) (k := 1) (x := 1) (by simp) rfl ?_ k2
    simp [b_X6_ranked_0, k1']
  · have k1' : b_X0_inningsAtPlace_0 15 x1 C = nI j := k1
    have n1 : ¬ nI j = -1 := nI_m1 (by omega)
    refine rd0 I (v := nI j) ?_ k2
    simp [b_X6_ranked_0, k1', n1]
theorem L_refusal (I : Inv N C M) (x1 : Int32) : o_X7_refusal_0 x1 M ∧ Ok N [(4, 1)] C M (b_X6_refusal_0 x1 C) (b_X7_refusal_0 x1 M) := by
  obtain ⟨pc, hc, uc, ic, hr, R⟩ := id I.1
  have hb := gb R
  have of0 : ∀ w S, o_X7_fails_0 w S := fun w S => o_fails (M := S) (x := w)
  have R1 := R0 (x := 0) R
  rcases I.2.2.2.1 with ⟨k1, k2⟩ | ⟨k1, k2, k3, k4⟩
  · refine ⟨?_, rd1 I (e := 4) (k := 1) (x := 1) (by simp) rfl ?_ ?_⟩
    · simp [o_X7_refusal_0, o_X7_refusal_13, k2, of0]
    · simp [b_X6_refusal_0, k1]
    · simp [b_X7_refusal_0, b_X7_refusal_13, b_X7_refusal_38, k2, f_1]
  · have e1 : up2 M 5 8 0 5 10 = M 5 10 := by simp [up2]
    have e2 : up2 M 5 8 0 5 11 = M 5 11 := by simp [up2]
    by_cases h : x1 = 0
    · refine ⟨?_, rd0 I (v := M 5 10) ?_ ?_⟩
      · simp [o_X7_refusal_0, o_X7_refusal_13, k3, of0]
      · simp [b_X6_refusal_0, b_X6_refusal_34, k1, k4, h]
      · simp [b_X7_refusal_0, b_X7_refusal_13, b_X7_refusal_38, k3, f_0, h, e1]
    · refine ⟨?_, rd0 I (v := M 5 11) ?_ ?_⟩
      · simp [o_X7_refusal_0, o_X7_refusal_13, k3, of0]
      · simp [b_X6_refusal_0, b_X6_refusal_34, k1, k2, k4, h]
      · simp [b_X7_refusal_0, b_X7_refusal_13, b_X7_refusal_38, k3, f_0, h, e2]
theorem L_account (I : Inv N C M) (x1 : Int32) : o_X6_account_0 x1 C ∧ o_X7_account_0 x1 M ∧ Ok N [(2, 1)] C M (b_X6_account_0 x1 C) (b_X7_account_0 x1 M) := by
  obtain ⟨pc, hc, uc, ic, hr, R⟩ := id I.1
  have hb := gb R
  have of0 : ∀ w S, o_X7_fails_0 w S := fun w S => o_fails (M := S) (x := w)
  have R1 := R0 (x := 0) R
  obtain ⟨nx, cnt, p1, p2, p3, p4, p5, p6⟩ := id I.2.2.1
  obtain ⟨L, t1, t2, t3, t4⟩ := id I.2.2.2.2.1
  have t_cov := q_s_cov R1
  have t_rgh := q_s_rgh R1
  have t_boo := q_s_boo R1
  have t_ovr := q_s_ovr R1
  have t_bal := q_s_bal R1
  have t_run := q_s_run R1
  have t_wik := q_s_wik R1
  have t_hrs := q_s_hrs R1
  have t_wet := q_s_wet R1
  have u6 : up2 M 5 8 0 6 = M 6 := up2_ne (by decide)
  have g1 := (g00 R).1.trans (g00 R).2.symm
  have g2 := g01 R
  have g3 := (g04 R).1.trans (g04 R).2.symm
  have g4 := (g06 R).1.trans (g06 R).2.symm
  have g5 := (g08 R).1.trans (g08 R).2.symm
  have g6 := (g010 R).1.trans (g010 R).2.symm
  have g7 : up2 M 5 8 0 5 13 = C 3 1 := by rw [t2, ← t3]; simp [up2]
  have g8 : up2 M 5 8 0 5 6 = C 1 2 := by rw [p4, ← p5]; simp [up2]
  have oc : o_X6_account_0 x1 C := by
    simp [o_X6_account_0, t_cov.1, t_rgh.1, t_boo.1, t_ovr.1, t_bal.1, t_run.1, t_wik.1, t_hrs.1, t_wet.1]
  have om : o_X7_account_0 x1 M := by
    simp [o_X7_account_0, o_X7_account_16, o_in, of0, f_0, f_1, t_cov.2.1, t_rgh.2.1, t_boo.2.1, t_ovr.2.1, t_bal.2.1, t_run.2.1, t_wik.2.1, t_hrs.2.1, t_wet.2.1]
  refine ⟨oc, om, ?_⟩
  rcases vd_rng (x := x1) (a := 0) (c := 16) (C := C) (M := M) (by decide) (by decide) with ⟨-, b2, j, hj, hj6, rfl⟩ | ⟨-, b2⟩
  · have b2' : b_X7_in_0 (nI j) 0 16 M = 1 := b2
    have hj7 : j = 0 ∨ j = 1 ∨ j = 2 ∨ j = 3 ∨ j = 4 ∨ j = 5 ∨ j = 6 ∨ j = 7 ∨ j = 8 ∨ j = 9 ∨ j = 10 ∨ j = 11 ∨ j = 12 ∨ j = 13 ∨ j = 14 ∨ j = 15 ∨ j = 16 := by omega
    rcases hj7 with rfl | rfl | rfl | rfl | rfl | rfl | rfl | rfl | rfl | rfl | rfl | rfl | rfl | rfl | rfl | rfl | rfl
    · refine rd0 I (v := C 15 0) ?_ ?_
      · have e : b_X6_account_0 0 C = (0, C 15 0, C) := by simp [b_X6_account_0]
        exact e
      · have e : b_X7_account_0 0 M = (C 15 0, up2 M 5 8 0) := by
          have b3 : b_X7_in_0 0 0 16 M = 1 := b2'
          simp only [b_X7_account_0, b_X7_account_16, b3, f_0, z10, u6, ← g1]
          simp
        exact e
    · refine rd0 I (v := C 15 1) ?_ ?_
      · have e : b_X6_account_0 1 C = (0, C 15 1, C) := by simp [b_X6_account_0]
        exact e
      · have e : b_X7_account_0 1 M = (C 15 1, up2 M 5 8 0) := by
          have b3 : b_X7_in_0 1 0 16 M = 1 := b2'
          simp only [b_X7_account_0, b_X7_account_16, b3, f_0, z10, u6, ← g2]
          simp
        exact e
    · refine rd0 I (v := C 15 4) ?_ ?_
      · have e : b_X6_account_0 2 C = (0, C 15 4, C) := by simp [b_X6_account_0]
        exact e
      · have e : b_X7_account_0 2 M = (C 15 4, up2 M 5 8 0) := by
          have b3 : b_X7_in_0 2 0 16 M = 1 := b2'
          simp only [b_X7_account_0, b_X7_account_16, b3, f_0, z10, u6, ← g3]
          simp
        exact e
    · refine rd0 I (v := b_X0_coveredPitches_0 15 C) ?_ ?_
      · have e : b_X6_account_0 3 C = (0, b_X0_coveredPitches_0 15 C, C) := by simp [b_X6_account_0]
        exact e
      · have e : b_X7_account_0 3 M = (b_X0_coveredPitches_0 15 C, up2 M 5 8 0) := by
          have b3 : b_X7_in_0 3 0 16 M = 1 := b2'
          simp only [b_X7_account_0, b_X7_account_16, b3, f_0, z10, ← t_cov.2.2]
          simp
        exact e
    · refine rd0 I (v := C 15 6) ?_ ?_
      · have e : b_X6_account_0 4 C = (0, C 15 6, C) := by simp [b_X6_account_0]
        exact e
      · have e : b_X7_account_0 4 M = (C 15 6, up2 M 5 8 0) := by
          have b3 : b_X7_in_0 4 0 16 M = 1 := b2'
          simp only [b_X7_account_0, b_X7_account_16, b3, f_0, z10, u6, ← g4]
          simp
        exact e
    · refine rd0 I (v := b_X0_rollingHorses_0 15 C) ?_ ?_
      · have e : b_X6_account_0 5 C = (0, b_X0_rollingHorses_0 15 C, C) := by simp [b_X6_account_0]
        exact e
      · have e : b_X7_account_0 5 M = (b_X0_rollingHorses_0 15 C, up2 M 5 8 0) := by
          have b3 : b_X7_in_0 5 0 16 M = 1 := b2'
          simp only [b_X7_account_0, b_X7_account_16, b3, f_0, z10, ← t_rgh.2.2]
          simp
        exact e
    · refine rd0 I (v := b_X0_bootedHorses_0 15 C) ?_ ?_
      · have e : b_X6_account_0 6 C = (0, b_X0_bootedHorses_0 15 C, C) := by simp [b_X6_account_0]
        exact e
      · have e : b_X7_account_0 6 M = (b_X0_bootedHorses_0 15 C, up2 M 5 8 0) := by
          have b3 : b_X7_in_0 6 0 16 M = 1 := b2'
          simp only [b_X7_account_0, b_X7_account_16, b3, f_0, z10, ← t_boo.2.2]
          simp
        exact e
    · refine rd0 I (v := C 15 8) ?_ ?_
      · have e : b_X6_account_0 7 C = (0, C 15 8, C) := by simp [b_X6_account_0]
        exact e
      · have e : b_X7_account_0 7 M = (C 15 8, up2 M 5 8 0) := by
          have b3 : b_X7_in_0 7 0 16 M = 1 := b2'
          simp only [b_X7_account_0, b_X7_account_16, b3, f_0, z10, u6, ← g5]
          simp
        exact e
    · refine rd0 I (v := C 15 10) ?_ ?_
      · have e : b_X6_account_0 8 C = (0, C 15 10, C) := by simp [b_X6_account_0]
        exact e
      · have e : b_X7_account_0 8 M = (C 15 10, up2 M 5 8 0) := by
          have b3 : b_X7_in_0 8 0 16 M = 1 := b2'
          simp only [b_X7_account_0, b_X7_account_16, b3, f_0, z10, u6, ← g6]
          simp
        exact e
    · refine rd0 I (v := b_X0_inningsOver_0 15 C) ?_ ?_
      · have e : b_X6_account_0 9 C = (0, b_X0_inningsOver_0 15 C, C) := by simp [b_X6_account_0]
        exact e
      · have e : b_X7_account_0 9 M = (b_X0_inningsOver_0 15 C, up2 M 5 8 0) := by
          have b3 : b_X7_in_0 9 0 16 M = 1 := b2'
          simp only [b_X7_account_0, b_X7_account_16, b3, f_0, z10, ← t_ovr.2.2]
          simp
        exact e
    · refine rd0 I (v := b_X0_ballsInInnings_0 15 C) ?_ ?_
      · have e : b_X6_account_0 10 C = (0, b_X0_ballsInInnings_0 15 C, C) := by simp [b_X6_account_0]
        exact e
      · have e : b_X7_account_0 10 M = (b_X0_ballsInInnings_0 15 C, up2 M 5 8 0) := by
          have b3 : b_X7_in_0 10 0 16 M = 1 := b2'
          simp only [b_X7_account_0, b_X7_account_16, b3, f_0, z10, ← t_bal.2.2]
          simp
        exact e
    · refine rd0 I (v := b_X0_runsInInnings_0 15 C) ?_ ?_
      · have e : b_X6_account_0 11 C = (0, b_X0_runsInInnings_0 15 C, C) := by simp [b_X6_account_0]
        exact e
      · have e : b_X7_account_0 11 M = (b_X0_runsInInnings_0 15 C, up2 M 5 8 0) := by
          have b3 : b_X7_in_0 11 0 16 M = 1 := b2'
          simp only [b_X7_account_0, b_X7_account_16, b3, f_0, z10, ← t_run.2.2]
          simp
        exact e
    · refine rd0 I (v := b_X0_wicketsInInnings_0 15 C) ?_ ?_
      · have e : b_X6_account_0 12 C = (0, b_X0_wicketsInInnings_0 15 C, C) := by simp [b_X6_account_0]
        exact e
      · have e : b_X7_account_0 12 M = (b_X0_wicketsInInnings_0 15 C, up2 M 5 8 0) := by
          have b3 : b_X7_in_0 12 0 16 M = 1 := b2'
          simp only [b_X7_account_0, b_X7_account_16, b3, f_0, z10, ← t_wik.2.2]
          simp
        exact e
    · refine rd0 I (v := b_X0_hoursOfHorses_0 15 C) ?_ ?_
      · have e : b_X6_account_0 13 C = (0, b_X0_hoursOfHorses_0 15 C, C) := by simp [b_X6_account_0]
        exact e
      · have e : b_X7_account_0 13 M = (b_X0_hoursOfHorses_0 15 C, up2 M 5 8 0) := by
          have b3 : b_X7_in_0 13 0 16 M = 1 := b2'
          simp only [b_X7_account_0, b_X7_account_16, b3, f_0, z10, ← t_hrs.2.2]
          simp
        exact e
    · refine rd0 I (v := b_X0_wetnessOfPitches_0 15 C) ?_ ?_
      · have e : b_X6_account_0 14 C = (0, b_X0_wetnessOfPitches_0 15 C, C) := by simp [b_X6_account_0]
        exact e
      · have e : b_X7_account_0 14 M = (b_X0_wetnessOfPitches_0 15 C, up2 M 5 8 0) := by
          have b3 : b_X7_in_0 14 0 16 M = 1 := b2'
          simp only [b_X7_account_0, b_X7_account_16, b3, f_0, z10, ← t_wet.2.2]
          simp
        exact e
    · refine rd0 I (v := C 3 1) ?_ ?_
      · have e : b_X6_account_0 15 C = (0, C 3 1, C) := by simp [b_X6_account_0]
        exact e
      · have e : b_X7_account_0 15 M = (C 3 1, up2 M 5 8 0) := by
          have b3 : b_X7_in_0 15 0 16 M = 1 := b2'
          simp only [b_X7_account_0, b_X7_account_16, b3, f_0, z10, g7]
          simp
        exact e
    · refine rd0 I (v := C 1 2) ?_ ?_
      · have e : b_X6_account_0 16 C = (0, C 1 2, C) := by simp [b_X6_account_0]
        exact e
      · have e : b_X7_account_0 16 M = (C 1 2, up2 M 5 8 0) := by
          have b3 : b_X7_in_0 16 0 16 M = 1 := b2'
          simp only [b_X7_account_0, b_X7_account_16, b3, f_0, z10, g8]
          simp
        exact e
  · have b2' : b_X7_in_0 x1 0 16 M = 0 := b2
    have k : ∀ j, j ≤ 16 → ¬ x1 = nI j := fun j hj => in_no b2 (Nat.zero_le j) hj (by decide)
    have k0 : ¬ x1 = 0 := k 0 (by decide)
    have k1 : ¬ x1 = 1 := k 1 (by decide)
    have k2 : ¬ x1 = 2 := k 2 (by decide)
    have k3 : ¬ x1 = 3 := k 3 (by decide)
    have k4 : ¬ x1 = 4 := k 4 (by decide)
    have k5 : ¬ x1 = 5 := k 5 (by decide)
    have k6 : ¬ x1 = 6 := k 6 (by decide)
    have k7 : ¬ x1 = 7 := k 7 (by decide)
    have k8 : ¬ x1 = 8 := k 8 (by decide)
    have k9 : ¬ x1 = 9 := k 9 (by decide)
    have k10 : ¬ x1 = 10 := k 10 (by decide)
    have k11 : ¬ x1 = 11 := k 11 (by decide)
    have k12 : ¬ x1 = 12 := k 12 (by decide)
    have k13 : ¬ x1 = 13 := k 13 (by decide)
    have k14 : ¬ x1 = 14 := k 14 (by decide)
    have k15 : ¬ x1 = 15 := k 15 (by decide)
    have k16 : ¬ x1 = 16 := k 16 (by decide)
    refine rd1 I (e := 2) (k := 1) (x := 1) (by simp) rfl ?_ ?_
    · simp only [b_X6_account_0, k0, k1, k2, k3, k4, k5, k6, k7, k8, k9, k10, k11, k12, k13, k14, k15, k16, if_false]
    · simp [b_X7_account_0, b_X7_account_16, b2', f_1]
end

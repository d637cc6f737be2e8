/-! CALLS THAT ONLY READ -/
section
variable {C M : Sx} {N : Nat}
theorem z10 : ¬ (1 : Int32) = 0 := by decide
theorem z20 : ¬ (2 : Int32) = 0 := by decide
theorem n10 : ¬ (1 : Nat) = 0 := by decide
theorem n20 : ¬ (2 : Nat) = 0 := by decide
theorem R0 {pc hc uc ic hr b : Nat} {x : Int32} (R : Rg (vw C b) (dR (M 6)) N pc hc uc ic hr) : Rg (vw C b) (dR ((up2 M 5 8 x) 6)) N pc hc uc ic hr := by
  rw [up2_ne (by decide)]
  exact R
theorem rd0 {codes : List (Nat × Nat)} {c : Nat × Int32 × Sx} {m : Int32 × Sx} {v : Int32} (I : Inv N C M) (h1 : c = (0, v, C)) (h2 : m = (v, up2 M 5 8 0)) : Ok N codes C M c m := by
  rw [h1, h2]
  exact rd I rfl rfl (Or.inl ⟨rfl, rfl, rfl⟩)
theorem rd1 {codes : List (Nat × Nat)} {c : Nat × Int32 × Sx} {m : Int32 × Sx} {e k : Nat} {x : Int32} (I : Inv N C M) (h : (e, k) ∈ codes) (hx : x = nI k) (h1 : c = (e, 0, C)) (h2 : m = (0, up2 M 5 8 x)) : Ok N codes C M c m := by
  rw [h1, h2]
  exact rd I rfl rfl (Or.inr ⟨e, k, h, rfl, hx⟩)
theorem in_no {x : Int32} {a c k : Nat} (h : b_X7_in_0 x (nI a) (nI c) M = 0) (h1 : a ≤ k) (h2 : k ≤ c) (hc : c < 2 ^ 30) : ¬ x = nI k := by
  intro e
  subst e
  unfold b_X7_in_0 b_X7_in_15 at h
  rw [if_neg (nI_nlt h1 (by omega)), if_neg (nI_nlt h2 (by omega))] at h
  exact absurd h (by decide)
theorem L_weather (I : Inv N C M) (x1 x2 : Int32) : o_X6_weather_0 x1 x2 C ∧ o_X7_weather_0 x1 x2 M ∧ Ok N [(1, 1)] C M (b_X6_weather_0 x1 x2 C) (b_X7_weather_0 x1 x2 M) := by
  obtain ⟨pc, hc, uc, ic, hr, R⟩ := id I.1
  have of0 : ∀ w S, o_X7_fails_0 w S := fun w S => o_fails (M := S) (x := w)
  rcases vd_hour (x := x1) (C := C) (M := M) with ⟨a1, a2, j, hj, rfl⟩ | ⟨a1, a2⟩
  · obtain ⟨r, l, -, -, q1, q2, m1, m2, i1, i2, i3⟩ := w_at R hj
    have m1 : up2 M 5 8 0 6 ((2 : Int32) + nI j).toNatClampNeg = nI r := by rw [up2_ne (by decide)]; exact m1
    have m2 : up2 M 5 8 0 6 ((26 : Int32) + nI j).toNatClampNeg = nI l := by rw [up2_ne (by decide)]; exact m2
    by_cases h : x2 = 0
    · refine ⟨?_, ?_, rd0 I (v := nI r) ?_ ?_⟩
      · simp [o_X6_weather_0, o_X6_weather_8, a1, set_0, i3]
      · simp [o_X7_weather_0, o_X7_weather_13, o_X7_weather_37, a2, o_isHour, of0, f_0, h, i1, i2]
      · simp only [b_X6_weather_0, b_X6_weather_8, b_X6_weather_33, a1, set_0, h, q1]
        simp
      · simp only [b_X7_weather_0, b_X7_weather_13, b_X7_weather_37, b_X7_weather_40, a2, f_0, h, z10, m1]
        simp
    · refine ⟨?_, ?_, rd0 I (v := nI l) ?_ ?_⟩
      · simp [o_X6_weather_0, o_X6_weather_8, a1, set_0, i3]
      · simp [o_X7_weather_0, o_X7_weather_13, o_X7_weather_37, a2, o_isHour, of0, f_0, h, i1, i2]
      · simp only [b_X6_weather_0, b_X6_weather_8, b_X6_weather_33, a1, set_0, h, q2]
        simp
      · simp only [b_X7_weather_0, b_X7_weather_13, b_X7_weather_37, b_X7_weather_40, a2, f_0, h, z10, m2]
        simp
  · refine ⟨?_, ?_, rd1 I (e := 1) (k := 1) (x := 1) (by simp) rfl ?_ ?_⟩
    · simp [o_X6_weather_0, a1, set_m1]
    · simp [o_X7_weather_0, o_X7_weather_13, a2, o_isHour, of0, f_1]
    · simp [b_X6_weather_0, a1, set_m1]
    · simp [b_X7_weather_0, b_X7_weather_13, b_X7_weather_40, a2, f_1]
theorem L_pitchOf (I : Inv N C M) (x1 x2 : Int32) : o_X6_pitchOf_0 x1 x2 C ∧ o_X7_pitchOf_0 x1 x2 M ∧ Ok N [(1, 1), (2, 2)] C M (b_X6_pitchOf_0 x1 x2 C) (b_X7_pitchOf_0 x1 x2 M) := by
  obtain ⟨pc, hc, uc, ic, hr, R⟩ := id I.1
  have hb := gb R
  have of0 : ∀ w S, o_X7_fails_0 w S := fun w S => o_fails (M := S) (x := w)
  rcases d_pit R x1 with ⟨a1, a2, p, hp, rfl⟩ | ⟨a1, a2⟩
  · have G := gP R hp
    have e := nI_clamp (n := p) (by omega)
    have i4 : vp_in (nI p) 4 := vp_in_nI (by omega) (by decide)
    obtain ⟨r1, r2, r3, r4⟩ := q_rol (R0 (x := 0) R) (nI p)
    obtain ⟨s1, s2, s3, s4⟩ := q_opn (R0 (x := 0) R) (nI p)
    have c0 : C (15 + 7 + p) 0 = dR (M 6) (7 + p) 0 := (vP (p := p) (f := 0) (by omega) (by decide) (by decide)).trans G.1.1
    have c1 : C (15 + 7 + p) 1 = dR (M 6) (7 + p) 1 := (vP (p := p) (f := 1) (by omega) (by decide) (by decide)).trans G.1.2.1
    have c2 : C (15 + 7 + p) 2 = dR (M 6) (7 + p) 2 := (vP (p := p) (f := 2) (by omega) (by decide) (by decide)).trans G.1.2.2.1
    have c4 : C (15 + 7 + p) 4 = dR (M 6) (7 + p) 4 := (vP (p := p) (f := 4) (by omega) (by decide) (by decide)).trans G.1.2.2.2.2
    have c3 : nb (C (15 + 7 + p) 3) = dR (M 6) (7 + p) 3 := (vP3 (by omega)).trans G.1.2.2.2.1
    have mm : ∀ f, f < 5 → b_X7_of_0 (nI p) (nI f) (up2 M 5 8 0) = dR (M 6) (7 + p) f := fun f hf => mP_of (M' := up2 M 5 8 0) (by rw [up2_ne (by decide)]) (nI f) rfl (by omega) hf
    have qq : ∀ f, f < 5 → o_X7_of_0 (nI p) (nI f) (up2 M 5 8 0) := fun f hf => oP (M := up2 M 5 8 0) (by omega) hf
    have oc : o_X6_pitchOf_0 (nI p) x2 C := by
      simp [o_X6_pitchOf_0, o_X6_pitchOf_12, a1, set_0, i4, r1, s1]
    rcases vd_rng (x := x2) (a := 0) (c := 6) (C := C) (M := M) (by decide) (by decide) with ⟨-, b2, j, hj, hj6, rfl⟩ | ⟨-, b2⟩
    · have b2' : b_X7_in_0 (nI j) 0 6 M = 1 := b2
      have hj7 : j = 0 ∨ j = 1 ∨ j = 2 ∨ j = 3 ∨ j = 4 ∨ j = 5 ∨ j = 6 := by omega
      have om : o_X7_pitchOf_0 (nI p) (nI j) M := by
        have hq : nI j = 0 ∨ nI j = 1 ∨ nI j = 2 ∨ nI j = 3 ∨ nI j = 4 ∨ nI j = 5 ∨ nI j = 6 := by
          rcases hj7 with rfl | rfl | rfl | rfl | rfl | rfl | rfl <;> simp [nI]
        have w0 := qq 0 (by decide)
        have w1 := qq 1 (by decide)
        have w2 := qq 2 (by decide)
        have w3 := qq 3 (by decide)
        have w4 : o_X7_of_0 (nI p) 4 (up2 M 5 8 0) := qq 4 (by decide)
        simp only [o_X7_pitchOf_0, o_X7_pitchOf_28, a2, b2', o_isPitch, o_in, of0, f_0, z10, r2, s2, w4]
        simp
        intro h4
        have hj4 : j = 0 ∨ j = 1 ∨ j = 2 ∨ j = 3 := by
          rcases hj7 with rfl | rfl | rfl | rfl | rfl | rfl | rfl
          · simp
          · simp
          · simp
          · simp
          · exact absurd h4 (by decide)
          · exact absurd h4 (by decide)
          · exact absurd h4 (by decide)
        rcases hj4 with rfl | rfl | rfl | rfl
        · exact w0
        · exact w1
        · exact w2
        · exact w3
      refine ⟨oc, om, ?_⟩
      have z01 : ¬ (0 : Int32) = 1 := by decide
      rcases hj7 with rfl | rfl | rfl | rfl | rfl | rfl | rfl
      · refine rd0 I (v := dR (M 6) (7 + p) 0) ?_ ?_
        · simp only [b_X6_pitchOf_0, b_X6_pitchOf_12, a1, set_0, e, c0]
          simp [nI]
        · simp only [b_X7_pitchOf_0, b_X7_pitchOf_28, b_X7_pitchOf_82, a2, b2', f_0, z10, mm 0 (by decide)]
          simp [nI]
      · refine rd0 I (v := dR (M 6) (7 + p) 1) ?_ ?_
        · simp only [b_X6_pitchOf_0, b_X6_pitchOf_12, a1, set_0, e, c1]
          simp [nI]
        · simp only [b_X7_pitchOf_0, b_X7_pitchOf_28, b_X7_pitchOf_82, a2, b2', f_0, z10, mm 1 (by decide)]
          simp [nI]
      · refine rd0 I (v := dR (M 6) (7 + p) 2) ?_ ?_
        · simp only [b_X6_pitchOf_0, b_X6_pitchOf_12, a1, set_0, e, c2]
          simp [nI]
        · simp only [b_X7_pitchOf_0, b_X7_pitchOf_28, b_X7_pitchOf_82, a2, b2', f_0, z10, mm 2 (by decide)]
          simp [nI]
      · refine rd0 I (v := dR (M 6) (7 + p) 3) ?_ ?_
        · simp only [b_X6_pitchOf_0, b_X6_pitchOf_12, b_X6_pitchOf_91, a1, set_0, e, c3]
          rcases G.2.2.2.2 with z | z
          · rw [z]; simp [nI]
          · rw [z]; simp [nI]
        · simp only [b_X7_pitchOf_0, b_X7_pitchOf_28, b_X7_pitchOf_82, a2, b2', f_0, z10, mm 3 (by decide)]
          simp [nI]
      · refine rd0 I (v := b_X7_rollerOf_0 (nI p) (up2 M 5 8 0)) ?_ ?_
        · simp only [b_X6_pitchOf_0, b_X6_pitchOf_12, a1, set_0, r3]
          simp [nI]
        · simp only [b_X7_pitchOf_0, b_X7_pitchOf_28, b_X7_pitchOf_82, a2, b2', f_0, z10]
          simp [nI]
      · refine rd0 I (v := b_X7_openOn_0 (nI p) (up2 M 5 8 0)) ?_ ?_
        · simp only [b_X6_pitchOf_0, b_X6_pitchOf_12, a1, set_0, s3]
          simp [nI]
        · simp only [b_X7_pitchOf_0, b_X7_pitchOf_28, b_X7_pitchOf_82, a2, b2', f_0, z10]
          simp [nI]
      · have m4 : b_X7_of_0 (nI p) 4 (up2 M 5 8 0) = dR (M 6) (7 + p) 4 := mm 4 (by decide)
        refine rd0 I (v := dR (M 6) (7 + p) 4) ?_ ?_
        · simp only [b_X6_pitchOf_0, b_X6_pitchOf_12, a1, set_0, e, c4]
          simp [nI]
        · simp only [b_X7_pitchOf_0, b_X7_pitchOf_28, b_X7_pitchOf_82, a2, b2', f_0, z10, m4]
          simp [nI]
    · have b2' : b_X7_in_0 x2 0 6 M = 0 := b2
      have k : ∀ j, j ≤ 6 → ¬ x2 = nI j := fun j hj => in_no b2 (Nat.zero_le j) hj (by decide)
      have k0 : ¬ x2 = 0 := k 0 (by decide)
      have k1 : ¬ x2 = 1 := k 1 (by decide)
      have k2 : ¬ x2 = 2 := k 2 (by decide)
      have k3 : ¬ x2 = 3 := k 3 (by decide)
      have k4 : ¬ x2 = 4 := k 4 (by decide)
      have k5 : ¬ x2 = 5 := k 5 (by decide)
      have k6 : ¬ x2 = 6 := k 6 (by decide)
      refine ⟨oc, ?_, rd1 I (e := 2) (k := 2) (x := 2) (by simp) rfl ?_ ?_⟩
      · simp [o_X7_pitchOf_0, o_X7_pitchOf_28, a2, b2', o_isPitch, o_in, of0, f_2]
      · simp [b_X6_pitchOf_0, b_X6_pitchOf_12, a1, set_0, k0, k1, k2, k3, k4, k5, k6]
      · simp [b_X7_pitchOf_0, b_X7_pitchOf_28, a2, b2', f_2]
  · refine ⟨?_, ?_, rd1 I (e := 1) (k := 1) (x := 1) (by simp) rfl ?_ ?_⟩
    · simp [o_X6_pitchOf_0, a1, set_m1]
    · simp [o_X7_pitchOf_0, o_X7_pitchOf_28, a2, o_isPitch, of0, f_1]
    · simp [b_X6_pitchOf_0, a1, set_m1]
    · simp [b_X7_pitchOf_0, b_X7_pitchOf_28, a2, f_1]
end

/-! QUERIES: class over a ground, reference over the row, lock-step -/
section
variable {C M : Sx} {b N pc hc uc ic hr : Nat}
theorem oH {p f : Nat} (hp : p < 5) (hf : f < 6) : o_X7_ofHorse_0 (nI p) (nI f) M := by
  refine ⟨?_, trivial⟩
  have h := ix6 hp hf
  have e : (((72 : Int32) + 6 * nI p) + nI f) = nI (pos (11 + p) f) := by
    rw [pos_H hp, show (72 : Int32) = nI 72 from rfl, show (6 : Int32) = nI 6 from rfl, nI_mul, nI_add, nI_add]
  rw [e]
  exact vp_in_nI (pos_lt (rel_H hp hf)) (by decide)
theorem oP {p f : Nat} (hp : p < 4) (hf : f < 5) : o_X7_of_0 (nI p) (nI f) M := by
  refine ⟨?_, trivial⟩
  have e : (((51 : Int32) + 5 * nI p) + nI f) = nI (pos (7 + p) f) := by
    rw [pos_P hp, show (51 : Int32) = nI 51 from rfl, show (5 : Int32) = nI 5 from rfl, nI_mul, nI_add, nI_add]
  rw [e]
  exact vp_in_nI (pos_lt (rel_P hp hf)) (by decide)
theorem oI {p f : Nat} (hp : p < 12) (hf : f < 7) : o_X7_ofInnings_0 (nI p) (nI f) M := by
  refine ⟨?_, trivial⟩
  have e : (((107 : Int32) + 14 * nI p) + nI f) = nI (pos (16 + p) f) := by
    rw [pos_I hp, show (107 : Int32) = nI 107 from rfl, show (14 : Int32) = nI 14 from rfl, nI_mul, nI_add, nI_add]
  rw [e]
  exact vp_in_nI (pos_lt (rel_I hp hf)) (by decide)
theorem oO {p f : Nat} (hp : p < 12) (hf : f < 7) : o_X7_ofInnings_0 (nI p) (nI (7 + f)) M := by
  refine ⟨?_, trivial⟩
  have e : (((107 : Int32) + 14 * nI p) + nI (7 + f)) = nI (pos (28 + p) f) := by
    rw [pos_O hp, show (107 : Int32) = nI 107 from rfl, show (14 : Int32) = nI 14 from rfl, nI_mul, nI_add, nI_add, show 107 + 14 * p + (7 + f) = 114 + 14 * p + f by omega]
  rw [e]
  exact vp_in_nI (pos_lt (rel_O hp hf)) (by decide)
theorem g04 (R : Rg (vw C b) (dR (M 6)) N pc hc uc ic hr) : C b 4 = nI pc ∧ M 6 ((50 : Int32).toNatClampNeg) = nI pc := R.1.2.2.2.1
theorem g06 (R : Rg (vw C b) (dR (M 6)) N pc hc uc ic hr) : C b 6 = nI hc ∧ M 6 ((71 : Int32).toNatClampNeg) = nI hc := R.1.2.2.2.2.1
theorem g08 (R : Rg (vw C b) (dR (M 6)) N pc hc uc ic hr) : C b 8 = nI uc ∧ M 6 ((102 : Int32).toNatClampNeg) = nI uc := R.1.2.2.2.2.2.1
theorem g010 (R : Rg (vw C b) (dR (M 6)) N pc hc uc ic hr) : C b 10 = nI ic ∧ M 6 ((106 : Int32).toNatClampNeg) = nI ic := R.1.2.2.2.2.2.2
theorem g00 (R : Rg (vw C b) (dR (M 6)) N pc hc uc ic hr) : C b 0 = nI hr ∧ M 6 ((0 : Int32).toNatClampNeg) = nI hr := R.1.2.1
theorem g01 (R : Rg (vw C b) (dR (M 6)) N pc hc uc ic hr) : C b 1 = M 6 ((1 : Int32).toNatClampNeg) := R.1.2.2.1
theorem gb (R : Rg (vw C b) (dR (M 6)) N pc hc uc ic hr) : pc ≤ 4 ∧ hc ≤ 5 ∧ uc ≤ 3 ∧ ic ≤ 12 ∧ hr ≤ N := R.1.1
theorem gP (R : Rg (vw C b) (dR (M 6)) N pc hc uc ic hr) {p : Nat} (hp : p < pc) : RPl (vw C b (7 + p)) (dR (M 6) (7 + p)) := (R.2.2.2.1 p (by have := (gb R).1; omega)).1 hp
theorem gH (R : Rg (vw C b) (dR (M 6)) N pc hc uc ic hr) {h : Nat} (hp : h < hc) : RHl pc (vw C b (11 + h)) (dR (M 6) (11 + h)) := (R.2.2.2.2.1 h (by have := (gb R).2.1; omega)).1 hp
theorem gI (R : Rg (vw C b) (dR (M 6)) N pc hc uc ic hr) {k : Nat} (hp : k < ic) : RIl pc uc (vw C b (16 + k)) (dR (M 6) (16 + k)) (vw C b (28 + k)) (dR (M 6) (28 + k)) := (R.2.2.2.2.2.1 k (by have := (gb R).2.2.2.1; omega)).1 hp
theorem s_over {k : Nat} (hk : k < 12) : b_X2_isOver_0 (b + 16 + k) C = over (vw C b (16 + k)) ∧ o_X2_isOver_0 (b + 16 + k) C := by
  unfold b_X2_isOver_0 o_X2_isOver_0 b_X2_isOver_27 b_X2_isOver_32 o_X2_isOver_27 o_X2_isOver_32 over
  rw [vI6 (C := C) (b := b) hk, vI (C := C) (b := b) hk (f := 2) (by decide) (by decide), vI (C := C) (b := b) hk (f := 3) (by decide) (by decide), vI (C := C) (b := b) hk (f := 5) (by decide) (by decide)]
  refine ⟨rfl, ?_⟩
  simp [bz]
theorem over_01 (v : Nat → Int32) : over v = 0 ∨ over v = 1 := by
  unfold over
  repeat' split
  all_goals simp
theorem s_rol (R : Rg (vw C b) (dR (M 6)) N pc hc uc ic hr) (x : Int32) : ∀ n i, i ≤ hc → hc < n + i → o_X0_rollerOf_2 n b x (nI i) C ∧ o_X7_rollerOf_2 n x (nI i) M ∧ b_X0_rollerOf_2 n b x (nI i) C = b_X7_rollerOf_2 n x (nI i) M ∧ (b_X7_rollerOf_2 n x (nI i) M = -1 ∨ ∃ j, j < hc ∧ b_X7_rollerOf_2 n x (nI i) M = nI j) := by
  have hb := (gb R).2.1
  intro n
  induction n with
  | zero => intro i h1 h2; omega
  | succ n ih =>
    intro i h1 h2
    have e1 := (g06 R).1
    have e2 := (g06 R).2
    by_cases hi : i < hc
    · have hle : ¬ nI hc ≤ nI i := nI_ge hi (by omega)
      have hin : vp_in (nI i) 5 := vp_in_nI (by omega) (by decide)
      have ecl := nI_clamp (n := i) (by omega)
      have G := gH R hi
      have a3 : C (b + 11 + i) 3 = dR (M 6) (11 + i) 3 := (vH (p := i) (f := 3) (by omega) (by decide) (by decide)).trans G.1.2.2.2.1
      have m3 : b_X7_ofHorse_0 (nI i) 3 M = dR (M 6) (11 + i) 3 := ofH (f := 3) (by omega) (by decide)
      have m4 : b_X7_ofHorse_0 (nI i) 4 M = dR (M 6) (11 + i) 4 := ofH (f := 4) (by omega) (by decide)
      have q3 : o_X7_ofHorse_0 (nI i) 3 M := oH (f := 3) (by omega) (by decide)
      have q4 : o_X7_ofHorse_0 (nI i) 4 M := oH (f := 4) (by omega) (by decide)
      have ih := ih (i + 1) (by omega) (by omega)
      rw [nI_succ] at ih
      simp only [o_X0_rollerOf_2, o_X7_rollerOf_2, b_X0_rollerOf_2, b_X7_rollerOf_2, o_X0_rollerOf_37, o_X7_rollerOf_34, b_X0_rollerOf_37, b_X7_rollerOf_34, e1, e2, hle, hin, ecl, a3, m3, m4, q3, q4]
      by_cases h0 : dR (M 6) (11 + i) 3 ≤ 0
      · simpa [h0] using ih
      · have h3 : ¬ dR (M 6) (11 + i) 3 = 0 := fun e => h0 (by rw [e]; decide)
        have a4 : C (b + 11 + i) 4 = dR (M 6) (11 + i) 4 := by
          refine (vH (p := i) (f := 4) (by omega) (by decide) (by decide)).trans ?_
          rcases G.2.2.2.2.2 with h | h
          · exact absurd h.1 h3
          · exact h.2.1
        simp only [a4]
        by_cases h4 : dR (M 6) (11 + i) 4 = x
        · simp [h0, h4]
          exact Or.inr ⟨i, hi, rfl⟩
        · simpa [h0, h4] using ih
    · have hie : i = hc := by omega
      subst hie
      simp only [o_X0_rollerOf_2, o_X7_rollerOf_2, b_X0_rollerOf_2, b_X7_rollerOf_2, e1, e2]
      simp
theorem q_rol (R : Rg (vw C b) (dR (M 6)) N pc hc uc ic hr) (x : Int32) : o_X0_rollerOf_0 b x C ∧ o_X7_rollerOf_0 x M ∧ b_X0_rollerOf_0 b x C = b_X7_rollerOf_0 x M ∧ (b_X7_rollerOf_0 x M = -1 ∨ ∃ j, j < hc ∧ b_X7_rollerOf_0 x M = nI j) := s_rol R x 100 0 (by omega) (by have := (gb R).2.1; omega)
theorem s_opn (R : Rg (vw C b) (dR (M 6)) N pc hc uc ic hr) (x : Int32) : ∀ n i, i ≤ ic → ic < n + i → o_X0_playedOn_2 n b x (nI i) C ∧ o_X7_openOn_2 n x (nI i) M ∧ b_X0_playedOn_2 n b x (nI i) C = b_X7_openOn_2 n x (nI i) M ∧ (b_X7_openOn_2 n x (nI i) M = -1 ∨ ∃ j, j < ic ∧ b_X7_openOn_2 n x (nI i) M = nI j) := by
  have hb := (gb R).2.2.2.1
  intro n
  induction n with
  | zero => intro i h1 h2; omega
  | succ n ih =>
    intro i h1 h2
    have e1 := (g010 R).1
    have e2 := (g010 R).2
    by_cases hi : i < ic
    · have hle : ¬ nI ic ≤ nI i := nI_ge hi (by omega)
      have hin : vp_in (nI i) 12 := vp_in_nI (by omega) (by decide)
      have ecl := nI_clamp (n := i) (by omega)
      have G := gI R hi
      have a0 : C (b + 16 + i) 0 = dR (M 6) (16 + i) 0 := (vI (p := i) (f := 0) (by omega) (by decide) (by decide)).trans G.1.1
      have ov := s_over (C := C) (b := b) (k := i) (by omega)
      have a6 : b_X2_isOver_0 (b + 16 + i) C = dR (M 6) (16 + i) 6 := by rw [ov.1, G.2.1.1]
      have m0 : b_X7_ofInnings_0 (nI i) 0 M = dR (M 6) (16 + i) 0 := ofI (f := 0) (by omega) (by decide)
      have m6 : b_X7_ofInnings_0 (nI i) 6 M = dR (M 6) (16 + i) 6 := ofI (f := 6) (by omega) (by decide)
      have q0 : o_X7_ofInnings_0 (nI i) 0 M := oI (f := 0) (by omega) (by decide)
      have q6 : o_X7_ofInnings_0 (nI i) 6 M := oI (f := 6) (by omega) (by decide)
      have ih := ih (i + 1) (by omega) (by omega)
      rw [nI_succ] at ih
      simp only [o_X0_playedOn_2, o_X7_openOn_2, b_X0_playedOn_2, b_X7_openOn_2, o_X0_playedOn_37, o_X7_openOn_35, b_X0_playedOn_37, b_X7_openOn_35, e1, e2, hle, hin, ecl, a0, a6, m0, m6, q0, q6, ov.2]
      by_cases h0 : dR (M 6) (16 + i) 6 = 0
      · by_cases h4 : dR (M 6) (16 + i) 0 = x
        · simp [h0, h4]
          exact Or.inr ⟨i, hi, rfl⟩
        · simpa [h0, h4] using ih
      · by_cases h4 : dR (M 6) (16 + i) 0 = x
        · simpa [h0, h4] using ih
        · simpa [h0, h4] using ih
    · have hie : i = ic := by omega
      subst hie
      simp only [o_X0_playedOn_2, o_X7_openOn_2, b_X0_playedOn_2, b_X7_openOn_2, e1, e2]
      simp
theorem q_opn (R : Rg (vw C b) (dR (M 6)) N pc hc uc ic hr) (x : Int32) : o_X0_playedOn_0 b x C ∧ o_X7_openOn_0 x M ∧ b_X0_playedOn_0 b x C = b_X7_openOn_0 x M ∧ (b_X7_openOn_0 x M = -1 ∨ ∃ j, j < ic ∧ b_X7_openOn_0 x M = nI j) := s_opn R x 100 0 (by omega) (by have := (gb R).2.2.2.1; omega)
theorem nx_xor (a b : Nat) : nI a ^^^ nI b = nI (a ^^^ b) := by
  apply Int32.toBitVec_inj.1
  show BitVec.ofNat 32 a ^^^ BitVec.ofNat 32 b = BitVec.ofNat 32 (a ^^^ b)
  apply BitVec.eq_of_getLsbD_eq
  intro i hi
  simp [hi]
theorem q_hod (R : Rg (vw C b) (dR (M 6)) N pc hc uc ic hr) (hN : N < 2 ^ 30) : b_J9_floorMod_7cf53_0 (C b 0) 24 C = nI (hr % 24) ∧ o_J9_floorMod_7cf53_0 (C b 0) 24 C ∧ b_X7_hourOfDay_0 M = nI (hr % 24) ∧ hr % 24 < 24 := by
  have hh := (gb R).2.2.2.2
  have e := modI (a := hr) (k := 24) (by omega) (by decide) (by decide)
  have ex : 0 ≤ (nI hr ^^^ 24) := by
    rw [show (24 : Int32) = nI 24 from rfl, nx_xor]
    exact nI_pos' (Nat.xor_lt_two_pow (by omega) (by decide))
  refine ⟨?_, ⟨by decide, trivial⟩, ?_, Nat.mod_lt _ (by decide)⟩
  · rw [(g00 R).1]
    unfold b_J9_floorMod_7cf53_0 b_J9_floorMod_7cf53_18
    rw [if_pos ex]
    exact e
  · unfold b_X7_hourOfDay_0
    rw [(g00 R).2]
    exact e
theorem m_add (a j : Nat) (x : Int32) (hx : x = nI a) : x + nI j = nI (a + j) := by rw [hx, nI_add]
theorem q_call (R : Rg (vw C b) (dR (M 6)) N pc hc uc ic hr) (hN : N < 2 ^ 30) {u p : Nat} (hu : u < uc) (hp : p < pc) : o_X0_callOf_0 b (nI u) (nI p) C ∧ o_X7_calls_0 (nI u) (nI p) M ∧ b_X0_callOf_0 b (nI u) (nI p) C = b_X7_calls_0 (nI u) (nI p) M ∧ ∃ j, j ≤ 6 ∧ b_X7_calls_0 (nI u) (nI p) M = nI j := by
  obtain ⟨h1, h2, h3, hl⟩ := q_hod R hN
  have hb := gb R
  obtain ⟨r1, r2, r3, r4⟩ := q_rol R (nI p)
  have G := gP R hp
  have c3 : nb (C (b + 7 + p) 3) = dR (M 6) (7 + p) 3 := (vP3 (by omega)).trans G.1.2.2.2.1
  have c0 : C (b + 7 + p) 0 = dR (M 6) (7 + p) 0 := (vP (p := p) (f := 0) (by omega) (by decide) (by decide)).trans G.1.1
  have m3 : b_X7_of_0 (nI p) 3 M = dR (M 6) (7 + p) 3 := ofP (f := 3) (by omega) (by decide)
  have m0 : b_X7_of_0 (nI p) 0 M = dR (M 6) (7 + p) 0 := ofP (f := 0) (by omega) (by decide)
  have q3 : o_X7_of_0 (nI p) 3 M := oP (f := 3) (by omega) (by decide)
  have q0 : o_X7_of_0 (nI p) 0 M := oP (f := 0) (by omega) (by decide)
  have ep := nI_clamp (n := p) (by omega)
  have eu := nI_clamp (n := u) (by omega)
  have eh := nI_clamp (n := hr % 24) (by omega)
  have w := R.2.1 (hr % 24) hl
  have w1 : C (b + 1) (hr % 24) = dR (M 6) 1 (hr % 24) := (v1 hl).trans w.1
  have w2 : C (b + 2) (hr % 24) = dR (M 6) 2 (hr % 24) := (v2 hl).trans w.2.1
  have w3 : C (b + 3) u = dR (M 6) 3 u := (v3 (by omega)).trans (R.2.2.1 u hu)
  have a2 : (2 : Int32) + nI (hr % 24) = nI (2 + hr % 24) := m_add 2 _ _ rfl
  have a26 : (26 : Int32) + nI (hr % 24) = nI (26 + hr % 24) := m_add 26 _ _ rfl
  have a103 : (103 : Int32) + nI u = nI (103 + u) := m_add 103 _ _ rfl
  have t1 : M 6 (nI (2 + hr % 24)).toNatClampNeg = dR (M 6) 1 (hr % 24) := by
    rw [nI_clamp (by omega)]; unfold dR; rw [if_pos (rel_1 hl)]; rfl
  have t2 : M 6 (nI (26 + hr % 24)).toNatClampNeg = dR (M 6) 2 (hr % 24) := by
    rw [nI_clamp (by omega)]; unfold dR; rw [if_pos (rel_2 hl)]; rfl
  have t3 : M 6 (nI (103 + u)).toNatClampNeg = dR (M 6) 3 u := by
    rw [nI_clamp (by omega)]; unfold dR; rw [if_pos (rel_3 (by omega))]; rfl
  have i1 : vp_in (nI (2 + hr % 24)) 275 := vp_in_nI (by omega) (by decide)
  have i2 : vp_in (nI (26 + hr % 24)) 275 := vp_in_nI (by omega) (by decide)
  have i3 : vp_in (nI (103 + u)) 275 := vp_in_nI (by omega) (by decide)
  have i4 : vp_in (nI p) 4 := vp_in_nI (by omega) (by decide)
  have i5 : vp_in (nI u) 3 := vp_in_nI (by omega) (by decide)
  have i6 : vp_in (nI (hr % 24)) 24 := vp_in_nI hl (by decide)
  simp only [o_X0_callOf_0, o_X7_calls_0, b_X0_callOf_0, b_X7_calls_0, b_X0_callOf_97, b_X7_calls_96, h1, h2, h3, r1, r2, r3, ep, eu, eh, c3, c0, m3, m0, q3, q0, w1, w2, w3, a2, a26, a103, t1, t2, t3, i1, i2, i3, i4, i5, i6, (g01 R)]
  have b3 := G.2.2.2.2
  rcases b3 with b3 | b3
  · have e1 : ¬ (0 : Int32) = 1 := by decide
    simp only [b3, e1]
    rcases r4 with r4 | ⟨j, hj, r4⟩
    · simp only [r4, m1_lt]
      by_cases k1 : nI (hr % 24) = M 6 (1 : Int32).toNatClampNeg
      · simp only [k1]
        simp
        exact ⟨4, by decide, rfl⟩
      · simp only [k1]
        by_cases k2 : dR (M 6) 1 (hr % 24) ≤ 0
        · by_cases k3 : 3 ≤ dR (M 6) 2 (hr % 24)
          · by_cases k4 : dR (M 6) (7 + p) 0 ≤ 60 - 5 * dR (M 6) 3 u
            · simp only [k2, k3, k4]
              simp
              exact ⟨0, by decide, rfl⟩
            · simp only [k2, k3, k4]
              simp
              exact ⟨1, by decide, rfl⟩
          · simp only [k2, k3]
            simp
            exact ⟨2, by decide, rfl⟩
        · simp only [k2]
          simp
          exact ⟨3, by decide, rfl⟩
    · have e2 : ¬ nI j = -1 := nI_m1 (by omega)
      have e3 : ¬ nI j < 0 := nI_pos (by omega)
      simp only [r4, e2, e3]
      simp
      exact ⟨5, by decide, rfl⟩
  · have e1 : ¬ (1 : Int32) = 0 := by decide
    simp only [b3, e1]
    simp
    exact ⟨6, by decide, rfl⟩
end

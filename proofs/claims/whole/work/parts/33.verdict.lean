/-! VERDICTS -/
section
variable {C M : Sx} {b N pc hc uc ic hr : Nat}
theorem o_in {x a c : Int32} : o_X7_in_0 x a c M := by
  simp [o_X7_in_0, o_X7_in_14, o_X7_in_15, bz]
theorem in_bz {x a c : Int32} : bz (b_X7_in_0 x a c M) := by
  unfold b_X7_in_0 b_X7_in_14 b_X7_in_15
  repeat' split
  all_goals simp [bz]
theorem o_isHour {x : Int32} : o_X7_isHour_0 x M := ⟨o_in, in_bz, trivial⟩
theorem o_isPitch {x : Int32} : o_X7_isPitch_0 x M := ⟨o_in, in_bz, trivial⟩
theorem o_isHorse {x : Int32} : o_X7_isHorse_0 x M := ⟨o_in, in_bz, trivial⟩
theorem o_isUmpire {x : Int32} : o_X7_isUmpire_0 x M := ⟨o_in, in_bz, trivial⟩
theorem o_isInnings {x : Int32} : o_X7_isInnings_0 x M := ⟨o_in, in_bz, trivial⟩
theorem o_fails {x : Int32} : o_X7_fails_0 x M := by
  simp [o_X7_fails_0, o_X7_fails_14, bz]
theorem f_0 : b_X7_fails_0 0 M = (0, up2 M 5 8 0) := rfl
theorem f_k {k : Nat} (h0 : 0 < k) (h : k < 2 ^ 31) : b_X7_fails_0 (nI k) M = (1, up2 M 5 8 (nI k)) := by
  unfold b_X7_fails_0 b_X7_fails_14
  rw [if_neg (nI_nle h0 h)]
theorem f_1 : b_X7_fails_0 1 M = (1, up2 M 5 8 1) := rfl
theorem f_2 : b_X7_fails_0 2 M = (1, up2 M 5 8 2) := rfl
theorem set_m1 : b_X6_settle_0 (-1) C = (1, 0, C) := rfl
theorem set_m2 : b_X6_settle_0 (-2) C = (2, 0, C) := rfl
theorem set_0 : b_X6_settle_0 0 C = (0, 0, C) := rfl
theorem set_r {w d : Nat} (h1 : 1 ≤ w) (h2 : w ≤ 100) (h3 : d < 1000) : b_X6_settle_0 (nI (1000 * w + d)) C = (3, 0, up2 (up2 C 0 6 (nI w)) 0 7 (nI d)) := by
  have e1 : ¬ nI (1000 * w + d) = -1 := nI_m1 (by omega)
  have e2 : ¬ nI (1000 * w + d) = -2 := fun e => nI_pos (n := 1000 * w + d) (by omega) (by rw [e]; decide)
  have e3 : ¬ nI (1000 * w + d) = 0 := nI_ne0 (by omega) (by omega)
  have e4 : nI (1000 * w + d) / 1000 = nI w := by
    rw [show (1000 : Int32) = nI 1000 from rfl, pk_div (by omega) (by decide) (by decide)]
    congr 1
    omega
  have e5 : i_rem (nI (1000 * w + d)) 1000 = nI d := by
    rw [show (1000 : Int32) = nI 1000 from rfl, modI (by omega) (by decide) (by decide)]
    congr 1
    omega
  unfold b_X6_settle_0 b_X6_settle_55
  rw [if_neg e1, if_neg e2, if_neg e3, e4, e5]
theorem rfd {a d : Nat} : b_X6_refused_0 (nI a) (nI d) C = nI (1000 * a + d) := by
  show nI a * nI 1000 + nI d = _
  rw [nI_mul, nI_add, Nat.mul_comm]
theorem d_pit (R : Rg (vw C b) (dR (M 6)) N pc hc uc ic hr) (x : Int32) : (b_X0_pitchVerdict_0 b x C = 0 ∧ b_X7_isPitch_0 x M = 1 ∧ ∃ j, j < pc ∧ x = nI j) ∨ (b_X0_pitchVerdict_0 b x C = -1 ∧ b_X7_isPitch_0 x M = 0) := by
  unfold b_X0_pitchVerdict_0 b_X7_isPitch_0
  rw [(g04 R).1, (g04 R).2]
  exact vd_num (by have := gb R; omega)
theorem d_hor (R : Rg (vw C b) (dR (M 6)) N pc hc uc ic hr) (x : Int32) : (b_X0_horseVerdict_0 b x C = 0 ∧ b_X7_isHorse_0 x M = 1 ∧ ∃ j, j < hc ∧ x = nI j) ∨ (b_X0_horseVerdict_0 b x C = -1 ∧ b_X7_isHorse_0 x M = 0) := by
  unfold b_X0_horseVerdict_0 b_X7_isHorse_0
  rw [(g06 R).1, (g06 R).2]
  exact vd_num (by have := gb R; omega)
theorem d_ump (R : Rg (vw C b) (dR (M 6)) N pc hc uc ic hr) (x : Int32) : (b_X0_umpireVerdict_0 b x C = 0 ∧ b_X7_isUmpire_0 x M = 1 ∧ ∃ j, j < uc ∧ x = nI j) ∨ (b_X0_umpireVerdict_0 b x C = -1 ∧ b_X7_isUmpire_0 x M = 0) := by
  unfold b_X0_umpireVerdict_0 b_X7_isUmpire_0
  rw [(g08 R).1, (g08 R).2]
  exact vd_num (by have := gb R; omega)
theorem d_inn (R : Rg (vw C b) (dR (M 6)) N pc hc uc ic hr) (x : Int32) : (b_X0_playedVerdict_0 b x C = 0 ∧ b_X7_isInnings_0 x M = 1 ∧ ∃ j, j < ic ∧ x = nI j) ∨ (b_X0_playedVerdict_0 b x C = -1 ∧ b_X7_isInnings_0 x M = 0) := by
  unfold b_X0_playedVerdict_0 b_X7_isInnings_0
  rw [(g010 R).1, (g010 R).2]
  exact vd_num (by have := gb R; omega)
theorem ok_num {x : Int32} {c j : Nat} (hc : c < 2 ^ 30) (h : j < c) (e : x = nI c) : b_X6_numberVerdict_0 (nI j) x C = 0 := by
  subst e
  rcases vd_num (x := nI j) (C := C) (M := C) hc with h1 | h1
  · exact h1.1
  · exfalso
    have h2 := h1.1
    unfold b_X6_numberVerdict_0 b_X6_numberVerdict_13 b_X6_numberVerdict_14 at h2
    rw [if_neg (nI_pos (by omega)), if_neg (nI_ge h (by omega))] at h2
    exact absurd h2 (by decide)
theorem v_pit (R : Rg (vw C b) (dR (M 6)) N pc hc uc ic hr) {p : Nat} (hp : p < pc) : b_X0_pitchVerdict_0 b (nI p) C = 0 := ok_num (by have := gb R; omega) hp (g04 R).1
theorem v_hor (R : Rg (vw C b) (dR (M 6)) N pc hc uc ic hr) {p : Nat} (hp : p < hc) : b_X0_horseVerdict_0 b (nI p) C = 0 := ok_num (by have := gb R; omega) hp (g06 R).1
theorem v_ump (R : Rg (vw C b) (dR (M 6)) N pc hc uc ic hr) {p : Nat} (hp : p < uc) : b_X0_umpireVerdict_0 b (nI p) C = 0 := ok_num (by have := gb R; omega) hp (g08 R).1
theorem v_inn (R : Rg (vw C b) (dR (M 6)) N pc hc uc ic hr) {p : Nat} (hp : p < ic) : b_X0_playedVerdict_0 b (nI p) C = 0 := ok_num (by have := gb R; omega) hp (g010 R).1
theorem rv_72 {x1 x2 v : Int32} (hv : ¬ v = 0) : b_X0_rollVerdict_72 b x1 x2 v C = v ∧ o_X0_rollVerdict_72 b x1 x2 v C := by
  simp [b_X0_rollVerdict_72, b_X0_rollVerdict_84, b_X0_rollVerdict_96, b_X0_rollVerdict_121, b_X0_rollVerdict_168, o_X0_rollVerdict_72, o_X0_rollVerdict_84, o_X0_rollVerdict_96, o_X0_rollVerdict_121, hv]
theorem rv_84 {x1 x2 v : Int32} (hv : ¬ v = 0) : b_X0_rollVerdict_84 b x1 x2 v C = v ∧ o_X0_rollVerdict_84 b x1 x2 v C := by
  simp [b_X0_rollVerdict_84, b_X0_rollVerdict_96, b_X0_rollVerdict_121, b_X0_rollVerdict_168, o_X0_rollVerdict_84, o_X0_rollVerdict_96, o_X0_rollVerdict_121, hv]
theorem rv_96 {x1 x2 v : Int32} (hv : ¬ v = 0) : b_X0_rollVerdict_96 b x1 x2 v C = v ∧ o_X0_rollVerdict_96 b x1 x2 v C := by
  simp [b_X0_rollVerdict_96, b_X0_rollVerdict_121, b_X0_rollVerdict_168, o_X0_rollVerdict_96, o_X0_rollVerdict_121, hv]
theorem rv_121 {x1 x2 v : Int32} (hv : ¬ v = 0) : b_X0_rollVerdict_121 b x1 x2 v C = v ∧ o_X0_rollVerdict_121 b x1 x2 v C := by
  simp [b_X0_rollVerdict_121, b_X0_rollVerdict_168, o_X0_rollVerdict_121, hv]
/-- what the horse's own verdict is -/
theorem v_boots (R : Rg (vw C b) (dR (M 6)) N pc hc uc ic hr) {h : Nat} (hh : h < hc) : o_X0_bootsVerdict_0 b (nI h) C ∧ ((dR (M 6) (11 + h) 3 = 0 ∧ b_X0_bootsVerdict_0 b (nI h) C = 0) ∨ ∃ d, 0 < d ∧ d ≤ 6 ∧ dR (M 6) (11 + h) 3 = nI d ∧ b_X0_bootsVerdict_0 b (nI h) C = nI (2000 + d)) := by
  have hb := gb R
  have G := gH R hh
  have eh := nI_clamp (n := h) (by omega)
  have a3 : C (b + 11 + h) 3 = dR (M 6) (11 + h) 3 := (vH (p := h) (f := 3) (by omega) (by decide) (by decide)).trans G.1.2.2.2.1
  have i5 : vp_in (nI h) 5 := vp_in_nI (by omega) (by decide)
  have vh := v_hor R hh
  obtain ⟨d, hd, ed⟩ := G.2.2.2.2.1
  simp only [o_X0_bootsVerdict_0, b_X0_bootsVerdict_0, b_X0_bootsVerdict_41, b_X1_isRolling_0, o_X1_isRolling_0, b_X1_isRolling_12, o_X1_isRolling_12, vh, eh, a3, i5]
  by_cases hz : d = 0
  · subst hz
    have e0 : dR (M 6) (11 + h) 3 = 0 := ed
    refine ⟨by simp [e0, bz], Or.inl ⟨e0, by simp [e0]⟩⟩
  · have e1 : ¬ dR (M 6) (11 + h) 3 ≤ 0 := by rw [ed]; exact nI_nle (by omega) (by omega)
    have e2 : b_X6_refused_0 2 (dR (M 6) (11 + h) 3) C = nI (2000 + d) := by rw [ed]; exact rfd (a := 2)
    refine ⟨by simp [e1, bz], Or.inr ⟨d, by omega, hd, ed, ?_⟩⟩
    simp only [e1, e2]
    simp
theorem det_2 {a c : Int32} : b_X7_detailOf_0 (nI 2) a c M = b_X7_ofHorse_0 a 3 M := by
  show b_X7_detailOf_0 2 a c M = _
  simp [b_X7_detailOf_0]
theorem odet_2 {a c : Int32} (h : o_X7_ofHorse_0 a 3 M) : o_X7_detailOf_0 (nI 2) a c M := by
  show o_X7_detailOf_0 2 a c M
  simp [o_X7_detailOf_0, h]
theorem det_3 {a c : Int32} : b_X7_detailOf_0 (nI 3) a c M = b_X7_ofHorse_0 a 2 M := by
  show b_X7_detailOf_0 3 a c M = _
  simp [b_X7_detailOf_0]
theorem odet_3 {a c : Int32} (h : o_X7_ofHorse_0 a 2 M) : o_X7_detailOf_0 (nI 3) a c M := by
  show o_X7_detailOf_0 3 a c M
  simp [o_X7_detailOf_0, h]
theorem det_4 {a c : Int32} : b_X7_detailOf_0 (nI 4) a c M = b_X7_rollerOf_0 c M := by
  show b_X7_detailOf_0 4 a c M = _
  simp [b_X7_detailOf_0]
theorem odet_4 {a c : Int32} (h : o_X7_rollerOf_0 c M) : o_X7_detailOf_0 (nI 4) a c M := by
  show o_X7_detailOf_0 4 a c M
  simp [o_X7_detailOf_0, h]
theorem det_5 {a c : Int32} : b_X7_detailOf_0 (nI 5) a c M = b_X7_openOn_0 c M := by
  show b_X7_detailOf_0 5 a c M = _
  simp [b_X7_detailOf_0]
theorem odet_5 {a c : Int32} (h : o_X7_openOn_0 c M) : o_X7_detailOf_0 (nI 5) a c M := by
  show o_X7_detailOf_0 5 a c M
  simp [o_X7_detailOf_0, h]
theorem det_6 {a c : Int32} : b_X7_detailOf_0 (nI 6) a c M = c := by
  show b_X7_detailOf_0 6 a c M = _
  simp [b_X7_detailOf_0]
theorem odet_6 {a c : Int32} (h : True) : o_X7_detailOf_0 (nI 6) a c M := by
  show o_X7_detailOf_0 6 a c M
  simp [o_X7_detailOf_0, h]
theorem det_7 {a c : Int32} : b_X7_detailOf_0 (nI 7) a c M = b_X7_of_0 c 0 M := by
  show b_X7_detailOf_0 7 a c M = _
  simp [b_X7_detailOf_0]
theorem odet_7 {a c : Int32} (h : o_X7_of_0 c 0 M) : o_X7_detailOf_0 (nI 7) a c M := by
  show o_X7_detailOf_0 7 a c M
  simp [o_X7_detailOf_0, h]
/-- class's rollVerdict and reference's whyNot, detailOf -/
theorem v_roll (R : Rg (vw C b) (dR (M 6)) N pc hc uc ic hr) {h p : Nat} (hh : h < hc) (hp : p < pc) {x3 : Int32} (hx : b_X6_rangeVerdict_0 x3 1 6 C = 0) : o_X0_rollVerdict_0 b (nI h) (nI p) x3 C ∧ o_X7_whyNot_0 (nI h) (nI p) M ∧ ((b_X7_whyNot_0 (nI h) (nI p) M = 0 ∧ b_X0_rollVerdict_0 b (nI h) (nI p) x3 C = 0 ∧ dR (M 6) (11 + h) 3 = 0 ∧ b_X7_rollerOf_0 (nI p) M = -1 ∧ b_X7_openOn_0 (nI p) M = -1) ∨ ∃ w d, 1 ≤ w ∧ w ≤ 7 ∧ d < 1000 ∧ b_X7_whyNot_0 (nI h) (nI p) M = nI w ∧ o_X7_detailOf_0 (nI w) (nI h) (nI p) M ∧ b_X7_detailOf_0 (nI w) (nI h) (nI p) M = nI d ∧ b_X0_rollVerdict_0 b (nI h) (nI p) x3 C = nI (1000 * w + d)) := by
  have hb := gb R
  have G := gH R hh
  have K := gP R hp
  obtain ⟨r1, r2, r3, r4⟩ := q_rol R (nI p)
  obtain ⟨s1, s2, s3, s4⟩ := q_opn R (nI p)
  have eh := nI_clamp (n := h) (by omega)
  have ep := nI_clamp (n := p) (by omega)
  have i5 : vp_in (nI h) 5 := vp_in_nI (by omega) (by decide)
  have i4 : vp_in (nI p) 4 := vp_in_nI (by omega) (by decide)
  have a2 : C (b + 11 + h) 2 = dR (M 6) (11 + h) 2 := (vH (p := h) (f := 2) (by omega) (by decide) (by decide)).trans G.1.2.2.1
  have a1 : nb (C (b + 11 + h) 1) = dR (M 6) (11 + h) 1 := (vH1 (by omega)).trans G.1.2.1
  have c3 : nb (C (b + 7 + p) 3) = dR (M 6) (7 + p) 3 := (vP3 (by omega)).trans K.1.2.2.2.1
  have c0 : C (b + 7 + p) 0 = dR (M 6) (7 + p) 0 := (vP (p := p) (f := 0) (by omega) (by decide) (by decide)).trans K.1.1
  have m3 : b_X7_ofHorse_0 (nI h) 3 M = dR (M 6) (11 + h) 3 := ofH (f := 3) (by omega) (by decide)
  have m2 : b_X7_ofHorse_0 (nI h) 2 M = dR (M 6) (11 + h) 2 := ofH (f := 2) (by omega) (by decide)
  have m1 : b_X7_ofHorse_0 (nI h) 1 M = dR (M 6) (11 + h) 1 := ofH (f := 1) (by omega) (by decide)
  have n3 : b_X7_of_0 (nI p) 3 M = dR (M 6) (7 + p) 3 := ofP (f := 3) (by omega) (by decide)
  have n0 : b_X7_of_0 (nI p) 0 M = dR (M 6) (7 + p) 0 := ofP (f := 0) (by omega) (by decide)
  have q3 : o_X7_ofHorse_0 (nI h) 3 M := oH (f := 3) (by omega) (by decide)
  have q2 : o_X7_ofHorse_0 (nI h) 2 M := oH (f := 2) (by omega) (by decide)
  have q1 : o_X7_ofHorse_0 (nI h) 1 M := oH (f := 1) (by omega) (by decide)
  have p3 : o_X7_of_0 (nI p) 3 M := oP (f := 3) (by omega) (by decide)
  have p0 : o_X7_of_0 (nI p) 0 M := oP (f := 0) (by omega) (by decide)
  have vh := v_hor R hh
  have vp := v_pit R hp
  obtain ⟨b1, b2⟩ := v_boots R hh
  simp only [o_X0_rollVerdict_0, o_X7_whyNot_0, b_X7_whyNot_0, b_X7_whyNot_82, b_X7_whyNot_83, b_X0_rollVerdict_0, vh, vp, hx, b1, m3, m2, m1, n3, n0, q3, q2, q1, p3, p0, r2, s2, eh, i5, a2]
  rcases b2 with ⟨b2, b3⟩ | ⟨d, d0, d6, b2, b3⟩
  · -- the horse rests
    obtain ⟨t, ht, et⟩ := G.2.2.2.1
    have z1 : (0 : Int32) ≤ 0 := by decide
    simp only [b2, b3, z1]
    by_cases ht15 : t ≤ 15
    · have e15 : dR (M 6) (11 + h) 2 ≤ 15 := by rw [et]; exact nI_le ht15 (by decide)
      simp only [e15]
      rcases r4 with r4 | ⟨j, hj, r4⟩
      · have rv : b_X0_rollerVerdict_0 b (nI p) C = 0 := by unfold b_X0_rollerVerdict_0 b_X0_rollerVerdict_20; rw [r3, r4]; rfl
        simp only [b_X0_rollVerdict_72, o_X0_rollVerdict_72, o_X0_rollerVerdict_0, r1, rv, r4, m1_lt]
        rcases s4 with s4 | ⟨j, hj, s4⟩
        · have pv : b_X0_playVerdict_0 b (nI p) C = 0 := by unfold b_X0_playVerdict_0 b_X0_playVerdict_20; rw [s3, s4]; rfl
          simp only [b_X0_rollVerdict_84, o_X0_rollVerdict_84, o_X0_playVerdict_0, s1, pv, s4, m1_lt]
          rcases K.2.2.2.2 with k3 | k3
          · have z2 : ¬ (0 : Int32) = 1 := by decide
            simp only [b_X0_rollVerdict_96, o_X0_rollVerdict_96, ep, c3, k3, i4, z2]
            simp only [b_X0_rollVerdict_121, o_X0_rollVerdict_121, b_X0_rollVerdict_168, eh, ep, c0, a1, i4, i5]
            obtain ⟨wt, hw, ew⟩ := K.2.1
            by_cases h60 : wt ≤ 60
            · have e60 : dR (M 6) (7 + p) 0 ≤ 60 := by rw [ew]; exact nI_le h60 (by decide)
              simp only [e60]
              simp
            · have e60 : ¬ dR (M 6) (7 + p) 0 ≤ 60 := by rw [ew]; exact nI_ge (a := 60) (by omega) (by omega)
              simp only [e60]
              rcases G.2.1 with g1 | g1
              · simp only [g1]
                have e7 : b_X6_refused_0 7 (dR (M 6) (7 + p) 0) C = nI (1000 * 7 + wt) := by rw [ew]; exact rfd (a := 7)
                have dt : b_X7_detailOf_0 (nI 7) (nI h) (nI p) M = nI wt := by
                  rw [det_7, n0, ew]
                have od : o_X7_detailOf_0 (nI 7) (nI h) (nI p) M := odet_7 p0
                refine ⟨by simp, by simp, Or.inr ⟨7, wt, by decide, by decide, by omega, by simp; rfl, od, dt, ?_⟩⟩
                simp [e7]
              · have z3 : ¬ (1 : Int32) = 0 := by decide
                simp only [g1, z3]
                simp
          · have z3 : ¬ (1 : Int32) = 0 := by decide
            have e6 : b_X6_refused_0 6 (nI p) C = nI (1000 * 6 + p) := rfd (a := 6)
            have e7 := rv_121 (C := C) (b := b) (x1 := nI h) (x2 := nI p) (nI_ne0 (n := 1000 * 6 + p) (by omega) (by omega))
            simp only [b_X0_rollVerdict_96, o_X0_rollVerdict_96, ep, c3, k3, i4, z3, e6, e7.1, e7.2]
            have od : o_X7_detailOf_0 (nI 6) (nI h) (nI p) M := odet_6 trivial
            refine ⟨by simp, by simp, Or.inr ⟨6, p, by decide, by decide, by omega, by simp; rfl, od, det_6, ?_⟩⟩
            simp
        · have e5 : ¬ nI j < 0 := nI_pos (by omega)
          have pv : b_X0_playVerdict_0 b (nI p) C = nI (1000 * 5 + j) := by
            unfold b_X0_playVerdict_0 b_X0_playVerdict_20
            rw [s3, s4, if_neg (nI_m1 (by omega))]
            exact rfd (a := 5)
          have e7 := rv_96 (C := C) (b := b) (x1 := nI h) (x2 := nI p) (nI_ne0 (n := 1000 * 5 + j) (by omega) (by omega))
          simp only [b_X0_rollVerdict_84, o_X0_rollVerdict_84, o_X0_playVerdict_0, s1, pv, s4, e5, e7.1, e7.2]
          have od : o_X7_detailOf_0 (nI 5) (nI h) (nI p) M := odet_5 s2
          refine ⟨by simp, by simp, Or.inr ⟨5, j, by decide, by decide, by omega, by simp; rfl, od, det_5.trans s4, ?_⟩⟩
          simp
      · have e5 : ¬ nI j < 0 := nI_pos (by omega)
        have rv : b_X0_rollerVerdict_0 b (nI p) C = nI (1000 * 4 + j) := by
          unfold b_X0_rollerVerdict_0 b_X0_rollerVerdict_20
          rw [r3, r4, if_neg (nI_m1 (by omega))]
          exact rfd (a := 4)
        have e7 := rv_84 (C := C) (b := b) (x1 := nI h) (x2 := nI p) (nI_ne0 (n := 1000 * 4 + j) (by omega) (by omega))
        simp only [b_X0_rollVerdict_72, o_X0_rollVerdict_72, o_X0_rollerVerdict_0, r1, rv, r4, e5, e7.1, e7.2]
        have od : o_X7_detailOf_0 (nI 4) (nI h) (nI p) M := odet_4 r2
        refine ⟨by simp, by simp, Or.inr ⟨4, j, by decide, by decide, by omega, by simp; rfl, od, det_4.trans r4, ?_⟩⟩
        simp
    · have e15 : ¬ dR (M 6) (11 + h) 2 ≤ 15 := by rw [et]; exact nI_ge (a := 15) (by omega) (by omega)
      have e3 : b_X6_refused_0 3 (dR (M 6) (11 + h) 2) C = nI (1000 * 3 + t) := by rw [et]; exact rfd (a := 3)
      have e7 := rv_72 (C := C) (b := b) (x1 := nI h) (x2 := nI p) (nI_ne0 (n := 1000 * 3 + t) (by omega) (by omega))
      simp only [e15, e3, e7.1, e7.2]
      have od : o_X7_detailOf_0 (nI 3) (nI h) (nI p) M := odet_3 q2
      refine ⟨by simp, by simp, Or.inr ⟨3, t, by decide, by decide, by omega, by simp; rfl, od, ?_, ?_⟩⟩
      · rw [det_3, m2, et]
      · simp
  · have e0 : ¬ nI (2000 + d) = 0 := nI_ne0 (by omega) (by omega)
    have e1 : ¬ nI d ≤ 0 := nI_nle d0 (by omega)
    have e7 := rv_72 (C := C) (b := b) (x1 := nI h) (x2 := nI p) e0
    simp only [b2, b3, e0, e1, e7.1, e7.2]
    have od : o_X7_detailOf_0 (nI 2) (nI h) (nI p) M := odet_2 q3
    refine ⟨by simp, by simp, Or.inr ⟨2, d, by decide, by decide, by omega, by simp; rfl, od, ?_, ?_⟩⟩
    · rw [det_2, m3, b2]
    · simp
end

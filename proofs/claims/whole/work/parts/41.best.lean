/-! THE BEST AND THE RANKED -/
section
variable {C M : Sx} {b N pc hc uc ic hr : Nat}
theorem a_cls (R : Rg (vw C b) (dR (M 6)) N pc hc uc ic hr) {i k : Nat} (hi : i < ic) (hk : k < ic) : b_X2_isAheadOf_0 (b + 16 + i) (b + 16 + k) C = (if dR (M 6) (16 + i) 4 = dR (M 6) (16 + k) 4 then (if dR (M 6) (16 + k) 3 ≤ dR (M 6) (16 + i) 3 then 0 else 1) else if dR (M 6) (16 + i) 4 ≤ dR (M 6) (16 + k) 4 then 0 else 1) ∧ o_X2_isAheadOf_0 (b + 16 + i) (b + 16 + k) C := by
  have hb := gb R
  have G := gI R hi
  have K := gI R hk
  have a4 := (vI (C := C) (b := b) (p := i) (f := 4) (by omega) (by decide) (by decide)).trans G.1.2.2.2.2.1
  have a3 := (vI (C := C) (b := b) (p := i) (f := 3) (by omega) (by decide) (by decide)).trans G.1.2.2.2.1
  have c4 := (vI (C := C) (b := b) (p := k) (f := 4) (by omega) (by decide) (by decide)).trans K.1.2.2.2.2.1
  have c3 := (vI (C := C) (b := b) (p := k) (f := 3) (by omega) (by decide) (by decide)).trans K.1.2.2.2.1
  simp only [b_X2_isAheadOf_0, o_X2_isAheadOf_0, b_X2_isAheadOf_27, b_X2_isAheadOf_44, o_X2_isAheadOf_27, o_X2_isAheadOf_44, a4, a3, c4, c3]
  refine ⟨trivial, ?_⟩
  simp [bz]
theorem a_ref (R : Rg (vw C b) (dR (M 6)) N pc hc uc ic hr) {i k : Nat} (hi : i < ic) (hk : k < ic) : b_X7_isAhead_0 (nI i) (nI k) M = (if dR (M 6) (16 + i) 4 = dR (M 6) (16 + k) 4 then (if dR (M 6) (16 + i) 3 = dR (M 6) (16 + k) 3 then (if k ≤ i then 0 else 1) else if dR (M 6) (16 + k) 3 ≤ dR (M 6) (16 + i) 3 then 0 else 1) else if dR (M 6) (16 + i) 4 ≤ dR (M 6) (16 + k) 4 then 0 else 1) ∧ o_X7_isAhead_0 (nI i) (nI k) M := by
  have hb := gb R
  have a4 : b_X7_ofInnings_0 (nI i) 4 M = dR (M 6) (16 + i) 4 := ofI (f := 4) (by omega) (by decide)
  have a3 : b_X7_ofInnings_0 (nI i) 3 M = dR (M 6) (16 + i) 3 := ofI (f := 3) (by omega) (by decide)
  have c4 : b_X7_ofInnings_0 (nI k) 4 M = dR (M 6) (16 + k) 4 := ofI (f := 4) (by omega) (by decide)
  have c3 : b_X7_ofInnings_0 (nI k) 3 M = dR (M 6) (16 + k) 3 := ofI (f := 3) (by omega) (by decide)
  have q1 : o_X7_ofInnings_0 (nI i) 4 M := oI (f := 4) (by omega) (by decide)
  have q2 : o_X7_ofInnings_0 (nI i) 3 M := oI (f := 3) (by omega) (by decide)
  have q3 : o_X7_ofInnings_0 (nI k) 4 M := oI (f := 4) (by omega) (by decide)
  have q4 : o_X7_ofInnings_0 (nI k) 3 M := oI (f := 3) (by omega) (by decide)
  have e : (nI k ≤ nI i) = (k ≤ i) := propext (nI_leI (by omega) (by omega))
  simp only [b_X7_isAhead_0, o_X7_isAhead_0, b_X7_isAhead_84, b_X7_isAhead_35, o_X7_isAhead_84, o_X7_isAhead_35, a4, a3, c4, c3, q1, q2, q3, q4, e]
  refine ⟨trivial, ?_⟩
  simp [bz]
theorem rank_step (x y n m : Int32) {i k : Nat} (hne : ¬ i = k) : ((if i < k then (if (if y = x then (if n ≤ m then (0 : Int32) else 1) else if y ≤ x then 0 else 1) = 0 then (1 : Int32) else (if (if x = y then (if m ≤ n then (0 : Int32) else 1) else if x ≤ y then 0 else 1) = 0 then 0 else 1)) else (if (if x = y then (if m ≤ n then (0 : Int32) else 1) else if x ≤ y then 0 else 1) = 0 then 0 else 1)) = 0) ↔ ((if x = y then (if n = m then (if k ≤ i then (0 : Int32) else 1) else if m ≤ n then 0 else 1) else if x ≤ y then 0 else 1) = 0) := by
  have z1 : ¬ (1 : Int32) = 0 := by decide
  by_cases e : x = y
  · subst e
    by_cases e2 : n = m
    · subst e2
      have l := Int32.le_refl n
      by_cases h : i < k
      · have h2 : ¬ k ≤ i := by omega
        simp [h, h2]
      · have h2 : k ≤ i := by omega
        simp [h, h2]
    · by_cases l1 : n ≤ m
      · have l2 : ¬ m ≤ n := fun q => e2 (Int32.le_antisymm l1 q)
        by_cases h : i < k <;> simp [h, e2, l1, l2]
      · have l2 : m ≤ n := (Int32.le_total n m).resolve_left l1
        by_cases h : i < k <;> simp [h, e2, l1, l2]
  · have e' : ¬ y = x := fun q => e q.symm
    by_cases l1 : x ≤ y
    · have l2 : ¬ y ≤ x := fun q => e (Int32.le_antisymm l1 q)
      by_cases h : i < k <;> simp [h, e, e', l1, l2]
    · have l2 : y ≤ x := (Int32.le_total x y).resolve_left l1
      by_cases h : i < k <;> simp [h, e, e', l1, l2]
theorem s_rank (R : Rg (vw C b) (dR (M 6)) N pc hc uc ic hr) {k : Nat} (hk : k < ic) : ∀ n i (v : Int32), i ≤ ic → ic < n + i → o_X0_placeOf_4 n b (nI k) v (nI i) C ∧ o_X7_rankOf_4 n (nI k) v (nI i) M ∧ b_X0_placeOf_4 n b (nI k) v (nI i) C = b_X7_rankOf_4 n (nI k) v (nI i) M := by
  have hb := gb R
  intro n
  induction n with
  | zero => intro i v h1 h2; omega
  | succ n ih =>
    intro i v h1 h2
    have e1 := (g010 R).1
    have e2 := (g010 R).2
    by_cases hi : i < ic
    · have hle : ¬ nI ic ≤ nI i := nI_ge hi (by omega)
      have hin : vp_in (nI i) 12 := vp_in_nI (by omega) (by decide)
      have hink : vp_in (nI k) 12 := vp_in_nI (by omega) (by decide)
      have ecl := nI_clamp (n := i) (by omega)
      have kcl := nI_clamp (n := k) (by omega)
      have ih := fun w => ih (i + 1) w (by omega) (by omega)
      simp only [nI_succ] at ih
      have A1 := a_cls R hi hk
      have A2 := a_cls R hk hi
      have A3 := a_ref R hi hk
      have ek : (nI k ≤ nI i) = (k ≤ i) := propext (nI_leI (by omega) (by omega))
      have ee : (nI i = nI k) = (i = k) := propext (nI_eq (by omega) (by omega))
      have z1 : ¬ (1 : Int32) = 0 := by decide
      simp only [o_X0_placeOf_4, o_X7_rankOf_4, b_X0_placeOf_4, b_X7_rankOf_4, e1, e2, hle, ek, ee, hin, hink, ecl, kcl, A1.2, A2.2, A3.2, b_X0_placeOf_39, o_X0_placeOf_39, b_X0_placeOf_40, o_X0_placeOf_40, b_X0_placeOf_65, o_X0_placeOf_65, b_X0_placeOf_68, o_X0_placeOf_68, b_X7_rankOf_34, o_X7_rankOf_34, b_X7_rankOf_35, o_X7_rankOf_35]
      by_cases e : i = k
      · subst e
        have A0 : b_X2_isAheadOf_0 (b + 16 + i) (b + 16 + i) C = 0 := by
          rw [A1.1]
          simp
        simp only [A0]
        simpa using ih v
      · have st := rank_step (dR (M 6) (16 + i) 4) (dR (M 6) (16 + k) 4) (dR (M 6) (16 + i) 3) (dR (M 6) (16 + k) 3) e
        rw [← A1.1, ← A2.1, ← A3.1] at st
        have hv0 : v + 0 = v := Int32.add_zero v
        by_cases hlt : k ≤ i
        · have n1 : ¬ i < k := by omega
          simp only [n1, if_false] at st
          by_cases w1 : b_X2_isAheadOf_0 (b + 16 + i) (b + 16 + k) C = 0
          · simp only [w1, if_true, true_iff] at st
            simp only [hlt, w1, st, e, hv0]
            simpa using ih v
          · simp only [w1, if_false, z1, false_iff] at st
            simp only [hlt, w1, st, e]
            simpa using ih (v + 1)
        · have n1 : i < k := by omega
          simp only [n1, if_true] at st
          by_cases w2 : b_X2_isAheadOf_0 (b + 16 + k) (b + 16 + i) C = 0
          · simp only [w2, if_true, z1, false_iff] at st
            simp only [hlt, w2, st, e, z1]
            simpa using ih (v + 1)
          · simp only [w2, if_false] at st
            by_cases w1 : b_X2_isAheadOf_0 (b + 16 + i) (b + 16 + k) C = 0
            · simp only [w1, if_true, true_iff] at st
              simp only [hlt, w1, w2, st, e, hv0]
              simpa using ih v
            · simp only [w1, if_false, z1, false_iff] at st
              simp only [hlt, w1, w2, st, e]
              simpa using ih (v + 1)
    · have hie : i = ic := by omega
      subst hie
      have hle : nI i ≤ nI i := nI_le (Nat.le_refl i) (by omega)
      simp only [o_X0_placeOf_4, o_X7_rankOf_4, b_X0_placeOf_4, b_X7_rankOf_4, e1, e2, hle]
      simp
theorem q_rank (R : Rg (vw C b) (dR (M 6)) N pc hc uc ic hr) {k : Nat} (hk : k < ic) : o_X0_placeOf_0 b (nI k) C ∧ o_X7_rankOf_0 (nI k) M ∧ b_X0_placeOf_0 b (nI k) C = b_X7_rankOf_0 (nI k) M := s_rank R hk 100 0 0 (by omega) (by have := gb R; omega)
theorem s_place (R : Rg (vw C b) (dR (M 6)) N pc hc uc ic hr) (x : Int32) : ∀ n i, i ≤ ic → ic < n + i → o_X0_inningsAtPlace_2 n b x (nI i) C ∧ o_X7_ranked_2 n x (nI i) M ∧ ((b_X0_inningsAtPlace_2 n b x (nI i) C = -1 ∧ b_X7_ranked_2 n x (nI i) M = (0, up2 M 5 8 1)) ∨ ∃ j, j < ic ∧ b_X0_inningsAtPlace_2 n b x (nI i) C = nI j ∧ b_X7_ranked_2 n x (nI i) M = (nI j, up2 M 5 8 0)) := by
  have hb := gb R
  intro n
  induction n with
  | zero => intro i h1 h2; omega
  | succ n ih =>
    intro i h1 h2
    have e1 := (g010 R).1
    have e2 := (g010 R).2
    have z1 : ¬ (1 : Int32) = 0 := by decide
    have of0 : ∀ w S, o_X7_fails_0 w S := fun w S => o_fails (M := S) (x := w)
    by_cases hi : i < ic
    · have hle : ¬ nI ic ≤ nI i := nI_ge hi (by omega)
      have Q := q_rank R hi
      have ih := ih (i + 1) (by omega) (by omega)
      rw [nI_succ] at ih
      have en : ¬ nI i = nI ic := fun e => by have := (nI_eq (a := i) (b := ic) (by omega) (by omega)).mp e; omega
      simp only [o_X0_inningsAtPlace_2, o_X7_ranked_2, b_X0_inningsAtPlace_2, b_X7_ranked_2, e1, e2, hle, Q.1, Q.2.1, Q.2.2]
      by_cases w : b_X7_rankOf_0 (nI i) M = x
      · simp only [w, b_X7_ranked_28, o_X7_ranked_28, b_X7_ranked_45, o_X7_ranked_45, b_X7_ranked_56, f_0, e2, en, of0]
        simp
        exact Or.inr ⟨i, hi, rfl⟩
      · simp only [w]
        simpa using ih
    · have hie : i = ic := by omega
      subst hie
      have hle : nI i ≤ nI i := nI_le (Nat.le_refl i) (by omega)
      simp only [o_X0_inningsAtPlace_2, o_X7_ranked_2, b_X0_inningsAtPlace_2, b_X7_ranked_2, e1, e2, hle, b_X7_ranked_28, o_X7_ranked_28, b_X7_ranked_45, o_X7_ranked_45, b_X7_ranked_56, f_1, of0, z1]
      simp
theorem s_horse (R : Rg (vw C b) (dR (M 6)) N pc hc uc ic hr) {p : Nat} (hp : p < pc) : ∀ n i (v : Int32), i ≤ hc → hc < n + i → (v = -1 ∨ ∃ j, j < hc ∧ v = nI j) → o_X0_bestRollerFor_4 n b (nI p) v (nI i) C ∧ o_X7_bestHorse_26 n (nI p) v (nI i) M ∧ ((b_X0_bestRollerFor_4 n b (nI p) v (nI i) C = -1 ∧ b_X7_bestHorse_26 n (nI p) v (nI i) M = (0, up2 M 5 8 2)) ∨ ∃ j, j < hc ∧ b_X0_bestRollerFor_4 n b (nI p) v (nI i) C = nI j ∧ b_X7_bestHorse_26 n (nI p) v (nI i) M = (nI j, up2 M 5 8 0)) := by
  have hb := gb R
  intro n
  induction n with
  | zero => intro i v h1 h2; omega
  | succ n ih =>
    intro i v h1 h2 hv
    have e1 := (g06 R).1
    have e2 := (g06 R).2
    have z1 : ¬ (1 : Int32) = 0 := by decide
    have of0 : ∀ w S, o_X7_fails_0 w S := fun w S => o_fails (M := S) (x := w)
    by_cases hi : i < hc
    · have hle : ¬ nI hc ≤ nI i := nI_ge hi (by omega)
      have hin : vp_in (nI i) 5 := vp_in_nI (by omega) (by decide)
      have ecl := nI_clamp (n := i) (by omega)
      have Q := v_roll R hi hp (x3 := 1) rfl
      have ih := fun w hw => ih (i + 1) w (by omega) (by omega) hw
      simp only [nI_succ] at ih
      simp only [o_X0_bestRollerFor_4, o_X7_bestHorse_26, b_X0_bestRollerFor_4, b_X7_bestHorse_26, e1, e2, hle, Q.1, Q.2.1]
      rcases Q.2.2 with ⟨w1, w2, -⟩ | ⟨w, d, hw1, hw2, hd, w1, -, -, w2⟩
      · have l0 : (0 : Int32) ≤ 0 := by decide
        have G := gH R hi
        have q0 : o_X7_ofHorse_0 (nI i) 0 M := oH (f := 0) (by omega) (by decide)
        have q2 : o_X7_ofHorse_0 (nI i) 2 M := oH (f := 2) (by omega) (by decide)
        have m0 : b_X7_ofHorse_0 (nI i) 0 M = dR (M 6) (11 + i) 0 := ofH (f := 0) (by omega) (by decide)
        have m2 : b_X7_ofHorse_0 (nI i) 2 M = dR (M 6) (11 + i) 2 := ofH (f := 2) (by omega) (by decide)
        have a0 := (vH (C := C) (b := b) (p := i) (f := 0) (by omega) (by decide) (by decide)).trans G.1.1
        have a2 := (vH (C := C) (b := b) (p := i) (f := 2) (by omega) (by decide) (by decide)).trans G.1.2.2.1
        simp only [w1, w2, l0, b_X0_bestRollerFor_27, o_X0_bestRollerFor_27, b_X0_bestRollerFor_57, o_X0_bestRollerFor_57, b_X0_bestRollerFor_59, o_X0_bestRollerFor_59, b_X7_bestHorse_70, o_X7_bestHorse_70, b_X7_bestHorse_97, o_X7_bestHorse_97, b_X7_bestHorse_99, o_X7_bestHorse_99, z1, hin, ecl, q0, q2, m0, m2]
        rcases hv with rfl | ⟨j, hj, rfl⟩
        · have n0 : ¬ (0 : Int32) ≤ -1 := by decide
          have p1 : (0 : Int32) < 1 := by decide
          simp only [n0, p1]
          simpa using ih _ (Or.inr ⟨i, hi, rfl⟩)
        · have n0 : (0 : Int32) ≤ nI j := nI_pos' (by omega)
          have n1 : ¬ nI j = -1 := nI_m1 (by omega)
          have K := gH R hj
          have r0 : o_X7_ofHorse_0 (nI j) 0 M := oH (f := 0) (by omega) (by decide)
          have r2 : o_X7_ofHorse_0 (nI j) 2 M := oH (f := 2) (by omega) (by decide)
          have k0 : b_X7_ofHorse_0 (nI j) 0 M = dR (M 6) (11 + j) 0 := ofH (f := 0) (by omega) (by decide)
          have k2 : b_X7_ofHorse_0 (nI j) 2 M = dR (M 6) (11 + j) 2 := ofH (f := 2) (by omega) (by decide)
          have c0 := (vH (C := C) (b := b) (p := j) (f := 0) (by omega) (by decide) (by decide)).trans K.1.1
          have c2 := (vH (C := C) (b := b) (p := j) (f := 2) (by omega) (by decide) (by decide)).trans K.1.2.2.1
          have jcl := nI_clamp (n := j) (by omega)
          have jin : vp_in (nI j) 5 := vp_in_nI (by omega) (by decide)
          obtain ⟨s, hs, es⟩ := G.2.2.1
          obtain ⟨s', hs', es'⟩ := K.2.2.1
          obtain ⟨t, ht, et⟩ := G.2.2.2.1
          obtain ⟨t', ht', et'⟩ := K.2.2.2.1
          have lt2 : (nI t' ≤ nI t) = (t' ≤ t) := propext (nI_leI (by omega) (by omega))
          have ls2 : (nI s ≤ nI s') = (s ≤ s') := propext (nI_leI (by omega) (by omega))
          have lse : (nI s = nI s') = (s = s') := propext (nI_eq (by omega) (by omega))
          simp only [n0, n1, r0, r2, k0, k2, jcl, jin, b_X1_isBetterThan_0, o_X1_isBetterThan_0, b_X1_isBetterThan_27, o_X1_isBetterThan_27, b_X1_isBetterThan_44, o_X1_isBetterThan_44, a0, a2, c0, c2, es, es', et, et', lt2, ls2, lse]
          rcases Nat.lt_trichotomy s s' with hlt | rfl | hgt
          · have d1 : ¬ 0 < nI s - nI s' := by
              intro h
              exact nI_neg hlt (by omega) (Int32.le_of_lt h)
            have d2 : ¬ nI s - nI s' = 0 := fun h => nI_neg hlt (by omega) (by rw [h]; decide)
            have d3 : ¬ s = s' := by omega
            have d4 : s ≤ s' := by omega
            simp only [d1, d2, d3, d4]
            simpa [bz] using ih _ (Or.inr ⟨j, hj, rfl⟩)
          · have d1 : nI s - nI s = 0 := Int32.sub_self _
            have d0 : ¬ (0 : Int32) < 0 := by decide
            by_cases h5 : t' ≤ t
            · simp only [d1, d0, h5]
              simpa [bz] using ih _ (Or.inr ⟨j, hj, rfl⟩)
            · simp only [d1, d0, h5]
              simpa [bz] using ih _ (Or.inr ⟨i, hi, rfl⟩)
          · have d1 : 0 < nI s - nI s' := by
              rw [nI_subI (by omega)]
              exact nI_lt (a := 0) (by omega) (by omega)
            have d3 : ¬ s = s' := by omega
            have d4 : ¬ s ≤ s' := by omega
            simp only [d1, d3, d4]
            simpa [bz] using ih _ (Or.inr ⟨i, hi, rfl⟩)
      · have l0 : ¬ nI w ≤ 0 := nI_nle (by omega) (by omega)
        have l1 : ¬ nI (1000 * w + d) = 0 := nI_ne0 (by omega) (by omega)
        simp only [w1, w2, l0, l1, b_X0_bestRollerFor_27, o_X0_bestRollerFor_27, b_X0_bestRollerFor_59, o_X0_bestRollerFor_59, b_X7_bestHorse_99, o_X7_bestHorse_99]
        simpa using ih _ hv
    · have hie : i = hc := by omega
      subst hie
      have hle : nI i ≤ nI i := nI_le (Nat.le_refl i) (by omega)
      have z2 : ¬ (2 : Int32) = 0 := by decide
      simp only [o_X0_bestRollerFor_4, o_X7_bestHorse_26, b_X0_bestRollerFor_4, b_X7_bestHorse_26, e1, e2, hle]
      rcases hv with rfl | ⟨j, hj, rfl⟩
      · have n0 : ¬ (0 : Int32) ≤ -1 := by decide
        simp only [n0, b_X7_bestHorse_115, o_X7_bestHorse_115, b_X7_bestHorse_126, f_2, of0, z1]
        simp
      · have n0 : (0 : Int32) ≤ nI j := nI_pos' (by omega)
        simp only [n0, b_X7_bestHorse_115, o_X7_bestHorse_115, b_X7_bestHorse_126, f_0, of0]
        simp
        exact Or.inr ⟨j, hj, rfl⟩
theorem s_pitch (R : Rg (vw C b) (dR (M 6)) N pc hc uc ic hr) (hN : N < 2 ^ 30) {u : Nat} (hu : u < uc) : ∀ n i (v x : Int32), i ≤ pc → pc < n + i → (v = -1 ∨ ∃ j, j < pc ∧ v = nI j ∧ x = dR (M 6) (7 + j) 1 - dR (M 6) (7 + j) 2) → o_X0_bestFitPitch_7 n b (nI u) v x (nI i) C ∧ o_X7_bestPitch_26 n (nI u) v (nI i) M ∧ ((b_X0_bestFitPitch_7 n b (nI u) v x (nI i) C = -1 ∧ b_X7_bestPitch_26 n (nI u) v (nI i) M = (0, up2 M 5 8 2)) ∨ ∃ j, j < pc ∧ b_X0_bestFitPitch_7 n b (nI u) v x (nI i) C = nI j ∧ b_X7_bestPitch_26 n (nI u) v (nI i) M = (nI j, up2 M 5 8 0)) := by
  have hb := gb R
  intro n
  induction n with
  | zero => intro i v x h1 h2; omega
  | succ n ih =>
    intro i v x h1 h2 hv
    have e1 := (g04 R).1
    have e2 := (g04 R).2
    have z1 : ¬ (1 : Int32) = 0 := by decide
    have of0 : ∀ w S, o_X7_fails_0 w S := fun w S => o_fails (M := S) (x := w)
    by_cases hi : i < pc
    · have hle : ¬ nI pc ≤ nI i := nI_ge hi (by omega)
      have hin : vp_in (nI i) 4 := vp_in_nI (by omega) (by decide)
      have ecl := nI_clamp (n := i) (by omega)
      obtain ⟨Q1, Q2, Q3, w, hw, Q4⟩ := q_call R hN hu hi
      have ih := fun w y hw => ih (i + 1) w y (by omega) (by omega) hw
      simp only [nI_succ] at ih
      have G := gP R hi
      have a1 := (vP (C := C) (b := b) (p := i) (f := 1) (by omega) (by decide) (by decide)).trans G.1.2.1
      have a2 := (vP (C := C) (b := b) (p := i) (f := 2) (by omega) (by decide) (by decide)).trans G.1.2.2.1
      have m1 : b_X7_of_0 (nI i) 1 M = dR (M 6) (7 + i) 1 := ofP (f := 1) (by omega) (by decide)
      have m2 : b_X7_of_0 (nI i) 2 M = dR (M 6) (7 + i) 2 := ofP (f := 2) (by omega) (by decide)
      have q1 : o_X7_of_0 (nI i) 1 M := oP (f := 1) (by omega) (by decide)
      have q2 : o_X7_of_0 (nI i) 2 M := oP (f := 2) (by omega) (by decide)
      simp only [o_X0_bestFitPitch_7, o_X7_bestPitch_26, b_X0_bestFitPitch_7, b_X7_bestPitch_26, e1, e2, hle, hin, ecl, Q1, Q2, Q3, Q4, a1, a2, m1, m2, q1, q2, b_X0_bestFitPitch_60, o_X0_bestFitPitch_60, b_X0_bestFitPitch_66, o_X0_bestFitPitch_66, b_X7_bestPitch_82, o_X7_bestPitch_82, b_X7_bestPitch_84, o_X7_bestPitch_84]
      by_cases hz : w = 0
      · subst hz
        have l0 : nI 0 = 0 := rfl
        have l1 : (0 : Int32) ≤ 0 := by decide
        simp only [l0, l1]
        rcases hv with rfl | ⟨j, hj, rfl, rfl⟩
        · have n0 : (-1 : Int32) < 0 := by decide
          simp only [n0]
          simpa using ih _ _ (Or.inr ⟨i, hi, rfl, rfl⟩)
        · have n0 : ¬ nI j < 0 := nI_pos (by omega)
          have n1 : ¬ nI j = -1 := nI_m1 (by omega)
          have k1 : b_X7_of_0 (nI j) 1 M = dR (M 6) (7 + j) 1 := ofP (f := 1) (by omega) (by decide)
          have k2 : b_X7_of_0 (nI j) 2 M = dR (M 6) (7 + j) 2 := ofP (f := 2) (by omega) (by decide)
          have r1 : o_X7_of_0 (nI j) 1 M := oP (f := 1) (by omega) (by decide)
          have r2 : o_X7_of_0 (nI j) 2 M := oP (f := 2) (by omega) (by decide)
          simp only [n0, n1, k1, k2, r1, r2]
          by_cases h5 : dR (M 6) (7 + i) 1 - dR (M 6) (7 + i) 2 ≤ dR (M 6) (7 + j) 1 - dR (M 6) (7 + j) 2
          · simp only [h5]
            simpa using ih _ _ (Or.inr ⟨j, hj, rfl, rfl⟩)
          · simp only [h5]
            simpa using ih _ _ (Or.inr ⟨i, hi, rfl, rfl⟩)
      · have l0 : ¬ nI w = 0 := nI_ne0 (by omega) (by omega)
        have l1 : ¬ nI w ≤ 0 := nI_nle (by omega) (by omega)
        simp only [l0, l1]
        simpa using ih _ _ hv
    · have hie : i = pc := by omega
      subst hie
      have hle : nI i ≤ nI i := nI_le (Nat.le_refl i) (by omega)
      have z2 : ¬ (2 : Int32) = 0 := by decide
      simp only [o_X0_bestFitPitch_7, o_X7_bestPitch_26, b_X0_bestFitPitch_7, b_X7_bestPitch_26, e1, e2, hle]
      rcases hv with rfl | ⟨j, hj, rfl, rfl⟩
      · have n0 : ¬ (0 : Int32) ≤ -1 := by decide
        simp only [n0, b_X7_bestPitch_100, o_X7_bestPitch_100, b_X7_bestPitch_111, f_2, of0, z1]
        simp
      · have n0 : (0 : Int32) ≤ nI j := nI_pos' (by omega)
        simp only [n0, b_X7_bestPitch_100, o_X7_bestPitch_100, b_X7_bestPitch_111, f_0, of0]
        simp
        exact Or.inr ⟨j, hj, rfl⟩
end

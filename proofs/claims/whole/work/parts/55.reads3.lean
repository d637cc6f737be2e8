/-! TEXTS: the call of read -/
section
variable {C M C2 M2 : Sx} {N : Nat}
theorem IvP.same (h : IvP N C M) (c1 : C2 1 1 = C 1 1) (c2 : C2 1 2 = C 1 2) (m : M2 5 6 = M 5 6) (hc : ∀ j, 135 ≤ j → C2 j = C j) (m7 : M2 7 = M 7) : IvP N C2 M2 := by
  obtain ⟨nx, cnt, p1, p2, p3, p4, p5, p6⟩ := h
  refine ⟨nx, cnt, p1, p2, by rw [c1, p3], by rw [c2, p4], by rw [m, p5], fun k hk => ?_⟩
  have := rx_le (nx := nx) (cnt := cnt) (k := k)
  have e2 : rowK M2 k = rowK M k := by unfold rowK; rw [m7]
  rw [vw_frame (C := C) (fun i hi => hc (rx nx cnt k + i) (by omega)), e2]
  exact p6 k hk
theorem IvP.up {B : Nat} (h : IvP N C M) (hB : N ≤ B) : IvP B C M := by
  obtain ⟨nx, cnt, p1, p2, p3, p4, p5, p6⟩ := h
  exact ⟨nx, cnt, p1, p2, p3, p4, p5, fun k hk => Rl_N (p6 k hk) hB⟩
theorem IvP.keep {x : Nat} (h : IvP N C M) (hx : alen x = 275) (hx7 : ¬ x = 7) (hx5 : ¬ x = 5) (R : Rl N (vw C 15) (dR (M x))) (hw : nb (M 5 7) = 0) : o_X4_keep_0 15 C ∧ o_X7_keeps_0 x M ∧ FK C (b_X4_keep_0 15 C) ∧ FL M (b_X7_keeps_0 x M) ∧ IvP N (b_X4_keep_0 15 C) (b_X7_keeps_0 x M) := by
  obtain ⟨nx, cnt, p1, p2, p3, p4, p5, p6⟩ := h
  obtain ⟨k1, k2, k3, k4, k5, k6, k7⟩ := k_cls p1 p2 p3 p4
  obtain ⟨l1, l2, l3, l4, l5⟩ := k_ref (M := M) (x := x) hx hx7 hx5 p2 p5 hw
  refine ⟨k1, l1, k2, l2, (nx + 1) % 8, min (cnt + 1) 8, Nat.mod_lt _ (by decide), by omega, k3, k4, l3, ?_⟩
  intro k hk
  by_cases hl : k < min (cnt + 1) 8 - 1
  · have e1 := l4 k hl
    have ix : rx ((nx + 1) % 8) (min (cnt + 1) 8) k = rx nx cnt (if cnt = 8 then k + 1 else k) := by
      unfold rx
      split <;> omega
    have hm : (nx + 8 - cnt + (if cnt = 8 then k + 1 else k)) % 8 < 8 := Nat.mod_lt _ (by decide)
    have hne : ¬ (nx + 8 - cnt + (if cnt = 8 then k + 1 else k)) % 8 = nx := by
      split <;> omega
    have e2 := k6 _ hm hne
    rw [e1, ix]
    unfold rx
    rw [e2]
    exact p6 (if cnt = 8 then k + 1 else k) (by split <;> omega)
  · have hk2 : k = min (cnt + 1) 8 - 1 := by omega
    have ix : rx ((nx + 1) % 8) (min (cnt + 1) 8) k = 135 + 40 * nx := by
      unfold rx
      omega
    rw [ix, k5, hk2, l5]
    exact R
theorem Inv.mk2 {B : Nat} (I : Inv N C M) (hB : N ≤ B) (h1 : Rl B (vw C2 15) (dR (M2 6))) (h03 : C2 0 3 = C 0 3) (h55 : M2 5 5 = M 5 5) (hs : ∀ j, 95 ≤ j → j < 135 → C2 j = C j) (h8 : M2 8 = M 8) (hP : IvP B C2 M2) (hR : IvR C2 M2) (c1 : C2 3 1 = 0) (m13 : M2 5 13 = 0) (e : C2 3 2 = M2 5 14) (w : nb (M2 5 7) = 0) : Inv B C2 M2 := by
  refine ⟨h1, ?_, hP, hR, ⟨0, by omega, c1, m13, fun k hk => absurd hk (by omega)⟩, e, w⟩
  obtain ⟨-, ⟨s1, s2⟩, -⟩ := I
  unfold IvS
  rw [h03, h55, vw_frame (C := C) (fun i hi => hs (95 + i) (by omega) (by omega)), h8]
  exact ⟨s1, fun q => Rl_N (s2 q) hB⟩
theorem r138 {g w : Int32} {S : Sx} : (b_X7_read_138 g w S).2 = up2 S 5 8 w := by
  unfold b_X7_read_138 b_X7_read_150
  split <;> rfl
theorem L_read (I : Inv N C M) (hN : N + 72 * 61 < 2 ^ 30) : o_X6_read_0 C ∧ o_X7_read_0 M ∧ Ok (N + 72 * 61) [(2, 1), (3, 2)] C M (b_X6_read_0 C) (b_X7_read_0 M) := by
  have of0 : ∀ w S, o_X7_fails_0 w S := fun w S => o_fails (M := S) (x := w)
  obtain ⟨i1, i2, i3, i4, ⟨L, t1, t2, t3, t4⟩, i6, i7⟩ := id I
  obtain ⟨B1, B2, B3⟩ := q_bec (S := C) (b := 55) (c := 15) (by omega)
  have P : PS (up2 (up2 (b_X0_become_0 55 15 C) 3 4 0) 3 3 0) (up2 (up2 M 5 15 0) 5 17 0) L 0 := by
    refine ⟨?_, ?_, ?_, ?_, Nat.zero_le _, t1, fun k hk => ?_⟩
    · rw [← t2, ← B2 3 (by omega)]; simp [up2]
    · rw [← t3]; simp [up2]
    · simp [up2]; rfl
    · simp [up2]; rfl
    · rw [up2_ne (by decide), up2_ne (by decide), up2_ne (by decide), up2_ne (by decide), B2 4 (by omega)]
      exact t4 k hk
  have vA : vw (up2 (up2 (b_X0_become_0 55 15 C) 3 4 0) 3 3 0) 55 = vw C 15 := by
    rw [vw_frame (C := b_X0_become_0 55 15 C) (fun i hi => by rw [up2_ne (by omega), up2_ne (by omega)])]
    exact B3
  have cA : ∀ j, ¬ j = 3 → (j < 55 ∨ 95 ≤ j) → up2 (up2 (b_X0_become_0 55 15 C) 3 4 0) 3 3 0 j = C j := fun j a b => by rw [up2_ne a, up2_ne a, B2 j b]
  have H := rd_loop (L := L) t1 100 100 0 0 60 _ _ 0 N P (by omega) (by simp [up2]; rfl) (by simp [up2]; rfl) (by omega) (by omega) (by omega) (by omega) (by omega) (fun _ => ⟨fun j => if j = 5 then (fun _ => 1) else M j, by show ¬ nb (1 : Int32) = 0; decide, by rw [vA]; exact i1⟩)
  obtain ⟨o1, o2, v', C', f, M', e1, e2, fe, ge, -, H⟩ := H
  have ec : b_X3_carryOutAll_0 55 (b_X0_become_0 55 15 C) = (v', C') := e1
  have em : b_X7_isText_0 M = (f, M') := e2
  have oc : o_X3_carryOutAll_0 55 (b_X0_become_0 55 15 C) := o1
  have om : o_X7_isText_0 M := o2
  have mj : ∀ j, ¬ j = 5 → ¬ j = 12 → M' j = M j := fun j a b => by rw [ge.1 j a b, up2_ne a, up2_ne a]
  have m5 : ∀ k, ¬ k = 15 → ¬ k = 17 → M' 5 k = M 5 k := fun k a b => by rw [ge.2 k a b]; simp [up2, a, b]
  have cj : ∀ j, ¬ j = 3 → (j < 55 ∨ 95 ≤ j) → up2 C' 3 1 0 j = C j := fun j a b => by rw [up2_ne a, fe.1 j a b, cA j a b]
  have c31 : up2 C' 3 1 0 3 1 = 0 := by simp [up2]
  have v15 : vw (up2 C' 3 1 0) 15 = vw C 15 := vw_frame (fun i hi => cj (15 + i) (by omega) (by omega))
  rcases H with ⟨h1, h2, h3⟩ | ⟨h1, h2, t', h3, h4, h5, h6, -, h8⟩
  · subst h1
    subst h2
    have n1 : ¬ (-2 : Int32) = -1 := by decide
    have eC : b_X6_read_0 C = (2, 0, up2 C' 3 1 0) := by
      unfold b_X6_read_0 b_X6_read_22 b_X6_read_43
      rw [ec]
      dsimp only
      rw [if_neg n1, adm_m2 (C := up2 C' 3 1 0) rfl]
      rfl
    have eM : b_X7_read_0 M = (0, up2 (up2 (up2 M' 5 14 (M' 5 15)) 5 13 0) 5 8 1) := by
      unfold b_X7_read_0 b_X7_read_18 b_X7_read_36
      rw [em]
      dsimp only
      rw [if_pos rfl, if_pos rfl, f_1]
      rfl
    refine ⟨⟨B1, oc, ?_⟩, ⟨om, ?_⟩, ?_⟩
    · rw [ec]
      dsimp only
      refine ⟨fun e => absurd e n1, fun _ => ⟨o_adm (fun e => absurd e (by decide)) (Or.inr (by rw [set_m2]; simp)), fun e => ?_⟩⟩
      rw [adm_m2 (C := up2 C' 3 1 0) rfl] at e
      exact absurd e (by simp)
    · rw [em]
      refine ⟨fun _ => ⟨fun _ => ⟨of0 _ _, ?_⟩, fun e => absurd rfl e⟩, fun e => absurd rfl e⟩
      rw [f_1]
      exact ⟨fun e => absurd e z10, fun _ => trivial⟩
    · rw [eC, eM]
      have mk : ∀ k, ¬ k = 15 → ¬ k = 17 → ¬ k = 14 → ¬ k = 13 → ¬ k = 8 → up2 (up2 (up2 M' 5 14 (M' 5 15)) 5 13 0) 5 8 1 5 k = M 5 k := fun k a b c d e => by
        rw [← m5 k a b]
        simp [up2, c, d, e]
      have ml : ∀ j, ¬ j = 5 → ¬ j = 12 → up2 (up2 (up2 M' 5 14 (M' 5 15)) 5 13 0) 5 8 1 j = M j := fun j a b => by
        rw [up2_ne a, up2_ne a, up2_ne a, mj j a b]
      refine ⟨Or.inr ⟨2, 1, by simp, rfl, by simp [up2]; rfl⟩, fun j a b => cj j (by omega) (by omega), fun j hj => ml j (by omega) (by omega), ?_⟩
      refine I.mk2 (by omega) ?_ (by show up2 C' 3 1 0 0 3 = C 0 3; rw [cj 0 (by decide) (by omega)]) (mk 5 (by decide) (by decide) (by decide) (by decide) (by decide)) (fun j a b => cj j (by omega) (by omega)) (ml 8 (by decide) (by decide)) ((i3.same (by rw [cj 1 (by decide) (by omega)]) (by rw [cj 1 (by decide) (by omega)]) (mk 6 (by decide) (by decide) (by decide) (by decide) (by decide)) (fun j a => cj j (by omega) (by omega)) (ml 7 (by decide) (by decide))).up (by omega)) ?_ c31 (by simp [up2]) ?_ ?_
      · show Rl (N + 72 * 61) (vw (up2 C' 3 1 0) 15) (dR (up2 (up2 (up2 M' 5 14 (M' 5 15)) 5 13 0) 5 8 1 6))
        rw [v15, ml 6 (by decide) (by decide)]
        exact Rl_N i1 (by omega)
      · show IvR (up2 C' 3 1 0) (up2 (up2 (up2 M' 5 14 (M' 5 15)) 5 13 0) 5 8 1)
        unfold IvR at *
        rw [cj 0 (by decide) (by omega), mk 10 (by decide) (by decide) (by decide) (by decide) (by decide), mk 11 (by decide) (by decide) (by decide) (by decide) (by decide)]
        exact i4
      · show up2 C' 3 1 0 3 2 = up2 (up2 (up2 M' 5 14 (M' 5 15)) 5 13 0) 5 8 1 5 14
        have e : up2 C' 3 1 0 3 2 = C' 3 2 := by simp [up2]
        rw [e, h3]
        simp [up2]
      · show nb (up2 (up2 (up2 M' 5 14 (M' 5 15)) 5 13 0) 5 8 1 5 7) = 0
        rw [mk 7 (by decide) (by decide) (by decide) (by decide) (by decide)]
        exact i7
  · subst h1
    have Q := cop0 (S := up2 (up2 (up2 M' 5 14 (-1)) 5 13 0) 5 8 0) (x := 6) (y := 9) (by decide) rfl rfl
    obtain ⟨Q1, Q2⟩ := Q
    generalize hX0 : b_X7_copies_0 6 0 9 0 (up2 (up2 (up2 M' 5 14 (-1)) 5 13 0) 5 8 0) = X0 at Q2
    have x05 : ∀ k, ¬ k = 14 → ¬ k = 13 → ¬ k = 8 → X0 5 k = M' 5 k := fun k a b c => by
      rw [Q2, upA_ne (by decide)]
      simp [up2, a, b, c]
    have x0j : ∀ j, ¬ j = 5 → ¬ j = 9 → X0 j = M' j := fun j a b => by rw [Q2, upA_ne b, up2_ne a, up2_ne a, up2_ne a]
    have x09 : dR (X0 9) = dR (M 6) := by
      rw [Q2, upA_at, dR_low, up2_ne (by decide), up2_ne (by decide), up2_ne (by decide), mj 6 (by decide) (by decide)]
    have x058 : X0 5 8 = 0 := by rw [Q2, upA_ne (by decide)]; simp [up2]
    have x0513 : X0 5 13 = 0 := by rw [Q2, upA_ne (by decide)]; simp [up2]
    have x0514 : X0 5 14 = -1 := by rw [Q2, upA_ne (by decide)]; simp [up2]
    have eM0 : b_X7_read_0 M = b_X7_read_71 100 0 0 (up2 (up2 X0 5 7 1) 5 9 0) := by
      unfold b_X7_read_0 b_X7_read_18 b_X7_read_36 b_X7_read_57
      rw [em]
      dsimp only
      rw [if_neg z10, if_neg z10, f_0]
      dsimp only
      rw [if_pos rfl, hX0]
    have oM0 : o_X7_read_71 100 0 0 (up2 (up2 X0 5 7 1) 5 9 0) → o_X7_read_0 M := by
      intro o
      refine ⟨om, ?_⟩
      rw [em]
      refine ⟨fun e => absurd e z10, fun _ => ⟨fun e => absurd e z10, fun _ => ⟨of0 _ _, ?_⟩⟩⟩
      rw [f_0]
      refine ⟨fun _ => ⟨Q1, ?_⟩, fun e => absurd rfl e⟩
      rw [hX0]
      exact o
    have E := h8 rfl (up2 (up2 X0 5 7 1) 5 9 0) 0 100 (by simp [up2]; decide) (by simpa [up2] using x058) (by
      have e : up2 (up2 X0 5 7 1) 5 9 0 5 17 = X0 5 17 := by simp [up2]
      rw [e, x05 17 (by decide) (by decide) (by decide), h6]) (fun k hk => by rw [up2_ne (by decide), up2_ne (by decide), x0j 12 (by decide) (by decide)]) (by
      rw [vA, up2_ne (by decide), up2_ne (by decide), x0j 6 (by decide) (by decide), mj 6 (by decide) (by decide)]
      exact i1) (by omega)
    obtain ⟨X', g, E1, E2, E3, E4⟩ := E
    have E1' : o_X7_read_100 g X' → o_X7_read_71 100 0 0 (up2 (up2 X0 5 7 1) 5 9 0) := E1
    have E2' : b_X7_read_71 100 0 0 (up2 (up2 X0 5 7 1) 5 9 0) = b_X7_read_100 g X' := E2
    rw [E2'] at eM0
    have xj : ∀ j, ¬ j = 5 → ¬ j = 6 → ¬ j = 9 → ¬ j = 12 → up2 X' 5 7 0 j = M j := fun j a b c d => by
      rw [up2_ne a, E3.1 j a b, up2_ne a, up2_ne a, x0j j a c, mj j a d]
    have x9 : dR (up2 X' 5 7 0 9) = dR (M 6) := by
      rw [up2_ne (by decide), E3.1 9 (by decide) (by decide), up2_ne (by decide), up2_ne (by decide), x09]
    have x5 : ∀ k, (k < 7 ∨ (12 ≤ k ∧ ¬ k = 13 ∧ ¬ k = 14 ∧ ¬ k = 15 ∧ ¬ k = 17)) → up2 X' 5 7 0 5 k = M 5 k := fun k hk => by
      have a7 : ¬ k = 7 := by omega
      have a9 : ¬ k = 9 := by omega
      have e : up2 X' 5 7 0 5 k = X' 5 k := by simp [up2, a7]
      have e2 : up2 (up2 X0 5 7 1) 5 9 0 5 k = X0 5 k := by simp [up2, a7, a9]
      rw [e, E3.2 k (by omega), e2, x05 k (by omega) (by omega) (by omega), m5 k (by omega) (by omega)]
    have x57 : nb (up2 X' 5 7 0 5 7) = 0 := by
      have e : up2 X' 5 7 0 5 7 = 0 := by simp [up2]
      rw [e]
      decide
    have x513 : up2 X' 5 7 0 5 13 = 0 := by
      have e : up2 X' 5 7 0 5 13 = X' 5 13 := by simp [up2]
      have e2 : up2 (up2 X0 5 7 1) 5 9 0 5 13 = X0 5 13 := by simp [up2]
      rw [e, E3.2 13 (by omega), e2, x0513]
    have x514 : up2 X' 5 7 0 5 14 = -1 := by
      have e : up2 X' 5 7 0 5 14 = X' 5 14 := by simp [up2]
      have e2 : up2 (up2 X0 5 7 1) 5 9 0 5 14 = X0 5 14 := by simp [up2]
      rw [e, E3.2 14 (by omega), e2, x0514]
    have x517 : up2 X' 5 7 0 5 17 = nI t' := by
      have e : up2 X' 5 7 0 5 17 = X' 5 17 := by simp [up2]
      have e2 : up2 (up2 X0 5 7 1) 5 9 0 5 17 = X0 5 17 := by simp [up2]
      rw [e, E3.2 17 (by omega), e2, x05 17 (by decide) (by decide) (by decide), h6]
    have e8 : up2 X' 5 7 0 5 8 = X' 5 8 := by simp [up2]
    have x10 : up2 (up2 X0 5 7 1) 5 9 0 5 10 = M 5 10 := by
      have e2 : up2 (up2 X0 5 7 1) 5 9 0 5 10 = X0 5 10 := by simp [up2]
      rw [e2, x05 10 (by decide) (by decide) (by decide), m5 10 (by decide) (by decide)]
    have x11 : up2 (up2 X0 5 7 1) 5 9 0 5 11 = M 5 11 := by
      have e2 : up2 (up2 X0 5 7 1) 5 9 0 5 11 = X0 5 11 := by simp [up2]
      rw [e2, x05 11 (by decide) (by decide) (by decide), m5 11 (by decide) (by decide)]
    have y9 : up2 X' 5 7 0 5 9 = X' 5 9 := by simp [up2]
    have y10 : up2 X' 5 7 0 5 10 = X' 5 10 := by simp [up2]
    have y11 : up2 X' 5 7 0 5 11 = X' 5 11 := by simp [up2]
    have y6 : up2 X' 5 7 0 6 = X' 6 := up2_ne (by decide)
    unfold b_X7_read_100 at eM0
    unfold o_X7_read_100 at E1'
    generalize up2 X' 5 7 0 = S1 at *
    have c32 : up2 C' 3 1 0 3 2 = -1 := by
      rw [← h2]
      simp [up2]
    have c33 : up2 C' 3 1 0 3 3 = nI t' := by
      rw [← h5]
      simp [up2]
    have IP : IvP N (up2 C' 3 1 0) S1 := i3.same (by rw [cj 1 (by decide) (by omega)]) (by rw [cj 1 (by decide) (by omega)]) (x5 6 (by omega)) (fun j a => cj j (by omega) (by omega)) (xj 7 (by decide) (by decide) (by decide) (by decide))
    have W := cop0 (S := S1) (x := 9) (y := 6) (by decide) rfl rfl
    -- the row laid back, for the two ends that throw
    have BACK : ∀ (k : Int32) (D : Sx), (∀ j, ¬ j = 0 → D j = up2 C' 3 1 0 j) → D 0 3 = C 0 3 → IvR D (up2 (b_X7_copies_0 9 0 6 0 S1) 5 8 k) → Inv (N + 72 * 61) D (up2 (b_X7_copies_0 9 0 6 0 S1) 5 8 k) := by
      intro k D hD hD3 hR
      have d5 : ∀ e, ¬ e = 8 → up2 (b_X7_copies_0 9 0 6 0 S1) 5 8 k 5 e = S1 5 e := fun e a => by
        rw [W.2]
        simp [up2, upA, a]
      have dj : ∀ j, ¬ j = 5 → ¬ j = 6 → up2 (b_X7_copies_0 9 0 6 0 S1) 5 8 k j = S1 j := fun j a b => by
        rw [up2_ne a, W.2, upA_ne b]
      refine I.mk2 (by omega) ?_ hD3 (by rw [d5 5 (by decide), x5 5 (by omega)]) (fun j a b => by rw [hD j (by omega), cj j (by omega) (by omega)]) (by rw [dj 8 (by decide) (by decide), xj 8 (by decide) (by decide) (by decide) (by decide)]) ((IP.same (by rw [hD 1 (by decide)]) (by rw [hD 1 (by decide)]) (d5 6 (by decide)) (fun j a => hD j (by omega)) (dj 7 (by decide) (by decide))).up (by omega)) hR (by rw [hD 3 (by decide)]; exact c31) (by rw [d5 13 (by decide), x513]) (by rw [hD 3 (by decide), c32, d5 14 (by decide), x514]) (by rw [d5 7 (by decide)]; exact x57)
      rw [vw_frame (C := up2 C' 3 1 0) (fun i hi => hD (15 + i) (by omega)), v15, up2_ne (by decide), W.2, upA_at, dR_low, x9]
      exact Rl_N i1 (by omega)
    have FB : ∀ (k : Int32), FMl M (up2 (b_X7_copies_0 9 0 6 0 S1) 5 8 k) := fun k j hj => by
      rw [up2_ne (by omega), W.2, upA_ne (by omega), xj j (by omega) (by omega) (by omega) (by omega)]
    rcases E4 with ⟨q1, q2, q3, q4, q5⟩ | ⟨q1, ⟨k, k1, k2, q2⟩, q3, q4, q5⟩ | ⟨w, d, w1, w2, d1, q1, ⟨k, k1, k2, q2⟩, q3, q4, q5⟩
    · subst q1
      have z00 : (0 : Int32) ≤ 0 := by decide
      obtain ⟨k1, k2, k3, k4, k5⟩ := IP.keep (x := 9) rfl (by decide) (by decide) (by rw [v15, x9]; exact i1) x57
      rw [e8, q2, if_pos z00] at eM0
      have oM : o_X7_read_0 M := by
        refine oM0 (E1' ⟨fun _ => ⟨k2, trivial⟩, fun e => ?_⟩)
        rw [e8, q2] at e
        exact absurd z00 e
      obtain ⟨D1, D2, D3⟩ := q_bec (S := b_X4_keep_0 15 (up2 C' 3 1 0)) (b := 15) (c := 55) (by omega)
      have n1 : ¬ (0 : Int32) = -1 := by decide
      have eC : b_X6_read_0 C = (0, b_X0_become_0 15 55 (b_X4_keep_0 15 (up2 C' 3 1 0)) 3 3, b_X0_become_0 15 55 (b_X4_keep_0 15 (up2 C' 3 1 0))) := by
        unfold b_X6_read_0 b_X6_read_22 b_X6_read_43 b_X6_read_46
        rw [ec]
        dsimp only
        rw [if_neg n1, adm_0 (C := up2 C' 3 1 0) rfl]
        dsimp only
        rw [if_pos rfl]
      refine ⟨⟨B1, oc, ?_⟩, oM, ?_⟩
      · rw [ec]
        dsimp only
        refine ⟨fun e => absurd e n1, fun _ => ⟨o_adm (fun _ => k1) (Or.inl rfl), fun _ => ?_⟩⟩
        rw [adm_0 (C := up2 C' 3 1 0) rfl]
        dsimp only
        unfold o_X6_read_46
        exact ⟨D1, trivial⟩
      · rw [eC, eM0]
        generalize b_X7_keeps_0 9 S1 = Kr at *
        generalize b_X4_keep_0 15 (up2 C' 3 1 0) = K at *
        generalize b_X0_become_0 15 55 K = Z at *
        have zj : ∀ j, ¬ j = 1 → ¬ j = 3 → (j < 15 ∨ 95 ≤ j) → j < 135 → Z j = C j := fun j a b c d => by rw [D2 j (by omega), k3 j a d, cj j b (by omega)]
        have z3 : ∀ e, Z 3 e = up2 C' 3 1 0 3 e := fun e => by rw [D2 3 (by omega), k3 3 (by decide) (by decide)]
        have v55 : vw K 55 = vw C' 55 := vw_frame (fun i hi => by rw [k3 (55 + i) (by omega) (by omega), up2_ne (by omega)])
        refine ⟨Or.inl ⟨rfl, ?_, ?_⟩, fun j a b => zj j (by omega) (by omega) (by omega) (by omega), fun j hj => ?_, ?_⟩
        · show Kr 5 8 = 0
          rw [k4.2 8 (by decide), e8, q2]
        · show Z 3 3 = Kr 5 17
          rw [z3, c33, k4.2 17 (by decide), x517]
        · show Kr j = M j
          rw [k4.1 j (by omega) (by omega), xj j (by omega) (by omega) (by omega) (by omega)]
        · refine I.mk2 (by omega) ?_ (by show Z 0 3 = C 0 3; rw [zj 0 (by decide) (by decide) (by omega) (by omega)]) (by show Kr 5 5 = M 5 5; rw [k4.2 5 (by decide), x5 5 (by omega)]) (fun j a b => zj j (by omega) (by omega) (by omega) (by omega)) (by show Kr 8 = M 8; rw [k4.1 8 (by decide) (by decide), xj 8 (by decide) (by decide) (by decide) (by decide)]) ((k5.same (by show Z 1 1 = K 1 1; rw [D2 1 (by omega)]) (by show Z 1 2 = K 1 2; rw [D2 1 (by omega)]) rfl (fun j a => D2 j (by omega)) rfl).up (by omega)) ?_ (by show Z 3 1 = 0; rw [z3, c31]) (by show Kr 5 13 = 0; rw [k4.2 13 (by decide), x513]) (by show Z 3 2 = Kr 5 14; rw [z3, c32, k4.2 14 (by decide), x514]) (by show nb (Kr 5 7) = 0; rw [k4.2 7 (by decide)]; exact x57)
          · show Rl (N + 72 * 61) (vw Z 15) (dR (Kr 6))
            rw [D3, v55, k4.1 6 (by decide) (by decide), y6]
            exact Rl_N q5 (by omega)
          · show IvR Z Kr
            unfold IvR at *
            rw [zj 0 (by decide) (by decide) (by omega) (by omega), k4.2 10 (by decide), k4.2 11 (by decide), y10, y11, q3, q4, x10, x11]
            exact i4
    · have n8 : ¬ nI k ≤ 0 := nI_nle (by omega) (by omega)
      have n9 : nb (b_X7_copies_0 9 0 6 0 S1 5 9) = 0 := by
        rw [W.2, upA_ne (by decide), y9, q3]
        have e2 : up2 (up2 X0 5 7 1) 5 9 0 5 9 = 0 := by simp [up2]
        rw [e2]
        decide
      rw [e8, q2, if_neg n8, if_pos n9] at eM0
      have oM : o_X7_read_0 M := by
        refine oM0 (E1' ⟨fun e => ?_, fun _ => ⟨W.1, trivial⟩⟩)
        rw [e8, q2] at e
        exact absurd e n8
      have eM : (b_X7_read_0 M).2 = up2 (b_X7_copies_0 9 0 6 0 S1) 5 8 1 := by rw [eM0, r138]
      have eC : b_X6_read_0 C = (2, 0, up2 C' 3 1 0) ∧ o_X6_read_22 v' C' := by
        unfold b_X6_read_0 b_X6_read_22 b_X6_read_43 o_X6_read_22 o_X6_read_43
        rw [ec]
        dsimp only
        have oa : o_X6_admit_0 (-2) (up2 C' 3 1 0) := o_adm (fun e => absurd e (by decide)) (Or.inr (by rw [set_m2]; simp))
        have ob : (b_X6_admit_0 (-2) (up2 C' 3 1 0)).1 = 0 → o_X6_read_46 (b_X6_admit_0 (-2) (up2 C' 3 1 0)).2.2 := fun e => by
          rw [adm_m2 (C := up2 C' 3 1 0) rfl] at e
          exact absurd e (by simp)
        have n1 : ¬ (-2 : Int32) = -1 := by decide
        rcases q1 with rfl | rfl
        · rw [if_pos rfl]
          refine ⟨?_, fun _ => ⟨oa, ob⟩, fun e => absurd rfl e⟩
          rw [adm_m2 (C := up2 C' 3 1 0) rfl]
          rfl
        · rw [if_neg n1]
          refine ⟨?_, fun e => absurd e n1, fun _ => ⟨oa, ob⟩⟩
          rw [adm_m2 (C := up2 C' 3 1 0) rfl]
          rfl
      refine ⟨⟨B1, oc, by rw [ec]; exact eC.2⟩, oM, ?_⟩
      rw [eC.1]
      unfold Ok
      rw [eM]
      refine ⟨Or.inr ⟨2, 1, by simp, rfl, by simp [up2]; rfl⟩, fun j a b => cj j (by omega) (by omega), FB 1, BACK 1 _ (fun _ _ => rfl) (by show up2 C' 3 1 0 0 3 = C 0 3; rw [cj 0 (by decide) (by omega)]) ?_⟩
      have d5 : ∀ e, ¬ e = 8 → up2 (b_X7_copies_0 9 0 6 0 S1) 5 8 1 5 e = S1 5 e := fun e a => by
        rw [W.2]
        simp [up2, upA, a]
      show IvR (up2 C' 3 1 0) (up2 (b_X7_copies_0 9 0 6 0 S1) 5 8 1)
      unfold IvR at *
      rw [cj 0 (by decide) (by omega), d5 10 (by decide), d5 11 (by decide), y10, y11, q4, q5, x10, x11]
      exact i4
    · have n8 : ¬ nI k ≤ 0 := nI_nle (by omega) (by omega)
      have n9 : ¬ nb (b_X7_copies_0 9 0 6 0 S1 5 9) = 0 := by
        rw [W.2, upA_ne (by decide), y9, q3]
        decide
      rw [e8, q2, if_neg n8, if_neg n9] at eM0
      have oM : o_X7_read_0 M := by
        refine oM0 (E1' ⟨fun e => ?_, fun _ => ⟨W.1, trivial⟩⟩)
        rw [e8, q2] at e
        exact absurd e n8
      have eM : (b_X7_read_0 M).2 = up2 (b_X7_copies_0 9 0 6 0 S1) 5 8 2 := by rw [eM0, r138]
      have n1 : ¬ v' = -1 := by rw [q1]; exact nI_m1 (by omega)
      have n0 : ¬ v' = 0 := by rw [q1]; exact nI_ne0 (by omega) (by omega)
      have A := adm_r (C := up2 C' 3 1 0) w1 w2 d1 q1
      have eC : b_X6_read_0 C = (3, 0, up2 (up2 (up2 C' 3 1 0) 0 6 (nI w)) 0 7 (nI d)) ∧ o_X6_read_22 v' C' := by
        unfold b_X6_read_0 b_X6_read_22 b_X6_read_43 o_X6_read_22 o_X6_read_43
        rw [ec]
        dsimp only
        rw [if_neg n1, A]
        refine ⟨rfl, fun e => absurd e n1, fun _ => ⟨o_adm (fun e => absurd e n0) (Or.inr (by rw [q1, set_r w1 (by omega) d1]; simp)), fun e => ?_⟩⟩
        exact absurd e (by simp)
      refine ⟨⟨B1, oc, by rw [ec]; exact eC.2⟩, oM, ?_⟩
      rw [eC.1]
      unfold Ok
      rw [eM]
      have u0 : ∀ j, ¬ j = 0 → up2 (up2 (up2 C' 3 1 0) 0 6 (nI w)) 0 7 (nI d) j = up2 C' 3 1 0 j := fun j hj => by rw [up2_ne hj, up2_ne hj]
      refine ⟨Or.inr ⟨3, 2, by simp, rfl, by simp [up2]; rfl⟩, fun j a b => ?_, FB 2, BACK 2 _ u0 ?_ ?_⟩
      · show up2 (up2 (up2 C' 3 1 0) 0 6 (nI w)) 0 7 (nI d) j = C j
        rw [u0 j (by omega), cj j (by omega) (by omega)]
      · rw [← cj 0 (by decide) (by omega)]
        simp [up2]
      · have d5 : ∀ e, ¬ e = 8 → up2 (b_X7_copies_0 9 0 6 0 S1) 5 8 2 5 e = S1 5 e := fun e a => by
          rw [W.2]
          simp [up2, upA, a]
        refine Or.inr ⟨?_, ?_, ?_, ?_⟩
        · rw [d5 10 (by decide), y10, q4]
          simp [up2]
        · rw [d5 11 (by decide), y11, q5]
          simp [up2]
        · rw [d5 10 (by decide), y10, q4]
          exact nI_ne0 (by omega) (by omega)
        · rw [d5 10 (by decide), y10, q4]
          exact nI_m1 (by omega)
end

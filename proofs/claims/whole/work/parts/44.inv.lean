/-! THE INVARIANT of a run: class's cells in C, reference's in M -/
def rx (nx cnt k : Nat) : Nat := 135 + 40 * ((nx + 8 - cnt + k) % 8)
def rowK (M : Sx) (k : Nat) : Nat → Int32 := fun j => M 7 (275 * k + j)
def IvP (N : Nat) (C M : Sx) : Prop := ∃ nx cnt, nx < 8 ∧ cnt ≤ 8 ∧ C 1 1 = nI nx ∧ C 1 2 = nI cnt ∧ M 5 6 = nI cnt ∧ ∀ k, k < cnt → Rl N (vw C (rx nx cnt k)) (dR (rowK M k))
def IvR (C M : Sx) : Prop := (C 0 6 = -1 ∧ M 5 10 = 0) ∨ (C 0 6 = M 5 10 ∧ C 0 7 = M 5 11 ∧ ¬ M 5 10 = 0 ∧ ¬ M 5 10 = -1)
def IvT (C M : Sx) : Prop := ∃ L, L ≤ 60 ∧ C 3 1 = nI L ∧ M 5 13 = nI L ∧ ∀ k, k < L → C 4 k = M 11 k
def IvS (N : Nat) (C M : Sx) : Prop := nb (C 0 3) = nb (M 5 5) ∧ (¬ nb (C 0 3) = 0 → Rl N (vw C 95) (dR (M 8)))
def Inv (N : Nat) (C M : Sx) : Prop := Rl N (vw C 15) (dR (M 6)) ∧ IvS N C M ∧ IvP N C M ∧ IvR C M ∧ IvT C M ∧ C 3 2 = M 5 14 ∧ nb (M 5 7) = 0
def AgC (C C' : Sx) : Prop := C' 0 3 = C 0 3 ∧ C' 0 6 = C 0 6 ∧ C' 0 7 = C 0 7 ∧ C' 1 1 = C 1 1 ∧ C' 1 2 = C 1 2 ∧ C' 3 1 = C 3 1 ∧ C' 3 2 = C 3 2 ∧ C' 4 = C 4 ∧ ∀ j, 15 ≤ j → (j < 55 ∨ 95 ≤ j) → C' j = C j
def AgM (M M' : Sx) : Prop := M' 5 5 = M 5 5 ∧ M' 5 6 = M 5 6 ∧ M' 5 7 = M 5 7 ∧ M' 5 10 = M 5 10 ∧ M' 5 11 = M 5 11 ∧ M' 5 13 = M 5 13 ∧ M' 5 14 = M 5 14 ∧ M' 6 = M 6 ∧ M' 7 = M 7 ∧ M' 8 = M 8 ∧ M' 11 = M 11
theorem rx_le {nx cnt k : Nat} : 135 ≤ rx nx cnt k ∧ rx nx cnt k + 40 ≤ 455 := by
  unfold rx
  have := Nat.mod_lt (nx + 8 - cnt + k) (show 0 < 8 by decide)
  omega
theorem Inv.ag {N : Nat} {C M C' M' : Sx} (I : Inv N C M) (hC : AgC C C') (hM : AgM M M') : Inv N C' M' := by
  obtain ⟨c1, c2, c3, c4, c5, c6, c7, c8, c9⟩ := hC
  obtain ⟨m1, m2, m3, m4, m5, m6, m7, m8, m9, m10, m11⟩ := hM
  obtain ⟨i1, i2, ⟨nx, cnt, p1, p2, p3, p4, p5, p6⟩, i4, ⟨L, t1, t2, t3, t4⟩, i6, i7⟩ := I
  have v15 : vw C' 15 = vw C 15 := vw_frame (fun i hi => c9 (15 + i) (by omega) (by omega))
  have v95 : vw C' 95 = vw C 95 := vw_frame (fun i hi => c9 (95 + i) (by omega) (by omega))
  refine ⟨by rw [v15, m8]; exact i1, ?_, ⟨nx, cnt, p1, p2, by rw [c4, p3], by rw [c5, p4], by rw [m2, p5], ?_⟩, ?_, ⟨L, t1, by rw [c6, t2], by rw [m6, t3], fun k hk => by rw [c8, m11, t4 k hk]⟩, by rw [c7, m7, i6], by rw [m3, i7]⟩
  · unfold IvS at *
    rw [c1, m1, v95, m10]
    exact i2
  · intro k hk
    have := rx_le (nx := nx) (cnt := cnt) (k := k)
    have e1 : vw C' (rx nx cnt k) = vw C (rx nx cnt k) := vw_frame (fun i hi => c9 (rx nx cnt k + i) (by omega) (by omega))
    have e2 : rowK M' k = rowK M k := by unfold rowK; rw [m9]
    rw [e1, e2]
    exact p6 k hk
  · unfold IvR at *
    rw [c2, c3, m4, m5]
    exact i4
theorem AgC.rf {C : Sx} : AgC C C := ⟨rfl, rfl, rfl, rfl, rfl, rfl, rfl, rfl, fun _ _ _ => rfl⟩
theorem AgM.rf {M : Sx} : AgM M M := ⟨rfl, rfl, rfl, rfl, rfl, rfl, rfl, rfl, rfl, rfl, rfl⟩
theorem Inv.up {N N' : Nat} {C M : Sx} (I : Inv N C M) (h : N ≤ N') : Inv N' C M := by
  obtain ⟨i1, i2, ⟨nx, cnt, p1, p2, p3, p4, p5, p6⟩, i4⟩ := I
  exact ⟨Rl_N i1 h, ⟨i2.1, fun q => Rl_N (i2.2 q) h⟩, ⟨nx, cnt, p1, p2, p3, p4, p5, fun k hk => Rl_N (p6 k hk) h⟩, i4⟩
/-- only the ground and the row change -/
theorem Inv.now {N : Nat} {C M C' M' : Sx} (I : Inv N C M) (hC : FC 15 C C') (hM : FM M M') (R : Rl N (vw C' 15) (dR (M' 6))) : Inv N C' M' := by
  obtain ⟨i1, i2, ⟨nx, cnt, p1, p2, p3, p4, p5, p6⟩, i4, ⟨L, t1, t2, t3, t4⟩, i6, i7⟩ := I
  have v95 : vw C' 95 = vw C 95 := vw_frame (fun i hi => hC (95 + i) (by omega))
  refine ⟨R, ?_, ⟨nx, cnt, p1, p2, by rw [hC 1 (by omega), p3], by rw [hC 1 (by omega), p4], by rw [hM 5 (by omega), p5], ?_⟩, ?_, ⟨L, t1, by rw [hC 3 (by omega), t2], by rw [hM 5 (by omega), t3], fun k hk => by rw [hC 4 (by omega), hM 11 (by omega), t4 k hk]⟩, by rw [hC 3 (by omega), hM 5 (by omega), i6], by rw [hM 5 (by omega), i7]⟩
  · unfold IvS at *
    rw [hC 0 (by omega), hM 5 (by omega), v95, hM 8 (by omega)]
    exact i2
  · intro k hk
    have := rx_le (nx := nx) (cnt := cnt) (k := k)
    have e1 : vw C' (rx nx cnt k) = vw C (rx nx cnt k) := vw_frame (fun i hi => hC (rx nx cnt k + i) (by omega))
    have e2 : rowK M' k = rowK M k := by unfold rowK; rw [hM 7 (by omega)]
    rw [e1, e2]
    exact p6 k hk
  · unfold IvR at *
    rw [hC 0 (by omega), hM 5 (by omega)]
    exact i4
theorem AgM.code {M : Sx} {x : Int32} : AgM M (up2 M 5 8 x) := by
  refine ⟨?_, ?_, ?_, ?_, ?_, ?_, ?_, up2_ne (by decide), up2_ne (by decide), up2_ne (by decide), up2_ne (by decide)⟩ <;> simp [up2]
theorem upA_at {S : Sx} {j : Nat} {f : Nat → Int32} : upA S j f j = f := by simp [upA]
theorem al6 : alen 6 = 275 := rfl
theorem al7 : alen 7 = 2200 := rfl
theorem al8 : alen 8 = 275 := rfl
theorem al9 : alen 9 = 275 := rfl
theorem al10 : alen 10 = 275 := rfl
/-- FK: what keeping changes -/
def FK (C C' : Sx) : Prop := ∀ j, ¬ j = 1 → j < 135 → C' j = C j
def FL (M M' : Sx) : Prop := (∀ j, ¬ j = 5 → ¬ j = 7 → M' j = M j) ∧ ∀ k, ¬ k = 6 → M' 5 k = M 5 k
theorem k_cls {C : Sx} {nx cnt : Nat} (h1 : nx < 8) (h2 : cnt ≤ 8) (e1 : C 1 1 = nI nx) (e2 : C 1 2 = nI cnt) : o_X4_keep_0 15 C ∧ FK C (b_X4_keep_0 15 C) ∧ (b_X4_keep_0 15 C) 1 1 = nI ((nx + 1) % 8) ∧ (b_X4_keep_0 15 C) 1 2 = nI (min (cnt + 1) 8) ∧ vw (b_X4_keep_0 15 C) (135 + 40 * nx) = vw C 15 ∧ (∀ m, m < 8 → ¬ m = nx → vw (b_X4_keep_0 15 C) (135 + 40 * m) = vw C (135 + 40 * m)) ∧ ∀ k, ¬ k = 1 → ¬ k = 2 → (b_X4_keep_0 15 C) 1 k = C 1 k := by
  have ecl := nI_clamp (n := nx) (by omega)
  obtain ⟨B1, B2, B3⟩ := q_bec (S := C) (b := 135 + 40 * nx) (c := 15) (by omega)
  have main : ∀ w : Int32, w = nI ((nx + 1) % 8) → b_X4_keep_35 w (b_X0_become_0 (135 + 40 * nx) 15 C) = up2 (up2 (b_X0_become_0 (135 + 40 * nx) 15 C) 1 1 (nI ((nx + 1) % 8))) 1 2 (nI (min (cnt + 1) 8)) := by
    intro w hw
    unfold b_X4_keep_35
    rw [hw]
    have e3 : up2 (b_X0_become_0 (135 + 40 * nx) 15 C) 1 1 (nI ((nx + 1) % 8)) 1 2 + 1 = nI (cnt + 1) := by
      have e3a : up2 (b_X0_become_0 (135 + 40 * nx) 15 C) 1 1 (nI ((nx + 1) % 8)) 1 2 = nI cnt := by
        rw [up2_at, B2 1 (by omega)]
        simp [upd, e2]
      rw [e3a, nI_succ]
    rw [e3]
    by_cases q : cnt + 1 < 8
    · rw [if_pos (show nI (cnt + 1) < 8 from nI_lt (b := 8) q (by decide)), Nat.min_eq_left (by omega)]
    · rw [if_neg (show ¬ nI (cnt + 1) < 8 from nI_nlt (b := 8) (by omega) (by omega)), Nat.min_eq_right (by omega)]
      rfl
  have e4 : b_X4_keep_0 15 C = up2 (up2 (b_X0_become_0 (135 + 40 * nx) 15 C) 1 1 (nI ((nx + 1) % 8))) 1 2 (nI (min (cnt + 1) 8)) := by
    unfold b_X4_keep_0 b_X4_keep_13
    rw [e1, ecl, B2 1 (by omega), e1, show nI nx + 1 = nI (nx + 1) from (nI_succ nx).symm]
    by_cases q : nx + 1 < 8
    · rw [if_neg (show ¬ (8 : Int32) ≤ nI (nx + 1) from nI_ge (b := 8) q (by decide))]
      exact main _ (by rw [Nat.mod_eq_of_lt q])
    · rw [if_pos (show (8 : Int32) ≤ nI (nx + 1) from nI_le (a := 8) (by omega) (by omega))]
      exact main _ (by rw [show nx + 1 = 8 by omega]; rfl)
  refine ⟨⟨by rw [e1]; exact vp_in_nI h1 (by decide), by rw [e1, ecl]; exact B1, trivial⟩, ?_⟩
  rw [e4]
  refine ⟨fun j hj hlt => ?_, by simp [up2], by simp [up2], ?_, fun m hm hne => ?_, fun k q1 q2 => ?_⟩
  · rw [up2_ne hj, up2_ne hj, B2 j (by omega)]
  · rw [vw_frame (fun i hi => by rw [up2_ne (by omega)]), vw_frame (fun i hi => by rw [up2_ne (by omega)]), B3]
  · rw [vw_frame (fun i hi => by rw [up2_ne (by omega)]), vw_frame (fun i hi => by rw [up2_ne (by omega)])]
    exact vw_frame (fun i hi => B2 _ (by omega))
  · simp [up2, q1, q2, B2 1 (show 1 < 135 + 40 * nx ∨ 135 + 40 * nx + 40 ≤ 1 by omega)]
theorem k_58 {M : Sx} {x cnt : Nat} (hx : alen x = 275) (hx7 : ¬ x = 7) (hx5 : ¬ x = 5) (h : cnt < 8) (e : M 5 6 = nI cnt) : o_X7_keeps_58 x M ∧ b_X7_keeps_58 x M = up2 (upA M 7 (fun e => if 275 * cnt ≤ e ∧ e < 275 * cnt + 275 then M x (e - 275 * cnt) else M 7 e)) 5 6 (nI (cnt + 1)) := by
  have e2 : (275 : Int32) * M 5 6 = nI (275 * cnt) := by rw [e, show (275 : Int32) = nI 275 from rfl, nI_mul]
  have Q := q_cop (S := M) (x := x) (y := 7) (o1 := 0) (o2 := 275 * cnt) hx7 (by omega) (by rw [al7]; omega) (by omega) (by rw [al7]; decide)
  have e0 : nI 0 = 0 := rfl
  rw [e0] at Q
  have e3 : (fun e => if 275 * cnt ≤ e ∧ e < 275 * cnt + 275 then M x (0 + (e - 275 * cnt)) else M 7 e) = (fun e => if 275 * cnt ≤ e ∧ e < 275 * cnt + 275 then M x (e - 275 * cnt) else M 7 e) := by
    funext k
    rw [Nat.zero_add]
  rw [e3] at Q
  unfold o_X7_keeps_58 b_X7_keeps_58
  rw [e2, Q.2]
  refine ⟨⟨Q.1, trivial⟩, ?_⟩
  congr 1
  rw [upA_ne (by decide), e, nI_succ]
theorem k_ref {M : Sx} {x cnt : Nat} (hx : alen x = 275) (hx7 : ¬ x = 7) (hx5 : ¬ x = 5) (h : cnt ≤ 8) (e : M 5 6 = nI cnt) (hw : nb (M 5 7) = 0) : o_X7_keeps_0 x M ∧ FL M (b_X7_keeps_0 x M) ∧ (b_X7_keeps_0 x M) 5 6 = nI (min (cnt + 1) 8) ∧ (∀ k, k < min (cnt + 1) 8 - 1 → dR (rowK (b_X7_keeps_0 x M) k) = dR (rowK M (if cnt = 8 then k + 1 else k))) ∧ dR (rowK (b_X7_keeps_0 x M) (min (cnt + 1) 8 - 1)) = dR (M x) := by
  unfold o_X7_keeps_0 b_X7_keeps_0
  rw [hw, if_pos rfl]
  by_cases q : cnt = 8
  · subst q
    have e8 : M 5 6 = 8 := e
    rw [if_pos e8]
    have J := s_shift (S := M) (j1 := x) (G := fun T => b_X7_keeps_58 x (up2 T 5 6 (T 5 6 - 1))) (OG := fun T => o_X7_keeps_58 x (up2 T 5 6 (T 5 6 - 1))) (fun _ => rfl) (fun _ => rfl) 2000 0 (by omega) (by omega)
    have e0 : upA M 7 (fun e => if e < 0 then M 7 (e + 275) else M 7 e) = M := by
      funext a e
      by_cases h : a = 7
      · subst h
        simp [upA]
      · simp [upA, h]
    rw [e0, nI_0] at J
    generalize hT : upA M 7 (fun e => if e < 1925 then M 7 (e + 275) else M 7 e) = T at J
    have t5 : T 5 = M 5 := by rw [← hT]; exact upA_ne (by decide)
    have tx : T x = M x := by rw [← hT]; exact upA_ne hx7
    have t7 : T 7 = fun e => if e < 1925 then M 7 (e + 275) else M 7 e := by rw [← hT]; exact upA_at
    have tj : ∀ j, ¬ j = 7 → T j = M j := fun j hj => by rw [← hT]; exact upA_ne hj
    have et : up2 T 5 6 (T 5 6 - 1) 5 6 = nI 7 := by
      rw [up2_at, upd_at, t5, e8]
      decide
    have K := k_58 (M := up2 T 5 6 (T 5 6 - 1)) (x := x) (cnt := 7) hx hx7 hx5 (by decide) et
    have JJ := J K.1
    rw [JJ.2]
    refine ⟨⟨fun _ => ⟨fun _ => JJ.1, fun h => absurd e8 h⟩, fun h => absurd rfl h⟩, ?_⟩
    simp only []
    rw [K.2]
    refine ⟨⟨fun j h5 h7 => ?_, fun k hk => ?_⟩, by simp [up2], fun k hk => ?_, ?_⟩
    · rw [up2_ne h5, upA_ne h7, up2_ne h5, tj j h7]
    · rw [up2_at, upA_ne (by decide), up2_at]
      simp [upd, hk, t5]
    · refine dR_congr (fun j hj => ?_)
      unfold rowK
      have n1 : ¬ (275 * 7 ≤ 275 * k + j ∧ 275 * k + j < 275 * 7 + 275) := by omega
      have n2 : 275 * k + j < 1925 := by omega
      rw [up2_ne (i := 7) (by decide), upA_at, if_neg n1, up2_ne (i := 7) (by decide), t7, if_pos trivial]
      show (if 275 * k + j < 1925 then M 7 (275 * k + j + 275) else M 7 (275 * k + j)) = _
      rw [if_pos n2, show 275 * k + j + 275 = 275 * (k + 1) + j by omega]
    · refine dR_congr (fun j hj => ?_)
      unfold rowK
      rw [up2_ne (by decide), upA_at]
      have n1 : 275 * 7 ≤ 275 * (min (8 + 1) 8 - 1) + j ∧ 275 * (min (8 + 1) 8 - 1) + j < 275 * 7 + 275 := by omega
      rw [if_pos n1, up2_ne hx5, tx, show 275 * (min (8 + 1) 8 - 1) + j - 275 * 7 = j by omega]
  · have e8 : ¬ M 5 6 = 8 := fun h => q ((nI_eq (a := cnt) (b := 8) (by omega) (by decide)).mp (e.symm.trans h))
    rw [if_neg e8]
    have K := k_58 (M := M) (x := x) (cnt := cnt) hx hx7 hx5 (by omega) e
    have hm : min (cnt + 1) 8 = cnt + 1 := by omega
    refine ⟨⟨fun _ => ⟨fun h => absurd h e8, fun _ => K.1⟩, fun h => absurd rfl h⟩, ?_⟩
    rw [K.2, hm]
    refine ⟨⟨fun j h5 h7 => ?_, fun k hk => ?_⟩, by simp [up2], fun k hk => ?_, ?_⟩
    · rw [up2_ne h5, upA_ne h7]
    · rw [up2_at, upA_ne (by decide)]
      simp [upd, hk]
    · rw [if_neg q]
      refine dR_congr (fun j hj => ?_)
      unfold rowK
      have n1 : ¬ (275 * cnt ≤ 275 * k + j ∧ 275 * k + j < 275 * cnt + 275) := by omega
      rw [up2_ne (by decide), upA_at, if_neg n1]
    · refine dR_congr (fun j hj => ?_)
      unfold rowK
      rw [up2_ne (by decide), upA_at]
      have n1 : 275 * cnt ≤ 275 * (cnt + 1 - 1) + j ∧ 275 * (cnt + 1 - 1) + j < 275 * cnt + 275 := by omega
      rw [if_pos n1, show 275 * (cnt + 1 - 1) + j - 275 * cnt = j by omega]
/-- a change is kept on both sides -/
theorem Inv.keep {N : Nat} {C M : Sx} (I : Inv N C M) : o_X4_keep_0 15 C ∧ o_X7_keeps_0 6 M ∧ FK C (b_X4_keep_0 15 C) ∧ FL M (b_X7_keeps_0 6 M) ∧ Inv N (b_X4_keep_0 15 C) (b_X7_keeps_0 6 M) := by
  obtain ⟨i1, i2, ⟨nx, cnt, p1, p2, p3, p4, p5, p6⟩, i4, ⟨L, t1, t2, t3, t4⟩, i6, i7⟩ := I
  obtain ⟨k1, k2, k3, k4, k5, k6, k7⟩ := k_cls p1 p2 p3 p4
  obtain ⟨l1, l2, l3, l4, l5⟩ := k_ref (M := M) (x := 6) rfl (by decide) (by decide) p2 p5 i7
  refine ⟨k1, l1, k2, l2, ?_, ?_, ⟨(nx + 1) % 8, min (cnt + 1) 8, Nat.mod_lt _ (by decide), by omega, k3, k4, l3, ?_⟩, ?_, ⟨L, t1, by rw [k2 3 (by decide) (by decide), t2], by rw [l2.2 13 (by decide), t3], fun k hk => by rw [k2 4 (by decide) (by decide), l2.1 11 (by decide) (by decide), t4 k hk]⟩, by rw [k2 3 (by decide) (by decide), l2.2 14 (by decide), i6], by rw [l2.2 7 (by decide), i7]⟩
  · rw [vw_frame (C := C) (fun i hi => k2 (15 + i) (by omega) (by omega)), l2.1 6 (by decide) (by decide)]
    exact i1
  · unfold IvS at *
    rw [k2 0 (by decide) (by decide), l2.2 5 (by decide), vw_frame (C := C) (fun i hi => k2 (95 + i) (by omega) (by omega)), l2.1 8 (by decide) (by decide)]
    exact i2
  · intro k hk
    by_cases hl : k < min (cnt + 1) 8 - 1
    · have e1 := l4 k hl
      have ix : rx ((nx + 1) % 8) (min (cnt + 1) 8) k = rx nx cnt (if cnt = 8 then k + 1 else k) := by
        unfold rx
        split <;> omega
      have hm : (nx + 8 - cnt + (if cnt = 8 then k + 1 else k)) % 8 < 8 := Nat.mod_lt _ (by decide)
      have hne : ¬ (nx + 8 - cnt + (if cnt = 8 then k + 1 else k)) % 8 = nx := by
        split <;> omega
      have e2 := k6 _ hm hne
      rw [e1, ix]
      unfold rx
      rw [e2]
      exact p6 (if cnt = 8 then k + 1 else k) (by split <;> omega)
    · have hk2 : k = min (cnt + 1) 8 - 1 := by omega
      have ix : rx ((nx + 1) % 8) (min (cnt + 1) 8) k = 135 + 40 * nx := by
        unfold rx
        omega
      rw [ix, k5, hk2, l5]
      exact i1
  · unfold IvR at *
    rw [k2 0 (by decide) (by decide), l2.2 10 (by decide), l2.2 11 (by decide)]
    exact i4

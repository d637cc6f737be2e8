/-! THE OTHER CALLS: what comes ahead, the input's end, undo, the snapshot, the means -/
section
variable {C M : Sx} {N pc hc uc ic hr : Nat}
theorem cop0 {S : Sx} {x y : Nat} (hxy : ¬ x = y) (hx : alen x = 275) (hy : alen y = 275) : o_X7_copies_0 x 0 y 0 S ∧ b_X7_copies_0 x 0 y 0 S = upA S y (fun e => if e < 275 then S x e else S y e) := by
  have q := q_cop (S := S) (x := x) (y := y) (o1 := 0) (o2 := 0) hxy (by omega) (by omega) (by omega) (by omega)
  refine ⟨q.1, q.2.trans ?_⟩
  congr 1
  funext e
  simp
theorem dR_low {f g : Nat → Int32} : dR (fun e => if e < 275 then f e else g e) = dR f := dR_congr (fun k hk => if_pos hk)
theorem up2_self {S : Sx} {j k : Nat} {v : Int32} (h : S j k = v) : up2 S j k v = S := by
  funext a e
  by_cases h1 : a = j
  · subst h1
    by_cases h2 : e = k
    · subst h2
      simp [up2, h]
    · simp [up2, h2]
  · simp [up2, h1]
theorem AgM.spare {f : Nat → Int32} : AgM M (upA M 10 f) := ⟨rfl, rfl, rfl, rfl, rfl, rfl, rfl, rfl, rfl, rfl, rfl⟩
theorem AgC.trial {C' : Sx} (h : FC 55 C C') : AgC C C' := ⟨by rw [h 0 (by omega)], by rw [h 0 (by omega)], by rw [h 0 (by omega)], by rw [h 1 (by omega)], by rw [h 1 (by omega)], by rw [h 3 (by omega)], by rw [h 3 (by omega)], h 4 (by omega), fun j h1 h2 => h j (by omega)⟩
/-- the reference's row, tried on and laid back -/
def tryM (M : Sx) : Sx := b_X7_copies_0 6 0 10 0 (up2 M 5 8 0)
theorem tryM_eq : o_X7_copies_0 6 0 10 0 (up2 M 5 8 0) ∧ tryM M 6 = M 6 ∧ (∀ j, ¬ j = 10 → tryM M j = up2 M 5 8 0 j) ∧ dR (tryM M 10) = dR (M 6) := by
  have q := cop0 (S := up2 M 5 8 0) (x := 6) (y := 10) (by decide) rfl rfl
  have e6 : up2 M 5 8 0 6 = M 6 := up2_ne (by decide)
  refine ⟨q.1, ?_, fun j hj => ?_, ?_⟩
  · unfold tryM
    rw [q.2, upA_ne (by decide), e6]
  · unfold tryM
    rw [q.2, upA_ne hj]
  · unfold tryM
    rw [q.2, upA_at, dR_low, e6]
theorem rdT {codes : List (Nat × Nat)} {c : Nat × Int32 × Sx} {m : Int32 × Sx} {x : Int32} {M2 : Sx} (I : Inv N C M) (h1 : FC 55 C c.2.2) (hM : FM (tryM M) M2) (h2 : m.2 = up2 (b_X7_copies_0 10 0 6 0 M2) 5 8 x) (h3 : (c.1 = 0 ∧ x = 0 ∧ c.2.1 = m.1) ∨ (∃ e k, (e, k) ∈ codes ∧ c.1 = e ∧ x = nI k)) : Ok N codes C M c m := by
  obtain ⟨-, t6, tj, t10⟩ := tryM_eq (M := M)
  have q := (cop0 (S := M2) (x := 10) (y := 6) (by decide) rfl rfl).2
  rw [q] at h2
  generalize hM3 : upA M2 6 (fun e => if e < 275 then M2 10 e else M2 6 e) = M3 at h2
  have d3 : dR (M3 6) = dR (M 6) := by
    rw [← hM3, upA_at, dR_low, hM 10 (by decide), t10]
  have j3 : FM (tryM M) M3 := fun j hj => by rw [← hM3, upA_ne hj, hM j hj]
  have I1 : Inv N c.2.2 (tryM M) := by
    refine I.ag (AgC.trial h1) ?_
    have e5 : ∀ k, ¬ k = 8 → tryM M 5 k = M 5 k := fun k hk => by rw [tj 5 (by decide)]; simp [up2, hk]
    exact ⟨e5 5 (by decide), e5 6 (by decide), e5 7 (by decide), e5 10 (by decide), e5 11 (by decide), e5 13 (by decide), e5 14 (by decide), t6, by rw [tj 7 (by decide), up2_ne (by decide)], by rw [tj 8 (by decide), up2_ne (by decide)], by rw [tj 11 (by decide), up2_ne (by decide)]⟩
  have I2 : Inv N c.2.2 M3 := I1.now FC.rf j3 (by
    have := I1.1
    rw [t6] at this
    rw [d3]
    exact this)
  unfold Ok
  rw [h2, code_at]
  refine ⟨h3, fun j a b => h1 j (by omega), fun j hj => ?_, I2.c0 x⟩
  rw [up2_ne (by omega), j3 j (by omega), tj j (by omega), up2_ne (by omega)]
theorem p_61 : ∀ n (a : Nat) (v2 : Int32) (S : Sx), ∃ w, w ≤ a ∧ (b_X7_hourGoes_61 n (nI a) v2 S).1 = nI w := by
  intro n
  induction n with
  | zero => intro a v2 S; exact ⟨0, by omega, rfl⟩
  | succ n ih =>
    intro a v2 S
    rw [b_X7_hourGoes_61]
    by_cases h1 : (S 6 ((50 : Int32).toNatClampNeg)) ≤ v2
    · rw [if_pos h1]
      exact ⟨a, Nat.le_refl a, rfl⟩
    · rw [if_neg h1]
      by_cases h2 : (b_X7_of_0 v2 3 S) = 1
      · rw [if_pos h2]
        exact ih a _ _
      · rw [if_neg h2]
        exact ih a _ _
theorem p_4 : ∀ n (a : Nat) (v2 : Int32) (S : Sx), ∃ w, w ≤ a + n ∧ (b_X7_hourGoes_4 n (nI a) v2 S).1 = nI w := by
  intro n
  induction n with
  | zero => intro a v2 S; exact ⟨0, by omega, rfl⟩
  | succ n ih =>
    intro a v2 S
    rw [b_X7_hourGoes_4]
    by_cases h1 : (S 6 ((71 : Int32).toNatClampNeg)) ≤ v2
    · rw [if_pos h1]
      obtain ⟨w, h, e⟩ := p_61 100 a 0 S
      exact ⟨w, by omega, e⟩
    · rw [if_neg h1]
      by_cases h2 : (b_X7_ofHorse_0 v2 3 S) ≤ 0
      · rw [if_pos h2]
        obtain ⟨w, h, e⟩ := ih a (v2 + 1) (b_X7_laysHorse_0 v2 2 (b_X7_more_0 0 ((b_X7_ofHorse_0 v2 2 S) - 1) S) S)
        exact ⟨w, by omega, e⟩
      · rw [if_neg h2, nI_1]
        obtain ⟨w, h, e⟩ := ih (a + 1) (v2 + 1) (b_X7_rolls_0 v2 S)
        exact ⟨w, by omega, e⟩
theorem p_hour (S : Sx) : ∃ w, w ≤ 100 ∧ (b_X7_hourGoes_0 S).1 = nI w := by
  obtain ⟨w, h, e⟩ := p_4 100 0 0 S
  exact ⟨w, by omega, e⟩
theorem s_fit {u p : Nat} (hu : u < uc) (hp : p < pc) : ∀ n i a (C M : Sx) (N hr : Nat), i ≤ 49 → 49 < n + i → a ≤ 100 * i → N + (49 - i) < 2 ^ 30 → Rg (vw C 55) (dR (M 6)) N pc hc uc ic hr → o_X6_fitIn_26 n (nI u) (nI p) (nI i) C ∧ o_X7_fitIn_48 n (nI u) (nI p) (nI i) (nI a) M ∧ FC 55 C (b_X6_fitIn_26 n (nI u) (nI p) (nI i) C).2.2 ∧ ∃ M2 w x, FM M M2 ∧ b_X7_fitIn_48 n (nI u) (nI p) (nI i) (nI a) M = (w, up2 (b_X7_copies_0 10 0 6 0 M2) 5 8 x) ∧ (((b_X6_fitIn_26 n (nI u) (nI p) (nI i) C).1 = 0 ∧ x = 0 ∧ (b_X6_fitIn_26 n (nI u) (nI p) (nI i) C).2.1 = w) ∨ ((b_X6_fitIn_26 n (nI u) (nI p) (nI i) C).1 = 4 ∧ x = nI 2)) := by
  intro n
  induction n with
  | zero => intro i a C M N hr h1 h2; omega
  | succ n ih =>
    intro i a C M N hr h1 h2 ha hN R
    have of0 : ∀ w S, o_X7_fails_0 w S := fun w S => o_fails (M := S) (x := w)
    have oc : o_X7_copies_0 10 0 6 0 M := (cop0 (S := M) (x := 10) (y := 6) (by decide) rfl rfl).1
    have na : ¬ nI a < 0 := nI_pos (by omega)
    by_cases hi : i < 49
    · have n1 : ¬ (48 : Int32) < nI i := nI_nlt (b := i) (a := 48) (by omega) (by omega)
      have n2 : nI i ≤ 48 := nI_le (b := 48) (by omega) (by decide)
      obtain ⟨t1, t2, t3, t, ht, t4⟩ := q_call R (by omega) hu hp
      have t3' : b_X0_callOf_0 55 (nI u) (nI p) C = nI t := by rw [t3, t4]
      rw [b_X6_fitIn_26, o_X6_fitIn_26, b_X7_fitIn_48, o_X7_fitIn_48, if_neg n1, if_neg n1, t3', t4]
      by_cases t0 : t = 0
      · subst t0
        have z0 : nI 0 = 0 := rfl
        have z00 : (0 : Int32) ≤ 0 := by decide
        have e : b_X7_fitIn_78 (nI i) (nI a) M = (nI i, up2 (b_X7_copies_0 10 0 6 0 M) 5 8 0) := by
          simp only [b_X7_fitIn_78, b_X7_fitIn_108, b_X7_fitIn_119, na, n2, if_false, if_true, f_0]
        rw [z0, if_pos rfl, if_pos z00, e]
        refine ⟨⟨fun h => absurd h n1, fun _ => ⟨t1, fun _ => trivial, fun h => absurd rfl h⟩⟩, ⟨fun h => absurd h n1, fun _ => ⟨t2, fun _ => ?_, fun h => absurd z00 h⟩⟩, FC.rf, M, nI i, 0, FM.rf, rfl, Or.inl ⟨rfl, rfl, rfl⟩⟩
        exact ⟨oc, fun h => absurd h na, fun _ => ⟨fun _ => ⟨of0 _ _, trivial⟩, fun h => absurd n2 h⟩⟩
      · have n3 : ¬ nI t = 0 := nI_ne0 (by omega) (by omega)
        have n4 : ¬ nI t ≤ 0 := nI_nle (by omega) (by omega)
        rw [if_neg n3, if_neg n4]
        obtain ⟨a1, a2, a3, a4, a5, a6⟩ := s_hour (by omega) R
        obtain ⟨w, hw, ew⟩ := p_hour M
        obtain ⟨J1, J2, J3, M2, w2, x, J4, J5, J6⟩ := ih (i + 1) (a + w) _ _ (N + 1) (hr + 1) (by omega) (by omega) (by omega) (by omega) a6
        rw [nI_succ, ← nI_add, ← ew] at J2 J5
        rw [nI_succ] at J1 J3 J6
        exact ⟨⟨fun h => absurd h n1, fun _ => ⟨t1, fun h => absurd h n3, fun _ => ⟨a1, J1⟩⟩⟩, ⟨fun h => absurd h n1, fun _ => ⟨t2, fun h => absurd h n4, fun _ => ⟨a2, J2⟩⟩⟩, a4.tr J3, M2, w2, x, a5.tr J4, J5, J6⟩
    · have hie : i = 49 := by omega
      subst hie
      have n1 : (48 : Int32) < nI 49 := by decide
      have n2 : ¬ nI 49 ≤ 48 := by decide
      have e : b_X7_fitIn_78 (nI 49) (nI a) M = (0, up2 (b_X7_copies_0 10 0 6 0 M) 5 8 2) := by
        simp only [b_X7_fitIn_78, b_X7_fitIn_103, b_X7_fitIn_108, b_X7_fitIn_119, na, n2, if_false, f_2, z10]
      rw [b_X6_fitIn_26, o_X6_fitIn_26, b_X7_fitIn_48, o_X7_fitIn_48, if_pos n1, if_pos n1, e]
      refine ⟨⟨fun _ => trivial, fun h => absurd n1 h⟩, ⟨fun _ => ?_, fun h => absurd n1 h⟩, FC.rf, M, 0, 2, FM.rf, rfl, Or.inr ⟨rfl, rfl⟩⟩
      exact ⟨oc, fun h => absurd h na, fun _ => ⟨fun h => absurd h n2, fun _ => ⟨of0 _ _, trivial⟩⟩⟩
theorem L_fitIn (I : Inv N C M) (hN : N + 49 < 2 ^ 30) (x1 x2 : Int32) : o_X6_fitIn_0 x1 x2 C ∧ o_X7_fitIn_0 x1 x2 M ∧ Ok N [(1, 1), (4, 2)] C M (b_X6_fitIn_0 x1 x2 C) (b_X7_fitIn_0 x1 x2 M) := by
  obtain ⟨pc, hc, uc, ic, hr, R⟩ := id I.1
  have hb := gb R
  have of0 : ∀ w S, o_X7_fails_0 w S := fun w S => o_fails (M := S) (x := w)
  rcases d_ump R x1 with ⟨c1, c2, u, hu, rfl⟩ | ⟨c1, c2⟩
  · rcases d_pit R x2 with ⟨a1, a2, p, hp, rfl⟩ | ⟨a1, a2⟩
    · have cv : b_X0_callerVerdict_0 15 (nI u) (nI p) C = 0 := by simp [b_X0_callerVerdict_0, b_X0_callerVerdict_19, c1, a1]
      obtain ⟨B1, B2, B3⟩ := q_bec (S := C) (b := 55) (c := 15) (by omega)
      obtain ⟨T1, T2, T3, T4⟩ := tryM_eq (M := M)
      have R1 : Rg (vw (b_X0_become_0 55 15 C) 55) (dR (tryM M 6)) N pc hc uc ic hr := by rw [B3, T2]; exact R
      obtain ⟨J1, J2, J3, M2, w, x, J4, J5, J6⟩ := s_fit hu hp 100 0 0 _ _ N hr (by omega) (by omega) (by omega) (by omega) R1
      rw [nI_0] at J1 J2 J3 J5 J6
      have e1 : b_X6_fitIn_0 (nI u) (nI p) C = b_X6_fitIn_26 100 (nI u) (nI p) 0 (b_X0_become_0 55 15 C) := by
        simp only [b_X6_fitIn_0, b_X6_fitIn_13, cv, set_0, if_true]
      have e2 : b_X7_fitIn_0 (nI u) (nI p) M = b_X7_fitIn_48 100 (nI u) (nI p) 0 0 (tryM M) := by
        simp only [b_X7_fitIn_0, b_X7_fitIn_22, b_X7_fitIn_43, c2, a2, z10, if_false, f_0, if_true]
        rfl
      refine ⟨?_, ?_, ?_⟩
      · intro _
        rw [cv, set_0]
        exact ⟨B1, J1⟩
      · have o43 : o_X7_fitIn_43 (nI u) (nI p) (b_X7_copies_0 6 0 10 0 (up2 M 5 8 0)) := J2
        simp [o_X7_fitIn_0, o_X7_fitIn_22, c2, a2, f_0, of0, o_isUmpire, o_isPitch, T1, o43]
      · rw [e1, e2]
        refine rdT (x := x) (M2 := M2) I (B2.tr J3) J4 (by rw [J5]) ?_
        rcases J6 with ⟨j1, j2, j3⟩ | ⟨j1, j2⟩
        · exact Or.inl ⟨j1, j2, by rw [j3, J5]⟩
        · exact Or.inr ⟨4, 2, by simp, j1, j2⟩
    · have cv : b_X0_callerVerdict_0 15 (nI u) x2 C = -1 := by simp [b_X0_callerVerdict_0, b_X0_callerVerdict_19, c1, a1]
      refine ⟨by simp [o_X6_fitIn_0, cv, set_m1], by simp [o_X7_fitIn_0, o_X7_fitIn_21, o_X7_fitIn_22, c2, a2, f_1, of0, o_isUmpire, o_isPitch], rd1 I (e := 1) (k := 1) (x := 1) (by simp) rfl ?_ ?_⟩
      · simp [b_X6_fitIn_0, cv, set_m1]
      · simp [b_X7_fitIn_0, b_X7_fitIn_21, b_X7_fitIn_22, c2, a2, f_1]
  · have cv : b_X0_callerVerdict_0 15 x1 x2 C = -1 := by simp [b_X0_callerVerdict_0, b_X0_callerVerdict_19, c1]
    refine ⟨by simp [o_X6_fitIn_0, cv, set_m1], by simp [o_X7_fitIn_0, o_X7_fitIn_21, o_X7_fitIn_22, c2, f_1, of0, o_isUmpire], rd1 I (e := 1) (k := 1) (x := 1) (by simp) rfl ?_ ?_⟩
    · simp [b_X6_fitIn_0, cv, set_m1]
    · simp [b_X7_fitIn_0, b_X7_fitIn_21, b_X7_fitIn_22, c2, f_1]
theorem L_would (I : Inv N C M) (x1 x2 : Int32) : o_X6_would_0 x1 x2 C ∧ o_X7_would_0 x1 x2 M ∧ Ok N [(1, 1), (2, 2)] C M (b_X6_would_0 x1 x2 C) (b_X7_would_0 x1 x2 M) := by
  obtain ⟨pc, hc, uc, ic, hr, R⟩ := id I.1
  have hb := gb R
  have of0 : ∀ w S, o_X7_fails_0 w S := fun w S => o_fails (M := S) (x := w)
  rcases d_inn R x1 with ⟨c1, c2, k, hk, rfl⟩ | ⟨c1, c2⟩
  · rcases vd_rng (x := x2) (a := 1) (c := 36) (C := C) (M := M) (by decide) (by decide) with ⟨d1, d2, j, hj, hj6, rfl⟩ | ⟨d1, d2⟩
    · have d1' : b_X6_rangeVerdict_0 (nI j) 1 36 C = 0 := d1
      have d2' : b_X7_in_0 (nI j) 1 36 M = 1 := d2
      have bv : b_X0_ballsVerdict_0 15 (nI k) (nI j) C = 0 := by simp [b_X0_ballsVerdict_0, b_X0_ballsVerdict_21, c1, d1']
      obtain ⟨B1, B2, B3⟩ := q_bec (S := C) (b := 55) (c := 15) (by omega)
      obtain ⟨T1, T2, T3, T4⟩ := tryM_eq (M := M)
      have R1 : Rg (vw (b_X0_become_0 55 15 C) 55) (dR (tryM M 6)) N pc hc uc ic hr := by rw [B3, T2]; exact R
      obtain ⟨s1, s2, s3, s4, s5, s6⟩ := s_bowl R1 hk hj6
      have e1 : b_X6_would_0 (nI k) (nI j) C = (0, (b_X0_bowlBalls_0 55 (nI k) (nI j) (b_X0_become_0 55 15 C)).1, (b_X0_bowlBalls_0 55 (nI k) (nI j) (b_X0_become_0 55 15 C)).2) := by
        simp only [b_X6_would_0, b_X6_would_13, bv, set_0, if_true]
      have e2 : b_X7_would_0 (nI k) (nI j) M = ((b_X7_bowls_0 (nI k) (nI j) (tryM M)).1, b_X7_copies_0 10 0 6 0 (b_X7_bowls_0 (nI k) (nI j) (tryM M)).2) := by
        simp only [b_X7_would_0, b_X7_would_28, b_X7_would_49, b_X7_would_69, c2, d2', z10, if_false, f_0, if_true]
        rfl
      have oc := (cop0 (S := (b_X7_bowls_0 (nI k) (nI j) (tryM M)).2) (x := 10) (y := 6) (by decide) rfl rfl)
      refine ⟨?_, ?_, ?_⟩
      · intro _
        rw [bv, set_0]
        exact ⟨B1, s1, trivial⟩
      · have o49 : o_X7_would_49 (nI k) (nI j) (b_X7_copies_0 6 0 10 0 (up2 M 5 8 0)) := ⟨s2, oc.1, trivial⟩
        simp [o_X7_would_0, o_X7_would_28, c2, d2', f_0, of0, o_isInnings, o_in, T1, o49]
      · rw [e1, e2]
        have h58 : b_X7_copies_0 10 0 6 0 (b_X7_bowls_0 (nI k) (nI j) (tryM M)).2 5 8 = 0 := by
          rw [oc.2, upA_ne (by decide), s5 5 (by decide), T3 5 (by decide)]
          exact code_at
        exact rdT (x := 0) (M2 := (b_X7_bowls_0 (nI k) (nI j) (tryM M)).2) I (B2.tr s4) s5 (by rw [up2_self h58]) (Or.inl ⟨rfl, rfl, s3⟩)
    · have d1' : b_X6_rangeVerdict_0 x2 1 36 C = -2 := d1
      have d2' : b_X7_in_0 x2 1 36 M = 0 := d2
      have bv : b_X0_ballsVerdict_0 15 (nI k) x2 C = -2 := by simp [b_X0_ballsVerdict_0, b_X0_ballsVerdict_21, c1, d1']
      refine ⟨by simp [o_X6_would_0, bv, set_m2], by simp [o_X7_would_0, o_X7_would_28, c2, d2', f_2, of0, o_isInnings, o_in], rd1 I (e := 2) (k := 2) (x := 2) (by simp) rfl ?_ ?_⟩
      · simp [b_X6_would_0, bv, set_m2]
      · simp [b_X7_would_0, b_X7_would_28, c2, d2', f_2]
  · have bv : b_X0_ballsVerdict_0 15 x1 x2 C = -1 := by simp [b_X0_ballsVerdict_0, b_X0_ballsVerdict_21, c1]
    refine ⟨by simp [o_X6_would_0, bv, set_m1], by simp [o_X7_would_0, o_X7_would_28, c2, f_1, of0, o_isInnings], rd1 I (e := 1) (k := 1) (x := 1) (by simp) rfl ?_ ?_⟩
    · simp [b_X6_would_0, bv, set_m1]
    · simp [b_X7_would_0, b_X7_would_28, c2, f_1]
theorem L_append (I : Inv N C M) (x1 : Int32) (hx : vp_nar .char x1 = x1) : o_X6_append_0 x1 C ∧ o_X7_append_0 x1 M ∧ Ok N [(5, 1)] C M (b_X6_append_0 x1 C) (b_X7_append_0 x1 M) := by
  have of0 : ∀ w S, o_X7_fails_0 w S := fun w S => o_fails (M := S) (x := w)
  obtain ⟨i1, i2, ⟨nx, cnt, p1, p2, p3, p4, p5, p6⟩, i4, ⟨L, t1, t2, t3, t4⟩, i6, i7⟩ := id I
  by_cases hL : L = 60
  · subst hL
    have n1 : ¬ nI 60 < 60 := by decide
    have e60 : nI 60 = 60 := rfl
    refine ⟨?_, ?_, rd1 I (e := 5) (k := 1) (x := 1) (by simp) rfl ?_ ?_⟩
    · simp [o_X6_append_0, t2, n1]
    · simp [o_X7_append_0, o_X7_append_15, t3, e60, f_1, of0]
    · simp [b_X6_append_0, t2, n1]
    · simp [b_X7_append_0, b_X7_append_15, t3, e60, f_1]
  · have n1 : nI L < 60 := nI_lt (b := 60) (by omega) (by decide)
    have n2 : ¬ nI L = 60 := fun q => hL ((nI_eq (a := L) (b := 60) (by omega) (by decide)).mp q)
    have eL := nI_clamp (n := L) (by omega)
    have iL : vp_in (nI L) 60 := vp_in_nI (by omega) (by decide)
    have t3' : up2 M 5 8 0 5 13 = nI L := by rw [← t3]; simp [up2]
    have e1 : b_X6_append_0 x1 C = (0, nI (L + 1), up2 (up2 C 4 L x1) 3 1 (nI (L + 1))) := by
      have q : up2 C 4 L x1 3 1 = nI L := by rw [up2_ne (by decide), t2]
      have q2 : ∀ v, up2 (up2 C 4 L x1) 3 1 v 3 1 = v := fun v => by simp [up2]
      simp only [b_X6_append_0, b_X6_append_39, t2, n1, if_true, eL, hx, q, nI_1, q2]
    have e2 : b_X7_append_0 x1 M = (nI (L + 1), up2 (up2 (up2 M 5 8 0) 11 L x1) 5 13 (nI (L + 1))) := by
      have q : up2 (up2 M 5 8 0) 11 L x1 5 13 = nI L := by rw [up2_ne (by decide), t3']
      have q2 : ∀ v, up2 (up2 (up2 M 5 8 0) 11 L x1) 5 13 v 5 13 = v := fun v => by simp [up2]
      simp only [b_X7_append_0, b_X7_append_15, b_X7_append_33, t3, n2, if_false, f_0, if_true, t3', eL, q, nI_1, q2]
    refine ⟨?_, ?_, ?_⟩
    · simp [o_X6_append_0, t2, n1, iL]
    · simp [o_X7_append_0, o_X7_append_15, t3, n2, f_0, of0, t3', iL]
    · rw [e1, e2]
      have cj : ∀ j, ¬ j = 3 → ¬ j = 4 → up2 (up2 C 4 L x1) 3 1 (nI (L + 1)) j = C j := fun j h3 h4 => by rw [up2_ne h3, up2_ne h4]
      have mj : ∀ j, ¬ j = 5 → ¬ j = 11 → up2 (up2 (up2 M 5 8 0) 11 L x1) 5 13 (nI (L + 1)) j = M j := fun j h3 h4 => by rw [up2_ne h3, up2_ne h4, up2_ne h3]
      have m5 : ∀ k, ¬ k = 8 → ¬ k = 13 → up2 (up2 (up2 M 5 8 0) 11 L x1) 5 13 (nI (L + 1)) 5 k = M 5 k := fun k h3 h4 => by simp [up2, h3, h4]
      refine ⟨Or.inl ⟨rfl, by simp [up2], rfl⟩, fun j a b => cj j (by omega) (by omega), fun j hj => mj j (by omega) (by omega), ?_, ?_, ⟨nx, cnt, p1, p2, ?_, ?_, ?_, ?_⟩, ?_, ⟨L + 1, by omega, ?_, ?_, ?_⟩, ?_, ?_⟩
      · show Rl N (vw (up2 (up2 C 4 L x1) 3 1 (nI (L + 1))) 15) (dR (up2 (up2 (up2 M 5 8 0) 11 L x1) 5 13 (nI (L + 1)) 6))
        rw [vw_frame (C := C) (fun i hi => cj (15 + i) (by omega) (by omega)), mj 6 (by decide) (by decide)]
        exact i1
      · show IvS N (up2 (up2 C 4 L x1) 3 1 (nI (L + 1))) (up2 (up2 (up2 M 5 8 0) 11 L x1) 5 13 (nI (L + 1)))
        unfold IvS at *
        rw [vw_frame (C := C) (fun i hi => cj (95 + i) (by omega) (by omega)), mj 8 (by decide) (by decide), cj 0 (by decide) (by decide), m5 5 (by decide) (by decide)]
        exact i2
      · show up2 (up2 C 4 L x1) 3 1 (nI (L + 1)) 1 1 = nI nx
        rw [cj 1 (by decide) (by decide), p3]
      · show up2 (up2 C 4 L x1) 3 1 (nI (L + 1)) 1 2 = nI cnt
        rw [cj 1 (by decide) (by decide), p4]
      · exact (m5 6 (by decide) (by decide)).trans p5
      · intro j hj
        have := rx_le (nx := nx) (cnt := cnt) (k := j)
        show Rl N (vw (up2 (up2 C 4 L x1) 3 1 (nI (L + 1))) (rx nx cnt j)) (dR (rowK (up2 (up2 (up2 M 5 8 0) 11 L x1) 5 13 (nI (L + 1))) j))
        rw [vw_frame (C := C) (fun i hi => cj (rx nx cnt j + i) (by omega) (by omega))]
        have e2 : rowK (up2 (up2 (up2 M 5 8 0) 11 L x1) 5 13 (nI (L + 1))) j = rowK M j := by unfold rowK; rw [mj 7 (by decide) (by decide)]
        rw [e2]
        exact p6 j hj
      · show IvR (up2 (up2 C 4 L x1) 3 1 (nI (L + 1))) (up2 (up2 (up2 M 5 8 0) 11 L x1) 5 13 (nI (L + 1)))
        unfold IvR at *
        rw [cj 0 (by decide) (by decide), m5 10 (by decide) (by decide), m5 11 (by decide) (by decide)]
        exact i4
      · show up2 (up2 C 4 L x1) 3 1 (nI (L + 1)) 3 1 = nI (L + 1)
        simp [up2]
      · show up2 (up2 (up2 M 5 8 0) 11 L x1) 5 13 (nI (L + 1)) 5 13 = nI (L + 1)
        simp [up2]
      · intro k hk
        show up2 (up2 C 4 L x1) 3 1 (nI (L + 1)) 4 k = up2 (up2 (up2 M 5 8 0) 11 L x1) 5 13 (nI (L + 1)) 11 k
        have a1 : up2 (up2 C 4 L x1) 3 1 (nI (L + 1)) 4 k = upd (C 4) L x1 k := by rw [up2_ne (by decide), up2_at]
        have a2 : up2 (up2 (up2 M 5 8 0) 11 L x1) 5 13 (nI (L + 1)) 11 k = upd (M 11) L x1 k := by rw [up2_ne (by decide), up2_at, up2_ne (by decide)]
        rw [a1, a2]
        by_cases e : k = L
        · simp [upd, e]
        · simp only [upd, e, if_false]
          exact t4 k (by omega)
      · show up2 (up2 C 4 L x1) 3 1 (nI (L + 1)) 3 2 = up2 (up2 (up2 M 5 8 0) 11 L x1) 5 13 (nI (L + 1)) 5 14
        rw [m5 14 (by decide) (by decide), ← i6]
        simp [up2]
      · show nb (up2 (up2 (up2 M 5 8 0) 11 L x1) 5 13 (nI (L + 1)) 5 7) = 0
        rw [m5 7 (by decide) (by decide)]
        exact i7
theorem L_undo (I : Inv N C M) : o_X6_undo_0 C ∧ o_X7_undo_0 M ∧ Ok N [(5, 1)] C M (b_X6_undo_0 C) (b_X7_undo_0 M) := by
  have of0 : ∀ w S, o_X7_fails_0 w S := fun w S => o_fails (M := S) (x := w)
  obtain ⟨i1, i2, ⟨nx, cnt, p1, p2, p3, p4, p5, p6⟩, i4, ⟨L, t1, t2, t3, t4⟩, i6, i7⟩ := id I
  by_cases h0 : cnt = 0
  · subst h0
    have e0 : nI 0 = 0 := rfl
    refine ⟨?_, ?_, rd1 I (e := 5) (k := 1) (x := 1) (by simp) rfl ?_ ?_⟩
    · simp [o_X6_undo_0, p4, e0]
    · simp [o_X7_undo_0, o_X7_undo_13, p5, e0, f_1, of0]
    · simp [b_X6_undo_0, p4, e0]
    · simp [b_X7_undo_0, b_X7_undo_13, p5, e0, f_1]
  · obtain ⟨d, rfl⟩ : ∃ d, cnt = d + 1 := ⟨cnt - 1, by omega⟩
    have n0 : ¬ nI (d + 1) = 0 := nI_ne0 (by omega) (by omega)
    have mlt : (nx + 7) % 8 < 8 := Nat.mod_lt _ (by decide)
    -- the class
    have eg : b_X4_giveBack_0 15 C = b_X4_giveBack_19 15 (nI ((nx + 7) % 8)) C := by
      unfold b_X4_giveBack_0
      rw [p3]
      by_cases q : nx = 0
      · subst q
        rfl
      · rw [if_neg (nI_nle (by omega) (by omega)), show nx = (nx - 1) + 1 by omega, nI_pred, show (nx - 1 + 1 + 7) % 8 = nx - 1 by omega]
    have og : o_X4_giveBack_0 15 C ↔ o_X4_giveBack_19 15 (nI ((nx + 7) % 8)) C := by
      unfold o_X4_giveBack_0
      rw [p3]
      by_cases q : nx = 0
      · subst q
        exact ⟨fun h => h.1 (by decide), fun h => ⟨fun _ => h, fun e => absurd (by decide) e⟩⟩
      · have q2 : ¬ nI nx ≤ 0 := nI_nle (by omega) (by omega)
        have q3 : nI nx - 1 = nI ((nx + 7) % 8) := by
          rw [show nx = (nx - 1) + 1 by omega, nI_pred, show (nx - 1 + 1 + 7) % 8 = nx - 1 by omega]
        rw [q3]
        exact ⟨fun h => h.2 q2, fun h => ⟨fun e => absurd e q2, fun _ => h⟩⟩
    have em := nI_clamp (n := (nx + 7) % 8) (by omega)
    have e11 : up2 C 1 1 (nI ((nx + 7) % 8)) 1 1 = nI ((nx + 7) % 8) := by simp [up2]
    obtain ⟨B1, B2, B3⟩ := q_bec (S := up2 C 1 1 (nI ((nx + 7) % 8))) (b := 15) (c := 135 + 40 * ((nx + 7) % 8)) (by omega)
    generalize hB : b_X0_become_0 15 (135 + 40 * ((nx + 7) % 8)) (up2 C 1 1 (nI ((nx + 7) % 8))) = B at B2 B3
    have b12 : B 1 2 = nI (d + 1) := by
      rw [B2 1 (by omega)]
      simp [up2, p4]
    have eC : b_X6_undo_0 C = (0, nI d, up2 B 1 2 (nI d)) := by
      unfold b_X6_undo_0
      rw [p4, if_neg n0, eg]
      unfold b_X4_giveBack_19 b_X4_giveBack_35
      rw [e11, em, hB, b12, nI_pred]
      simp [up2]
    have oC : o_X6_undo_0 C := by
      unfold o_X6_undo_0
      rw [p4]
      refine ⟨fun h => absurd h n0, fun _ => ⟨og.mpr ?_, trivial⟩⟩
      unfold o_X4_giveBack_19
      rw [e11, em]
      exact ⟨vp_in_nI mlt (by decide), B1, trivial⟩
    -- the reference
    have m56 : up2 M 5 8 0 5 6 = nI (d + 1) := by rw [← p5]; simp [up2]
    have e56 : up2 (up2 M 5 8 0) 5 6 (nI d) 5 6 = nI d := by simp [up2]
    have e275 : (275 : Int32) * nI d = nI (275 * d) := by rw [show (275 : Int32) = nI 275 from rfl, nI_mul]
    have Q := q_cop (S := up2 (up2 M 5 8 0) 5 6 (nI d)) (x := 7) (y := 6) (o1 := 275 * d) (o2 := 0) (by decide) (by rw [al7]; omega) (by rw [al6]; decide) (by rw [al7]; decide) (by rw [al6]; decide)
    have Q1 : o_X7_copies_0 7 (nI (275 * d)) 6 0 (up2 (up2 M 5 8 0) 5 6 (nI d)) := Q.1
    have Q2 : b_X7_copies_0 7 (nI (275 * d)) 6 0 (up2 (up2 M 5 8 0) 5 6 (nI d)) = _ := Q.2
    generalize hT : b_X7_copies_0 7 (nI (275 * d)) 6 0 (up2 (up2 M 5 8 0) 5 6 (nI d)) = T at Q2
    have t7 : up2 (up2 M 5 8 0) 5 6 (nI d) 7 = M 7 := by rw [up2_ne (by decide), up2_ne (by decide)]
    have Tj : ∀ j, ¬ j = 5 → ¬ j = 6 → T j = M j := fun j h5 h6 => by rw [Q2, upA_ne h6, up2_ne h5, up2_ne h5]
    have T5 : ∀ k, ¬ k = 6 → ¬ k = 8 → T 5 k = M 5 k := fun k h6 h8 => by
      rw [Q2, upA_ne (by decide)]
      simp [up2, h6, h8]
    have T56 : T 5 6 = nI d := by
      rw [Q2, upA_ne (by decide)]
      exact e56
    have T58 : T 5 8 = 0 := by
      rw [Q2, upA_ne (by decide)]
      simp [up2]
    have T6 : dR (T 6) = dR (rowK M d) := by
      rw [Q2, upA_at]
      refine dR_congr (fun k hk => ?_)
      have q : 0 ≤ k ∧ k < 0 + 275 := by omega
      simp only [q]
      simp [rowK, up2]
    have eM : b_X7_undo_0 M = (nI d, T) := by
      unfold b_X7_undo_0
      rw [p5, if_neg n0]
      unfold b_X7_undo_13 b_X7_undo_31
      rw [f_0]
      simp only [if_true, m56, nI_pred, e56, e275, hT, T56]
    have oM : o_X7_undo_0 M := by
      unfold o_X7_undo_0
      rw [p5]
      refine ⟨fun h => absurd h n0, fun _ => ?_⟩
      unfold o_X7_undo_13 o_X7_undo_31
      rw [f_0]
      refine ⟨of0 _ _, fun _ => ?_, fun h => absurd rfl h⟩
      simp only [m56, nI_pred, e56, e275]
      exact ⟨Q1, trivial⟩
    refine ⟨oC, oM, ?_⟩
    rw [eC, eM]
    have cj : ∀ j, ¬ j = 1 → (j < 15 ∨ 55 ≤ j) → up2 B 1 2 (nI d) j = C j := fun j h1 h2 => by
      rw [up2_ne h1, B2 j h2, up2_ne h1]
    refine ⟨Or.inl ⟨rfl, T58, rfl⟩, fun j a b => cj j (by omega) (by omega), fun j hj => Tj j (by omega) (by omega), ?_, ?_, ⟨(nx + 7) % 8, d, mlt, by omega, ?_, ?_, T56, ?_⟩, ?_, ⟨L, t1, ?_, ?_, ?_⟩, ?_, ?_⟩
    · show Rl N (vw (up2 B 1 2 (nI d)) 15) (dR (T 6))
      rw [vw_frame (C := B) (fun i hi => up2_ne (by omega)), B3, T6, vw_frame (C := C) (fun i hi => up2_ne (by omega))]
      have q := p6 d (by omega)
      have ix : rx nx (d + 1) d = 135 + 40 * ((nx + 7) % 8) := by unfold rx; omega
      rw [ix] at q
      exact q
    · show IvS N (up2 B 1 2 (nI d)) T
      unfold IvS at *
      rw [vw_frame (C := C) (fun i hi => cj (95 + i) (by omega) (by omega)), Tj 8 (by decide) (by decide), cj 0 (by decide) (by omega), T5 5 (by decide) (by decide)]
      exact i2
    · show up2 B 1 2 (nI d) 1 1 = _
      rw [up2_at]
      simp only [upd]
      simp
      rw [B2 1 (by omega)]
      simp [up2]
    · show up2 B 1 2 (nI d) 1 2 = _
      simp [up2]
    · intro j hj
      have := rx_le (nx := (nx + 7) % 8) (cnt := d) (k := j)
      show Rl N (vw (up2 B 1 2 (nI d)) (rx ((nx + 7) % 8) d j)) (dR (rowK T j))
      rw [vw_frame (C := C) (fun i hi => cj (rx ((nx + 7) % 8) d j + i) (by omega) (by omega))]
      have e2 : rowK T j = rowK M j := by unfold rowK; rw [Tj 7 (by decide) (by decide)]
      have ix : rx ((nx + 7) % 8) d j = rx nx (d + 1) j := by unfold rx; omega
      rw [e2, ix]
      exact p6 j (by omega)
    · show IvR (up2 B 1 2 (nI d)) T
      unfold IvR at *
      rw [cj 0 (by decide) (by omega), T5 10 (by decide) (by decide), T5 11 (by decide) (by decide)]
      exact i4
    · show up2 B 1 2 (nI d) 3 1 = nI L
      rw [cj 3 (by decide) (by omega), t2]
    · exact (T5 13 (by decide) (by decide)).trans t3
    · intro k hk
      show up2 B 1 2 (nI d) 4 k = T 11 k
      rw [cj 4 (by decide) (by omega), Tj 11 (by decide) (by decide)]
      exact t4 k hk
    · show up2 B 1 2 (nI d) 3 2 = T 5 14
      rw [cj 3 (by decide) (by omega), T5 14 (by decide) (by decide)]
      exact i6
    · show nb (T 5 7) = 0
      rw [T5 7 (by decide) (by decide)]
      exact i7
theorem L_restore (I : Inv N C M) : o_X6_restore_0 C ∧ o_X7_restore_0 M ∧ Ok N [(5, 1)] C M (b_X6_restore_0 C) (b_X7_restore_0 M) := by
  have of0 : ∀ w S, o_X7_fails_0 w S := fun w S => o_fails (M := S) (x := w)
  obtain ⟨i1, i2, ⟨nx, cnt, p1, p2, p3, p4, p5, p6⟩, i4, ⟨L, t1, t2, t3, t4⟩, i6, i7⟩ := id I
  obtain ⟨s1, s2⟩ := id i2
  by_cases h0 : nb (C 0 3) = 0
  · have h1 : nb (M 5 5) = 0 := by rw [← s1]; exact h0
    refine ⟨?_, ?_, rd1 I (e := 5) (k := 1) (x := 1) (by simp) rfl ?_ ?_⟩
    · simp [o_X6_restore_0, h0]
    · simp [o_X7_restore_0, o_X7_restore_13, h1, f_1, of0]
    · simp [b_X6_restore_0, h0]
    · simp [b_X7_restore_0, b_X7_restore_13, h1, f_1]
  · have h1 : ¬ nb (M 5 5) = 0 := by rw [← s1]; exact h0
    obtain ⟨B1, B2, B3⟩ := q_bec (S := C) (b := 15) (c := 95) (by omega)
    have Q := cop0 (S := up2 M 5 8 0) (x := 8) (y := 6) (by decide) rfl rfl
    have R := s2 h0
    have eC : b_X6_restore_0 C = (0, b_X0_become_0 15 95 C 15 0, up2 (b_X0_become_0 15 95 C) 1 2 0) := by
      unfold b_X6_restore_0
      rw [if_neg h0, up2_ne (by decide)]
    generalize hB : b_X0_become_0 15 95 C = B at B2 B3 eC
    have Q1 := Q.1
    have Q2 := Q.2
    generalize hT : b_X7_copies_0 8 0 6 0 (up2 M 5 8 0) = T at Q2
    have e8 : up2 M 5 8 0 8 = M 8 := up2_ne (by decide)
    have T6 : dR (T 6) = dR (M 8) := by rw [Q2, upA_at, dR_low, e8]
    have Tj : ∀ j, ¬ j = 5 → ¬ j = 6 → T j = M j := fun j h5 h6 => by rw [Q2, upA_ne h6, up2_ne h5]
    have T5 : ∀ k, ¬ k = 8 → T 5 k = M 5 k := fun k h8 => by
      rw [Q2, upA_ne (by decide)]
      simp [up2, h8]
    have T58 : T 5 8 = 0 := by
      rw [Q2, upA_ne (by decide)]
      simp [up2]
    have eM : b_X7_restore_0 M = (T 6 ((0 : Int32).toNatClampNeg), up2 T 5 6 0) := by
      unfold b_X7_restore_0
      rw [if_neg h1]
      unfold b_X7_restore_13 b_X7_restore_34
      rw [f_0]
      simp only [if_true, hT]
      rw [up2_ne (by decide)]
    have R' : Rl N (vw B 15) (dR (T 6)) := by rw [B3, T6]; exact R
    obtain ⟨pc, hc, uc, ic, hr, RR⟩ := id R'
    refine ⟨⟨fun h => absurd h h0, fun _ => ⟨B1, trivial⟩⟩, ⟨fun h => absurd h h1, fun _ => ?_⟩, ?_⟩
    · unfold o_X7_restore_13
      rw [f_0]
      exact ⟨of0 _ _, fun _ => ⟨Q1, trivial⟩, fun h => absurd rfl h⟩
    · rw [eC, eM]
      have cj : ∀ j, ¬ j = 1 → (j < 15 ∨ 55 ≤ j) → up2 B 1 2 0 j = C j := fun j h1 h2 => by
        rw [up2_ne h1, B2 j h2]
      have mj : ∀ j, ¬ j = 5 → ¬ j = 6 → up2 T 5 6 0 j = M j := fun j h5 h6 => by rw [up2_ne h5, Tj j h5 h6]
      have m5 : ∀ k, ¬ k = 6 → ¬ k = 8 → up2 T 5 6 0 5 k = M 5 k := fun k h6 h8 => by
        rw [← T5 k h8]
        simp [up2, h6]
      refine ⟨Or.inl ⟨rfl, ?_, ?_⟩, fun j a b => cj j (by omega) (by omega), fun j hj => mj j (by omega) (by omega), ?_, ?_, ⟨nx, 0, p1, by omega, ?_, ?_, ?_, fun k hk => absurd hk (by omega)⟩, ?_, ⟨L, t1, ?_, ?_, ?_⟩, ?_, ?_⟩
      · show up2 T 5 6 0 5 8 = 0
        rw [← T58]
        simp [up2]
      · show B 15 0 = T 6 ((0 : Int32).toNatClampNeg)
        exact (g00 RR).1.trans (g00 RR).2.symm
      · show Rl N (vw (up2 B 1 2 0) 15) (dR (up2 T 5 6 0 6))
        rw [vw_frame (C := B) (fun i hi => up2_ne (by omega)), up2_ne (by decide)]
        exact R'
      · show IvS N (up2 B 1 2 0) (up2 T 5 6 0)
        unfold IvS at *
        rw [vw_frame (C := C) (fun i hi => cj (95 + i) (by omega) (by omega)), mj 8 (by decide) (by decide), cj 0 (by decide) (by omega), m5 5 (by decide) (by decide)]
        exact i2
      · show up2 B 1 2 0 1 1 = nI nx
        rw [← p3, ← B2 1 (by omega)]
        simp [up2]
      · show up2 B 1 2 0 1 2 = nI 0
        simp [up2]
        rfl
      · show up2 T 5 6 0 5 6 = nI 0
        simp [up2]
        rfl
      · show IvR (up2 B 1 2 0) (up2 T 5 6 0)
        unfold IvR at *
        rw [cj 0 (by decide) (by omega), m5 10 (by decide) (by decide), m5 11 (by decide) (by decide)]
        exact i4
      · show up2 B 1 2 0 3 1 = nI L
        rw [cj 3 (by decide) (by omega), t2]
      · exact (m5 13 (by decide) (by decide)).trans t3
      · intro k hk
        show up2 B 1 2 0 4 k = up2 T 5 6 0 11 k
        rw [cj 4 (by decide) (by omega), mj 11 (by decide) (by decide)]
        exact t4 k hk
      · show up2 B 1 2 0 3 2 = up2 T 5 6 0 5 14
        rw [cj 3 (by decide) (by omega), m5 14 (by decide) (by decide)]
        exact i6
      · show nb (up2 T 5 6 0 5 7) = 0
        rw [m5 7 (by decide) (by decide)]
        exact i7
/-- calls that the law makes itself, without a wrapper -/
def Ok0 (N' : Nat) (C M : Sx) (c : Int32 × Sx) (m : Int32 × Sx) : Prop := c.1 = m.1 ∧ FCl C c.2 ∧ FMl M m.2 ∧ Inv N' c.2 m.2
theorem glue0 {N N' : Nat} {S : Sx} {c : Int32 × Sx} {mf : Sx → Int32 × Sx} {om : Sx → Prop} {oc : Prop} (I : Inv N S S) (H : ∀ M, Inv N S M → oc ∧ om M ∧ Ok0 N' S M c (mf M)) : oc ∧ om c.2 ∧ c.1 = (mf c.2).1 ∧ Inv N' (mf c.2).2 (mf c.2).2 := by
  obtain ⟨a1, a2, a3, a4, a5, a6⟩ := H S I
  have l2 : AgM S c.2 := by
    have e5 : c.2 5 = S 5 := a4 5 (by decide) (by decide)
    exact ⟨by rw [e5], by rw [e5], by rw [e5], by rw [e5], by rw [e5], by rw [e5], by rw [e5], a4 6 (by decide) (by decide), a4 7 (by decide) (by decide), a4 8 (by decide) (by decide), a4 11 (by decide) (by decide)⟩
  obtain ⟨b1, b2, b3, b4, b5, b6⟩ := H c.2 (I.ag AgC.rf l2)
  refine ⟨b1, b2, b3, b6.ag ?_ AgM.rf⟩
  exact ⟨by rw [b5 0 (by decide)], by rw [b5 0 (by decide)], by rw [b5 0 (by decide)], by rw [b5 1 (by decide)], by rw [b5 1 (by decide)], by rw [b5 3 (by decide)], by rw [b5 3 (by decide)], b5 4 (by decide), fun j h1 h2 => b5 j (by omega)⟩
theorem L_err (I : Inv N C M) : True ∧ True ∧ Ok0 N C M (b_X6_errorPosition_0 C, C) (b_X7_errorPosition_0 M) := by
  refine ⟨trivial, trivial, ?_, fun _ _ _ => rfl, FMl.code, I.c0 0⟩
  show C 3 2 = up2 M 5 8 0 5 14
  rw [I.2.2.2.2.2.1]
  simp [up2]
theorem L_well (I : Inv N C M) : o_X6_isWell_0 C ∧ o_X7_isWell_0 M ∧ Ok0 N C M (b_X6_isWell_0 C, C) (b_X7_isWell_0 M) := by
  obtain ⟨pc, hc, uc, ic, hr, R⟩ := id I.1
  obtain ⟨w1, w2⟩ := q_wellC R
  obtain ⟨w3, w4⟩ := q_wellM R
  refine ⟨w1, w3, ?_⟩
  rw [w4]
  exact ⟨w2, fun _ _ _ => rfl, FMl.code, I.c0 0⟩
theorem L_save (I : Inv N C M) : o_X6_save_0 C ∧ o_X7_save_0 M ∧ Ok0 N C M (b_X6_save_0 C) (b_X7_save_0 M) := by
  obtain ⟨i1, i2, ⟨nx, cnt, p1, p2, p3, p4, p5, p6⟩, i4, ⟨L, t1, t2, t3, t4⟩, i6, i7⟩ := id I
  obtain ⟨pc, hc, uc, ic, hr, R⟩ := id i1
  obtain ⟨B1, B2, B3⟩ := q_bec (S := C) (b := 95) (c := 15) (by omega)
  have Q := cop0 (S := up2 (up2 M 5 8 0) 5 5 1) (x := 6) (y := 8) (by decide) rfl rfl
  refine ⟨⟨B1, trivial⟩, ⟨Q.1, trivial⟩, ?_⟩
  have eC : b_X6_save_0 C = (b_X0_become_0 95 15 C 15 0, up2 (b_X0_become_0 95 15 C) 0 3 1) := by
    unfold b_X6_save_0
    rw [up2_ne (by decide)]
  generalize hB : b_X0_become_0 95 15 C = B at B2 B3 eC
  have Q2 := Q.2
  have eM : b_X7_save_0 M = (b_X7_copies_0 6 0 8 0 (up2 (up2 M 5 8 0) 5 5 1) 6 ((0 : Int32).toNatClampNeg), b_X7_copies_0 6 0 8 0 (up2 (up2 M 5 8 0) 5 5 1)) := rfl
  generalize hT : b_X7_copies_0 6 0 8 0 (up2 (up2 M 5 8 0) 5 5 1) = T at Q2 eM
  have e6 : up2 (up2 M 5 8 0) 5 5 1 6 = M 6 := by rw [up2_ne (by decide), up2_ne (by decide)]
  have T8 : dR (T 8) = dR (M 6) := by rw [Q2, upA_at, dR_low, e6]
  have Tj : ∀ j, ¬ j = 5 → ¬ j = 8 → T j = M j := fun j h5 h6 => by rw [Q2, upA_ne h6, up2_ne h5, up2_ne h5]
  have T5 : ∀ k, ¬ k = 8 → ¬ k = 5 → T 5 k = M 5 k := fun k h8 h5 => by
    rw [Q2, upA_ne (by decide)]
    simp [up2, h8, h5]
  have T55 : T 5 5 = 1 := by
    rw [Q2, upA_ne (by decide)]
    simp [up2]
  have cj : ∀ j, ¬ j = 0 → (j < 95 ∨ 135 ≤ j) → up2 B 0 3 1 j = C j := fun j h1 h2 => by
    rw [up2_ne h1, B2 j h2]
  have c0 : ∀ k, ¬ k = 3 → up2 B 0 3 1 0 k = C 0 k := fun k hk => by
    rw [← B2 0 (by omega)]
    simp [up2, hk]
  rw [eC, eM]
  refine ⟨?_, fun j a b => cj j (by omega) (by omega), fun j hj => Tj j (by omega) (by omega), ?_, ?_, ⟨nx, cnt, p1, p2, ?_, ?_, ?_, ?_⟩, ?_, ⟨L, t1, ?_, ?_, ?_⟩, ?_, ?_⟩
  · show B 15 0 = T 6 ((0 : Int32).toNatClampNeg)
    rw [B2 15 (by omega), Tj 6 (by decide) (by decide)]
    exact (g00 R).1.trans (g00 R).2.symm
  · show Rl N (vw (up2 B 0 3 1) 15) (dR (T 6))
    rw [vw_frame (C := C) (fun i hi => cj (15 + i) (by omega) (by omega)), Tj 6 (by decide) (by decide)]
    exact i1
  · show IvS N (up2 B 0 3 1) T
    unfold IvS
    have e1 : up2 B 0 3 1 0 3 = 1 := by simp [up2]
    rw [e1, T55, vw_frame (C := B) (fun i hi => up2_ne (by omega)), B3, T8]
    exact ⟨rfl, fun _ => i1⟩
  · show up2 B 0 3 1 1 1 = nI nx
    rw [cj 1 (by decide) (by omega), p3]
  · show up2 B 0 3 1 1 2 = nI cnt
    rw [cj 1 (by decide) (by omega), p4]
  · exact (T5 6 (by decide) (by decide)).trans p5
  · intro j hj
    have := rx_le (nx := nx) (cnt := cnt) (k := j)
    show Rl N (vw (up2 B 0 3 1) (rx nx cnt j)) (dR (rowK T j))
    rw [vw_frame (C := C) (fun i hi => cj (rx nx cnt j + i) (by omega) (by omega))]
    have e2 : rowK T j = rowK M j := by unfold rowK; rw [Tj 7 (by decide) (by decide)]
    rw [e2]
    exact p6 j hj
  · show IvR (up2 B 0 3 1) T
    unfold IvR at *
    rw [c0 6 (by decide), c0 7 (by decide), T5 10 (by decide) (by decide), T5 11 (by decide) (by decide)]
    exact i4
  · show up2 B 0 3 1 3 1 = nI L
    rw [cj 3 (by decide) (by omega), t2]
  · exact (T5 13 (by decide) (by decide)).trans t3
  · intro k hk
    show up2 B 0 3 1 4 k = T 11 k
    rw [cj 4 (by decide) (by omega), Tj 11 (by decide) (by decide)]
    exact t4 k hk
  · show up2 B 0 3 1 3 2 = T 5 14
    rw [cj 3 (by decide) (by omega), T5 14 (by decide) (by decide)]
    exact i6
  · show nb (T 5 7) = 0
    rw [T5 7 (by decide) (by decide)]
    exact i7
/-- the means -/
theorem L_mean (I : Inv N C M) : o_X6_meanRuns C ∧ o_X7_meanRuns M ∧ ((∃ v, b_X6_meanRuns C = (0, v, C) ∧ b_X7_meanRuns M = (v, up2 M 5 8 0) ∧ FP.Core.dIsNaN v = false) ∨ (b_X6_meanRuns C = (6, 0, C) ∧ (b_X7_meanRuns M).2 = up2 M 5 8 1)) := by
  obtain ⟨pc, hc, uc, ic, hr, R⟩ := id I.1
  have hb := gb R
  have of0 : ∀ w S, o_X7_fails_0 w S := fun w S => o_fails (M := S) (x := w)
  have R1 := R0 (x := 0) R
  have Q := q_s_run R
  have Q1 := q_s_run R1
  have e1 := (g010 R).1
  have e2 := (g010 R).2
  have e3 : up2 M 5 8 0 6 ((106 : Int32).toNatClampNeg) = nI ic := by rw [up2_ne (by decide)]; exact e2
  have e10 : C 15 10 = nI ic := e1
  have e2' : M 6 106 = nI ic := e2
  have e3' : up2 M 5 8 0 6 106 = nI ic := e3
  by_cases h : ic = 0
  · subst h
    have z : nI 0 = 0 := rfl
    refine ⟨Q.1, ?_, Or.inr ⟨?_, ?_⟩⟩
    · simp [o_X7_meanRuns, o_X7_meanRuns_16, e2', z, of0, f_1]
    · simp [b_X6_meanRuns, e10, z]
    · simp [b_X7_meanRuns, b_X7_meanRuns_16, e2', z, f_1]
  · have n : ¬ nI ic = 0 := nI_ne0 (by omega) (by omega)
    refine ⟨Q.1, ?_, Or.inl ⟨FP.ddiv (FP.i2d (b_X0_runsInInnings_0 15 C)) (FP.i2d (nI ic)), ?_, ?_, fn_ddiv n⟩⟩
    · simp [o_X7_meanRuns, o_X7_meanRuns_16, e2', n, of0, f_0, e3', Q1.2.1]
    · simp [b_X6_meanRuns, e10, n]
    · simp [b_X7_meanRuns, b_X7_meanRuns_16, e2', n, f_0, e3', ← Q1.2.2]
theorem L_wick (I : Inv N C M) : o_X6_wickets C ∧ o_X7_wickets M ∧ ((∃ v, b_X6_wickets C = (0, v, C) ∧ b_X7_wickets M = (v, up2 M 5 8 0) ∧ FP.Core.fIsNaN v = false) ∨ (b_X6_wickets C = (6, 0, C) ∧ (b_X7_wickets M).2 = up2 M 5 8 1)) := by
  obtain ⟨pc, hc, uc, ic, hr, R⟩ := id I.1
  have hb := gb R
  have of0 : ∀ w S, o_X7_fails_0 w S := fun w S => o_fails (M := S) (x := w)
  have R1 := R0 (x := 0) R
  have Q := q_s_bal R
  have Q1 := q_s_bal R1
  have P := q_s_wik R
  have P1 := q_s_wik R1
  by_cases h : b_X0_ballsInInnings_0 15 C = 0
  · have h2 : b_X7_sumOfInnings_0 3 M = 0 := by rw [← Q.2.2]; exact h
    refine ⟨⟨Q.1, P.1⟩, ?_, Or.inr ⟨?_, ?_⟩⟩
    · simp [o_X7_wickets, o_X7_wickets_14, h2, Q.2.1, of0, f_1]
    · simp [b_X6_wickets, h]
    · simp [b_X7_wickets, b_X7_wickets_14, h2, f_1]
  · have h2 : ¬ b_X7_sumOfInnings_0 3 M = 0 := by rw [← Q.2.2]; exact h
    have h3 : ¬ b_X7_sumOfInnings_0 3 (up2 M 5 8 0) = 0 := by rw [← Q1.2.2]; exact h
    refine ⟨⟨Q.1, P.1⟩, ?_, Or.inl ⟨FP.fdiv (FP.i2f (b_X0_wicketsInInnings_0 15 C)) (FP.i2f (b_X0_ballsInInnings_0 15 C)), ?_, ?_, fn_fdiv h⟩⟩
    · simp [o_X7_wickets, o_X7_wickets_14, h2, Q.2.1, of0, f_0, P1.2.1, Q1.2.1, h3]
    · simp [b_X6_wickets, h]
    · simp [b_X7_wickets, b_X7_wickets_14, h2, f_0, ← Q1.2.2, ← P1.2.2]
end

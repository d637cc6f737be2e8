/-! CHANGES: weather, bell, new pitches, horses, umpires, innings, boots -/
section
variable {C M : Sx} {N pc hc uc ic hr : Nat}
theorem pos_1 {k : Nat} : pos 1 k = 2 + k := rfl
theorem pos_2 {k : Nat} : pos 2 k = 26 + k := rfl
theorem pos_3 {k : Nat} : pos 3 k = 103 + k := rfl
theorem L_rain (I : Inv N C M) (x1 x2 : Int32) : o_X6_rain_0 x1 x2 C ∧ o_X7_rain_0 x1 x2 M ∧ Ok N [(1, 1), (2, 2)] C M (b_X6_rain_0 x1 x2 C) (b_X7_rain_0 x1 x2 M) := by
  obtain ⟨pc, hc, uc, ic, hr, R⟩ := id I.1
  have hK := I.kp
  have of0 : ∀ w S, o_X7_fails_0 w S := fun w S => o_fails (M := S) (x := w)
  have K : o_X7_rain_0 x1 x2 M ∧ (b_X6_weatherVerdict_0 x1 x2 C = 0 ∨ b_X6_weatherVerdict_0 x1 x2 C = -1 ∨ b_X6_weatherVerdict_0 x1 x2 C = -2) ∧ Out 15 N 2 0 C M (b_X6_weatherVerdict_0 x1 x2 C) (b_X7_rain_0 x1 x2 M) (fun S => b_X6_exchange_0 (15 + 1) x1 x2 S) (fun S => o_X6_exchange_0 (15 + 1) x1 x2 S ∧ True) := by
    rcases vd_hour (x := x1) (C := C) (M := M) with ⟨a1, a2, j, hj, rfl⟩ | ⟨a1, a2⟩
    · rcases vd_rng (x := x2) (a := 0) (c := 9) (C := C) (M := M) (by decide) (by decide) with ⟨d1, d2, y, hy, hy9, rfl⟩ | ⟨d1, d2⟩
      · have d1' : b_X6_rangeVerdict_0 (nI y) 0 9 C = 0 := d1
        have d2' : b_X7_in_0 (nI y) 0 9 M = 1 := d2
        have w1 : b_X6_weatherVerdict_0 (nI j) (nI y) C = 0 := by simp [b_X6_weatherVerdict_0, b_X6_weatherVerdict_20, a1, d1']
        obtain ⟨r, l, -, -, -, -, -, -, i1, i2, i3⟩ := w_at R hj
        have w2 : b_X7_rain_0 (nI j) (nI y) M = b_X7_sets_0 (2 + nI j) (nI y) (up2 M 5 8 0) := by
          simp only [b_X7_rain_0, b_X7_rain_27, b_X7_rain_45, a2, d2', z10, if_false, f_0, if_true]
        refine ⟨?_, Or.inl w1, Or.inr (Or.inr (Or.inr ⟨w1, fun C1 hv => ?_⟩))⟩
        · simp [o_X7_rain_0, o_X7_rain_27, o_X7_sets_0, a2, d2', o_isHour, o_in, of0, f_0, hK.1, i1]
        · rw [w2]
          have RK := kR (C1 := C1) R hK hv
          obtain ⟨r, l, -, -, q1, q2, m1, m2, -, -, -⟩ := w_at RK hj
          have ej := nI_clamp (n := j) (by omega)
          have e2 : ((2 : Int32) + nI j).toNatClampNeg = pos 1 j := by
            rw [show (2 : Int32) = nI 2 from rfl, nI_add, nI_clamp (by omega)]
            rfl
          have i3' : vp_in (nI j) 24 := i3
          unfold b_X6_exchange_0 o_X6_exchange_0 b_X7_sets_0 b_X7_sets_22
          dsimp only
          rw [m1, q1, ej, e2]
          refine ⟨⟨⟨i3', i3', trivial⟩, trivial⟩, rfl, fun j hj => up2_ne (by omega), fun j hj => up2_ne hj, ?_⟩
          show Rl N (vw (up2 C1 (15 + 1) j (nI y)) 15) (dR (up2 (b_X7_keeps_0 6 (up2 M 5 8 0)) 6 (pos 1 j) (nI y) 6))
          rw [vw_up (rel_1 hj) (Or.inl rfl), dR_up (rel_1 hj)]
          exact ⟨_, _, _, _, _, rg_W RK (Or.inl rfl) ⟨y, hy9, rfl⟩⟩
      · have d1' : b_X6_rangeVerdict_0 x2 0 9 C = -2 := d1
        have d2' : b_X7_in_0 x2 0 9 M = 0 := d2
        have w1 : b_X6_weatherVerdict_0 (nI j) x2 C = -2 := by simp [b_X6_weatherVerdict_0, b_X6_weatherVerdict_20, a1, d1']
        refine ⟨by simp [o_X7_rain_0, o_X7_rain_27, a2, d2', o_isHour, o_in, of0, f_2], Or.inr (Or.inr w1), Or.inr (Or.inl ⟨w1, ?_⟩)⟩
        simp [b_X7_rain_0, b_X7_rain_27, b_X7_rain_45, a2, d2', f_2]
        rfl
    · have w1 : b_X6_weatherVerdict_0 x1 x2 C = -1 := by simp [b_X6_weatherVerdict_0, b_X6_weatherVerdict_20, a1]
      refine ⟨by simp [o_X7_rain_0, o_X7_rain_27, a2, o_isHour, of0, f_1], Or.inr (Or.inl w1), Or.inl ⟨w1, ?_⟩⟩
      simp [b_X7_rain_0, b_X7_rain_27, b_X7_rain_45, a2, f_1]
  obtain ⟨k1, k2, k3⟩ := K
  obtain ⟨h1, h2⟩ := chg (c := b_X6_rain_0 x1 x2 C) (codes := [(1, 1), (2, 2)]) I (Nat.le_refl N) rfl k3 (fun _ => by simp) (fun _ => by simp) (fun a b c => by rcases k2 with h | h | h; exact absurd h c; exact absurd h a; exact absurd h b)
  exact ⟨h1, k1, h2⟩
theorem L_light (I : Inv N C M) (x1 x2 : Int32) : o_X6_light_0 x1 x2 C ∧ o_X7_light_0 x1 x2 M ∧ Ok N [(1, 1), (2, 2)] C M (b_X6_light_0 x1 x2 C) (b_X7_light_0 x1 x2 M) := by
  obtain ⟨pc, hc, uc, ic, hr, R⟩ := id I.1
  have hK := I.kp
  have of0 : ∀ w S, o_X7_fails_0 w S := fun w S => o_fails (M := S) (x := w)
  have K : o_X7_light_0 x1 x2 M ∧ (b_X6_weatherVerdict_0 x1 x2 C = 0 ∨ b_X6_weatherVerdict_0 x1 x2 C = -1 ∨ b_X6_weatherVerdict_0 x1 x2 C = -2) ∧ Out 15 N 2 0 C M (b_X6_weatherVerdict_0 x1 x2 C) (b_X7_light_0 x1 x2 M) (fun S => b_X6_exchange_0 (15 + 2) x1 x2 S) (fun S => o_X6_exchange_0 (15 + 2) x1 x2 S ∧ True) := by
    rcases vd_hour (x := x1) (C := C) (M := M) with ⟨a1, a2, j, hj, rfl⟩ | ⟨a1, a2⟩
    · rcases vd_rng (x := x2) (a := 0) (c := 9) (C := C) (M := M) (by decide) (by decide) with ⟨d1, d2, y, hy, hy9, rfl⟩ | ⟨d1, d2⟩
      · have d1' : b_X6_rangeVerdict_0 (nI y) 0 9 C = 0 := d1
        have d2' : b_X7_in_0 (nI y) 0 9 M = 1 := d2
        have w1 : b_X6_weatherVerdict_0 (nI j) (nI y) C = 0 := by simp [b_X6_weatherVerdict_0, b_X6_weatherVerdict_20, a1, d1']
        obtain ⟨r, l, -, -, -, -, -, -, i1, i2, i3⟩ := w_at R hj
        have w2 : b_X7_light_0 (nI j) (nI y) M = b_X7_sets_0 (26 + nI j) (nI y) (up2 M 5 8 0) := by
          simp only [b_X7_light_0, b_X7_light_27, b_X7_light_46, a2, d2', z10, if_false, f_0, if_true]
        refine ⟨?_, Or.inl w1, Or.inr (Or.inr (Or.inr ⟨w1, fun C1 hv => ?_⟩))⟩
        · simp [o_X7_light_0, o_X7_light_27, o_X7_sets_0, a2, d2', o_isHour, o_in, of0, f_0, hK.1, i2]
        · rw [w2]
          have RK := kR (C1 := C1) R hK hv
          obtain ⟨r, l, -, -, q1, q2, m1, m2, -, -, -⟩ := w_at RK hj
          have ej := nI_clamp (n := j) (by omega)
          have e2 : ((26 : Int32) + nI j).toNatClampNeg = pos 2 j := by
            rw [show (26 : Int32) = nI 26 from rfl, nI_add, nI_clamp (by omega)]
            rfl
          have i3' : vp_in (nI j) 24 := i3
          unfold b_X6_exchange_0 o_X6_exchange_0 b_X7_sets_0 b_X7_sets_22
          dsimp only
          rw [m2, q2, ej, e2]
          refine ⟨⟨⟨i3', i3', trivial⟩, trivial⟩, rfl, fun j hj => up2_ne (by omega), fun j hj => up2_ne hj, ?_⟩
          show Rl N (vw (up2 C1 (15 + 2) j (nI y)) 15) (dR (up2 (b_X7_keeps_0 6 (up2 M 5 8 0)) 6 (pos 2 j) (nI y) 6))
          rw [vw_up (rel_2 hj) (Or.inl rfl), dR_up (rel_2 hj)]
          exact ⟨_, _, _, _, _, rg_W RK (Or.inr rfl) ⟨y, hy9, rfl⟩⟩
      · have d1' : b_X6_rangeVerdict_0 x2 0 9 C = -2 := d1
        have d2' : b_X7_in_0 x2 0 9 M = 0 := d2
        have w1 : b_X6_weatherVerdict_0 (nI j) x2 C = -2 := by simp [b_X6_weatherVerdict_0, b_X6_weatherVerdict_20, a1, d1']
        refine ⟨by simp [o_X7_light_0, o_X7_light_27, a2, d2', o_isHour, o_in, of0, f_2], Or.inr (Or.inr w1), Or.inr (Or.inl ⟨w1, ?_⟩)⟩
        simp [b_X7_light_0, b_X7_light_27, b_X7_light_46, a2, d2', f_2]
        rfl
    · have w1 : b_X6_weatherVerdict_0 x1 x2 C = -1 := by simp [b_X6_weatherVerdict_0, b_X6_weatherVerdict_20, a1]
      refine ⟨by simp [o_X7_light_0, o_X7_light_27, a2, o_isHour, of0, f_1], Or.inr (Or.inl w1), Or.inl ⟨w1, ?_⟩⟩
      simp [b_X7_light_0, b_X7_light_27, b_X7_light_46, a2, f_1]
  obtain ⟨k1, k2, k3⟩ := K
  obtain ⟨h1, h2⟩ := chg (c := b_X6_light_0 x1 x2 C) (codes := [(1, 1), (2, 2)]) I (Nat.le_refl N) rfl k3 (fun _ => by simp) (fun _ => by simp) (fun a b c => by rcases k2 with h | h | h; exact absurd h c; exact absurd h a; exact absurd h b)
  exact ⟨h1, k1, h2⟩
theorem L_bell (I : Inv N C M) (x1 : Int32) : o_X6_bell_0 x1 C ∧ o_X7_bell_0 x1 M ∧ Ok N [(1, 1)] C M (b_X6_bell_0 x1 C) (b_X7_bell_0 x1 M) := by
  obtain ⟨pc, hc, uc, ic, hr, R⟩ := id I.1
  have hK := I.kp
  have of0 : ∀ w S, o_X7_fails_0 w S := fun w S => o_fails (M := S) (x := w)
  have K : o_X7_bell_0 x1 M ∧ (b_X6_hourVerdict_0 x1 C = 0 ∨ b_X6_hourVerdict_0 x1 C = -1) ∧ Out 15 N 0 0 C M (b_X6_hourVerdict_0 x1 C) (b_X7_bell_0 x1 M) (fun S => (S 15 1, up2 S 15 1 x1)) (fun _ => True) := by
    rcases vd_hour (x := x1) (C := C) (M := M) with ⟨a1, a2, j, hj, rfl⟩ | ⟨a1, a2⟩
    · have w2 : b_X7_bell_0 (nI j) M = b_X7_sets_0 1 (nI j) (up2 M 5 8 0) := by
        simp only [b_X7_bell_0, b_X7_bell_13, b_X7_bell_29, a2, z10, if_false, f_0, if_true]
      have i1 : vp_in (1 : Int32) 275 := vp_in_nI (n := 1) (by decide) (by decide)
      refine ⟨?_, Or.inl a1, Or.inr (Or.inr (Or.inr ⟨a1, fun C1 hv => ?_⟩))⟩
      · simp [o_X7_bell_0, o_X7_bell_13, o_X7_sets_0, a2, o_isHour, of0, f_0, hK.1, i1]
      · rw [w2]
        have RK := kR (C1 := C1) R hK hv
        unfold b_X7_sets_0 b_X7_sets_22
        have e2 : (1 : Int32).toNatClampNeg = pos 0 1 := rfl
        have r1 : rel 0 1 = true := rfl
        refine ⟨trivial, g01 RK, fun j hj => up2_ne (by omega), fun j hj => up2_ne hj, ?_⟩
        show Rl N (vw (up2 C1 (15 + 0) 1 (nI j)) 15) (dR (up2 (b_X7_keeps_0 6 (up2 M 5 8 0)) 6 (pos 0 1) (nI j) 6))
        rw [vw_up r1 (Or.inl rfl), dR_up r1, upV_set, upV_set]
        exact ⟨_, _, _, _, _, rg_tea RK (by simp [upd]) (fun k hk => by simp [upd, hk]) (fun k hk => by simp [upd, hk])⟩
    · refine ⟨by simp [o_X7_bell_0, o_X7_bell_13, a2, o_isHour, of0, f_1], Or.inr a1, Or.inl ⟨a1, ?_⟩⟩
      simp [b_X7_bell_0, b_X7_bell_13, b_X7_bell_29, a2, f_1]
  obtain ⟨k1, k2, k3⟩ := K
  obtain ⟨h1, h2⟩ := chg (c := b_X6_bell_0 x1 C) (codes := [(1, 1)]) I (Nat.le_refl N) rfl k3 (fun _ => by simp) (fun h => by rcases k2 with q | q <;> (rw [q] at h; exact absurd h (by decide))) (fun a b c => by rcases k2 with h | h; exact absurd h c; exact absurd h a)
  exact ⟨⟨h1.1, trivial⟩, k1, h2⟩
/-- room for one more -/
theorem v_room {n m : Nat} (hn : n ≤ m) (hm : m < 1000) {x y : Int32} (hx : x = nI n) (hy : y = nI m) : (n < m ∧ b_X6_roomVerdict_0 x y C = 0) ∨ (n = m ∧ b_X6_roomVerdict_0 x y C = nI (1000 + m)) := by
  subst hx
  subst hy
  unfold b_X6_roomVerdict_0 b_X6_roomVerdict_14
  by_cases h : n < m
  · rw [if_neg (nI_ge h (by omega))]
    exact Or.inl ⟨h, rfl⟩
  · rw [if_pos (nI_le (by omega) (by omega))]
    exact Or.inr ⟨by omega, rfd (C := C) (a := 1) (d := m)⟩
theorem rg_newP {V U : Nat → Nat → Int32} (R : Rg V U N pc hc uc ic hr) (hp : pc < 4) {v0 u0 u : Nat → Int32} (h0 : v0 4 = nI (pc + 1) ∧ u0 4 = nI (pc + 1)) (hv : ∀ k, ¬ k = 4 → v0 k = V 0 k) (hu : ∀ k, ¬ k = 4 → u0 k = U 0 k) (h : u 0 = 20 ∧ u 1 = 10 ∧ u 2 = 0 ∧ u 3 = 0 ∧ u 4 = 0) : Rg (setV V 0 v0) (setV (setV U 0 u0) (7 + pc) u) N (pc + 1) hc uc ic hr := by
  obtain ⟨⟨s0, s1, s2, s3, s4, s5, s6⟩, w, r3, rp, rh, ri, rx, rb⟩ := R
  obtain ⟨h0', h1', h2', h3', h4'⟩ := h
  have vn : ∀ a, ¬ a = 0 → setV V 0 v0 a = V a := fun a ha => sv_ne ha
  have un : ∀ a, ¬ a = 0 → ¬ a = 7 + pc → setV (setV U 0 u0) (7 + pc) u a = U a := fun a ha hb => by rw [sv_ne hb, sv_ne ha]
  have v00 : setV V 0 v0 0 = v0 := sv_at
  have u00 : setV (setV U 0 u0) (7 + pc) u 0 = u0 := by rw [sv_ne (by omega), sv_at]
  have upc : setV (setV U 0 u0) (7 + pc) u (7 + pc) = u := sv_at
  generalize setV V 0 v0 = V' at *
  generalize setV (setV U 0 u0) (7 + pc) u = U' at *
  refine ⟨⟨⟨by omega, s0.2.1, s0.2.2.1, s0.2.2.2.1, s0.2.2.2.2⟩, ?_, ?_, ?_, ?_, ?_, ?_⟩, ?_, ?_, ?_, ?_, ?_, ?_, ?_⟩
  · rw [v00, u00, hv 0 (by decide), hu 0 (by decide)]; exact s1
  · rw [v00, u00, hv 1 (by decide), hu 1 (by decide)]; exact s2
  · rw [v00, u00]; exact h0
  · rw [v00, u00, hv 6 (by decide), hu 6 (by decide)]; exact s4
  · rw [v00, u00, hv 8 (by decide), hu 8 (by decide)]; exact s5
  · rw [v00, u00, hv 10 (by decide), hu 10 (by decide)]; exact s6
  · exact RW_c (vn 1 (by decide)) (vn 2 (by decide)) (un 1 (by decide) (by omega)) (un 2 (by decide) (by omega)) w
  · exact RU_c (vn 3 (by decide)) (un 3 (by decide) (by omega)) r3
  · intro p hp4
    rw [vn (7 + p) (by omega)]
    by_cases e : p = pc
    · subst e
      rw [upc]
      obtain ⟨d0, d1, d2, d3, d4⟩ := (rp p hp4).2 (by omega)
      refine ⟨fun _ => ⟨⟨by rw [d0, h0'], by rw [d1, h1'], by rw [d2, h2'], by rw [d3, h3'], by rw [d4, h4']⟩, ⟨20, by decide, h0'⟩, ⟨10, by decide, h1'⟩, ⟨0, by decide, h2'⟩, Or.inl h3'⟩, fun q => absurd (Nat.lt_succ_self p) q⟩
    · rw [un (7 + p) (by omega) (by omega)]
      exact ⟨fun q => (rp p hp4).1 (by omega), fun q => (rp p hp4).2 (by omega)⟩
  · intro h hh
    rw [vn (11 + h) (by omega), un (11 + h) (by omega) (by omega)]
    refine ⟨fun q => ?_, (rh h hh).2⟩
    obtain ⟨a1, a2, a3, a4, a5, a6⟩ := (rh h hh).1 q
    refine ⟨a1, a2, a3, a4, a5, ?_⟩
    rcases a6 with a6 | ⟨b1, b2, p, b3, b4⟩
    · exact Or.inl a6
    · exact Or.inr ⟨b1, b2, p, by omega, b4⟩
  · intro k hk
    rw [vn (16 + k) (by omega), un (16 + k) (by omega) (by omega), vn (28 + k) (by omega), un (28 + k) (by omega) (by omega)]
    refine ⟨fun q => ?_, (ri k hk).2⟩
    obtain ⟨a1, ⟨a2, ⟨p, a3, a4⟩, a5⟩, a6⟩ := (ri k hk).1 q
    exact ⟨a1, ⟨a2, ⟨p, by omega, a4⟩, a5⟩, a6⟩
  · exact RX_c (fun h _ => un (11 + h) (by omega) (by omega)) (fun k _ => un (16 + k) (by omega) (by omega)) rx
  · intro p hp4
    rw [sumOn_c (U' := U') (U := U) ic (fun k _ => un (16 + k) (by omega) (by omega))]
    by_cases e : p = pc
    · subst e
      rw [upc, h4']
      have z : ∀ n, n ≤ ic → sumOn U (nI p) n = 0 := by
        intro n
        induction n with
        | zero => intro _; rfl
        | succ n ih =>
          intro hn
          obtain ⟨a1, ⟨a2, ⟨q, a3, a4⟩, a5⟩, a6⟩ := (ri n (by omega)).1 (by omega)
          have ne : ¬ U (16 + n) 0 = nI p := fun e => by
            rw [a4, nI_eq (by omega) (by omega)] at e
            omega
          show sumOn U (nI p) n + (if U (16 + n) 0 = nI p then U (16 + n) 3 else 0) = 0
          rw [ih (by omega), if_neg ne]
          rfl
      exact (z ic (Nat.le_refl _)).symm
    · rw [un (7 + p) (by omega) (by omega)]
      exact rb p (by omega)
theorem s_newP {p : Nat} (hp : p < 4) : ∀ n i (S : Sx) (U : Nat → Nat → Int32), MS M S U → i ≤ 5 → 5 < n + i → o_X7_pitch_53 n (nI p) (nI i) S ∧ (b_X7_pitch_53 n (nI p) (nI i) S).1 = nI p ∧ ∃ u, (∀ f, f < 5 → u f = (if f = 0 then 20 else if f = 1 then 10 else if i ≤ f then 0 else U (7 + p) f)) ∧ MS M (b_X7_pitch_53 n (nI p) (nI i) S).2 (setV U (7 + p) u) := by
  intro n
  induction n with
  | zero => intro i S U _ h1 h2; omega
  | succ n ih =>
    intro i S U hS h1 h2
    by_cases hi : i < 5
    · have hle : ¬ (5 : Int32) ≤ nI i := nI_ge (b := 5) hi (by decide)
      have S1 := hS.P (p := p) (f := i) (v := 0) hp hi
      obtain ⟨J1, J2, u, J3, J4⟩ := ih (i + 1) _ _ S1 (by omega) (by omega)
      rw [nI_succ] at J1 J2 J4
      rw [b_X7_pitch_53, o_X7_pitch_53, if_neg hle]
      refine ⟨⟨fun e => absurd e hle, fun _ => ⟨oLP hp hi, J1⟩⟩, J2, u, fun f hf => ?_, ?_⟩
      · rw [J3 f hf]
        by_cases e0 : f = 0
        · simp [e0]
        · by_cases e1 : f = 1
          · simp [e1]
          · simp only [e0, e1, if_false]
            by_cases e2 : f = i
            · subst e2
              have q : ¬ f + 1 ≤ f := by omega
              simp [q, upV]
            · by_cases e3 : i ≤ f
              · have q : i + 1 ≤ f := by omega
                simp [q, e3]
              · have q : ¬ i + 1 ≤ f := by omega
                simp [q, e3, upV, e2]
      · rw [upV_set, set_set] at J4
        exact J4
    · have hie : i = 5 := by omega
      subst hie
      have hle : (5 : Int32) ≤ nI 5 := by decide
      rw [b_X7_pitch_53, o_X7_pitch_53, if_pos hle]
      have S1 := hS.P (p := p) (f := 0) (v := 20) hp (by decide)
      have S2 := S1.P (p := p) (f := 1) (v := 10) hp (by decide)
      refine ⟨⟨fun _ => ⟨oLP (f := 0) hp (by decide), oLP (f := 1) hp (by decide), trivial⟩, fun e => absurd hle e⟩, rfl, upd (upd (U (7 + p)) 0 20) 1 10, fun f hf => ?_, ?_⟩
      · have hf5 : f = 0 ∨ f = 1 ∨ f = 2 ∨ f = 3 ∨ f = 4 := by omega
        rcases hf5 with rfl | rfl | rfl | rfl | rfl <;> simp [upd]
      · rw [upV_set, upV_set, set_set, sv_at] at S2
        exact S2
theorem L_pitch (I : Inv N C M) : o_X6_pitch_0 C ∧ o_X7_pitch_0 M ∧ Ok N [(3, 1)] C M (b_X6_pitch_0 C) (b_X7_pitch_0 M) := by
  obtain ⟨pc, hc, uc, ic, hr, R⟩ := id I.1
  have hK := I.kp
  have hb := gb R
  have e4 : C 15 4 = nI pc := (g04 R).1
  have m4 : up2 M 5 8 0 6 ((50 : Int32).toNatClampNeg) = nI pc := by rw [up2_ne (by decide)]; exact (g04 R).2
  have m4k : b_X7_keeps_0 6 (up2 M 5 8 0) 6 ((50 : Int32).toNatClampNeg) = nI pc := by rw [hK.2]; exact (g04 R).2
  have K : o_X7_pitch_0 M ∧ (¬ b_X6_roomVerdict_0 (C 15 4) 4 C = -1 ∧ ¬ b_X6_roomVerdict_0 (C 15 4) 4 C = -2) ∧ Out 15 N 0 1 C M (b_X6_roomVerdict_0 (C 15 4) 4 C) (b_X7_pitch_0 M) (fun S => (S 15 4, up2 S 15 4 (S 15 4 + 1))) (fun _ => True) := by
    rcases v_room (C := C) (n := pc) (m := 4) (x := C 15 4) (y := 4) (by omega) (by decide) e4 rfl with ⟨h4, w1⟩ | ⟨h4, w1⟩
    · have n4 : ¬ nI pc = 4 := fun q => by
        have := (nI_eq (a := pc) (b := 4) (by omega) (by decide)).mp q
        omega
      have S1 := (MS.rf (M := b_X7_keeps_0 6 (up2 M 5 8 0))).up (i := 0) (k := 4) (v := nI (pc + 1)) rfl
      obtain ⟨J1, J2, u, J3, J4⟩ := s_newP (p := pc) h4 100 0 _ _ S1 (by omega) (by omega)
      rw [nI_0] at J1 J2 J4
      have w2 : b_X7_pitch_0 M = b_X7_pitch_53 100 (nI pc) 0 (up2 (b_X7_keeps_0 6 (up2 M 5 8 0)) 6 (pos 0 4) (nI (pc + 1))) := by
        simp only [b_X7_pitch_0, b_X7_pitch_51, m4, m4k, n4, if_false, nI_succ]
        rfl
      have om : o_X7_pitch_0 M := by
        have e : o_X7_pitch_51 (nI pc) (up2 (b_X7_keeps_0 6 (up2 M 5 8 0)) 6 ((50 : Int32).toNatClampNeg) (nI pc + 1)) := by
          rw [← nI_succ]
          exact J1
        simp only [o_X7_pitch_0, m4, m4k, n4]
        exact ⟨fun q => absurd q (by simp), fun _ => ⟨hK.1, e⟩⟩
      refine ⟨om, ⟨by rw [w1]; decide, by rw [w1]; decide⟩, Or.inr (Or.inr (Or.inr ⟨w1, fun C1 hv => ?_⟩))⟩
      rw [w2, J2]
      have RK := kR (C1 := C1) R hK hv
      have c4 : C1 15 4 = nI pc := (g04 RK).1
      refine ⟨trivial, c4, fun j hj => up2_ne (by omega), fun j hj => J4.1 j hj, ?_⟩
      show Rl N (vw (up2 C1 (15 + 0) 4 (C1 15 4 + 1)) 15) _
      rw [c4, ← nI_succ, vw_up (i := 0) (k := 4) rfl (Or.inl rfl), J4.2, upV_set, upV_set]
      refine ⟨_, _, _, _, _, rg_newP RK h4 ⟨by simp [upd], by simp [upd]⟩ (fun k hk => by simp [upd, hk]) (fun k hk => by simp [upd, hk]) ⟨J3 0 (by decide), J3 1 (by decide), J3 2 (by decide), J3 3 (by decide), J3 4 (by decide)⟩⟩
    · have w2 : b_X7_pitch_0 M = b_X7_refuses_0 1 1 4 (up2 M 5 8 0) := by
        simp only [b_X7_pitch_0, m4, h4]
        rfl
      have om : o_X7_pitch_0 M := by
        simp only [o_X7_pitch_0, m4, h4]
        exact ⟨fun _ => trivial, fun q => absurd rfl q⟩
      exact ⟨om, ⟨by rw [w1]; decide, by rw [w1]; decide⟩, Or.inr (Or.inr (Or.inl ⟨1, 4, by decide, by decide, by decide, w1, w2⟩))⟩
  obtain ⟨k1, k2, k3⟩ := K
  obtain ⟨h1, h2⟩ := chg (c := b_X6_pitch_0 C) (codes := [(3, 1)]) I (Nat.le_refl N) rfl k3 (fun h => absurd h k2.1) (fun h => absurd h k2.2) (fun _ _ _ => by simp)
  exact ⟨⟨h1.1, trivial⟩, k1, h2⟩
/-! boots -/
theorem L_boots (I : Inv N C M) (x1 x2 : Int32) (hz : bz x2) : o_X6_boots_0 x1 x2 C ∧ o_X7_boots_0 x1 x2 M ∧ Ok N [(1, 1), (3, 2)] C M (b_X6_boots_0 x1 x2 C) (b_X7_boots_0 x1 x2 M) := by
  obtain ⟨pc, hc, uc, ic, hr, R⟩ := id I.1
  have hK := I.kp
  have hb := gb R
  have of0 : ∀ w S, o_X7_fails_0 w S := fun w S => o_fails (M := S) (x := w)
  have R1 := R0 (x := 0) R
  have K : o_X0_bootsVerdict_0 15 x1 C ∧ o_X7_boots_0 x1 x2 M ∧ ¬ b_X0_bootsVerdict_0 15 x1 C = -2 ∧ Out 15 N 0 2 C M (b_X0_bootsVerdict_0 15 x1 C) (b_X7_boots_0 x1 x2 M) (fun S => (b_X0_bootedHorses_0 15 (up2 S (15 + 11 + x1.toNatClampNeg) 1 x2), up2 S (15 + 11 + x1.toNatClampNeg) 1 x2)) (fun S => vp_in x1 5 ∧ (bz x2 ∧ (o_X0_bootedHorses_0 15 (up2 S (15 + 11 + x1.toNatClampNeg) 1 x2) ∧ True))) := by
    rcases d_hor R x1 with ⟨c1, c2, h, hh, rfl⟩ | ⟨c1, c2⟩
    · obtain ⟨v1, v2⟩ := v_boots R hh
      have G := gH R hh
      have eh := nI_clamp (n := h) (by omega)
      have i5 : vp_in (nI h) 5 := vp_in_nI (by omega) (by decide)
      have m3 : b_X7_ofHorse_0 (nI h) 3 (up2 M 5 8 0) = dR (M 6) (11 + h) 3 := mH_of (M' := up2 M 5 8 0) (by rw [up2_ne (by decide)]) (f := 3) 3 rfl (by omega) (by decide)
      have q3 : ∀ S, o_X7_ofHorse_0 (nI h) 3 S := fun S => oH (M := S) (f := 3) (by omega) (by decide)
      have l1 : ∀ v S, o_X7_laysHorse_0 (nI h) 1 v S := fun v S => oLH (f := 1) (by omega) (by decide)
      have z00 : (0 : Int32) ≤ 0 := by decide
      rcases v2 with ⟨a3, w1⟩ | ⟨d, d0, d6, a3, w1⟩
      · have S1 := (MS.rf (M := b_X7_keeps_0 6 (up2 M 5 8 0))).H (p := h) (f := 1) (v := x2) (by omega) (by decide)
        rw [hK.2] at S1
        have RL : ∀ C1, vw C1 15 = vw C 15 → Rg (vw (up2 C1 (15 + 11 + h) 1 x2) 15) (dR (b_X7_laysHorse_0 (nI h) (nI 1) x2 (b_X7_keeps_0 6 (up2 M 5 8 0)) 6)) N pc hc uc ic hr := by
          intro C1 hv
          have T0 : CS C1 C1 15 (vw C 15) := ⟨fun _ _ => rfl, hv⟩
          have T1 := T0.H (p := h) (f := 1) (v := x2) (by omega) (by decide) (Or.inr hz)
          rw [T1.2, S1.2, upV_set, upV_set]
          obtain ⟨⟨g0, g1, g2, g3, g5⟩, gb1, gs0, gs2, gs3, gd⟩ := G
          refine rg_H R hh ⟨⟨?_, ?_, ?_, ?_, ?_⟩, ?_, ?_, ?_, ?_, ?_⟩ ?_
          · simpa [upd] using g0
          · simp [upd]
          · simpa [upd] using g2
          · simpa [upd] using g3
          · simpa [upd] using g5
          · simpa [upd] using hz
          · simpa [upd] using gs0
          · simpa [upd] using gs2
          · simpa [upd] using gs3
          · simpa [upd] using gd
          · intro k hk
            simpa [upd] using R.2.2.2.2.2.2.1 h k hh hk
        have om : o_X7_boots_0 (nI h) x2 M := by
          have B := (q_s_boo (RL C rfl)).2.1
          rcases hz with rfl | rfl
          · have B0 : o_X7_booted_0 (b_X7_laysHorse_0 (nI h) 1 0 (b_X7_keeps_0 6 (up2 M 5 8 0))) := B
            simp [o_X7_boots_0, o_X7_boots_14, o_X7_boots_64, o_isHorse, c2, f_0, of0, q3, l1, m3, a3, z00, hK.1, B0]
          · have B0 : o_X7_booted_0 (b_X7_laysHorse_0 (nI h) 1 1 (b_X7_keeps_0 6 (up2 M 5 8 0))) := B
            simp [o_X7_boots_0, o_X7_boots_14, o_X7_boots_64, o_isHorse, c2, f_0, of0, q3, l1, m3, a3, z00, hK.1, B0]
        have w2 : b_X7_boots_0 (nI h) x2 M = b_X7_boots_64 x2 1 (nI h) (b_X7_keeps_0 6 (up2 M 5 8 0)) := by
          rcases hz with rfl | rfl
          · simp [b_X7_boots_0, b_X7_boots_14, c2, f_0, m3, a3]
          · simp [b_X7_boots_0, b_X7_boots_14, c2, f_0, m3, a3]
        refine ⟨v1, om, by rw [w1]; decide, Or.inr (Or.inr (Or.inr ⟨w1, fun C1 hv => ?_⟩))⟩
        rw [w2, eh]
        have RK := RL C1 hv
        have B := q_s_boo RK
        exact ⟨⟨i5, hz, B.1, trivial⟩, B.2.2, fun j hj => up2_ne (by omega), S1.1, RK.l⟩
      · have n0 : ¬ nI d ≤ 0 := nI_nle d0 (by omega)
        have w2 : b_X7_boots_0 (nI h) x2 M = b_X7_refuses_0 2 2 (nI d) (up2 M 5 8 0) := by
          simp only [b_X7_boots_0, b_X7_boots_14, c2, f_0, m3, a3, n0, z10, if_true, if_false]
        refine ⟨v1, ?_, ?_, Or.inr (Or.inr (Or.inl ⟨2, d, by decide, by decide, by omega, w1, w2⟩))⟩
        · simp [o_X7_boots_0, o_X7_boots_14, o_isHorse, c2, f_0, of0, q3, m3, a3, n0]
        · rw [w1]
          exact fun q => nI_pos (n := 2000 + d) (by omega) (by rw [q]; decide)
    · have w1 : b_X0_bootsVerdict_0 15 x1 C = -1 := by simp [b_X0_bootsVerdict_0, c1]
      refine ⟨by simp [o_X0_bootsVerdict_0, c1], by simp [o_X7_boots_0, o_X7_boots_14, o_isHorse, c2, f_1, of0], by rw [w1]; decide, Or.inl ⟨w1, ?_⟩⟩
      simp [b_X7_boots_0, b_X7_boots_14, c2, f_1]
  obtain ⟨k1, k2, k3, k4⟩ := K
  obtain ⟨h1, h2⟩ := chg (c := b_X6_boots_0 x1 x2 C) (codes := [(1, 1), (3, 2)]) I (Nat.le_refl N) rfl k4 (fun _ => by simp) (fun h => absurd h k3) (fun _ _ _ => by simp)
  exact ⟨⟨k1, h1⟩, k2, h2⟩
end

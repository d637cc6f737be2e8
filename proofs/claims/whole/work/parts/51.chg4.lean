/-! CHANGES: new horses, umpires, innings -/
section
variable {C M : Sx} {N pc hc uc ic hr : Nat}
theorem rg_newH {V U : Nat → Nat → Int32} (R : Rg V U N pc hc uc ic hr) (hp : hc < 5) {v0 u0 v u : Nat → Int32} (h0 : v0 6 = nI (hc + 1) ∧ u0 6 = nI (hc + 1)) (hv : ∀ k, ¬ k = 6 → v0 k = V 0 k) (hu : ∀ k, ¬ k = 6 → u0 k = U 0 k) (h : RHl pc v u) (h3 : u 3 = 0) : Rg (setV (setV V 0 v0) (11 + hc) v) (setV (setV U 0 u0) (11 + hc) u) N pc (hc + 1) uc ic hr := by
  obtain ⟨⟨s0, s1, s2, s3, s4, s5, s6⟩, w, r3, rp, rh, ri, rx, rb⟩ := R
  have vn : ∀ a, ¬ a = 0 → ¬ a = 11 + hc → setV (setV V 0 v0) (11 + hc) v a = V a := fun a ha hb => by rw [sv_ne hb, sv_ne ha]
  have un : ∀ a, ¬ a = 0 → ¬ a = 11 + hc → setV (setV U 0 u0) (11 + hc) u a = U a := fun a ha hb => by rw [sv_ne hb, sv_ne ha]
  have v00 : setV (setV V 0 v0) (11 + hc) v 0 = v0 := by rw [sv_ne (by omega), sv_at]
  have u00 : setV (setV U 0 u0) (11 + hc) u 0 = u0 := by rw [sv_ne (by omega), sv_at]
  have vhc : setV (setV V 0 v0) (11 + hc) v (11 + hc) = v := sv_at
  have uhc : setV (setV U 0 u0) (11 + hc) u (11 + hc) = u := sv_at
  generalize setV (setV V 0 v0) (11 + hc) v = V' at *
  generalize setV (setV U 0 u0) (11 + hc) u = U' at *
  refine ⟨⟨⟨s0.1, by omega, s0.2.2.1, s0.2.2.2.1, s0.2.2.2.2⟩, ?_, ?_, ?_, ?_, ?_, ?_⟩, ?_, ?_, ?_, ?_, ?_, ?_, ?_⟩
  · rw [v00, u00, hv 0 (by decide), hu 0 (by decide)]; exact s1
  · rw [v00, u00, hv 1 (by decide), hu 1 (by decide)]; exact s2
  · rw [v00, u00, hv 4 (by decide), hu 4 (by decide)]; exact s3
  · rw [v00, u00]; exact h0
  · rw [v00, u00, hv 8 (by decide), hu 8 (by decide)]; exact s5
  · rw [v00, u00, hv 10 (by decide), hu 10 (by decide)]; exact s6
  · exact RW_c (vn 1 (by decide) (by omega)) (vn 2 (by decide) (by omega)) (un 1 (by decide) (by omega)) (un 2 (by decide) (by omega)) w
  · exact RU_c (vn 3 (by decide) (by omega)) (un 3 (by decide) (by omega)) r3
  · exact RP_c (fun p hp => vn (7 + p) (by omega) (by omega)) (fun p hp => un (7 + p) (by omega) (by omega)) rp
  · intro j hj
    by_cases e : j = hc
    · subst e
      rw [vhc, uhc]
      exact ⟨fun _ => h, fun q => absurd (Nat.lt_succ_self j) q⟩
    · rw [vn (11 + j) (by omega) (by omega), un (11 + j) (by omega) (by omega)]
      exact ⟨fun q => (rh j hj).1 (by omega), fun q => (rh j hj).2 (by omega)⟩
  · exact RI_c (fun k hk => vn (16 + k) (by omega) (by omega)) (fun k hk => un (16 + k) (by omega) (by omega)) (fun k hk => vn (28 + k) (by omega) (by omega)) (fun k hk => un (28 + k) (by omega) (by omega)) ri
  · intro j k hj hk
    rw [un (16 + k) (by omega) (by omega)]
    by_cases e : j = hc
    · subst e
      rw [uhc, h3]
      exact fun q => q.1 rfl
    · rw [un (11 + j) (by omega) (by omega)]
      exact rx j k (by omega) hk
  · exact RB_c (fun p hp => by rw [un (7 + p) (by omega) (by omega)]) (fun k hk => un (16 + k) (by omega) (by omega)) rb
theorem s_newH {p : Nat} (hp : p < 5) {y x2 : Int32} (hz : bz x2) : ∀ n i (S : Sx) (U : Nat → Nat → Int32), MS M S U → i ≤ 6 → 6 < n + i → o_X7_horse_73 n y x2 (nI p) (nI i) S ∧ (b_X7_horse_73 n y x2 (nI p) (nI i) S).1 = nI p ∧ ∃ u, (∀ f, f < 6 → u f = (if f = 0 then y else if f = 1 then x2 else if f = 4 then -1 else if i ≤ f then 0 else U (11 + p) f)) ∧ MS M (b_X7_horse_73 n y x2 (nI p) (nI i) S).2 (setV U (11 + p) u) := by
  intro n
  induction n with
  | zero => intro i S U _ h1 h2; omega
  | succ n ih =>
    intro i S U hS h1 h2
    by_cases hi : i < 6
    · have hle : ¬ (6 : Int32) ≤ nI i := nI_ge (b := 6) hi (by decide)
      have S1 := hS.H (p := p) (f := i) (v := 0) hp hi
      obtain ⟨J1, J2, u, J3, J4⟩ := ih (i + 1) _ _ S1 (by omega) (by omega)
      rw [nI_succ] at J1 J2 J4
      rw [b_X7_horse_73, o_X7_horse_73, if_neg hle]
      refine ⟨⟨fun e => absurd e hle, fun _ => ⟨oLH hp hi, J1⟩⟩, J2, u, fun f hf => ?_, ?_⟩
      · rw [J3 f hf]
        by_cases e0 : f = 0
        · simp [e0]
        · by_cases e1 : f = 1
          · simp [e1]
          · by_cases e4 : f = 4
            · simp [e4]
            · simp only [e0, e1, e4, if_false]
              by_cases e2 : f = i
              · subst e2
                have q : ¬ f + 1 ≤ f := by omega
                simp [q, upV]
              · by_cases e3 : i ≤ f
                · have q : i + 1 ≤ f := by omega
                  simp [q, e3]
                · have q : ¬ i + 1 ≤ f := by omega
                  simp [q, e3, upV, e2]
      · rw [upV_set, set_set] at J4
        exact J4
    · have hie : i = 6 := by omega
      subst hie
      have hle : (6 : Int32) ≤ nI 6 := by decide
      have S1 := hS.H (p := p) (f := 0) (v := y) hp (by decide)
      have S2 := S1.H (p := p) (f := 1) (v := x2) hp (by decide)
      have S3 := S2.H (p := p) (f := 4) (v := -1) hp (by decide)
      rw [upV_set, upV_set, upV_set, set_set, sv_at, set_set, sv_at] at S3
      have e1 : b_X7_horse_73 (n + 1) y x2 (nI p) (nI 6) S = (nI p, b_X7_laysHorse_0 (nI p) (nI 4) (-1) (b_X7_laysHorse_0 (nI p) (nI 1) x2 (b_X7_laysHorse_0 (nI p) (nI 0) y S))) := by
        rw [b_X7_horse_73, if_pos hle]
        rcases hz with rfl | rfl <;> rfl
      have o1 : o_X7_horse_73 (n + 1) y x2 (nI p) (nI 6) S := by
        rw [o_X7_horse_73]
        have oo : ∀ v, bz v → o_X7_horse_113 (nI p) v 1 (nI p) (b_X7_laysHorse_0 (nI p) 0 y S) := fun v _ => ⟨oLH (f := 1) hp (by decide), oLH (f := 4) hp (by decide), trivial⟩
        refine ⟨fun _ => ⟨oLH (f := 0) hp (by decide), fun _ => oo 0 bz_0, fun _ => oo 1 bz_1⟩, fun e => absurd hle e⟩
      rw [e1]
      refine ⟨o1, rfl, upd (upd (upd (U (11 + p)) 0 y) 1 x2) 4 (-1), fun f hf => ?_, S3⟩
      have hf5 : f = 0 ∨ f = 1 ∨ f = 2 ∨ f = 3 ∨ f = 4 ∨ f = 5 := by omega
      rcases hf5 with rfl | rfl | rfl | rfl | rfl | rfl <;> simp [upd]
set_option maxHeartbeats 4000000 in
theorem L_horse (I : Inv N C M) (x1 x2 : Int32) (hz : bz x2) : o_X6_horse_0 x1 x2 C ∧ o_X7_horse_0 x1 x2 M ∧ Ok N [(2, 1), (3, 2)] C M (b_X6_horse_0 x1 x2 C) (b_X7_horse_0 x1 x2 M) := by
  obtain ⟨pc, hc, uc, ic, hr, R⟩ := id I.1
  have hK := I.kp
  have hb := gb R
  have of0 : ∀ w S, o_X7_fails_0 w S := fun w S => o_fails (M := S) (x := w)
  have e4 : C 15 6 = nI hc := (g06 R).1
  have m4 : up2 M 5 8 0 6 ((71 : Int32).toNatClampNeg) = nI hc := by rw [up2_ne (by decide)]; exact (g06 R).2
  have m4' : up2 M 5 8 0 6 71 = nI hc := m4
  have m4k : b_X7_keeps_0 6 (up2 M 5 8 0) 6 ((71 : Int32).toNatClampNeg) = nI hc := by rw [hK.2]; exact (g06 R).2
  rcases vd_rng (x := x1) (a := 1) (c := 9) (C := C) (M := M) (by decide) (by decide) with ⟨d1, d2, y, hy, hy9, rfl⟩ | ⟨d1, d2⟩
  · have d1' : b_X6_rangeVerdict_0 (nI y) 1 9 C = 0 := d1
    have d2' : b_X7_in_0 (nI y) 1 9 M = 1 := d2
    have K : o_X7_horse_0 (nI y) x2 M ∧ (¬ b_X6_roomVerdict_0 (C 15 6) 5 C = -1 ∧ ¬ b_X6_roomVerdict_0 (C 15 6) 5 C = -2) ∧ Out 15 N 0 2 C M (b_X6_roomVerdict_0 (C 15 6) 5 C) (b_X7_horse_0 (nI y) x2 M) (fun S => ((b_X6_horse_26 (nI y) x2 S).2.1, (b_X6_horse_26 (nI y) x2 S).2.2)) (fun S => o_X6_horse_26 (nI y) x2 S) := by
      rcases v_room (C := C) (n := hc) (m := 5) (x := C 15 6) (y := 5) (by omega) (by decide) e4 rfl with ⟨h4, w1⟩ | ⟨h4, w1⟩
      · have n4 : ¬ nI hc = 5 := fun q => by
          have := (nI_eq (a := hc) (b := 5) (by omega) (by decide)).mp q
          omega
        have S1 := (MS.rf (M := b_X7_keeps_0 6 (up2 M 5 8 0))).up (i := 0) (k := 6) (v := nI (hc + 1)) rfl
        obtain ⟨J1, J2, u, J3, J4⟩ := s_newH (p := hc) h4 (y := nI y) hz 100 0 _ _ S1 (by omega) (by omega)
        rw [nI_0] at J1 J2 J4
        have w2 : b_X7_horse_0 (nI y) x2 M = b_X7_horse_73 100 (nI y) x2 (nI hc) 0 (up2 (b_X7_keeps_0 6 (up2 M 5 8 0)) 6 (pos 0 6) (nI (hc + 1))) := by
          simp only [b_X7_horse_0, b_X7_horse_16, b_X7_horse_70, d2', f_0, z10, m4, m4k, n4, if_false, if_true, nI_succ]
          rfl
        have om : o_X7_horse_0 (nI y) x2 M := by
          have e : o_X7_horse_70 (nI y) x2 (nI hc) (up2 (b_X7_keeps_0 6 (up2 M 5 8 0)) 6 ((71 : Int32).toNatClampNeg) (nI hc + 1)) := by
            rw [← nI_succ]
            exact J1
          simp only [o_X7_horse_0, o_X7_horse_16, d2', f_0, m4, m4k, n4]
          simp [o_in, of0, hK.1]
          exact e
        refine ⟨om, ⟨by rw [w1]; decide, by rw [w1]; decide⟩, Or.inr (Or.inr (Or.inr ⟨w1, fun C1 hv => ?_⟩))⟩
        rw [w2, J2]
        have RK := kR (C1 := C1) R hK hv
        have c4 : C1 15 6 = nI hc := (g06 RK).1
        have ec := nI_clamp (n := hc) (by omega)
        have T0 : CS C1 C1 15 (vw C1 15) := ⟨fun _ _ => rfl, rfl⟩
        have T1 := T0.H (p := hc) (f := 0) (v := nI y) (by omega) (by decide) (Or.inl (by decide))
        have T2 := T1.H (p := hc) (f := 1) (v := x2) (by omega) (by decide) (Or.inr hz)
        have q1 : up2 C1 (15 + 11 + hc) 0 (nI y) 15 6 = nI hc := by rw [up2_ne (by omega)]; exact c4
        have q2 : up2 (up2 C1 (15 + 11 + hc) 0 (nI y)) (15 + 11 + hc) 1 x2 15 6 = nI hc := by rw [up2_ne (by omega)]; exact q1
        have T3 := T2.up (i := 0) (k := 6) (v := nI (hc + 1)) rfl (Or.inl rfl)
        have eop : b_X6_horse_26 (nI y) x2 C1 = (0, nI hc, up2 (up2 (up2 C1 (15 + 11 + hc) 0 (nI y)) (15 + 11 + hc) 1 x2) (15 + 0) 6 (nI (hc + 1))) := by
          unfold b_X6_horse_26 b_X6_horse_45 b_X6_horse_64
          rw [c4, ec, q1, ec, q2, nI_succ]
        have i5 : vp_in (nI hc) 5 := vp_in_nI h4 (by decide)
        have oop : o_X6_horse_26 (nI y) x2 C1 := by
          unfold o_X6_horse_26 o_X6_horse_45
          rw [c4, ec, q1]
          exact ⟨i5, i5, hz, trivial⟩
        refine ⟨oop, ?_, ?_, fun j hj => J4.1 j hj, ?_⟩
        · show (b_X6_horse_26 (nI y) x2 C1).2.1 = nI hc
          rw [eop]
        · show FC 15 C1 (b_X6_horse_26 (nI y) x2 C1).2.2
          rw [eop]
          exact T3.1
        · show Rl N (vw (b_X6_horse_26 (nI y) x2 C1).2.2 15) _
          rw [eop, J4.2]
          show Rl N (vw (up2 (up2 (up2 C1 (15 + 11 + hc) 0 (nI y)) (15 + 11 + hc) 1 x2) (15 + 0) 6 (nI (hc + 1))) 15) _
          rw [T3.2, upV_set, upV_set, upV_set, upV_set, set_set, sv_at, set_comm (by omega)]
          have D := (R.2.2.2.2.1 hc h4).2 (by omega)
          obtain ⟨D2, D3, D5⟩ := D
          have V0 : vw C1 15 = vw C 15 := hv
          have z0 : setV (vw C1 15) (11 + hc) (upd (upd (vw C1 15 (11 + hc)) 0 (nI y)) 1 x2) 0 = vw C1 15 0 := sv_ne (by omega)
          rw [z0]
          refine ⟨_, _, _, _, _, rg_newH RK h4 ⟨by simp [upd], by simp [upd]⟩ (fun k hk => by simp [upd, hk]) (fun k hk => by simp [upd, hk]) ?_ ?_⟩
          · have u0 := J3 0 (by decide)
            have u1 := J3 1 (by decide)
            have u2 := J3 2 (by decide)
            have u3 := J3 3 (by decide)
            have u4 := J3 4 (by decide)
            have u5 := J3 5 (by decide)
            simp at u0 u1 u2 u3 u4 u5
            refine ⟨⟨?_, ?_, ?_, ?_, ?_⟩, ?_, ?_, ?_, ?_, Or.inl ⟨u3, u4⟩⟩
            · simp [upd, u0]
            · simp [upd, u1]
            · rw [u2, V0]; simpa [upd] using D2
            · rw [u3, V0]; simpa [upd] using D3
            · rw [u5, V0]; simpa [upd] using D5
            · rw [u1]; exact hz
            · exact ⟨y, hy9, u0⟩
            · exact ⟨0, by decide, u2⟩
            · exact ⟨0, by decide, u3⟩
          · have u3 := J3 3 (by decide)
            simpa using u3
      · have w2 : b_X7_horse_0 (nI y) x2 M = b_X7_refuses_0 2 1 5 (up2 M 5 8 0) := by
          simp only [b_X7_horse_0, b_X7_horse_16, d2', f_0, z10, m4, h4, if_false, if_true]
          rfl
        have om : o_X7_horse_0 (nI y) x2 M := by
          have e5 : nI 5 = (5 : Int32) := rfl
          simp [o_X7_horse_0, o_X7_horse_16, d2', f_0, m4', h4, e5, o_in, of0]
        exact ⟨om, ⟨by rw [w1]; decide, by rw [w1]; decide⟩, Or.inr (Or.inr (Or.inl ⟨1, 5, by decide, by decide, by decide, w1, w2⟩))⟩
    obtain ⟨k1, k2, k3⟩ := K
    have ec : b_X6_horse_0 (nI y) x2 C = b_X6_horse_11 (nI y) x2 C := by
      simp [b_X6_horse_0, d1', set_0]
    rw [ec]
    have hcc : ∀ S, b_X6_horse_26 (nI y) x2 S = (0, (b_X6_horse_26 (nI y) x2 S).2.1, (b_X6_horse_26 (nI y) x2 S).2.2) := fun _ => rfl
    obtain ⟨h1, h2⟩ := chg (c := b_X6_horse_11 (nI y) x2 C) (codes := [(2, 1), (3, 2)]) I (Nat.le_refl N) (by unfold b_X6_horse_11; rw [hcc]; try rfl) k3 (fun h => absurd h k2.1) (fun h => absurd h k2.2) (fun _ _ _ => by simp)
    refine ⟨?_, k1, h2⟩
    intro _
    rw [d1', set_0]
    exact h1
  · have d1' : b_X6_rangeVerdict_0 x1 1 9 C = -2 := d1
    have d2' : b_X7_in_0 x1 1 9 M = 0 := d2
    refine ⟨by simp [o_X6_horse_0, d1', set_m2], by simp [o_X7_horse_0, o_X7_horse_16, d2', o_in, of0, f_1], rd1 I (e := 2) (k := 1) (x := 1) (by simp) rfl ?_ ?_⟩
    · simp [b_X6_horse_0, d1', set_m2]
    · simp [b_X7_horse_0, b_X7_horse_16, d2', f_1]
theorem rg_newU {V U : Nat → Nat → Int32} (R : Rg V U N pc hc uc ic hr) (hp : uc < 3) {x : Int32} : Rg (upV (upV V 3 uc x) 0 8 (nI (uc + 1))) (upV (upV U 3 uc x) 0 8 (nI (uc + 1))) N pc hc (uc + 1) ic hr := by
  obtain ⟨⟨s0, s1, s2, s3, s4, s5, s6⟩, w, r3, rp, rh, ri, rx, rb⟩ := R
  have nn : ∀ (W : Nat → Nat → Int32) a, ¬ a = 0 → ¬ a = 3 → upV (upV W 3 uc x) 0 8 (nI (uc + 1)) a = W a := fun W a ha hb => by
    funext k
    simp [upV, ha, hb]
  have n0 : ∀ (W : Nat → Nat → Int32) k, ¬ k = 8 → upV (upV W 3 uc x) 0 8 (nI (uc + 1)) 0 k = W 0 k := fun W k hk => by
    simp [upV, hk]
  have n8 : ∀ (W : Nat → Nat → Int32), upV (upV W 3 uc x) 0 8 (nI (uc + 1)) 0 8 = nI (uc + 1) := fun W => by simp [upV]
  have n3 : ∀ (W : Nat → Nat → Int32) k, upV (upV W 3 uc x) 0 8 (nI (uc + 1)) 3 k = (if k = uc then x else W 3 k) := fun W k => by simp [upV]
  have vn := nn V
  have un := nn U
  refine ⟨⟨⟨s0.1, s0.2.1, by omega, s0.2.2.2.1, s0.2.2.2.2⟩, ?_, ?_, ?_, ?_, ?_, ?_⟩, ?_, ?_, ?_, ?_, ?_, ?_, ?_⟩
  · rw [n0 V 0 (by decide), n0 U 0 (by decide)]; exact s1
  · rw [n0 V 1 (by decide), n0 U 1 (by decide)]; exact s2
  · rw [n0 V 4 (by decide), n0 U 4 (by decide)]; exact s3
  · rw [n0 V 6 (by decide), n0 U 6 (by decide)]; exact s4
  · rw [n8, n8]; exact ⟨rfl, rfl⟩
  · rw [n0 V 10 (by decide), n0 U 10 (by decide)]; exact s6
  · exact RW_c (vn 1 (by decide) (by decide)) (vn 2 (by decide) (by decide)) (un 1 (by decide) (by decide)) (un 2 (by decide) (by decide)) w
  · intro k hk
    rw [n3, n3]
    by_cases e : k = uc
    · rw [if_pos e, if_pos e]
    · rw [if_neg e, if_neg e]
      exact r3 k (by omega)
  · exact RP_c (fun p hp => vn (7 + p) (by omega) (by omega)) (fun p hp => un (7 + p) (by omega) (by omega)) rp
  · exact RH_c (fun p hp => vn (11 + p) (by omega) (by omega)) (fun p hp => un (11 + p) (by omega) (by omega)) rh
  · intro k hk
    rw [vn (16 + k) (by omega) (by omega), un (16 + k) (by omega) (by omega), vn (28 + k) (by omega) (by omega), un (28 + k) (by omega) (by omega)]
    refine ⟨fun q => ?_, (ri k hk).2⟩
    obtain ⟨a1, ⟨a2, a3, y, a4, a5⟩, a6⟩ := (ri k hk).1 q
    exact ⟨a1, ⟨a2, a3, y, by omega, a5⟩, a6⟩
  · exact RX_c (fun h _ => un (11 + h) (by omega) (by omega)) (fun k _ => un (16 + k) (by omega) (by omega)) rx
  · exact RB_c (fun p hp => by rw [un (7 + p) (by omega) (by omega)]) (fun k hk => un (16 + k) (by omega) (by omega)) rb
set_option maxHeartbeats 4000000 in
theorem L_umpire (I : Inv N C M) (x1 : Int32) : o_X6_umpire_0 x1 C ∧ o_X7_umpire_0 x1 M ∧ Ok N [(2, 1), (3, 2)] C M (b_X6_umpire_0 x1 C) (b_X7_umpire_0 x1 M) := by
  obtain ⟨pc, hc, uc, ic, hr, R⟩ := id I.1
  have hK := I.kp
  have hb := gb R
  have of0 : ∀ w S, o_X7_fails_0 w S := fun w S => o_fails (M := S) (x := w)
  have e4 : C 15 8 = nI uc := (g08 R).1
  have m4 : up2 M 5 8 0 6 ((102 : Int32).toNatClampNeg) = nI uc := by rw [up2_ne (by decide)]; exact (g08 R).2
  have m4' : up2 M 5 8 0 6 102 = nI uc := m4
  have m4k : b_X7_keeps_0 6 (up2 M 5 8 0) 6 ((102 : Int32).toNatClampNeg) = nI uc := by rw [hK.2]; exact (g08 R).2
  rcases vd_rng (x := x1) (a := 1) (c := 9) (C := C) (M := M) (by decide) (by decide) with ⟨d1, d2, y, hy, hy9, rfl⟩ | ⟨d1, d2⟩
  · have d1' : b_X6_rangeVerdict_0 (nI y) 1 9 C = 0 := d1
    have d2' : b_X7_in_0 (nI y) 1 9 M = 1 := d2
    have K : o_X7_umpire_0 (nI y) M ∧ (¬ b_X6_roomVerdict_0 (C 15 8) 3 C = -1 ∧ ¬ b_X6_roomVerdict_0 (C 15 8) 3 C = -2) ∧ Out 15 N 0 2 C M (b_X6_roomVerdict_0 (C 15 8) 3 C) (b_X7_umpire_0 (nI y) M) (fun S => ((b_X6_umpire_26 (nI y) S).2.1, (b_X6_umpire_26 (nI y) S).2.2)) (fun S => o_X6_umpire_26 (nI y) S) := by
      rcases v_room (C := C) (n := uc) (m := 3) (x := C 15 8) (y := 3) (by omega) (by decide) e4 rfl with ⟨h4, w1⟩ | ⟨h4, w1⟩
      · have n4 : ¬ nI uc = 3 := fun q => by
          have := (nI_eq (a := uc) (b := 3) (by omega) (by decide)).mp q
          omega
        have e103 : (103 : Int32) + nI uc = nI (103 + uc) := m_add 103 _ _ rfl
        have p3 : (nI (103 + uc)).toNatClampNeg = pos 3 uc := nI_clamp (by omega)
        have i275 : vp_in (nI (103 + uc)) 275 := vp_in_nI (by omega) (by decide)
        have t1 : up2 (b_X7_keeps_0 6 (up2 M 5 8 0)) 6 (pos 3 uc) (nI y) 6 ((102 : Int32).toNatClampNeg) = nI uc := by
          have ne : ¬ (102 : Int32).toNatClampNeg = pos 3 uc := fun q => by
            have q2 : 102 = 103 + uc := q
            omega
          simp only [up2, ne, if_true, if_false]
          exact m4k
        have w2 : b_X7_umpire_0 (nI y) M = (nI uc, up2 (up2 (b_X7_keeps_0 6 (up2 M 5 8 0)) 6 (pos 3 uc) (nI y)) 6 (pos 0 8) (nI (uc + 1))) := by
          simp only [b_X7_umpire_0, b_X7_umpire_16, b_X7_umpire_67, d2', f_0, z10, m4, m4k, n4, if_false, if_true, e103, p3, t1, nI_succ]
          unfold b_X7_umpire_78
          have e : up2 (up2 (b_X7_keeps_0 6 (up2 M 5 8 0)) 6 (pos 3 uc) (nI y)) 6 ((102 : Int32).toNatClampNeg) (nI uc + 1) 6 ((102 : Int32).toNatClampNeg) = nI uc + 1 := by simp [up2]
          rw [e, ← nI_succ, nI_pred]
          rfl
        have om : o_X7_umpire_0 (nI y) M := by
          simp only [o_X7_umpire_0, o_X7_umpire_16, d2', f_0, m4, m4k, n4, e103]
          simp [o_in, of0, hK.1, i275]
        refine ⟨om, ⟨by rw [w1]; decide, by rw [w1]; decide⟩, Or.inr (Or.inr (Or.inr ⟨w1, fun C1 hv => ?_⟩))⟩
        rw [w2]
        have RK := kR (C1 := C1) R hK hv
        have c4 : C1 15 8 = nI uc := (g08 RK).1
        have ec := nI_clamp (n := uc) (by omega)
        have r3 : rel 3 uc = true := rel_3 h4
        have T0 : CS C1 C1 15 (vw C1 15) := ⟨fun _ _ => rfl, rfl⟩
        have T1 := T0.up (i := 3) (k := uc) (v := nI y) r3 (Or.inl rfl)
        have q1 : up2 C1 (15 + 3) uc (nI y) 15 8 = nI uc := by rw [up2_ne (by omega)]; exact c4
        have T3 := T1.up (i := 0) (k := 8) (v := nI (uc + 1)) rfl (Or.inl rfl)
        have S1 := ((MS.rf (M := b_X7_keeps_0 6 (up2 M 5 8 0))).up (i := 3) (k := uc) (v := nI y) r3).up (i := 0) (k := 8) (v := nI (uc + 1)) rfl
        have eop : b_X6_umpire_26 (nI y) C1 = (0, nI uc, up2 (up2 C1 (15 + 3) uc (nI y)) (15 + 0) 8 (nI (uc + 1))) := by
          unfold b_X6_umpire_26 b_X6_umpire_42
          rw [c4, ec, q1, nI_succ]
        have i5 : vp_in (nI uc) 3 := vp_in_nI h4 (by decide)
        have oop : o_X6_umpire_26 (nI y) C1 := by
          unfold o_X6_umpire_26
          rw [c4]
          exact ⟨i5, trivial⟩
        refine ⟨oop, ?_, ?_, fun j hj => S1.1 j hj, ?_⟩
        · show (b_X6_umpire_26 (nI y) C1).2.1 = nI uc
          rw [eop]
        · show FC 15 C1 (b_X6_umpire_26 (nI y) C1).2.2
          rw [eop]
          exact T3.1
        · show Rl N (vw (b_X6_umpire_26 (nI y) C1).2.2 15) (dR (up2 (up2 (b_X7_keeps_0 6 (up2 M 5 8 0)) 6 (pos 3 uc) (nI y)) 6 (pos 0 8) (nI (uc + 1)) 6))
          rw [eop, S1.2]
          show Rl N (vw (up2 (up2 C1 (15 + 3) uc (nI y)) (15 + 0) 8 (nI (uc + 1))) 15) _
          rw [T3.2]
          exact ⟨_, _, _, _, _, rg_newU RK h4⟩
      · have w2 : b_X7_umpire_0 (nI y) M = b_X7_refuses_0 2 1 3 (up2 M 5 8 0) := by
          simp only [b_X7_umpire_0, b_X7_umpire_16, d2', f_0, z10, m4, h4, if_false, if_true]
          rfl
        have om : o_X7_umpire_0 (nI y) M := by
          have e5 : nI 3 = (3 : Int32) := rfl
          simp [o_X7_umpire_0, o_X7_umpire_16, d2', f_0, m4', h4, e5, o_in, of0]
        exact ⟨om, ⟨by rw [w1]; decide, by rw [w1]; decide⟩, Or.inr (Or.inr (Or.inl ⟨1, 3, by decide, by decide, by decide, w1, w2⟩))⟩
    obtain ⟨k1, k2, k3⟩ := K
    have ec : b_X6_umpire_0 (nI y) C = b_X6_umpire_11 (nI y) C := by
      simp [b_X6_umpire_0, d1', set_0]
    rw [ec]
    have hcc : ∀ S, b_X6_umpire_26 (nI y) S = (0, (b_X6_umpire_26 (nI y) S).2.1, (b_X6_umpire_26 (nI y) S).2.2) := fun _ => rfl
    obtain ⟨h1, h2⟩ := chg (c := b_X6_umpire_11 (nI y) C) (codes := [(2, 1), (3, 2)]) I (Nat.le_refl N) (by unfold b_X6_umpire_11; rw [hcc]; try rfl) k3 (fun h => absurd h k2.1) (fun h => absurd h k2.2) (fun _ _ _ => by simp)
    refine ⟨?_, k1, h2⟩
    intro _
    rw [d1', set_0]
    exact h1
  · have d1' : b_X6_rangeVerdict_0 x1 1 9 C = -2 := d1
    have d2' : b_X7_in_0 x1 1 9 M = 0 := d2
    refine ⟨by simp [o_X6_umpire_0, d1', set_m2], by simp [o_X7_umpire_0, o_X7_umpire_16, d2', o_in, of0, f_1], rd1 I (e := 2) (k := 1) (x := 1) (by simp) rfl ?_ ?_⟩
    · simp [b_X6_umpire_0, d1', set_m2]
    · simp [b_X7_umpire_0, b_X7_umpire_16, d2', f_1]
theorem rg_newI {V U : Nat → Nat → Int32} (R : Rg V U N pc hc uc ic hr) (hi : ic < 12) {v0 u0 v u z : Nat → Int32} (h0 : v0 10 = nI (ic + 1) ∧ u0 10 = nI (ic + 1)) (hv : ∀ k, ¬ k = 10 → v0 k = V 0 k) (hu : ∀ k, ¬ k = 10 → u0 k = U 0 k) (h : RIl pc uc v u (V (28 + ic)) z) (h3 : u 3 = 0) (hX : ∀ j, j < hc → ¬ (¬ U (11 + j) 3 = 0 ∧ u 6 = 0 ∧ U (11 + j) 4 = u 0)) : Rg (setV (setV V 0 v0) (16 + ic) v) (setV (setV (setV U 0 u0) (16 + ic) u) (28 + ic) z) N pc hc uc (ic + 1) hr := by
  obtain ⟨⟨s0, s1, s2, s3, s4, s5, s6⟩, w, r3, rp, rh, ri, rx, rb⟩ := R
  have vn : ∀ a, ¬ a = 0 → ¬ a = 16 + ic → setV (setV V 0 v0) (16 + ic) v a = V a := fun a ha hb => by rw [sv_ne hb, sv_ne ha]
  have un : ∀ a, ¬ a = 0 → ¬ a = 16 + ic → ¬ a = 28 + ic → setV (setV (setV U 0 u0) (16 + ic) u) (28 + ic) z a = U a := fun a ha hb hc => by rw [sv_ne hc, sv_ne hb, sv_ne ha]
  have v00 : setV (setV V 0 v0) (16 + ic) v 0 = v0 := by rw [sv_ne (by omega), sv_at]
  have u00 : setV (setV (setV U 0 u0) (16 + ic) u) (28 + ic) z 0 = u0 := by rw [sv_ne (by omega), sv_ne (by omega), sv_at]
  have vic : setV (setV V 0 v0) (16 + ic) v (16 + ic) = v := sv_at
  have uic : setV (setV (setV U 0 u0) (16 + ic) u) (28 + ic) z (16 + ic) = u := by rw [sv_ne (by omega), sv_at]
  have zic : setV (setV (setV U 0 u0) (16 + ic) u) (28 + ic) z (28 + ic) = z := sv_at
  generalize setV (setV V 0 v0) (16 + ic) v = V' at *
  generalize setV (setV (setV U 0 u0) (16 + ic) u) (28 + ic) z = U' at *
  refine ⟨⟨⟨s0.1, s0.2.1, s0.2.2.1, by omega, s0.2.2.2.2⟩, ?_, ?_, ?_, ?_, ?_, ?_⟩, ?_, ?_, ?_, ?_, ?_, ?_, ?_⟩
  · rw [v00, u00, hv 0 (by decide), hu 0 (by decide)]; exact s1
  · rw [v00, u00, hv 1 (by decide), hu 1 (by decide)]; exact s2
  · rw [v00, u00, hv 4 (by decide), hu 4 (by decide)]; exact s3
  · rw [v00, u00, hv 6 (by decide), hu 6 (by decide)]; exact s4
  · rw [v00, u00, hv 8 (by decide), hu 8 (by decide)]; exact s5
  · rw [v00, u00]; exact h0
  · exact RW_c (vn 1 (by decide) (by omega)) (vn 2 (by decide) (by omega)) (un 1 (by decide) (by omega) (by omega)) (un 2 (by decide) (by omega) (by omega)) w
  · exact RU_c (vn 3 (by decide) (by omega)) (un 3 (by decide) (by omega) (by omega)) r3
  · exact RP_c (fun p hp => vn (7 + p) (by omega) (by omega)) (fun p hp => un (7 + p) (by omega) (by omega) (by omega)) rp
  · exact RH_c (fun p hp => vn (11 + p) (by omega) (by omega)) (fun p hp => un (11 + p) (by omega) (by omega) (by omega)) rh
  · intro k hk
    rw [vn (28 + k) (by omega) (by omega)]
    by_cases e : k = ic
    · subst e
      rw [vic, uic, zic]
      exact ⟨fun _ => h, fun q => absurd (Nat.lt_succ_self k) q⟩
    · rw [vn (16 + k) (by omega) (by omega), un (16 + k) (by omega) (by omega) (by omega), un (28 + k) (by omega) (by omega) (by omega)]
      exact ⟨fun q => (ri k hk).1 (by omega), fun q => (ri k hk).2 (by omega)⟩
  · intro j k hj hk
    rw [un (11 + j) (by omega) (by omega) (by omega)]
    by_cases e : k = ic
    · subst e
      rw [uic]
      exact hX j hj
    · rw [un (16 + k) (by omega) (by omega) (by omega)]
      exact rx j k hj (by omega)
  · intro p hp
    rw [un (7 + p) (by omega) (by omega) (by omega)]
    show U (7 + p) 4 = sumOn U' (nI p) ic + (if U' (16 + ic) 0 = nI p then U' (16 + ic) 3 else 0)
    rw [sumOn_c (U' := U') (U := U) ic (fun k _ => un (16 + k) (by omega) (by omega) (by omega)), uic, h3, rb p hp]
    by_cases e : u 0 = nI p
    · rw [if_pos e, Int32.add_zero]
    · rw [if_neg e, Int32.add_zero]
theorem s_newI {p : Nat} (hp : p < 12) {y1 y2 y3 : Int32} : ∀ n i (S : Sx) (U : Nat → Nat → Int32), MS M S U → i ≤ 14 → 14 < n + i → o_X7_innings_140 n y1 y2 y3 (nI p) (nI i) S ∧ (b_X7_innings_140 n y1 y2 y3 (nI p) (nI i) S).1 = nI p ∧ ∃ u z, (∀ f, f < 7 → u f = (if f = 0 then y1 else if f = 1 then y2 else if f = 2 then y3 else if i ≤ f then 0 else U (16 + p) f)) ∧ (∀ f, f < 7 → z f = (if i ≤ 7 + f then 0 else U (28 + p) f)) ∧ MS M (b_X7_innings_140 n y1 y2 y3 (nI p) (nI i) S).2 (setV (setV U (16 + p) u) (28 + p) z) := by
  intro n
  induction n with
  | zero => intro i S U _ h1 h2; omega
  | succ n ih =>
    intro i S U hS h1 h2
    by_cases hi : i < 14
    · have hle : ¬ (14 : Int32) ≤ nI i := nI_ge (b := 14) hi (by decide)
      by_cases h7 : i < 7
      · have S1 := hS.I (p := p) (f := i) (v := 0) hp h7
        obtain ⟨J1, J2, u, z, J3, J5, J4⟩ := ih (i + 1) _ _ S1 (by omega) (by omega)
        rw [nI_succ] at J1 J2 J4
        rw [b_X7_innings_140, o_X7_innings_140, if_neg hle]
        refine ⟨⟨fun e => absurd e hle, fun _ => ⟨oLI hp h7, J1⟩⟩, J2, u, z, fun f hf => ?_, fun f hf => ?_, ?_⟩
        · rw [J3 f hf]
          by_cases e0 : f = 0
          · simp [e0]
          · by_cases e1 : f = 1
            · simp [e1]
            · by_cases e4 : f = 2
              · simp [e4]
              · simp only [e0, e1, e4, if_false]
                by_cases e2 : f = i
                · subst e2
                  have q : ¬ f + 1 ≤ f := by omega
                  simp [q, upV]
                · by_cases e3 : i ≤ f
                  · have q : i + 1 ≤ f := by omega
                    simp [q, e3]
                  · have q : ¬ i + 1 ≤ f := by omega
                    simp [q, e3, upV, e2]
        · rw [J5 f hf, upV_ne (by omega), if_pos (by omega), if_pos (by omega)]
        · rw [upV_set, set_set] at J4
          exact J4
      · obtain ⟨g, rfl⟩ : ∃ g, i = 7 + g := ⟨i - 7, by omega⟩
        have S1 := hS.O (p := p) (f := g) (v := 0) hp (by omega)
        obtain ⟨J1, J2, u, z, J3, J5, J4⟩ := ih (7 + g + 1) _ _ S1 (by omega) (by omega)
        rw [nI_succ] at J1 J2 J4
        rw [b_X7_innings_140, o_X7_innings_140, if_neg hle]
        refine ⟨⟨fun e => absurd e hle, fun _ => ⟨oLO hp (by omega), J1⟩⟩, J2, u, z, fun f hf => ?_, fun f hf => ?_, ?_⟩
        · rw [J3 f hf, upV_ne (by omega)]
          have q1 : ¬ 7 + g + 1 ≤ f := by omega
          have q2 : ¬ 7 + g ≤ f := by omega
          simp only [q1, q2]
        · rw [J5 f hf]
          by_cases e2 : f = g
          · subst e2
            have q : ¬ 7 + f + 1 ≤ 7 + f := by omega
            rw [if_neg q, upV_at, if_pos (Nat.le_refl _)]
          · rw [upV_ne (by omega)]
            by_cases e3 : 7 + g ≤ 7 + f
            · rw [if_pos e3, if_pos (by omega)]
            · rw [if_neg e3, if_neg (by omega)]
        · rw [upV_set, set_comm (V := U) (i := 28 + p) (j := 16 + p) (by omega), set_set] at J4
          exact J4
    · have hie : i = 14 := by omega
      subst hie
      have hle : (14 : Int32) ≤ nI 14 := by decide
      have S1 := hS.I (p := p) (f := 0) (v := y1) hp (by decide)
      have S2 := S1.I (p := p) (f := 1) (v := y2) hp (by decide)
      have S3 := S2.I (p := p) (f := 2) (v := y3) hp (by decide)
      rw [upV_set, upV_set, upV_set, set_set, sv_at, set_set, sv_at] at S3
      have e1 : b_X7_innings_140 (n + 1) y1 y2 y3 (nI p) (nI 14) S = (nI p, b_X7_laysInnings_0 (nI p) (nI 2) y3 (b_X7_laysInnings_0 (nI p) (nI 1) y2 (b_X7_laysInnings_0 (nI p) (nI 0) y1 S))) := by
        rw [b_X7_innings_140, if_pos hle]
        rfl
      have o1 : o_X7_innings_140 (n + 1) y1 y2 y3 (nI p) (nI 14) S := by
        rw [o_X7_innings_140]
        exact ⟨fun _ => ⟨oLI (f := 0) hp (by decide), oLI (f := 1) hp (by decide), oLI (f := 2) hp (by decide), trivial⟩, fun e => absurd hle e⟩
      rw [e1]
      refine ⟨o1, rfl, upd (upd (upd (U (16 + p)) 0 y1) 1 y2) 2 y3, U (28 + p), fun f hf => ?_, fun f hf => ?_, ?_⟩
      · have hf5 : f = 0 ∨ f = 1 ∨ f = 2 ∨ f = 3 ∨ f = 4 ∨ f = 5 ∨ f = 6 := by omega
        rcases hf5 with rfl | rfl | rfl | rfl | rfl | rfl | rfl <;> simp [upd]
      · rw [if_neg (by omega)]
      · rw [sv_self (V := setV U (16 + p) (upd (upd (upd (U (16 + p)) 0 y1) 1 y2) 2 y3)) (i := 28 + p) (by rw [sv_ne (by omega)])]
        exact S3
theorem c48 {b : Nat} {v1 v2 v4 : Int32} (h : ¬ v4 = 0) : b_X0_inningsVerdict_48 b v1 v2 v4 C = v4 ∧ o_X0_inningsVerdict_48 b v1 v2 v4 C := by
  simp [b_X0_inningsVerdict_48, b_X0_inningsVerdict_64, o_X0_inningsVerdict_48, h]
/-- fit: no horse rolls there -/
theorem call_no {M : Sx} {x p : Int32} (h : b_X7_calls_0 x p M = 0) (h3 : b_X7_rollerOf_0 p M = -1 ∨ ∃ j, j < 5 ∧ b_X7_rollerOf_0 p M = nI j) : b_X7_rollerOf_0 p M = -1 := by
  rcases h3 with h3 | ⟨j, hj, h3⟩
  · exact h3
  · exfalso
    have n2 : ¬ nI j < 0 := nI_pos (by omega)
    unfold b_X7_calls_0 at h
    rw [h3, if_neg n2] at h
    by_cases q : b_X7_of_0 p 3 M = 1
    · rw [if_pos q] at h
      exact absurd h (by decide)
    · rw [if_neg q] at h
      exact absurd h (by decide)
set_option maxHeartbeats 4000000 in
theorem L_innings (I : Inv N C M) (hN : N < 2 ^ 30) (x1 x2 x3 : Int32) : o_X6_innings_0 x1 x2 x3 C ∧ o_X7_innings_0 x1 x2 x3 M ∧ Ok N [(1, 1), (2, 2), (3, 3)] C M (b_X6_innings_0 x1 x2 x3 C) (b_X7_innings_0 x1 x2 x3 M) := by
  obtain ⟨pc, hc, uc, ic, hr, R⟩ := id I.1
  have hK := I.kp
  have hb := gb R
  have of0 : ∀ w S, o_X7_fails_0 w S := fun w S => o_fails (M := S) (x := w)
  have R1 := R0 (x := 0) R
  have e4 : C 15 10 = nI ic := (g010 R).1
  have m4 : up2 M 5 8 0 6 ((106 : Int32).toNatClampNeg) = nI ic := by rw [up2_ne (by decide)]; exact (g010 R).2
  have m4' : up2 M 5 8 0 6 106 = nI ic := m4
  have m4k : b_X7_keeps_0 6 (up2 M 5 8 0) 6 ((106 : Int32).toNatClampNeg) = nI ic := by rw [hK.2]; exact (g010 R).2
  have K : o_X0_inningsVerdict_0 15 x1 x2 x3 C ∧ o_X7_innings_0 x1 x2 x3 M ∧ Out 15 N 2 3 C M (b_X0_inningsVerdict_0 15 x1 x2 x3 C) (b_X7_innings_0 x1 x2 x3 M) (fun S => ((b_X6_innings_14 x1 x2 x3 S).2.1, (b_X6_innings_14 x1 x2 x3 S).2.2)) (fun S => o_X6_innings_14 x1 x2 x3 S) := by
    rcases d_ump R x2 with ⟨c1, c2, x, hx, rfl⟩ | ⟨c1, c2⟩
    · rcases d_pit R x1 with ⟨a1, a2, p, hp, rfl⟩ | ⟨a1, a2⟩
      · have cv : b_X0_callerVerdict_0 15 (nI x) (nI p) C = 0 := by simp [b_X0_callerVerdict_0, b_X0_callerVerdict_19, c1, a1]
        rcases vd_rng (x := x3) (a := 6) (c := 120) (C := C) (M := M) (by decide) (by decide) with ⟨d1, d2, y, hy, hy9, rfl⟩ | ⟨d1, d2⟩
        · have d1' : b_X6_rangeVerdict_0 (nI y) 6 120 C = 0 := d1
          have d2' : b_X7_in_0 (nI y) 6 120 M = 1 := d2
          rcases v_room (C := C) (n := ic) (m := 12) (x := C 15 10) (y := 12) (by omega) (by decide) e4 rfl with ⟨h4, w1⟩ | ⟨h4, w1⟩
          · have n4 : ¬ nI ic = 12 := fun q => by
              have := (nI_eq (a := ic) (b := 12) (by omega) (by decide)).mp q
              omega
            obtain ⟨s1, s2, s3, s4⟩ := q_opn R1 (nI p)
            have opv : o_X0_playVerdict_0 15 (nI p) C := ⟨s1, trivial⟩
            obtain ⟨t1, t2, t3, t, ht, t4⟩ := q_call R1 hN hx hp
            obtain ⟨t1C, -, t3C, -⟩ := q_call R hN hx hp
            have t3' : b_X0_callOf_0 15 (nI x) (nI p) C = nI t := by rw [t3, t4]
            rcases s4 with w | ⟨j, hj, w⟩
            · have pv : b_X0_playVerdict_0 15 (nI p) C = 0 := by simp [b_X0_playVerdict_0, b_X0_playVerdict_20, s3, w]
              have ov : o_X0_inningsVerdict_0 15 (nI p) (nI x) (nI y) C := by
                simp [o_X0_inningsVerdict_0, o_X0_inningsVerdict_48, o_X0_callVerdict_0, cv, d1', w1, opv, pv, t1C]
              by_cases t0 : t = 0
              · subst t0
                have t4' : b_X7_calls_0 (nI x) (nI p) (up2 M 5 8 0) = 0 := t4
                have t3'' : b_X0_callOf_0 15 (nI x) (nI p) C = 0 := t3'
                have z00 : (0 : Int32) ≤ 0 := by decide
                have w3 : b_X0_inningsVerdict_0 15 (nI p) (nI x) (nI y) C = 0 := by
                  simp [b_X0_inningsVerdict_0, b_X0_inningsVerdict_48, b_X0_inningsVerdict_64, b_X0_callVerdict_0, b_X0_callVerdict_21, cv, d1', w1, pv, t3'']
                have S1 := (MS.rf (M := b_X7_keeps_0 6 (up2 M 5 8 0))).up (i := 0) (k := 10) (v := nI (ic + 1)) rfl
                obtain ⟨J1, J2, u, z, J3, J5, J4⟩ := s_newI (p := ic) h4 (y1 := nI p) (y2 := nI x) (y3 := nI y) 100 0 _ _ S1 (by omega) (by omega)
                rw [nI_0] at J1 J2 J4
                have w2 : b_X7_innings_0 (nI p) (nI x) (nI y) M = b_X7_innings_140 100 (nI p) (nI x) (nI y) (nI ic) 0 (up2 (b_X7_keeps_0 6 (up2 M 5 8 0)) 6 (pos 0 10) (nI (ic + 1))) := by
                  simp only [b_X7_innings_0, b_X7_innings_37, b_X7_innings_137, a2, c2, d2', f_0, z10, m4, m4k, n4, if_false, if_true, w, m1_lt, t4', z00, nI_succ]
                  rfl
                have om : o_X7_innings_0 (nI p) (nI x) (nI y) M := by
                  have e : o_X7_innings_137 (nI p) (nI x) (nI y) (nI ic) (up2 (b_X7_keeps_0 6 (up2 M 5 8 0)) 6 ((106 : Int32).toNatClampNeg) (nI ic + 1)) := by
                    rw [← nI_succ]
                    exact J1
                  simp only [o_X7_innings_0, o_X7_innings_37, a2, c2, d2', f_0, m4, m4k, n4, w, t4']
                  simp [o_isPitch, o_isUmpire, o_in, of0, hK.1, s2, t2, m1_lt]
                  exact e
                refine ⟨ov, om, Or.inr (Or.inr (Or.inr ⟨w3, fun C1 hv => ?_⟩))⟩
                rw [w2, J2]
                have RK := kR (C1 := C1) R hK hv
                have c4 : C1 15 10 = nI ic := (g010 RK).1
                have ec := nI_clamp (n := ic) (by omega)
                have T0 : CS C1 C1 15 (vw C1 15) := ⟨fun _ _ => rfl, rfl⟩
                have T1 := T0.I (p := ic) (f := 0) (v := nI p) (by omega) (by decide) (Or.inl (by decide))
                have T2 := T1.I (p := ic) (f := 1) (v := nI x) (by omega) (by decide) (Or.inl (by decide))
                have T3 := T2.I (p := ic) (f := 2) (v := nI y) (by omega) (by decide) (Or.inl (by decide))
                have T4 := T3.up (i := 0) (k := 10) (v := nI (ic + 1)) rfl (Or.inl rfl)
                have q1 : up2 (up2 (up2 C1 (15 + 16 + ic) 0 (nI p)) (15 + 16 + ic) 1 (nI x)) (15 + 16 + ic) 2 (nI y) 15 10 = nI ic := by
                  rw [up2_ne (by omega), up2_ne (by omega), up2_ne (by omega)]; exact c4
                have eop : b_X6_innings_14 (nI p) (nI x) (nI y) C1 = (0, nI ic, up2 (up2 (up2 (up2 C1 (15 + 16 + ic) 0 (nI p)) (15 + 16 + ic) 1 (nI x)) (15 + 16 + ic) 2 (nI y)) (15 + 0) 10 (nI (ic + 1))) := by
                  unfold b_X6_innings_14 b_X6_innings_37
                  rw [c4, ec, q1, nI_succ]
                have i5 : vp_in (nI ic) 12 := vp_in_nI h4 (by decide)
                have oop : o_X6_innings_14 (nI p) (nI x) (nI y) C1 := by
                  unfold o_X6_innings_14
                  rw [c4]
                  exact ⟨i5, trivial⟩
                refine ⟨oop, ?_, ?_, fun j hj => J4.1 j hj, ?_⟩
                · show (b_X6_innings_14 (nI p) (nI x) (nI y) C1).2.1 = nI ic
                  rw [eop]
                · show FC 15 C1 (b_X6_innings_14 (nI p) (nI x) (nI y) C1).2.2
                  rw [eop]
                  exact T4.1
                · show Rl N (vw (b_X6_innings_14 (nI p) (nI x) (nI y) C1).2.2 15) _
                  rw [eop, J4.2]
                  show Rl N (vw (up2 (up2 (up2 (up2 C1 (15 + 16 + ic) 0 (nI p)) (15 + 16 + ic) 1 (nI x)) (15 + 16 + ic) 2 (nI y)) (15 + 0) 10 (nI (ic + 1))) 15) _
                  rw [T4.2, upV_set, upV_set, upV_set, upV_set, upV_set, set_set, sv_at, set_set, sv_at, set_comm (by omega)]
                  have D := (R.2.2.2.2.2.1 ic h4).2 (by omega)
                  obtain ⟨D3, D4, D5, D6, D7⟩ := D
                  have V0 : vw C1 15 = vw C 15 := hv
                  have z0 : setV (vw C1 15) (16 + ic) (upd (upd (upd (vw C1 15 (16 + ic)) 0 (nI p)) 1 (nI x)) 2 (nI y)) 0 = vw C1 15 0 := sv_ne (by omega)
                  rw [z0]
                  have u0 := J3 0 (by decide)
                  have u1 := J3 1 (by decide)
                  have u2 := J3 2 (by decide)
                  have u3 := J3 3 (by decide)
                  have u4 := J3 4 (by decide)
                  have u5 := J3 5 (by decide)
                  have u6 := J3 6 (by decide)
                  simp at u0 u1 u2 u3 u4 u5 u6
                  have zz : ∀ f, f < 7 → z f = 0 := fun f hf => by rw [J5 f hf]; simp
                  refine ⟨_, _, _, _, _, rg_newI RK h4 ⟨by simp [upd], by simp [upd]⟩ (fun k hk => by simp [upd, hk]) (fun k hk => by simp [upd, hk]) ?_ u3 ?_⟩
                  · refine ⟨⟨?_, ?_, ?_, ?_, ?_, ?_⟩, ⟨?_, ⟨p, hp, u0⟩, ⟨x, hx, u1⟩⟩, ⟨y, 0, 0, u2, u3, u5, by omega, hy9, by decide⟩, fun j hj => ?_, ?_⟩
                    · simp [upd, u0]
                    · simp [upd, u1]
                    · simp [upd, u2]
                    · rw [u3, V0]; simpa [upd] using D3
                    · rw [u4, V0]; simpa [upd] using D4
                    · rw [u5, V0]; simpa [upd] using D5
                    · rw [u6, V0]
                      have y0 : ¬ nI y ≤ 0 := nI_nle (by omega) (by omega)
                      simp [over, upd, D6, D3, D5, y0]
                    · rw [V0, D7 j hj, zz j hj]
                    · rw [u3, u4, u5, zz 0 (by decide), zz 1 (by decide), zz 2 (by decide), zz 3 (by decide), zz 4 (by decide), zz 5 (by decide), zz 6 (by decide)]
                      decide
                  · intro j hj
                    obtain ⟨-, r2, -, r4⟩ := q_rol R1 (nI p)
                    have rn := call_no t4' (r4.elim Or.inl (fun ⟨j, hj, h⟩ => Or.inr ⟨j, by omega, h⟩))
                    have q := s_rol_none R1 (nI p) j hj rn
                    rw [up2_ne (by decide)] at q
                    rw [hK.2, u0]
                    exact fun e => q ⟨e.1, e.2.2⟩
              · have t5 : ¬ nI t ≤ 0 := nI_nle (by omega) (by omega)
                have t6 : ¬ nI t = 0 := nI_ne0 (by omega) (by omega)
                have e8 : b_X6_refused_0 8 (nI t) C = nI (8000 + t) := rfd (C := C) (a := 8) (d := t)
                have w3 : b_X0_inningsVerdict_0 15 (nI p) (nI x) (nI y) C = nI (8000 + t) := by
                  simp [b_X0_inningsVerdict_0, b_X0_inningsVerdict_48, b_X0_inningsVerdict_64, b_X0_callVerdict_0, b_X0_callVerdict_21, cv, d1', w1, pv, t3', t6, e8]
                have w2 : b_X7_innings_0 (nI p) (nI x) (nI y) M = b_X7_refuses_0 3 8 (nI t) (up2 M 5 8 0) := by
                  simp only [b_X7_innings_0, b_X7_innings_37, a2, c2, d2', f_0, z10, m4, n4, if_false, if_true, w, m1_lt, t4, t5]
                have om : o_X7_innings_0 (nI p) (nI x) (nI y) M := by
                  simp only [o_X7_innings_0, o_X7_innings_37, a2, c2, d2', f_0, m4, n4, w, t4]
                  simp [o_isPitch, o_isUmpire, o_in, of0, s2, t2, m1_lt, t5]
                exact ⟨ov, om, Or.inr (Or.inr (Or.inl ⟨8, t, by decide, by decide, by omega, w3, w2⟩))⟩
            · have n1 : ¬ nI j = -1 := nI_m1 (by omega)
              have n2 : ¬ nI j < 0 := nI_pos (by omega)
              have e5 : b_X6_refused_0 5 (nI j) C = nI (5000 + j) := rfd (C := C) (a := 5) (d := j)
              have n5 : ¬ nI (5000 + j) = 0 := nI_ne0 (by omega) (by omega)
              have pv : b_X0_playVerdict_0 15 (nI p) C = nI (5000 + j) := by simp [b_X0_playVerdict_0, b_X0_playVerdict_20, s3, w, n1, e5]
              have cc := c48 (C := C) (b := 15) (v1 := nI p) (v2 := nI x) n5
              have ov : o_X0_inningsVerdict_0 15 (nI p) (nI x) (nI y) C := by
                simp [o_X0_inningsVerdict_0, cv, d1', w1, opv, pv, cc.2]
              have w3 : b_X0_inningsVerdict_0 15 (nI p) (nI x) (nI y) C = nI (5000 + j) := by
                simp [b_X0_inningsVerdict_0, cv, d1', w1, pv, cc.1]
              have w2 : b_X7_innings_0 (nI p) (nI x) (nI y) M = b_X7_refuses_0 3 5 (nI j) (up2 M 5 8 0) := by
                simp only [b_X7_innings_0, b_X7_innings_37, a2, c2, d2', f_0, z10, m4, n4, if_false, if_true, w, n2]
              have om : o_X7_innings_0 (nI p) (nI x) (nI y) M := by
                simp only [o_X7_innings_0, o_X7_innings_37, a2, c2, d2', f_0, m4, n4, w]
                simp [o_isPitch, o_isUmpire, o_in, of0, s2, n2]
              exact ⟨ov, om, Or.inr (Or.inr (Or.inl ⟨5, j, by decide, by decide, by omega, w3, w2⟩))⟩
          · have n5 : ¬ nI (1000 + 12) = 0 := nI_ne0 (by omega) (by omega)
            have cc := c48 (C := C) (b := 15) (v1 := nI p) (v2 := nI x) n5
            have ov : o_X0_inningsVerdict_0 15 (nI p) (nI x) (nI y) C := by
              simp only [o_X0_inningsVerdict_0, cv, d1', w1]
              exact ⟨fun _ => ⟨fun _ => ⟨fun h => absurd h n5, fun _ => cc.2⟩, fun _ => trivial⟩, fun _ => trivial⟩
            have w3 : b_X0_inningsVerdict_0 15 (nI p) (nI x) (nI y) C = nI (1000 * 1 + 12) := by
              simp only [b_X0_inningsVerdict_0, cv, d1', w1, if_true]
              rw [if_neg n5]
              exact cc.1
            have w2 : b_X7_innings_0 (nI p) (nI x) (nI y) M = b_X7_refuses_0 3 1 12 (up2 M 5 8 0) := by
              simp only [b_X7_innings_0, b_X7_innings_37, a2, c2, d2', f_0, z10, m4, h4, if_false, if_true]
              rfl
            have om : o_X7_innings_0 (nI p) (nI x) (nI y) M := by
              have e5 : nI 12 = (12 : Int32) := rfl
              simp [o_X7_innings_0, o_X7_innings_37, a2, c2, d2', f_0, m4', h4, e5, o_isPitch, o_isUmpire, o_in, of0]
            exact ⟨ov, om, Or.inr (Or.inr (Or.inl ⟨1, 12, by decide, by decide, by decide, w3, w2⟩))⟩
        · have d1' : b_X6_rangeVerdict_0 x3 6 120 C = -2 := d1
          have d2' : b_X7_in_0 x3 6 120 M = 0 := d2
          have m2 : ¬ (-2 : Int32) = 0 := by decide
          refine ⟨by simp [o_X0_inningsVerdict_0, cv, d1'], by simp [o_X7_innings_0, o_X7_innings_37, a2, c2, d2', f_2, o_isPitch, o_isUmpire, o_in, of0], Or.inr (Or.inl ⟨?_, ?_⟩)⟩
          · simp [b_X0_inningsVerdict_0, cv, d1']
          · simp [b_X7_innings_0, b_X7_innings_37, a2, c2, d2', f_2]
            rfl
      · have cv : b_X0_callerVerdict_0 15 (nI x) x1 C = -1 := by simp [b_X0_callerVerdict_0, b_X0_callerVerdict_19, c1, a1]
        refine ⟨by simp [o_X0_inningsVerdict_0, cv], by simp [o_X7_innings_0, o_X7_innings_17, o_X7_innings_37, a2, f_1, o_isPitch, of0], Or.inl ⟨?_, ?_⟩⟩
        · simp [b_X0_inningsVerdict_0, cv]
        · simp [b_X7_innings_0, b_X7_innings_17, b_X7_innings_37, a2, f_1]
    · have cv : b_X0_callerVerdict_0 15 x2 x1 C = -1 := by simp [b_X0_callerVerdict_0, b_X0_callerVerdict_19, c1]
      refine ⟨by simp [o_X0_inningsVerdict_0, cv], by simp [o_X7_innings_0, o_X7_innings_17, o_X7_innings_37, c2, f_1, o_isPitch, o_isUmpire, of0], Or.inl ⟨?_, ?_⟩⟩
      · simp [b_X0_inningsVerdict_0, cv]
      · simp [b_X7_innings_0, b_X7_innings_17, b_X7_innings_37, c2, f_1]
  obtain ⟨k1, k2, k3⟩ := K
  have hcc : ∀ S, b_X6_innings_14 x1 x2 x3 S = (0, (b_X6_innings_14 x1 x2 x3 S).2.1, (b_X6_innings_14 x1 x2 x3 S).2.2) := fun _ => rfl
  obtain ⟨h1, h2⟩ := chg (c := b_X6_innings_0 x1 x2 x3 C) (codes := [(1, 1), (2, 2), (3, 3)]) I (Nat.le_refl N) (by unfold b_X6_innings_0; rw [hcc]; try rfl) k3 (fun _ => by simp) (fun _ => by simp) (fun _ _ _ => by simp)
  exact ⟨⟨k1, h1⟩, k2, h2⟩
end

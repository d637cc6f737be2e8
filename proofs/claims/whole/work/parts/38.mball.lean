/-! A BALL, reference -/
section
variable {C M : Sx} {b N pc hc uc ic hr : Nat}
theorem m_ball {U : Nat → Nat → Int32} (hU : dR (M 6) = U) {k p n a r F wk : Nat} (hk : k < 12) (hp : p < 4) (e0 : U (16 + k) 0 = nI p) (e2 : U (16 + k) 2 = nI F) (e3 : U (16 + k) 3 = nI n) (e5 : U (16 + k) 5 = nI wk) (p1 : U (7 + p) 1 = nI a) (p2 : U (7 + p) 2 = nI r) (hn : n ≤ 120) (hF : F ≤ 120) (hwk : wk ≤ 10) (ha : a ≤ 99) (hr2 : r ≤ 99) : o_X7_ball_0 (nI k) M ∧ (b_X7_ball_0 (nI k) M).1 = (if (a + 3 * n + r) % 7 = 5 then 0 else nI ((a + 3 * n + r) % 7)) ∧ MS M (b_X7_ball_0 (nI k) M).2 (setV (setV (setV U (16 + k) (uO (U (16 + k)) ((a + 3 * n + r) % 7) n F wk)) (28 + k) (zB (U (28 + k)) ((a + 3 * n + r) % 7))) (7 + p) (pB (U (7 + p)) n a)) := by
  have S0 : MS M M U := ⟨fun _ _ => rfl, hU⟩
  have q : ∀ f M', f < 7 → o_X7_ofInnings_0 (nI k) (nI f) M' := fun f M' hf => oI (M := M') hk hf
  have q' : ∀ f M', f < 5 → o_X7_of_0 (nI p) (nI f) M' := fun f M' hf => oP (M := M') hp hf
  have k0 : b_X7_ofInnings_0 (nI k) 0 M = nI p := (mI_of hU (f := 0) 0 rfl hk (by decide)).trans e0
  have k3 : b_X7_ofInnings_0 (nI k) 3 M = nI n := (mI_of hU (f := 3) 3 rfl hk (by decide)).trans e3
  have h1 : b_X7_of_0 (nI p) 1 M = nI a := (mP_of hU (f := 1) 1 rfl hp (by decide)).trans p1
  have h2 : b_X7_of_0 (nI p) 2 M = nI r := (mP_of hU (f := 2) 2 rfl hp (by decide)).trans p2
  have x0 : nI a + 3 * nI n + nI r = nI (a + 3 * n + r) := by
    rw [show (3 : Int32) = nI 3 from rfl, nI_mul, nI_add, nI_add]
  have x7 : i_rem (nI (a + 3 * n + r)) 7 = nI ((a + 3 * n + r) % 7) := modI (k := 7) (by omega) (by decide) (by decide)
  have hwt : (a + 3 * n + r) % 7 < 7 := Nat.mod_lt _ (by decide)
  unfold o_X7_ball_0 b_X7_ball_0
  rw [k0, k3, h1, h2, x0, x7]
  generalize hq : (a + 3 * n + r) % 7 = wt at hwt ⊢
  have n1 : ¬ 16 + k = 28 + k := by omega
  have n2 : ¬ 16 + k = 7 + p := by omega
  have n3 : ¬ 28 + k = 7 + p := by omega
  have main : ∀ rn : Int32, (rn = if wt = 5 then 0 else nI wt) → o_X7_ball_48 (nI k) (nI p) (nI n) (nI wt) rn M ∧ (b_X7_ball_48 (nI k) (nI p) (nI n) (nI wt) rn M).1 = rn ∧ MS M (b_X7_ball_48 (nI k) (nI p) (nI n) (nI wt) rn M).2 (setV (setV (setV U (16 + k) (uO (U (16 + k)) wt n F wk)) (28 + k) (zB (U (28 + k)) wt)) (7 + p) (pB (U (7 + p)) n a)) := by
    intro rn hrn
    have a7 : (7 : Int32) + nI wt = nI (7 + wt) := m_add 7 _ _ rfl
    have x1 : b_X7_ofInnings_0 (nI k) (nI (7 + wt)) M = U (28 + k) wt := mO_of hU hk hwt
    unfold o_X7_ball_48 b_X7_ball_48
    rw [a7, x1]
    have S1 := S0.O (p := k) (f := wt) (v := U (28 + k) wt + 1) hk hwt
    have o1 : o_X7_laysInnings_0 (nI k) (nI (7 + wt)) (U (28 + k) wt + 1) M := oLO hk hwt
    have o0 : o_X7_ofInnings_0 (nI k) (nI (7 + wt)) M := oO hk hwt
    generalize b_X7_laysInnings_0 (nI k) (nI (7 + wt)) (U (28 + k) wt + 1) M = M1 at S1 ⊢
    unfold o_X7_ball_72 b_X7_ball_72
    rw [show nI n + 1 = nI (n + 1) from (nI_succ n).symm]
    have S2 := S1.I (p := k) (f := 3) (v := nI (n + 1)) hk (by decide)
    have o2 : o_X7_laysInnings_0 (nI k) 3 (nI (n + 1)) M1 := oLI (f := 3) hk (by decide)
    generalize hM2 : b_X7_laysInnings_0 (nI k) (nI 3) (nI (n + 1)) M1 = M2 at S2
    rw [show b_X7_laysInnings_0 (nI k) 3 (nI (n + 1)) M1 = M2 from hM2]
    have x2 : b_X7_ofInnings_0 (nI k) 4 M2 = U (16 + k) 4 := by
      rw [mI_of S2.2 (f := 4) 4 rfl hk (by decide), upV_ne (by omega), upV_ne (by omega)]
    rw [x2]
    have S3 := S2.I (p := k) (f := 4) (v := U (16 + k) 4 + rn) hk (by decide)
    have o3 : o_X7_laysInnings_0 (nI k) 4 (U (16 + k) 4 + rn) M2 := oLI (f := 4) hk (by decide)
    generalize hM3 : b_X7_laysInnings_0 (nI k) (nI 4) (U (16 + k) 4 + rn) M2 = M3 at S3
    rw [show b_X7_laysInnings_0 (nI k) 4 (U (16 + k) 4 + rn) M2 = M3 from hM3]
    have comm : ∀ g, setV (setV U (28 + k) (zB (U (28 + k)) wt)) (16 + k) g = setV (setV U (16 + k) g) (28 + k) (zB (U (28 + k)) wt) := fun g => set_comm (fun e => n1 e.symm)
    have S3' : MS M M3 (setV (setV U (16 + k) (upd (upd (U (16 + k)) 3 (nI (n + 1))) 4 (U (16 + k) 4 + rn))) (28 + k) (zB (U (28 + k)) wt)) := by
      rw [upV_set, upV_set, set_set, sv_at, upV_set, sv_ne n1, show upd (U (28 + k)) wt (U (28 + k) wt + 1) = zB (U (28 + k)) wt from rfl, comm] at S3
      exact S3
    have tail : ∀ (M4 : Sx) (g : Nat → Int32), g 2 = nI F → (∃ w5, w5 ≤ 11 ∧ g 5 = nI w5 ∧ w5 = (if wt = 5 then wk + 1 else wk)) → g = uB (U (16 + k)) wt → MS M M4 (setV (setV U (16 + k) g) (28 + k) (zB (U (28 + k)) wt)) → o_X7_ball_116 (nI k) (nI p) (nI n) rn M4 ∧ (b_X7_ball_116 (nI k) (nI p) (nI n) rn M4).1 = rn ∧ MS M (b_X7_ball_116 (nI k) (nI p) (nI n) rn M4).2 (setV (setV (setV U (16 + k) (uO (U (16 + k)) wt n F wk)) (28 + k) (zB (U (28 + k)) wt)) (7 + p) (pB (U (7 + p)) n a)) := by
      intro M4 g g2 g5 gB S4
      have y6 : i_rem (nI n) 6 = nI (n % 6) := modI (k := 6) (by omega) (by decide) (by decide)
      have fin : ∀ (M5 : Sx) (z : Nat → Int32), z 4 = U (7 + p) 4 → pB (U (7 + p)) n a = upd z 4 (U (7 + p) 4 + 1) → MS M M5 (setV (setV (setV U (16 + k) g) (28 + k) (zB (U (28 + k)) wt)) (7 + p) z) → o_X7_ball_142 (nI k) (nI p) (nI n) rn M5 ∧ (b_X7_ball_142 (nI k) (nI p) (nI n) rn M5).1 = rn ∧ MS M (b_X7_ball_142 (nI k) (nI p) (nI n) rn M5).2 (setV (setV (setV U (16 + k) (uO (U (16 + k)) wt n F wk)) (28 + k) (zB (U (28 + k)) wt)) (7 + p) (pB (U (7 + p)) n a)) := by
        intro M5 z hz hpB S5
        unfold o_X7_ball_142 b_X7_ball_142
        have y4 : b_X7_of_0 (nI p) 4 M5 + 1 = U (7 + p) 4 + 1 := by
          rw [mP_of S5.2 (f := 4) 4 rfl hp (by decide), sv_at, hz]
        rw [y4]
        have S6 := S5.P (p := p) (f := 4) (v := U (7 + p) 4 + 1) hp (by decide)
        have o6 : o_X7_lays_0 (nI p) 4 (U (7 + p) 4 + 1) M5 := oLP (f := 4) hp (by decide)
        generalize hM6 : b_X7_lays_0 (nI p) (nI 4) (U (7 + p) 4 + 1) M5 = M6 at S6
        rw [show b_X7_lays_0 (nI p) 4 (U (7 + p) 4 + 1) M5 = M6 from hM6]
        rw [upV_set, set_set, sv_at, ← hpB] at S6
        have z2 : b_X7_ofInnings_0 (nI k) 2 M6 = nI F := by
          rw [mI_of S6.2 (f := 2) 2 rfl hk (by decide), sv_ne n2, sv_ne n1, sv_at, g2]
        obtain ⟨w5, hw5, ew5, hw6⟩ := g5
        have z5 : b_X7_ofInnings_0 (nI k) 5 M6 = nI w5 := by
          rw [mI_of S6.2 (f := 5) 5 rfl hk (by decide), sv_ne n2, sv_ne n1, sv_at, ew5]
        have o7 : o_X7_ball_179 (nI k) rn M6 := ⟨oLI (f := 6) hk (by decide), trivial⟩
        have big : MS M (b_X7_ball_179 (nI k) rn M6).2 (setV (setV (setV U (16 + k) (upd g 6 1)) (28 + k) (zB (U (28 + k)) wt)) (7 + p) (pB (U (7 + p)) n a)) := by
          have S7 := S6.I (p := k) (f := 6) (v := 1) hk (by decide)
          refine ⟨S7.1, S7.2.trans (set3_ext ?_ (fun _ => ?_) (fun _ _ => ?_) (fun x q1 q2 q3 => ?_))⟩
          · rw [upV_set, sv_ne (fun e => n2 e.symm), sv_at]
          · rw [upV_set, sv_ne (fun e => n1 e.symm), sv_ne n3, sv_at]
          · rw [upV_set, sv_at, sv_ne n2, sv_ne n1, sv_at]
          · rw [upV_set, sv_ne q3, sv_ne q1, sv_ne q2, sv_ne q3]
        unfold o_X7_ball_156 b_X7_ball_156 b_X7_ball_187
        rw [show nI n + 1 = nI (n + 1) from (nI_succ n).symm, z2, z5]
        by_cases f1 : n + 1 = F
        · have f2 : nI (n + 1) = nI F := by rw [f1]
          have f3 : uO (U (16 + k)) wt n F wk = upd g 6 1 := by unfold uO; rw [if_pos f1, gB]
          rw [if_pos f2, f3]
          exact ⟨⟨q' 4 M5 (by decide), o6, q 2 M6 (by decide), fun _ => o7, fun e => absurd f2 e⟩, rfl, big⟩
        · have f2 : ¬ nI (n + 1) = nI F := fun e => f1 ((nI_eq (by omega) (by omega)).mp e)
          rw [if_neg f2]
          by_cases f4 : w5 = 10
          · have f5 : nI w5 = 10 := by rw [f4]; rfl
            have f3 : uO (U (16 + k)) wt n F wk = upd g 6 1 := by unfold uO; rw [if_neg f1, ← hw6, if_pos f4, gB]
            rw [if_pos f5, f3]
            exact ⟨⟨q' 4 M5 (by decide), o6, q 2 M6 (by decide), fun e => absurd e f2, fun _ => ⟨q 5 M6 (by decide), fun _ => o7, fun e => absurd f5 e⟩⟩, rfl, big⟩
          · have f5 : ¬ nI w5 = 10 := fun e => f4 ((nI_eq (a := w5) (b := 10) (by omega) (by decide)).mp e)
            have f3 : uO (U (16 + k)) wt n F wk = g := by unfold uO; rw [if_neg f1, ← hw6, if_neg f4, gB]
            rw [if_neg f5, f3]
            exact ⟨⟨q' 4 M5 (by decide), o6, q 2 M6 (by decide), fun e => absurd e f2, fun _ => ⟨q 5 M6 (by decide), fun e => absurd e f5, fun _ => trivial⟩⟩, rfl, S6⟩
      unfold o_X7_ball_116 b_X7_ball_116
      rw [y6]
      have y1 : b_X7_of_0 (nI p) 1 M4 = nI a := by
        rw [mP_of S4.2 (f := 1) 1 rfl hp (by decide), sv_ne (fun e => n3 e.symm), sv_ne (fun e => n2 e.symm), p1]
      by_cases h5 : n % 6 = 5
      · have h6 : nI (n % 6) = 5 := by rw [h5]; rfl
        rw [if_pos h6, y1, show b_X7_more_0 0 (nI a - 1) M4 = nI (a - 1) from more7 (c := 1) (by omega) (by decide)]
        have S5 := S4.P (p := p) (f := 1) (v := nI (a - 1)) hp (by decide)
        have o5 : o_X7_lays_0 (nI p) 1 (nI (a - 1)) M4 := oLP (f := 1) hp (by decide)
        rw [upV_set, sv_ne (a := 7 + p) (fun e => n3 e.symm), sv_ne (a := 7 + p) (fun e => n2 e.symm)] at S5
        have J := fin _ (upd (U (7 + p)) 1 (nI (a - 1))) (by simp [upd]) (by unfold pB; rw [if_pos h5]) S5
        exact ⟨⟨fun _ => ⟨q' 1 M4 (by decide), o5, J.1⟩, fun e => absurd h6 e⟩, J.2⟩
      · have h6 : ¬ nI (n % 6) = 5 := fun e => h5 ((nI_eq (a := n % 6) (b := 5) (by omega) (by decide)).mp e)
        rw [if_neg h6]
        have e8 : setV (setV (setV U (16 + k) g) (28 + k) (zB (U (28 + k)) wt)) (7 + p) (U (7 + p)) = setV (setV U (16 + k) g) (28 + k) (zB (U (28 + k)) wt) := by
          funext x
          by_cases qx : x = 7 + p
          · subst qx
            rw [sv_at, sv_ne (fun e => n3 e.symm), sv_ne (fun e => n2 e.symm)]
          · rw [sv_ne qx]
        have J := fin M4 (U (7 + p)) rfl (by unfold pB; rw [if_neg h5]) (by rw [e8]; exact S4)
        exact ⟨⟨fun e => absurd e h6, fun _ => J.1⟩, J.2⟩
    unfold o_X7_ball_96 b_X7_ball_96
    by_cases h5 : wt = 5
    · have h6 : nI wt = 5 := by rw [h5]; rfl
      rw [if_pos h6]
      have x5 : b_X7_ofInnings_0 (nI k) 5 M3 + 1 = nI (wk + 1) := by
        rw [mI_of S3'.2 (f := 5) 5 rfl hk (by decide), sv_ne n1, sv_at]
        simp [upd, e5, nI_succ]
      rw [x5]
      have S4 := S3'.I (p := k) (f := 5) (v := nI (wk + 1)) hk (by decide)
      have o5 : o_X7_laysInnings_0 (nI k) 5 (nI (wk + 1)) M3 := oLI (f := 5) hk (by decide)
      rw [upV_set, sv_ne (a := 16 + k) n1, sv_at, set_comm (fun e => n1 e.symm), set_set] at S4
      have J := tail _ _ (by simp [upd, e2]) ⟨wk + 1, by omega, by simp [upd], by rw [if_pos h5]⟩ (by
        unfold uB
        rw [if_pos h5, e3, e5, ← nI_succ, ← nI_succ, hrn, if_pos h5]) S4
      exact ⟨⟨o0, o1, o2, q 4 M2 (by decide), o3, fun _ => ⟨q 5 M3 (by decide), o5, J.1⟩, fun e => absurd h6 e⟩, J.2⟩
    · have h6 : ¬ nI wt = 5 := fun e => h5 ((nI_eq (a := wt) (b := 5) (by omega) (by decide)).mp e)
      rw [if_neg h6]
      have J := tail _ _ (by simp [upd, e2]) ⟨wk, by omega, by simp [upd, e5], by rw [if_neg h5]⟩ (by
        unfold uB
        rw [if_neg h5, e3, ← nI_succ, hrn, if_neg h5]) S3'
      exact ⟨⟨o0, o1, o2, q 4 M2 (by decide), o3, fun e => absurd e h6, fun _ => J.1⟩, J.2⟩
  by_cases h5 : wt = 5
  · have h6 : nI wt = 5 := by rw [h5]; rfl
    rw [if_pos h6, if_pos h5]
    have J := main 0 (by rw [if_pos h5])
    exact ⟨⟨q 0 M (by decide), q 3 M (by decide), q' 1 M (by decide), q' 2 M (by decide), fun _ => J.1, fun e => absurd h6 e⟩, J.2⟩
  · have h6 : ¬ nI wt = 5 := fun e => h5 ((nI_eq (a := wt) (b := 5) (by omega) (by decide)).mp e)
    rw [if_neg h6, if_neg h5]
    have J := main (nI wt) (by rw [if_neg h5])
    exact ⟨⟨q 0 M (by decide), q 3 M (by decide), q' 1 M (by decide), q' 2 M (by decide), fun e => absurd e h6, fun _ => J.1⟩, J.2⟩
end

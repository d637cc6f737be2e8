/-! A BALL -/
theorem set3_ext {V W : Nat → Nat → Int32} {i j l : Nat} {v w z : Nat → Int32} (h1 : W l = z) (h2 : ¬ j = l → W j = w) (h3 : ¬ i = l → ¬ i = j → W i = v) (h4 : ∀ a, ¬ a = l → ¬ a = j → ¬ a = i → W a = V a) : W = setV (setV (setV V i v) j w) l z := by
  funext a
  by_cases e1 : a = l
  · subst e1
    rw [sv_at, h1]
  · rw [sv_ne e1]
    by_cases e2 : a = j
    · subst e2
      rw [sv_at, h2 e1]
    · rw [sv_ne e2]
      by_cases e3 : a = i
      · subst e3
        rw [sv_at, h3 e1 e2]
      · rw [sv_ne e3, h4 a e1 e2 e3]
def vB (v : Nat → Int32) (wt : Nat) : Nat → Int32 := upd (if wt = 5 then upd v 5 (v 5 + 1) else upd v 4 (v 4 + nI wt)) 3 (v 3 + 1)
def uB (u : Nat → Int32) (wt : Nat) : Nat → Int32 := if wt = 5 then upd (upd (upd u 3 (u 3 + 1)) 4 (u 4 + 0)) 5 (u 5 + 1) else upd (upd u 3 (u 3 + 1)) 4 (u 4 + nI wt)
def uO (u : Nat → Int32) (wt n F : Nat) (wk : Nat) : Nat → Int32 := if n + 1 = F then upd (uB u wt) 6 1 else if (if wt = 5 then wk + 1 else wk) = 10 then upd (uB u wt) 6 1 else uB u wt
def pB (v : Nat → Int32) (n a : Nat) : Nat → Int32 := upd (if n % 6 = 5 then upd v 1 (nI (a - 1)) else v) 4 (v 4 + 1)
def zB (z : Nat → Int32) (wt : Nat) : Nat → Int32 := upd z wt (z wt + 1)
theorem fmod7 {x : Nat} (h : x < 2 ^ 30) {C : Sx} : b_J9_floorMod_7cf53_0 (nI x) 7 C = nI (x % 7) ∧ o_J9_floorMod_7cf53_0 (nI x) 7 C := by
  have ex : 0 ≤ (nI x ^^^ 7) := by
    rw [show (7 : Int32) = nI 7 from rfl, nx_xor]
    exact nI_pos' (Nat.xor_lt_two_pow (by omega) (by decide))
  refine ⟨?_, by decide, trivial⟩
  unfold b_J9_floorMod_7cf53_0 b_J9_floorMod_7cf53_18
  rw [if_pos ex]
  exact modI (k := 7) (by omega) (by decide) (by decide)
section
variable {C M : Sx} {b N pc hc uc ic hr : Nat}
theorem c_ball {V : Nat → Nat → Int32} (hV : vw C b = V) {k p n a r : Nat} (hk : k < 12) (hp : p < 4) (e3 : V (16 + k) 3 = nI n) (p1 : V (7 + p) 1 = nI a) (p2 : V (7 + p) 2 = nI r) (hn : n ≤ 120) (ha : a ≤ 99) (hr2 : r ≤ 99) : o_X2_bowlOne_0 (b + 16 + k) (b + 7 + p) C ∧ CS C (b_X2_bowlOne_0 (b + 16 + k) (b + 7 + p) C) b (setV (setV (setV V (16 + k) (vB (V (16 + k)) ((a + 3 * n + r) % 7))) (28 + k) (zB (V (28 + k)) ((a + 3 * n + r) % 7))) (7 + p) (pB (V (7 + p)) n a)) := by
  have S0 : CS C C b V := ⟨fun _ _ => rfl, hV⟩
  have x0 : C (b + 7 + p) 1 + 3 * C (b + 16 + k) 3 + C (b + 7 + p) 2 = nI (a + 3 * n + r) := by
    rw [P_of hV hp (by decide) (by decide), P_of hV hp (by decide) (by decide), I_of hV hk (by decide) (by decide), p1, p2, e3, show (3 : Int32) = nI 3 from rfl, nI_mul, nI_add, nI_add]
  have fm := fmod7 (x := a + 3 * n + r) (by omega) (C := C)
  have hwt : (a + 3 * n + r) % 7 < 7 := Nat.mod_lt _ (by decide)
  generalize hq : (a + 3 * n + r) % 7 = wt at fm hwt ⊢
  have ewt := nI_clamp (n := wt) (by omega)
  have iwt : vp_in (nI wt) 7 := vp_in_nI hwt (by decide)
  unfold o_X2_bowlOne_0 b_X2_bowlOne_0
  rw [x0, fm.1, ewt]
  refine ⟨⟨fm.2, iwt, iwt, trivial⟩, ?_⟩
  have x1 : C (b + 16 + k + 12) wt + 1 = V (28 + k) wt + 1 := by rw [O_of hV hk hwt]
  rw [x1]
  have S1 := S0.O (p := k) (f := wt) (v := V (28 + k) wt + 1) hk hwt
  generalize up2 C (b + 16 + k + 12) wt (V (28 + k) wt + 1) = C1 at S1 ⊢
  have n1 : ¬ 16 + k = 28 + k := by omega
  have n2 : ¬ 16 + k = 7 + p := by omega
  have n3 : ¬ 28 + k = 7 + p := by omega
  have tail : ∀ (C2 : Sx) (g : Nat → Int32), g 3 = V (16 + k) 3 → CS C C2 b (upV (setV V (16 + k) g) (28 + k) wt (V (28 + k) wt + 1)) → CS C (b_X2_bowlOne_60 (b + 16 + k) (b + 7 + p) C2) b (setV (setV (setV V (16 + k) (upd g 3 (V (16 + k) 3 + 1))) (28 + k) (zB (V (28 + k)) wt)) (7 + p) (pB (V (7 + p)) n a)) := by
    intro C2 g hg S2
    have y3 : C2 (b + 16 + k) 3 = nI n := by
      rw [I_of S2.2 hk (by decide) (by decide), upV_ne (by omega), sv_at, hg, e3]
    have y1 : C2 (b + 7 + p) 1 = nI a := by
      rw [P_of S2.2 hp (by decide) (by decide), upV_ne (by omega), sv_ne (by omega), p1]
    have y6 : i_rem (nI n) 6 = nI (n % 6) := modI (k := 6) (by omega) (by decide) (by decide)
    unfold b_X2_bowlOne_60
    rw [y3, y6, y1]
    have fin : ∀ (C3 : Sx) (z : Nat → Int32), z 4 = V (7 + p) 4 → CS C C3 b (setV (upV (setV V (16 + k) g) (28 + k) wt (V (28 + k) wt + 1)) (7 + p) z) → CS C (b_X2_bowlOne_83 (b + 16 + k) (b + 7 + p) C3) b (setV (setV (setV V (16 + k) (upd g 3 (V (16 + k) 3 + 1))) (28 + k) (zB (V (28 + k)) wt)) (7 + p) (upd z 4 (V (7 + p) 4 + 1))) := by
      intro C3 z hz S3
      unfold b_X2_bowlOne_83
      have y4 : C3 (b + 16 + k) 3 + 1 = V (16 + k) 3 + 1 := by
        rw [I_of S3.2 hk (by decide) (by decide), sv_ne n2, upV_ne (by omega), sv_at, hg]
      rw [y4]
      have S4 := S3.I (p := k) (f := 3) (v := V (16 + k) 3 + 1) hk (by decide) (Or.inl (by decide))
      generalize up2 C3 (b + 16 + k) 3 (V (16 + k) 3 + 1) = C4 at S4 ⊢
      have y5 : C4 (b + 7 + p) 4 + 1 = V (7 + p) 4 + 1 := by
        rw [P_of S4.2 hp (by decide) (by decide), upV_ne (by omega), sv_at, hz]
      rw [y5]
      have S5 := S4.P (p := p) (f := 4) (v := V (7 + p) 4 + 1) hp (by decide) (Or.inl (by decide))
      refine ⟨S5.1, S5.2.trans (set3_ext ?_ (fun _ => ?_) (fun _ _ => ?_) (fun x q1 q2 q3 => ?_))⟩
      · rw [upV_set, sv_at, upV_set, sv_ne (fun e => n2 e.symm), sv_at]
      · rw [upV_set, sv_ne n3, upV_set, sv_ne (fun e => n1 e.symm), sv_ne n3, upV_set, sv_at, sv_ne (fun e => n1 e.symm)]
        rfl
      · rw [upV_set, sv_ne n2, upV_set, sv_at, sv_ne n2, upV_set, sv_ne n1, sv_at]
      · rw [upV_set, sv_ne q1, upV_set, sv_ne q3, sv_ne q1, upV_set, sv_ne q2, sv_ne q3]
    by_cases h5 : n % 6 = 5
    · rw [if_pos (show nI (n % 6) = 5 by rw [h5]; rfl), show b_X6_less_0 (nI a) 1 C2 = nI (a - 1) from less6 (c := 1) (by omega) (by decide)]
      have S3 := S2.P (p := p) (f := 1) (v := nI (a - 1)) hp (by decide) (Or.inl (by decide))
      rw [upV_set (i := 7 + p), upV_set (i := 28 + k), sv_ne (i := 28 + k) (fun e => n3 e.symm), sv_ne (i := 16 + k) (fun e => n2 e.symm)] at S3
      have J := fin _ (upd (V (7 + p)) 1 (nI (a - 1))) (by simp [upd]) (by rw [upV_set (i := 28 + k)]; exact S3)
      have e9 : pB (V (7 + p)) n a = upd (upd (V (7 + p)) 1 (nI (a - 1))) 4 (V (7 + p) 4 + 1) := by unfold pB; rw [if_pos h5]
      rw [e9]
      exact J
    · have h6 : ¬ nI (n % 6) = 5 := fun e => h5 ((nI_eq (a := n % 6) (b := 5) (by omega) (by decide)).mp e)
      rw [if_neg h6]
      have e8 : setV (upV (setV V (16 + k) g) (28 + k) wt (V (28 + k) wt + 1)) (7 + p) (V (7 + p)) = upV (setV V (16 + k) g) (28 + k) wt (V (28 + k) wt + 1) := by
        funext x
        by_cases q : x = 7 + p
        · subst q
          rw [sv_at, upV_set, sv_ne (fun e => n3 e.symm), sv_ne (fun e => n2 e.symm)]
        · rw [sv_ne q]
      have J := fin C2 (V (7 + p)) rfl (by rw [e8]; exact S2)
      have e9 : pB (V (7 + p)) n a = upd (V (7 + p)) 4 (V (7 + p) 4 + 1) := by unfold pB; rw [if_neg h5]
      rw [e9]
      exact J
  unfold b_X2_bowlOne_32
  have comm : ∀ g, setV (setV V (28 + k) (upd (V (28 + k)) wt (V (28 + k) wt + 1))) (16 + k) g = upV (setV V (16 + k) g) (28 + k) wt (V (28 + k) wt + 1) := fun g => by
    rw [upV_set, sv_ne (fun e => n1 e.symm)]
    exact set_comm (fun e => n1 e.symm)
  by_cases h5 : wt = 5
  · rw [if_pos (show nI wt = 5 by rw [h5]; rfl)]
    have y5 : C1 (b + 16 + k) 5 + 1 = V (16 + k) 5 + 1 := by rw [I_of S1.2 hk (by decide) (by decide), upV_ne (by omega)]
    rw [y5]
    have S2 := S1.I (p := k) (f := 5) (v := V (16 + k) 5 + 1) hk (by decide) (Or.inl (by decide))
    rw [upV_set (i := 16 + k), upV_set (i := 28 + k), sv_ne n1, comm] at S2
    have J := tail _ _ (by simp [upd]) S2
    have e9 : vB (V (16 + k)) wt = upd (upd (V (16 + k)) 5 (V (16 + k) 5 + 1)) 3 (V (16 + k) 3 + 1) := by unfold vB; rw [if_pos h5]
    rw [e9]
    exact J
  · have h6 : ¬ nI wt = 5 := fun e => h5 ((nI_eq (a := wt) (b := 5) (by omega) (by decide)).mp e)
    rw [if_neg h6]
    have y5 : C1 (b + 16 + k) 4 + nI wt = V (16 + k) 4 + nI wt := by rw [I_of S1.2 hk (by decide) (by decide), upV_ne (by omega)]
    rw [y5]
    have S2 := S1.I (p := k) (f := 4) (v := V (16 + k) 4 + nI wt) hk (by decide) (Or.inl (by decide))
    rw [upV_set (i := 16 + k), upV_set (i := 28 + k), sv_ne n1, comm] at S2
    have J := tail _ _ (by simp [upd]) S2
    have e9 : vB (V (16 + k)) wt = upd (upd (V (16 + k)) 4 (V (16 + k) 4 + nI wt)) 3 (V (16 + k) 3 + 1) := by unfold vB; rw [if_neg h5]
    rw [e9]
    exact J
end

/-! TEXTS: orders are carried out on both sides alike -/
section
variable {C M X : Sx} {L a t N : Nat}
theorem wi_kp (h : ¬ nb (X 5 7) = 0) : Kp X ∧ b_X7_keeps_0 6 (up2 X 5 8 0) = up2 X 5 8 0 := by
  have e : up2 X 5 8 0 5 7 = X 5 7 := by simp [up2]
  have k : b_X7_keeps_0 6 (up2 X 5 8 0) = up2 X 5 8 0 := by
    unfold b_X7_keeps_0
    rw [e, if_neg h]
  refine ⟨⟨?_, ?_⟩, k⟩
  · unfold o_X7_keeps_0
    rw [e]
    exact ⟨fun q => absurd q h, fun _ => trivial⟩
  · rw [k, up2_ne (by decide)]
/-- what an order does on both sides -/
def EO (N' : Nat) (C X : Sx) (v : Int32) (C' : Sx) (m : Int32 × Sx) (oo : Prop) : Prop := ((v = -1 ∨ v = -2) ∧ ∃ k, 1 ≤ k ∧ k ≤ 3 ∧ m = (0, up2 X 5 8 (nI k))) ∨ (∃ w d k, 1 ≤ w ∧ w ≤ 10 ∧ d < 1000 ∧ 1 ≤ k ∧ k ≤ 3 ∧ v = nI (1000 * w + d) ∧ m = b_X7_refuses_0 (nI k) (nI w) (nI d) (up2 X 5 8 0)) ∨ (v = 0 ∧ oo ∧ FC 55 C C' ∧ FM (up2 X 5 8 0) m.2 ∧ Rl N' (vw C' 55) (dR (m.2 6)))
theorem Out_N {b N N' kb kx : Nat} {v : Int32} {m : Int32 × Sx} {op : Sx → Int32 × Sx} {oop : Sx → Prop} (h : Out b N kb kx C X v m op oop) (hN : N ≤ N') : Out b N' kb kx C X v m op oop := by
  rcases h with h | h | h | ⟨e, H⟩
  · exact Or.inl h
  · exact Or.inr (Or.inl h)
  · exact Or.inr (Or.inr (Or.inl h))
  · refine Or.inr (Or.inr (Or.inr ⟨e, fun C1 hv => ?_⟩))
    obtain ⟨h1, h2, h3, h4, h5⟩ := H C1 hv
    exact ⟨h1, h2, h3, h4, Rl_N h5 hN⟩
theorem Out.eo {N' kb kx : Nat} {v : Int32} {m : Int32 × Sx} {op : Sx → Int32 × Sx} {oop : Sx → Prop} {oo : Prop} {C' : Sx} (h : Out 55 N' kb kx C X v m op oop) (hw : ¬ nb (X 5 7) = 0) (hb : ¬ v = -2 ∨ (1 ≤ kb ∧ kb ≤ 3)) (hx : (1 ≤ kx ∧ kx ≤ 3) ∨ v = 0 ∨ v = -2) (hC : C' = (op C).2) (ho : oop C → oo) : EO N' C X v C' m oo := by
  rcases h with ⟨e, rfl⟩ | ⟨e, rfl⟩ | ⟨w, d, w1, w2, d1, e, rfl⟩ | ⟨e, H⟩
  · exact Or.inl ⟨Or.inl e, 1, by decide, by decide, rfl⟩
  · rcases hb with q | q
    · exact absurd e q
    · exact Or.inl ⟨Or.inr e, kb, q.1, q.2, rfl⟩
  · rcases hx with q | q | q
    · exact Or.inr (Or.inl ⟨w, d, kx, w1, w2, d1, q.1, q.2, e, rfl⟩)
    · exfalso
      rw [e] at q
      exact nI_ne0 (n := 1000 * w + d) (by omega) (by omega) q
    · exfalso
      rw [e] at q
      exact nI_pos (n := 1000 * w + d) (by omega) (by rw [q]; decide)
  · obtain ⟨h1, h2, h3, h4, h5⟩ := H C rfl
    rw [(wi_kp hw).2] at h4
    subst hC
    exact Or.inr (Or.inr ⟨e, ho h1, h3, h4, h5⟩)
theorem E_order (ht : t ≤ 25) (hw : ¬ nb (X 5 7) = 0) (hN : N + 72 < 2 ^ 30) (R : Rl N (vw C 55) (dR (X 6))) (h5 : C 3 5 = X 12 (4 * t)) (h6 : C 3 6 = X 12 (4 * t + 1)) (hk : (C 3 5 = 99 ∨ C 3 5 = 117 ∨ C 3 5 = 101 ∨ C 3 5 = 104) ∨ (C 3 5 = 98 ∧ C 3 7 = X 12 (4 * t + 2)) ∨ (C 3 5 = 114 ∧ C 3 7 = X 12 (4 * t + 2) ∧ C 3 8 = X 12 (4 * t + 3))) : o_X3_verdictOn_0 55 C ∧ o_X7_carries_0 (nI (4 * t)) X ∧ EO (N + 72) C X (b_X3_verdictOn_0 55 C) (b_X3_carryOut_0 55 C) (b_X7_carries_0 (nI (4 * t)) X) (o_X3_carryOut_0 55 C) := by
  obtain ⟨pc, hc, uc, ic, hr, R⟩ := R
  have hK := (wi_kp hw).1
  have ec := nI_clamp (n := 4 * t) (by omega)
  have e1 : nI (4 * t) + 1 = nI (4 * t + 1) := nI_add _ 1
  have e2 : nI (4 * t) + 2 = nI (4 * t + 2) := nI_add _ 2
  have e3 : nI (4 * t) + 3 = nI (4 * t + 3) := nI_add _ 3
  have c1 := nI_clamp (n := 4 * t + 1) (by omega)
  have c2 := nI_clamp (n := 4 * t + 2) (by omega)
  have c3 := nI_clamp (n := 4 * t + 3) (by omega)
  have i0 : vp_in (nI (4 * t)) 124 := vp_in_nI (by omega) (by decide)
  have i1 : vp_in (nI (4 * t + 1)) 124 := vp_in_nI (by omega) (by decide)
  have i2 : vp_in (nI (4 * t + 2)) 124 := vp_in_nI (by omega) (by decide)
  have i3 : vp_in (nI (4 * t + 3)) 124 := vp_in_nI (by omega) (by decide)
  unfold o_X3_verdictOn_0 b_X3_verdictOn_0 o_X7_carries_0 b_X7_carries_0 o_X3_carryOut_0 b_X3_carryOut_0 b_X3_carryOut_87 b_X3_carryOut_148
  rw [ec, e1, e2, e3, c1, c2, c3, ← h5, ← h6]
  have n1 : ¬ (99 : Int32) = 98 := by decide
  have n2 : ¬ (101 : Int32) = 98 := by decide
  have n3 : ¬ (101 : Int32) = 99 := by decide
  have n4 : ¬ (104 : Int32) = 98 := by decide
  have n5 : ¬ (104 : Int32) = 99 := by decide
  have n6 : ¬ (104 : Int32) = 101 := by decide
  have n7 : ¬ (104 : Int32) = 114 := by decide
  have n8 : ¬ (104 : Int32) = 117 := by decide
  have m1 : ¬ (117 : Int32) = 98 := by decide
  have m2 : ¬ (117 : Int32) = 99 := by decide
  have m3 : ¬ (117 : Int32) = 101 := by decide
  have m4 : ¬ (117 : Int32) = 114 := by decide
  have m5 : ¬ (114 : Int32) = 98 := by decide
  have m6 : ¬ (114 : Int32) = 99 := by decide
  have m7 : ¬ (114 : Int32) = 101 := by decide
  rcases hk with (k | k | k | k) | ⟨k, k7⟩ | ⟨k, k7, k8⟩
  · rw [k]
    obtain ⟨a1, a2, a3, a4⟩ := K_cover R hK (C 3 6) 1 bz_1
    simp only [n1, if_false, if_true]
    refine ⟨by simp [a1], by simp [i0, i1, a2], ?_⟩
    exact Out.eo (Out_N a4 (by omega)) hw (Or.inl a3) (Or.inl (by decide)) rfl (fun h => by have h1 : vp_in (C 3 6) 4 := h.1; simp [h1])
  · rw [k]
    obtain ⟨a1, a2, a3, a4⟩ := K_cover R hK (C 3 6) 0 bz_0
    simp only [m1, m2, m3, m4, if_false, if_true]
    refine ⟨by simp [a1], by simp [i0, i1, a2], ?_⟩
    exact Out.eo (Out_N a4 (by omega)) hw (Or.inl a3) (Or.inl (by decide)) rfl (fun h => by have h1 : vp_in (C 3 6) 4 := h.1; simp [h1])
  · rw [k]
    obtain ⟨a1, a2, a3, a4⟩ := K_end R hK (C 3 6)
    simp only [n2, n3, if_false, if_true]
    refine ⟨by simp [a1], by simp [i0, i1, a2], ?_⟩
    exact Out.eo (Out_N a4 (by omega)) hw (Or.inl a3) (Or.inl (by decide)) rfl (fun h => by have h1 : vp_in (C 3 6) 12 := h.1; simp [h1])
  · rw [k]
    obtain ⟨a2, a3, a5, a4⟩ := K_pass R hN hK (C 3 6)
    simp only [n4, n5, n6, n7, n8, if_false]
    refine ⟨by simp, by simp [i0, i1, a2], ?_⟩
    exact Out.eo a4 hw (Or.inr (by decide)) (Or.inr a5) rfl (fun h => by have h1 : o_X0_letHoursGoBy_0 55 (C 3 6) C := h.1; simp [h1])
  · rw [k, ← k7]
    obtain ⟨a1, a2, a4⟩ := K_bowl R (by omega) hK (C 3 6) (C 3 7)
    simp only [if_true]
    refine ⟨by simp [a1], by simp [i0, i1, i2, a2], ?_⟩
    exact Out.eo (Out_N a4 (by omega)) hw (Or.inr (by decide)) (Or.inl (by decide)) rfl (fun h => by have h1 : o_X0_bowlBalls_0 55 (C 3 6) (C 3 7) C := h.1; simp [h1])
  · rw [k, ← k7, ← k8]
    obtain ⟨a1, a2, a4⟩ := K_roll R hK (C 3 6) (C 3 7) (C 3 8)
    simp only [m5, m6, m7, if_false, if_true]
    refine ⟨by simp [a1], by simp [i0, i1, i2, i3, a2], ?_⟩
    exact Out.eo (Out_N a4 (by omega)) hw (Or.inr (by decide)) (Or.inl (by decide)) rfl (fun h => by have h1 : o_X0_beginRolling_0 55 (C 3 6) (C 3 7) (C 3 8) C := h.1; simp [h1])
/-- what stays while a text is read -/
def FE (C C' : Sx) : Prop := (∀ j, ¬ j = 3 → (j < 55 ∨ 95 ≤ j) → C' j = C j) ∧ C' 3 1 = C 3 1
def GE (M M' : Sx) : Prop := (∀ j, ¬ j = 5 → ¬ j = 12 → M' j = M j) ∧ ∀ k, ¬ k = 15 → ¬ k = 17 → M' 5 k = M 5 k
def FX (X X' : Sx) : Prop := (∀ j, ¬ j = 5 → ¬ j = 6 → X' j = X j) ∧ ∀ k, (k < 8 ∨ 12 ≤ k) → X' 5 k = X 5 k
theorem FE.tr {C' C2 : Sx} (h : FE C C') (h' : FE C' C2) : FE C C2 := ⟨fun j a b => (h'.1 j a b).trans (h.1 j a b), h'.2.trans h.2⟩
theorem GE.tr {M' M2 : Sx} (h : GE M M') (h' : GE M' M2) : GE M M2 := ⟨fun j a b => (h'.1 j a b).trans (h.1 j a b), fun k a b => (h'.2 k a b).trans (h.2 k a b)⟩
theorem FX.tr {X' X2 : Sx} (h : FX X X') (h' : FX X' X2) : FX X X2 := ⟨fun j a b => (h'.1 j a b).trans (h.1 j a b), fun k a => (h'.2 k a).trans (h.2 k a)⟩
theorem FX.rf : FX X X := ⟨fun _ _ _ => rfl, fun _ _ => rfl⟩
theorem FE.rf : FE C C := ⟨fun _ _ _ => rfl, rfl⟩
theorem GE.rf : GE M M := ⟨fun _ _ _ => rfl, fun _ _ _ => rfl⟩
/-- the end of the reference's carrying out -/
def EX (B : Nat) (v : Int32) (C' X : Sx) (n got : Int32) (q : Nat) : Prop := ∃ X' g, (o_X7_read_100 g X' → o_X7_read_71 q n got X) ∧ b_X7_read_71 q n got X = b_X7_read_100 g X' ∧ FX X X' ∧ ((v = 0 ∧ X' 5 8 = 0 ∧ X' 5 10 = X 5 10 ∧ X' 5 11 = X 5 11 ∧ Rl B (vw C' 55) (dR (X' 6))) ∨ ((v = -1 ∨ v = -2) ∧ (∃ k, 1 ≤ k ∧ k ≤ 3 ∧ X' 5 8 = nI k) ∧ X' 5 9 = X 5 9 ∧ X' 5 10 = X 5 10 ∧ X' 5 11 = X 5 11) ∨ (∃ w d, 1 ≤ w ∧ w ≤ 10 ∧ d < 1000 ∧ v = nI (1000 * w + d) ∧ (∃ k, 1 ≤ k ∧ k ≤ 3 ∧ X' 5 8 = nI k) ∧ X' 5 9 = 1 ∧ X' 5 10 = nI w ∧ X' 5 11 = nI d))
theorem rd_end {n got : Int32} {q : Nat} (h : X 5 17 ≤ n) : b_X7_read_71 (q + 1) n got X = b_X7_read_100 got X ∧ (o_X7_read_100 got X → o_X7_read_71 (q + 1) n got X) := by
  rw [b_X7_read_71, o_X7_read_71, if_pos h]
  exact ⟨rfl, fun o => ⟨fun _ => o, fun e => absurd h e⟩⟩
theorem rd_stop {n got : Int32} {q : Nat} (h8 : ¬ X 5 8 = 0) : b_X7_read_71 (q + 1) n got X = b_X7_read_100 got X ∧ (o_X7_read_100 got X → o_X7_read_71 (q + 1) n got X) := by
  rw [b_X7_read_71, o_X7_read_71]
  by_cases h : X 5 17 ≤ n
  · rw [if_pos h]
    exact ⟨rfl, fun o => ⟨fun _ => o, fun e => absurd h e⟩⟩
  · rw [if_neg h, if_neg h8]
    exact ⟨rfl, fun o => ⟨fun e => absurd e h, fun _ => ⟨fun e => absurd e h8, fun _ => o⟩⟩⟩
theorem rd_go {n got : Int32} {q : Nat} (h : ¬ X 5 17 ≤ n) (h8 : X 5 8 = 0) (oc : o_X7_carries_0 (4 * n) X) : b_X7_read_71 (q + 1) n got X = b_X7_read_71 q (n + 1) (b_X7_carries_0 (4 * n) X).1 (b_X7_carries_0 (4 * n) X).2 ∧ (o_X7_read_71 q (n + 1) (b_X7_carries_0 (4 * n) X).1 (b_X7_carries_0 (4 * n) X).2 → o_X7_read_71 (q + 1) n got X) := by
  rw [b_X7_read_71, o_X7_read_71, if_neg h, if_pos h8]
  exact ⟨rfl, fun o => ⟨fun e => absurd e h, fun _ => ⟨fun _ => ⟨oc, o⟩, fun e => absurd h8 e⟩⟩⟩
def RLo (n m a t l : Nat) (v : Int32) (N : Nat) (C M : Sx) : Prop := o_X3_carryOutAll_18 n 55 v 1 (nI l) C ∧ o_X7_isText_10 m M ∧ ∃ v' C' f M', b_X3_carryOutAll_18 n 55 v 1 (nI l) C = (v', C') ∧ b_X7_isText_10 m M = (f, M') ∧ FE C C' ∧ GE M M' ∧ (∀ k, k < 4 * t → M' 12 k = M 12 k) ∧ ((f = 0 ∧ v' = -2 ∧ C' 3 2 = M' 5 15) ∨ (f = 1 ∧ C' 3 2 = -1 ∧ ∃ t', t < t' ∧ t' ≤ 25 ∧ C' 3 3 = nI t' ∧ M' 5 17 = nI t' ∧ (¬ v = 0 → v' = v) ∧ (v = 0 → ∀ (X : Sx) (got : Int32) (q : Nat), ¬ nb (X 5 7) = 0 → X 5 8 = 0 → X 5 17 = nI t' → (∀ k, k < 4 * t' → X 12 k = M' 12 k) → Rl N (vw C 55) (dR (X 6)) → 62 - a < q → EX (N + 72 * (61 - a)) v' C' X (nI t) got q)))
theorem co_exit {n : Nat} {v l : Int32} (P : PS C M L a) : b_X3_carryOutAll_18 (n + 1) 55 v 0 l C = b_X3_carryOutAll_87 v C ∧ o_X3_carryOutAll_18 (n + 1) 55 v 0 l C := by
  rw [b_X3_carryOutAll_18, o_X3_carryOutAll_18, if_pos rfl]
  exact ⟨rfl, fun _ => trivial, fun e => absurd rfl e⟩
theorem rd_loop (hL : L ≤ 60) : ∀ n m a t l (C M : Sx) (v : Int32) (N : Nat), PS C M L a → 3 * t ≤ a → M 5 17 = nI t → C 3 3 = nI t → 62 - a < n → 62 - a < m → l + t = 60 → l ≤ 60 → N + 72 * (61 - a) < 2 ^ 30 → (v = 0 → ∃ X0 : Sx, ¬ nb (X0 5 7) = 0 ∧ Rl N (vw C 55) (dR (X0 6))) → RLo n m a t l v N C M := by
  intro n
  induction n with
  | zero => intro m a t l C M v N P h1 h2 h3 h4; omega
  | succ n ih =>
    intro m a t l C M v N P h1 h17 h33 h4 h5 h6 h7 hN hX
    obtain ⟨m, rfl⟩ : ∃ k, m = k + 1 := ⟨m - 1, by omega⟩
    have haL := P.2.2.2.2.1
    have ht : t ≤ 20 := by omega
    have l0 : ¬ nI l ≤ 0 := nI_nle (by omega) (by omega)
    obtain ⟨o1, o2, p1, p2, p3, p4, p5⟩ := A_order (t := t) (by omega) P h17
    generalize hc : b_X3_findOrder_0 C = c at p2 p3 p4 p5
    generalize hm : b_X7_orderHere_0 M = mm at p2 p3 p4 p5
    obtain ⟨f, C1⟩ := c
    obtain ⟨f2, M1⟩ := mm
    dsimp only at p2 p3 p4 p5
    have fe1 : FE C C1 := ⟨fun j a b => p3.1 j a, p3.2 1 (by decide)⟩
    have ge1 : GE M M1 := ⟨p4.1, fun k a b => p4.2.1 k a⟩
    unfold RLo
    rw [b_X3_carryOutAll_18, o_X3_carryOutAll_18, b_X7_isText_10, o_X7_isText_10, if_neg z10, if_neg l0, hc, hm]
    dsimp only
    rcases p5 with ⟨q1, q2, q3⟩ | ⟨q1, q2, q3, q5, q6, q7⟩
    · subst q1
      subst q2
      rw [if_pos rfl, if_pos rfl]
      unfold b_X3_carryOutAll_42
      refine ⟨⟨fun e => absurd e z10, fun _ => ⟨fun e => absurd e l0, fun _ => ⟨o1, fun _ => trivial, fun e => absurd rfl e⟩⟩⟩, ⟨o2, fun _ => trivial, fun e => absurd rfl e⟩, -2, up2 C1 3 2 (C1 3 4), 0, M1, rfl, rfl, ?_, ge1, p4.2.2, Or.inl ⟨rfl, rfl, ?_⟩⟩
      · exact ⟨fun j a b => by rw [up2_ne a]; exact fe1.1 j a b, by rw [← fe1.2]; simp [up2]⟩
      · have e : up2 C1 3 2 (C1 3 4) 3 2 = C1 3 4 := by simp [up2]
        rw [e, p2.2.2.1, p2.2.2.2.1]
    · subst q1
      subst q2
      rw [if_neg z10, if_neg z10]
      -- the reference goes on behind this order
      have h17' : M1 5 17 = nI t := by rw [p4.2.1 17 (by decide)]; exact h17
      have hM2 : up2 M1 5 17 (M1 5 17 + 1) = up2 M1 5 17 (nI (t + 1)) := by rw [h17', nI_1]
      rw [hM2]
      have v1 : vw C1 55 = vw C 55 := vw_frame (fun i hi => p3.1 (55 + i) (by omega))
      have c33 : C1 3 3 = nI t := by rw [p3.2 3 (by decide)]; exact h33
      -- the end of the round, whatever the verdict: w, from the state D
      have TAIL : ∀ (w : Int32) (D : Sx) (N' : Nat), FC 55 C1 D → N' ≤ N + 72 → (w = 0 → ∃ X0 : Sx, ¬ nb (X0 5 7) = 0 ∧ Rl N' (vw D 55) (dR (X0 6))) → (o_X3_carryOutAll_64 (o_X3_carryOutAll_18 n) 55 w (nI l) D ∧ o_X7_isText_29 (o_X7_isText_10 m) (up2 M1 5 17 (nI (t + 1))) ∧ ∃ v' C' f M', b_X3_carryOutAll_64 (b_X3_carryOutAll_18 n) 55 w (nI l) D = (v', C') ∧ b_X7_isText_29 (b_X7_isText_10 m) (up2 M1 5 17 (nI (t + 1))) = (f, M') ∧ FE D C' ∧ GE (up2 M1 5 17 (nI (t + 1))) M' ∧ (∀ k, k < 4 * (t + 1) → M' 12 k = M1 12 k) ∧ ((f = 0 ∧ v' = -2 ∧ C' 3 2 = M' 5 15) ∨ (f = 1 ∧ C' 3 2 = -1 ∧ ∃ t', t < t' ∧ t' ≤ 25 ∧ C' 3 3 = nI t' ∧ M' 5 17 = nI t' ∧ (¬ w = 0 → v' = w) ∧ (w = 0 → ∀ (X : Sx) (got : Int32) (q : Nat), ¬ nb (X 5 7) = 0 → X 5 8 = 0 → X 5 17 = nI t' → (∀ k, k < 4 * t' → X 12 k = M' 12 k) → Rl N' (vw D 55) (dR (X 6)) → 61 - a < q → EX (N + 72 * (61 - a)) v' C' X (nI (t + 1)) got q)))) := by
        intro w D N' hD hN' hw
        have D3 : ∀ k, D 3 k = C1 3 k := fun k => by rw [hD 3 (by omega)]
        have D4 : D 4 = C1 4 := hD 4 (by omega)
        have P2 : PS (up2 D 3 3 (nI (t + 1))) (up2 M1 5 17 (nI (t + 1))) L p1 := by
          refine PS.mk5 (PS.c ?_ (by decide) (by decide)) (by decide) (by decide)
          obtain ⟨a1, a2, a3, a4, a5, a6, a7⟩ := p2
          exact ⟨by rw [D3]; exact a1, a2, by rw [D3]; exact a3, a4, a5, a6, fun k hk => by rw [D4]; exact a7 k hk⟩
        have e33 : up2 D 3 3 (D 3 3 + 1) = up2 D 3 3 (nI (t + 1)) := by rw [D3, c33, nI_1]
        have fD : FE D (up2 D 3 3 (nI (t + 1))) := ⟨fun j a b => up2_ne a, by simp [up2]⟩
        have k33 : up2 D 3 3 (nI (t + 1)) 3 3 = nI (t + 1) := by simp [up2]
        have k17 : up2 M1 5 17 (nI (t + 1)) 5 17 = nI (t + 1) := by simp [up2]
        have vD : vw (up2 D 3 3 (nI (t + 1))) 55 = vw D 55 := vw_frame (fun i hi => up2_ne (by omega))
        have k12 : up2 M1 5 17 (nI (t + 1)) 12 = M1 12 := up2_ne (by decide)
        unfold b_X3_carryOutAll_64 o_X3_carryOutAll_64 b_X7_isText_29 o_X7_isText_29
        rw [e33]
        obtain ⟨s1, s2, s3⟩ := ps_skip P2 (x := 59) (by decide)
        generalize up2 D 3 3 (nI (t + 1)) = D2 at *
        generalize hM2' : up2 M1 5 17 (nI (t + 1)) = M2 at *
        have el : nI l + (-1) = nI (l - 1) := by
          rw [show l = (l - 1) + 1 by omega, ← Int32.sub_eq_add_neg, nI_pred, show l - 1 + 1 - 1 = l - 1 by omega]
        unfold b_X3_carryOutAll_80 o_X3_carryOutAll_80
        rw [el]
        rcases s3 with ⟨-, hlt, s4, s5⟩ | ⟨-, s4, s5⟩
        · rw [s4, s5]
          dsimp only
          rw [if_neg z10]
          have P3 := P2.at (b := p1 + 1) (by omega)
          have IH := ih m (p1 + 1) (t + 1) (l - 1) (up2 D2 3 4 (nI (p1 + 1))) (up2 M2 5 15 (nI (p1 + 1))) w N' P3 (by omega) (by simpa [up2] using k17) (by simpa [up2] using k33) (by omega) (by omega) (by omega) (by omega) (by omega) (by
            intro hw0
            obtain ⟨X0, x1, x2⟩ := hw hw0
            refine ⟨X0, x1, ?_⟩
            rw [vw_frame (C := D2) (fun i hi => up2_ne (by omega)), vD]
            exact x2)
          obtain ⟨i1, i2, v', C', f, M', i3, i4, i5, i6, i7, i8⟩ := IH
          refine ⟨⟨s1, i1⟩, ⟨s2, fun e => absurd e z10, fun _ => i2⟩, v', C', f, M', i3, i4, fD.tr (FE.tr ⟨fun j a b => up2_ne a, by simp [up2]⟩ i5), GE.tr ⟨fun j a b => up2_ne a, fun k a b => by simp [up2, a]⟩ i6, fun k hk => by rw [i7 k hk, up2_ne (by decide), k12], ?_⟩
          rcases i8 with i8 | ⟨j1, j2, t', j3, j4, j5, j6, j7, j8⟩
          · exact Or.inl i8
          · refine Or.inr ⟨j1, j2, t', by omega, j4, j5, j6, j7, fun hw0 X got q x1 x2 x3 x4 x5 x6 => ?_⟩
            have E := j8 hw0 X got q x1 x2 x3 x4 (by rw [vw_frame (C := D2) (fun i hi => up2_ne (by omega)), vD]; exact x5) (by omega)
            obtain ⟨X', g, y1, y2, y3, y4⟩ := E
            refine ⟨X', g, y1, y2, y3, ?_⟩
            rcases y4 with ⟨y5, y6, y7, y8, y9⟩ | y4
            · exact Or.inl ⟨y5, y6, y7, y8, Rl_N y9 (by omega)⟩
            · exact Or.inr y4
        · rw [s4, s5]
          dsimp only
          rw [if_pos rfl]
          obtain ⟨n', rfl⟩ : ∃ k, n = k + 1 := ⟨n - 1, by omega⟩
          obtain ⟨w1, w2⟩ := co_exit (n := n') (v := w) (l := nI (l - 1)) P2
          rw [w1]
          unfold b_X3_carryOutAll_87 b_X3_carryOutAll_107 b_X3_carryOutAll_124 b_X7_isText_54 o_X7_isText_54
          rw [P2.1, P2.2.2.1]
          have hp1 := P2.2.2.2.2.1
          by_cases hend : p1 = L
          · subst hend
            have le : nI p1 ≤ nI p1 := nI_le (Nat.le_refl _) (by omega)
            have e2 : up2 D2 3 2 (-1) 3 2 = -1 := by simp [up2]
            have hq : M2 5 15 = M2 5 13 := by rw [P2.2.2.2.1, P2.2.1]
            rw [if_pos hq, if_pos le, if_pos e2]
            refine ⟨⟨s1, w2⟩, ⟨s2, fun _ => ⟨fun _ => ⟨bz_1, trivial⟩, fun e => absurd hq e⟩, fun e => absurd rfl e⟩, w, up2 D2 3 2 (-1), 1, M2, rfl, rfl, fD.tr ⟨fun j a b => up2_ne a, by simp [up2]⟩, GE.rf, fun k hk => by rw [k12], Or.inr ⟨rfl, e2, t + 1, by omega, by omega, by simpa [up2] using k33, k17, fun _ => rfl, fun hw0 X got q x1 x2 x3 x4 x5 x6 => ?_⟩⟩
            obtain ⟨q', rfl⟩ : ∃ k, q = k + 1 := ⟨q - 1, by omega⟩
            obtain ⟨r1, r2⟩ := rd_end (X := X) (n := nI (t + 1)) (got := got) (q := q') (by rw [x3]; exact nI_le (Nat.le_refl _) (by omega))
            refine ⟨X, got, r2, r1, FX.rf, Or.inl ⟨hw0, x2, rfl, rfl, ?_⟩⟩
            rw [vw_frame (C := D2) (fun i hi => up2_ne (by omega)), vD]
            exact Rl_N x5 (by omega)
          · have n1 : ¬ M2 5 15 = M2 5 13 := fun e => by
              rw [P2.2.2.2.1, P2.2.1] at e
              exact hend ((nI_eq (a := p1) (b := L) (by omega) (by omega)).mp e)
            have n2 : ¬ nI L ≤ nI p1 := nI_ge (by omega) (by omega)
            have e2 : up2 D2 3 2 (nI p1) 3 2 = nI p1 := by simp [up2]
            have n3 : ¬ up2 D2 3 2 (nI p1) 3 2 = -1 := by rw [e2]; exact nI_m1 (by omega)
            rw [if_neg n1, if_neg n2, if_neg n3]
            exact ⟨⟨s1, w2⟩, ⟨s2, fun _ => ⟨fun e => absurd e n1, fun _ => ⟨bz_0, trivial⟩⟩, fun e => absurd rfl e⟩, -2, up2 D2 3 2 (nI p1), 0, M2, rfl, rfl, fD.tr ⟨fun j a b => up2_ne a, by simp [up2]⟩, GE.rf, fun k hk => by rw [k12], Or.inl ⟨rfl, rfl, by rw [e2, P2.2.2.2.1]⟩⟩
      have g17 : GE M1 (up2 M1 5 17 (nI (t + 1))) := ⟨fun j a b => up2_ne a, fun k a b => by simp [up2, b]⟩
      by_cases hv : v = 0
      · subst hv
        rw [if_pos rfl]
        obtain ⟨X0, x1, x2⟩ := hX rfl
        -- the verdict, read off any row that agrees
        have EO1 : ∀ X : Sx, ¬ nb (X 5 7) = 0 → (∀ k, k < 4 * (t + 1) → X 12 k = M1 12 k) → Rl N (vw C 55) (dR (X 6)) → _ := fun X y1 y2 y3 => E_order (t := t) (N := N) (C := C1) (X := X) (by omega) y1 (by omega) (by rw [v1]; exact y3) (by rw [y2 _ (by omega)]; exact q5) (by rw [y2 _ (by omega)]; exact q6) (by rw [y2 (4 * t + 2) (by omega), y2 (4 * t + 3) (by omega)]; exact q7)
        -- a row like X0 with the orders of M1
        have Y := EO1 (fun j => if j = 12 then M1 12 else X0 j) (by simpa using x1) (fun k hk => by simp) (by simpa using x2)
        obtain ⟨y1, -, y3⟩ := Y
        by_cases hz : b_X3_verdictOn_0 55 C1 = 0
        · rw [if_pos hz]
          have y4 : o_X3_carryOut_0 55 C1 ∧ FC 55 C1 (b_X3_carryOut_0 55 C1) ∧ ∃ X0 : Sx, ¬ nb (X0 5 7) = 0 ∧ Rl (N + 72) (vw (b_X3_carryOut_0 55 C1) 55) (dR (X0 6)) := by
            rcases y3 with ⟨e, -⟩ | ⟨w, d, k, w1, w2, d1, -, -, e, -⟩ | ⟨e, e1, e2, e3, e4⟩
            · rw [hz] at e
              rcases e with e | e <;> exact absurd e (by decide)
            · rw [hz] at e
              exact absurd e.symm (nI_ne0 (by omega) (by omega))
            · refine ⟨e1, e2, _, ?_, e4⟩
              rw [e3 5 (by decide)]
              simpa [up2] using x1
          obtain ⟨y5, y6, y7⟩ := y4
          obtain ⟨T1, T2, v', C', f, M', T3, T4, T5, T6, T7, T8⟩ := TAIL (b_X3_verdictOn_0 55 C1) (b_X3_carryOut_0 55 C1) (N + 72) y6 (Nat.le_refl _) (fun _ => y7)
          have T7' : ∀ k, k < 4 * t → M' 12 k = M 12 k := fun k hk => by rw [T7 k (by omega), p4.2.2 k hk]
          refine ⟨⟨fun e => absurd e z10, fun _ => ⟨fun e => absurd e l0, fun _ => ⟨o1, fun e => absurd e z10, fun _ => ⟨fun _ => ⟨y1, fun _ => ⟨y5, T1⟩, fun e => absurd hz e⟩, fun e => absurd rfl e⟩⟩⟩⟩, ⟨o2, fun e => absurd e z10, fun _ => T2⟩, v', C', f, M', T3, T4, ?_, ge1.tr (g17.tr T6), T7', ?_⟩
          · exact fe1.tr (FE.tr ⟨fun j a b => y6 j b, by rw [y6 3 (by omega)]⟩ T5)
          · rcases T8 with T8 | ⟨j1, j2, t', j3, j4, j5, j6, j7, j8⟩
            · exact Or.inl T8
            · refine Or.inr ⟨j1, j2, t', j3, j4, j5, j6, fun e => absurd rfl e, fun _ X got q a1 a2 a3 a4 a5 a6 => ?_⟩
              have a4' : ∀ k, k < 4 * (t + 1) → X 12 k = M1 12 k := fun k hk => by rw [a4 k (by omega), T7 k hk]
              obtain ⟨-, b2, b3⟩ := EO1 X a1 a4' a5
              obtain ⟨q', rfl⟩ : ∃ k, q = k + 1 := ⟨q - 1, by omega⟩
              have e4 : (4 : Int32) * nI t = nI (4 * t) := by rw [show (4 : Int32) = nI 4 from rfl, nI_mul]
              have G := rd_go (X := X) (n := nI t) (got := got) (q := q') (by rw [a3]; exact nI_ge (by omega) (by omega)) a2 (by rw [e4]; exact b2)
              rw [e4, nI_1] at G
              rcases b3 with ⟨e, -⟩ | ⟨w, d, k, w1, w2, d1, -, -, e, -⟩ | ⟨-, -, -, e3, e5⟩
              · rw [hz] at e
                rcases e with e | e <;> exact absurd e (by decide)
              · rw [hz] at e
                exact absurd e.symm (nI_ne0 (by omega) (by omega))
              · have f5 : ∀ k, (k < 8 ∨ 8 < k) → (b_X7_carries_0 (nI (4 * t)) X).2 5 k = X 5 k := fun k hk => by
                  rw [e3 5 (by decide)]
                  simp [up2, show ¬ k = 8 by omega]
                have E := j8 hz (b_X7_carries_0 (nI (4 * t)) X).2 (b_X7_carries_0 (nI (4 * t)) X).1 q' (by rw [f5 7 (by omega)]; exact a1) (by rw [e3 5 (by decide)]; simp [up2]) (by rw [f5 17 (by omega)]; exact a3) (fun k hk => by rw [e3 12 (by decide), up2_ne (by decide)]; exact a4 k hk) e5 (by omega)
                obtain ⟨X', g, r1, r2, r3, r4⟩ := E
                refine ⟨X', g, fun o => G.2 (r1 o), G.1.trans r2, FX.tr ⟨fun j a b => by rw [e3 j b, up2_ne a], fun k hk => f5 k (by omega)⟩ r3, ?_⟩
                rw [f5 9 (by omega), f5 10 (by omega), f5 11 (by omega)] at r4
                exact r4
        · rw [if_neg hz]
          obtain ⟨T1, T2, v', C', f, M', T3, T4, T5, T6, T7, T8⟩ := TAIL (b_X3_verdictOn_0 55 C1) C1 N FC.rf (by omega) (fun e => absurd e hz)
          have T7' : ∀ k, k < 4 * t → M' 12 k = M 12 k := fun k hk => by rw [T7 k (by omega), p4.2.2 k hk]
          refine ⟨⟨fun e => absurd e z10, fun _ => ⟨fun e => absurd e l0, fun _ => ⟨o1, fun e => absurd e z10, fun _ => ⟨fun _ => ⟨y1, fun e => absurd e hz, fun _ => T1⟩, fun e => absurd rfl e⟩⟩⟩⟩, ⟨o2, fun e => absurd e z10, fun _ => T2⟩, v', C', f, M', T3, T4, fe1.tr T5, ge1.tr (g17.tr T6), T7', ?_⟩
          rcases T8 with T8 | ⟨j1, j2, t', j3, j4, j5, j6, j7, j8⟩
          · exact Or.inl T8
          · refine Or.inr ⟨j1, j2, t', j3, j4, j5, j6, fun e => absurd rfl e, fun _ X got q a1 a2 a3 a4 a5 a6 => ?_⟩
            have a4' : ∀ k, k < 4 * (t + 1) → X 12 k = M1 12 k := fun k hk => by rw [a4 k (by omega), T7 k hk]
            obtain ⟨-, b2, b3⟩ := EO1 X a1 a4' a5
            obtain ⟨q', rfl⟩ : ∃ k, q = (k + 1) + 1 := ⟨q - 2, by omega⟩
            have e4 : (4 : Int32) * nI t = nI (4 * t) := by rw [show (4 : Int32) = nI 4 from rfl, nI_mul]
            have G := rd_go (X := X) (n := nI t) (got := got) (q := q' + 1) (by rw [a3]; exact nI_ge (by omega) (by omega)) a2 (by rw [e4]; exact b2)
            rw [e4, nI_1] at G
            have jv := j7 hz
            rcases b3 with ⟨e, k, k1, k2, em⟩ | ⟨w, d, k, w1, w2, d1, k1, k2, e, em⟩ | ⟨e, -⟩
            · rw [em] at G
              have n8 : ¬ up2 X 5 8 (nI k) 5 8 = 0 := by
                have := nI_ne0 (n := k) (by omega) (by omega)
                simpa [up2] using this
              have S := rd_stop (X := up2 X 5 8 (nI k)) (n := nI (t + 1)) (got := 0) (q := q') n8
              refine ⟨up2 X 5 8 (nI k), 0, fun o => G.2 (S.2 o), G.1.trans S.1, ⟨fun j a b => up2_ne a, fun i hi => by simp [up2, show ¬ i = 8 by omega]⟩, Or.inr (Or.inl ⟨by rw [jv]; exact e, ⟨k, k1, k2, by simp [up2]⟩, by simp [up2], by simp [up2], by simp [up2]⟩)⟩
            · rw [em, ref_v] at G
              dsimp only at G
              have n8 : ¬ up2 (up2 (up2 (up2 (up2 X 5 8 0) 5 8 (nI k)) 5 9 1) 5 10 (nI w)) 5 11 (nI d) 5 8 = 0 := by
                have := nI_ne0 (n := k) (by omega) (by omega)
                simpa [up2] using this
              have S := rd_stop (X := up2 (up2 (up2 (up2 (up2 X 5 8 0) 5 8 (nI k)) 5 9 1) 5 10 (nI w)) 5 11 (nI d)) (n := nI (t + 1)) (got := 0) (q := q') n8
              refine ⟨up2 (up2 (up2 (up2 (up2 X 5 8 0) 5 8 (nI k)) 5 9 1) 5 10 (nI w)) 5 11 (nI d), 0, fun o => G.2 (S.2 o), G.1.trans S.1, ⟨fun j a b => by rw [up2_ne a, up2_ne a, up2_ne a, up2_ne a, up2_ne a], fun i hi => by simp [up2, show ¬ i = 8 by omega, show ¬ i = 9 by omega, show ¬ i = 10 by omega, show ¬ i = 11 by omega]⟩, Or.inr (Or.inr ⟨w, d, w1, w2, d1, by rw [jv]; exact e, ⟨k, k1, k2, by simp [up2]⟩, by simp [up2], by simp [up2], by simp [up2]⟩)⟩
            · exact absurd e hz
      · rw [if_neg hv]
        obtain ⟨T1, T2, v', C', f, M', T3, T4, T5, T6, T7, T8⟩ := TAIL v C1 N FC.rf (by omega) (fun e => absurd e hv)
        have T7' : ∀ k, k < 4 * t → M' 12 k = M 12 k := fun k hk => by rw [T7 k (by omega), p4.2.2 k hk]
        refine ⟨⟨fun e => absurd e z10, fun _ => ⟨fun e => absurd e l0, fun _ => ⟨o1, fun e => absurd e z10, fun _ => ⟨fun e => absurd e hv, fun _ => T1⟩⟩⟩⟩, ⟨o2, fun e => absurd e z10, fun _ => T2⟩, v', C', f, M', T3, T4, fe1.tr T5, ge1.tr (g17.tr T6), T7', ?_⟩
        rcases T8 with T8 | ⟨j1, j2, t', j3, j4, j5, j6, j7, j8⟩
        · exact Or.inl T8
        · exact Or.inr ⟨j1, j2, t', j3, j4, j5, j6, j7, fun e => absurd e hv⟩
end

/-! AN HOUR GOES BY -/
theorem more6 {a c m : Nat} {S : Sx} (h : a + c < 2 ^ 31) (hm : m < 2 ^ 31) : b_X6_more_0 (nI a) (nI c) (nI m) S = nI (min (a + c) m) := by
  unfold b_X6_more_0 b_X6_more_14
  rw [nI_add]
  by_cases e : m ≤ a + c
  · rw [if_pos (nI_le e h), Nat.min_eq_right e]
  · rw [if_neg (nI_ge (by omega) hm), Nat.min_eq_left (by omega)]
theorem less6 {a c : Nat} {S : Sx} (h : a < 2 ^ 31) (hc : c < 2 ^ 31) : b_X6_less_0 (nI a) (nI c) S = nI (a - c) := by
  unfold b_X6_less_0 b_X6_less_12
  by_cases e : a ≤ c
  · rw [if_pos (nI_le e hc), Nat.sub_eq_zero_of_le e]
    rfl
  · rw [if_neg (nI_ge (by omega) h), nI_subI (by omega)]
theorem less7 {a c : Nat} {S : Sx} (h : a < 2 ^ 31) (hc : c < 2 ^ 31) : b_X7_less_0 (nI a) (nI c) S = nI (min c a) := by
  unfold b_X7_less_0 b_X7_less_10
  by_cases e : c ≤ a
  · rw [if_pos (nI_le e h), Nat.min_eq_left e]
  · rw [if_neg (nI_ge (by omega) hc), Nat.min_eq_right (by omega)]
theorem nI_neg {a c : Nat} (h : a < c) (hc : c < 2 ^ 31) : ¬ 0 ≤ nI a - nI c := by
  rw [Int32.le_iff_toInt_le, Int32.toInt_sub, nI_toInt (by omega), nI_toInt hc]
  rw [show ((0 : Int32).toInt) = 0 from rfl, Int.bmod_def]
  omega
theorem more7 {a c : Nat} {S : Sx} (h : a < 2 ^ 31) (hc : c < 2 ^ 31) : b_X7_more_0 0 (nI a - nI c) S = nI (a - c) := by
  unfold b_X7_more_0 b_X7_more_10
  by_cases e : c ≤ a
  · rw [nI_subI e, if_pos (nI_pos' (by omega))]
  · rw [if_neg (nI_neg (by omega) hc), Nat.sub_eq_zero_of_le (by omega)]
    rfl
theorem i_div {a k : Nat} (h : a < 2 ^ 31) (hk : 0 < k) (hk2 : k < 2 ^ 31) : nI a / nI k = nI (a / k) := pk_div h hk hk2
/-- model: what has become of the row; class: of the ground -/
def MS (M M' : Sx) (U : Nat → Nat → Int32) : Prop := (∀ j, ¬ j = 6 → M' j = M j) ∧ dR (M' 6) = U
def CS (C C' : Sx) (b : Nat) (V : Nat → Nat → Int32) : Prop := (∀ j, (j < b ∨ b + 40 ≤ j) → C' j = C j) ∧ vw C' b = V
theorem MS.rf {M : Sx} : MS M M (dR (M 6)) := ⟨fun _ _ => rfl, rfl⟩
theorem CS.rf {C : Sx} {b : Nat} : CS C C b (vw C b) := ⟨fun _ _ => rfl, rfl⟩
theorem MS.tr {M M' M'' : Sx} {U U' : Nat → Nat → Int32} (h : MS M M' U) (h' : MS M' M'' U') : MS M M'' U' := ⟨fun j hj => (h'.1 j hj).trans (h.1 j hj), h'.2⟩
theorem CS.tr {C C' C'' : Sx} {b : Nat} {V V' : Nat → Nat → Int32} (h : CS C C' b V) (h' : CS C' C'' b V') : CS C C'' b V' := ⟨fun j hj => (h'.1 j hj).trans (h.1 j hj), h'.2⟩
theorem MS.up {M M' : Sx} {U : Nat → Nat → Int32} (h : MS M M' U) {i k : Nat} {v : Int32} (hr : rel i k = true) : MS M (up2 M' 6 (pos i k) v) (upV U i k v) := ⟨fun j hj => by rw [up2_ne hj]; exact h.1 j hj, by rw [dR_up hr, h.2]⟩
theorem CS.up {C C' : Sx} {b : Nat} {V : Nat → Nat → Int32} (h : CS C C' b V) {i k : Nat} {v : Int32} (hr : rel i k = true) (hb : isb i k = false ∨ bz v) : CS C (up2 C' (b + i) k v) b (upV V i k v) := ⟨fun j hj => by rw [up2_ne (by have := rel_lt hr; omega)]; exact h.1 j hj, by rw [vw_up hr hb, h.2]⟩
theorem CS.P {C C' : Sx} {b : Nat} {V : Nat → Nat → Int32} (h : CS C C' b V) {p f : Nat} {v : Int32} (hp : p < 4) (hf : f < 5) (h3 : ¬ f = 3 ∨ bz v) : CS C (up2 C' (b + 7 + p) f v) b (upV V (7 + p) f v) := by
  rw [Nat.add_assoc]
  refine h.up (rel_P hp hf) ?_
  rcases h3 with h3 | h3
  · exact Or.inl (isb_P hp h3)
  · exact Or.inr h3
theorem CS.H {C C' : Sx} {b : Nat} {V : Nat → Nat → Int32} (h : CS C C' b V) {p f : Nat} {v : Int32} (hp : p < 5) (hf : f < 6) (h3 : ¬ f = 1 ∨ bz v) : CS C (up2 C' (b + 11 + p) f v) b (upV V (11 + p) f v) := by
  rw [Nat.add_assoc]
  refine h.up (rel_H hp hf) ?_
  rcases h3 with h3 | h3
  · exact Or.inl (isb_H hp h3)
  · exact Or.inr h3
theorem CS.I {C C' : Sx} {b : Nat} {V : Nat → Nat → Int32} (h : CS C C' b V) {p f : Nat} {v : Int32} (hp : p < 12) (hf : f < 7) (h3 : ¬ f = 6 ∨ bz v) : CS C (up2 C' (b + 16 + p) f v) b (upV V (16 + p) f v) := by
  rw [Nat.add_assoc]
  refine h.up (rel_I hp hf) ?_
  rcases h3 with h3 | h3
  · exact Or.inl (isb_I hp h3)
  · exact Or.inr h3
theorem CS.O {C C' : Sx} {b : Nat} {V : Nat → Nat → Int32} (h : CS C C' b V) {p f : Nat} {v : Int32} (hp : p < 12) (hf : f < 7) : CS C (up2 C' (b + 16 + p + 12) f v) b (upV V (28 + p) f v) := by
  rw [show b + 16 + p + 12 = b + (28 + p) by omega]
  exact h.up (rel_O hp hf) (Or.inl (isb_O hp))
theorem upd_at {f : Nat → Int32} {k : Nat} {v : Int32} : upd f k v k = v := by simp [upd]
theorem upV_at {V : Nat → Nat → Int32} {i k : Nat} {v : Int32} : upV V i k v i k = v := by simp [upV]
theorem upV_ne {V : Nat → Nat → Int32} {i k a c : Nat} {v : Int32} (h : ¬ (a = i ∧ c = k)) : upV V i k v a c = V a c := by simp [upV, h]
section
variable {C M : Sx} {b N pc hc uc ic hr : Nat}
theorem P_of {C' : Sx} {V : Nat → Nat → Int32} (h : vw C' b = V) {p f : Nat} (hp : p < 4) (hf : f < 5) (h3 : ¬ f = 3) : C' (b + 7 + p) f = V (7 + p) f := by rw [← h]; exact vP hp hf h3
theorem H_of {C' : Sx} {V : Nat → Nat → Int32} (h : vw C' b = V) {p f : Nat} (hp : p < 5) (hf : f < 6) (h3 : ¬ f = 1) : C' (b + 11 + p) f = V (11 + p) f := by rw [← h]; exact vH hp hf h3
theorem H1_of {C' : Sx} {V : Nat → Nat → Int32} (h : vw C' b = V) {p : Nat} (hp : p < 5) : nb (C' (b + 11 + p) 1) = V (11 + p) 1 := by rw [← h]; exact vH1 hp
theorem I_of {C' : Sx} {V : Nat → Nat → Int32} (h : vw C' b = V) {p f : Nat} (hp : p < 12) (hf : f < 7) (h3 : ¬ f = 6) : C' (b + 16 + p) f = V (16 + p) f := by rw [← h]; exact vI hp hf h3
theorem O_of {C' : Sx} {V : Nat → Nat → Int32} (h : vw C' b = V) {p f : Nat} (hp : p < 12) (hf : f < 7) : C' (b + 16 + p + 12) f = V (28 + p) f := by rw [← h]; exact vO hp hf
theorem mP_of {M' : Sx} {U : Nat → Nat → Int32} (h : dR (M' 6) = U) {p f : Nat} (x : Int32) (hx : x = nI f) (hp : p < 4) (hf : f < 5) : b_X7_of_0 (nI p) x M' = U (7 + p) f := by rw [← h, hx]; exact ofP hp hf
theorem mH_of {M' : Sx} {U : Nat → Nat → Int32} (h : dR (M' 6) = U) {p f : Nat} (x : Int32) (hx : x = nI f) (hp : p < 5) (hf : f < 6) : b_X7_ofHorse_0 (nI p) x M' = U (11 + p) f := by rw [← h, hx]; exact ofH hp hf
theorem mI_of {M' : Sx} {U : Nat → Nat → Int32} (h : dR (M' 6) = U) {p f : Nat} (x : Int32) (hx : x = nI f) (hp : p < 12) (hf : f < 7) : b_X7_ofInnings_0 (nI p) x M' = U (16 + p) f := by rw [← h, hx]; exact ofI hp hf
theorem mO_of {M' : Sx} {U : Nat → Nat → Int32} (h : dR (M' 6) = U) {p f : Nat} (hp : p < 12) (hf : f < 7) : b_X7_ofInnings_0 (nI p) (nI (7 + f)) M' = U (28 + p) f := by rw [← h]; exact ofO hp hf
theorem MS.P {M' : Sx} {U : Nat → Nat → Int32} (h : MS M M' U) {p f : Nat} {v : Int32} (hp : p < 4) (hf : f < 5) : MS M (b_X7_lays_0 (nI p) (nI f) v M') (upV U (7 + p) f v) := by rw [laysP hp hf]; exact h.up (rel_P hp hf)
theorem MS.H {M' : Sx} {U : Nat → Nat → Int32} (h : MS M M' U) {p f : Nat} {v : Int32} (hp : p < 5) (hf : f < 6) : MS M (b_X7_laysHorse_0 (nI p) (nI f) v M') (upV U (11 + p) f v) := by rw [laysH hp hf]; exact h.up (rel_H hp hf)
theorem MS.I {M' : Sx} {U : Nat → Nat → Int32} (h : MS M M' U) {p f : Nat} {v : Int32} (hp : p < 12) (hf : f < 7) : MS M (b_X7_laysInnings_0 (nI p) (nI f) v M') (upV U (16 + p) f v) := by rw [laysI hp hf]; exact h.up (rel_I hp hf)
theorem MS.O {M' : Sx} {U : Nat → Nat → Int32} (h : MS M M' U) {p f : Nat} {v : Int32} (hp : p < 12) (hf : f < 7) : MS M (b_X7_laysInnings_0 (nI p) (nI (7 + f)) v M') (upV U (28 + p) f v) := by rw [laysO hp hf]; exact h.up (rel_O hp hf)
theorem oLP {M' : Sx} {p f : Nat} {v : Int32} (hp : p < 4) (hf : f < 5) : o_X7_lays_0 (nI p) (nI f) v M' := oP (M := M') hp hf
theorem oLH {M' : Sx} {p f : Nat} {v : Int32} (hp : p < 5) (hf : f < 6) : o_X7_laysHorse_0 (nI p) (nI f) v M' := oH (M := M') hp hf
theorem oLI {M' : Sx} {p f : Nat} {v : Int32} (hp : p < 12) (hf : f < 7) : o_X7_laysInnings_0 (nI p) (nI f) v M' := oI (M := M') hp hf
theorem oLO {M' : Sx} {p f : Nat} {v : Int32} (hp : p < 12) (hf : f < 7) : o_X7_laysInnings_0 (nI p) (nI (7 + f)) v M' := oO (M := M') hp hf
/-- class: a horse rolls for an hour -/
theorem c_roll {V : Nat → Nat → Int32} (hV : vw C b = V) {h p s w a r t d : Nat} (hh : h < 5) (hp : p < 4) (e0 : V (11 + h) 0 = nI s) (e2 : V (11 + h) 2 = nI t) (e3 : V (11 + h) 3 = nI d) (p0 : V (7 + p) 0 = nI w) (p1 : V (7 + p) 1 = nI a) (p2 : V (7 + p) 2 = nI r) (hs : s ≤ 9) (hw : w ≤ 99) (ha : a ≤ 99) (hr2 : r ≤ 99) (ht : t ≤ 20) (hd : 1 ≤ d ∧ d ≤ 6) : CS C (b_X1_rollForAnHour_0 (b + 11 + h) (b + 7 + p) C) b (setV (setV V (7 + p) (if V (11 + h) 1 = 0 then upd (upd (upd (V (7 + p)) 1 (nI (min (a + s) 99))) 0 (nI (w - s / 2))) 2 (nI (min (r + ((w - s / 2) / 10 + 1)) 99)) else upd (upd (V (7 + p)) 1 (nI (min (a + s) 99))) 0 (nI (w - s / 2)))) (11 + h) (upd (upd (upd (V (11 + h)) 2 (nI (min (t + 2) 20))) 3 (nI (d - 1))) 5 (V (11 + h) 5 + 1))) := by
  have S0 : CS C C b V := ⟨fun _ _ => rfl, hV⟩
  have x1 : b_X6_more_0 (C (b + 7 + p) 1) (C (b + 11 + h) 0) 99 C = nI (min (a + s) 99) := by
    rw [P_of hV hp (by decide) (by decide), H_of hV hh (by decide) (by decide), p1, e0]
    exact more6 (m := 99) (by omega) (by decide)
  unfold b_X1_rollForAnHour_0
  rw [x1]
  have S1 := S0.P (p := p) (f := 1) (v := nI (min (a + s) 99)) hp (by decide) (Or.inl (by decide))
  generalize up2 C (b + 7 + p) 1 (nI (min (a + s) 99)) = C1 at S1 ⊢
  have x2 : b_X6_less_0 (C1 (b + 7 + p) 0) (C1 (b + 11 + h) 0 / 2) C1 = nI (w - s / 2) := by
    rw [P_of S1.2 hp (by decide) (by decide), H_of S1.2 hh (by decide) (by decide), upV_ne (by omega), upV_ne (by omega), p0, e0, show (2 : Int32) = nI 2 from rfl, i_div (by omega) (by decide) (by decide)]
    exact less6 (by omega) (by omega)
  unfold b_X1_rollForAnHour_17
  rw [x2]
  have S2 := S1.P (p := p) (f := 0) (v := nI (w - s / 2)) hp (by decide) (Or.inl (by decide))
  generalize up2 C1 (b + 7 + p) 0 (nI (w - s / 2)) = C2 at S2 ⊢
  unfold b_X1_rollForAnHour_34
  have tail : ∀ (C3 : Sx) (g : Nat → Int32), CS C C3 b (setV V (7 + p) g) → CS C (b_X1_rollForAnHour_63 (b + 11 + h) C3) b (setV (setV V (7 + p) g) (11 + h) (upd (upd (upd (V (11 + h)) 2 (nI (min (t + 2) 20))) 3 (nI (d - 1))) 5 (V (11 + h) 5 + 1))) := by
    intro C3 g S3
    have y0 : setV V (7 + p) g (11 + h) = V (11 + h) := sv_ne (by omega)
    have x3 : b_X6_more_0 (C3 (b + 11 + h) 2) 2 20 C3 = nI (min (t + 2) 20) := by
      rw [H_of S3.2 hh (by decide) (by decide), y0, e2]
      exact more6 (c := 2) (m := 20) (by omega) (by decide)
    unfold b_X1_rollForAnHour_63
    rw [x3]
    have S4 := S3.H (p := h) (f := 2) (v := nI (min (t + 2) 20)) hh (by decide) (Or.inl (by decide))
    generalize up2 C3 (b + 11 + h) 2 (nI (min (t + 2) 20)) = C4 at S4 ⊢
    have x4 : C4 (b + 11 + h) 3 - 1 = nI (d - 1) := by
      rw [H_of S4.2 hh (by decide) (by decide), upV_ne (by omega), y0, e3, show (1 : Int32) = nI 1 from rfl, nI_subI hd.1]
    rw [x4]
    have S5 := S4.H (p := h) (f := 3) (v := nI (d - 1)) hh (by decide) (Or.inl (by decide))
    generalize up2 C4 (b + 11 + h) 3 (nI (d - 1)) = C5 at S5 ⊢
    unfold b_X1_rollForAnHour_87
    have x5 : C5 (b + 11 + h) 5 + 1 = V (11 + h) 5 + 1 := by
      rw [H_of S5.2 hh (by decide) (by decide), upV_ne (by omega), upV_ne (by omega), y0]
    rw [x5]
    have S6 := S5.H (p := h) (f := 5) (v := V (11 + h) 5 + 1) hh (by decide) (Or.inl (by decide))
    rw [upV_set, upV_set, upV_set, set_set, set_set, sv_at, sv_at, y0] at S6
    exact S6
  have z1 : nb (C2 (b + 11 + h) 1) = V (11 + h) 1 := by
    rw [H1_of S2.2 hh, upV_ne (by omega), upV_ne (by omega)]
  have S2' : CS C C2 b (setV V (7 + p) (upd (upd (V (7 + p)) 1 (nI (min (a + s) 99))) 0 (nI (w - s / 2)))) := by
    rw [upV_set, upV_set, set_set, sv_at] at S2
    exact S2
  rw [z1]
  by_cases hz : V (11 + h) 1 = 0
  · rw [if_pos hz, if_pos hz]
    have x6 : b_X6_more_0 (C2 (b + 7 + p) 2) (C2 (b + 7 + p) 0 / 10 + 1) 99 C2 = nI (min (r + ((w - s / 2) / 10 + 1)) 99) := by
      rw [P_of S2.2 hp (by decide) (by decide), P_of S2.2 hp (by decide) (by decide), upV_ne (by omega), upV_ne (by omega), upV_at, p2, show (10 : Int32) = nI 10 from rfl, i_div (by omega) (by decide) (by decide), show (1 : Int32) = nI 1 from rfl, nI_add]
      exact more6 (m := 99) (by omega) (by decide)
    rw [x6]
    refine tail _ _ ?_
    have S3 := S2'.P (p := p) (f := 2) (v := nI (min (r + ((w - s / 2) / 10 + 1)) 99)) hp (by decide) (Or.inl (by decide))
    rw [upV_set, set_set, sv_at] at S3
    exact S3
  · rw [if_neg hz, if_neg hz]
    exact tail _ _ S2'
/-- reference: the same -/
theorem m_roll {U : Nat → Nat → Int32} (hU : dR (M 6) = U) {h p s w a r t d : Nat} (hh : h < 5) (hp : p < 4) (e0 : U (11 + h) 0 = nI s) (e2 : U (11 + h) 2 = nI t) (e3 : U (11 + h) 3 = nI d) (e4 : U (11 + h) 4 = nI p) (p0 : U (7 + p) 0 = nI w) (p1 : U (7 + p) 1 = nI a) (p2 : U (7 + p) 2 = nI r) (hs : s ≤ 9) (hw : w ≤ 99) (ha : a ≤ 99) (hr2 : r ≤ 99) (ht : t ≤ 20) (hd : 1 ≤ d ∧ d ≤ 6) : o_X7_rolls_0 (nI h) M ∧ MS M (b_X7_rolls_0 (nI h) M) (setV (setV U (7 + p) (if U (11 + h) 1 = 0 then upd (upd (upd (U (7 + p)) 1 (nI (min (a + s) 99))) 0 (nI (w - s / 2))) 2 (nI (min (r + ((w - s / 2) / 10 + 1)) 99)) else upd (upd (U (7 + p)) 1 (nI (min (a + s) 99))) 0 (nI (w - s / 2)))) (11 + h) (if d - 1 = 0 then upd (upd (upd (upd (U (11 + h)) 2 (nI (min (t + 2) 20))) 3 (nI (d - 1))) 5 (U (11 + h) 5 + 1)) 4 (-1) else upd (upd (upd (U (11 + h)) 2 (nI (min (t + 2) 20))) 3 (nI (d - 1))) 5 (U (11 + h) 5 + 1))) := by
  have S0 : MS M M U := ⟨fun _ _ => rfl, hU⟩
  have q : ∀ f M', f < 6 → o_X7_ofHorse_0 (nI h) (nI f) M' := fun f M' hf => oH (M := M') hh hf
  have q' : ∀ f M', f < 5 → o_X7_of_0 (nI p) (nI f) M' := fun f M' hf => oP (M := M') hp hf
  have k4 : b_X7_ofHorse_0 (nI h) 4 M = nI p := (mH_of hU (f := 4) 4 rfl hh (by decide)).trans e4
  have k0 : b_X7_ofHorse_0 (nI h) 0 M = nI s := (mH_of hU (f := 0) 0 rfl hh (by decide)).trans e0
  have x1 : b_X7_less_0 99 (b_X7_of_0 (nI p) 1 M + nI s) M = nI (min (a + s) 99) := by
    rw [mP_of hU (f := 1) 1 rfl hp (by decide), p1, nI_add]
    exact less7 (a := 99) (by decide) (by omega)
  unfold b_X7_rolls_0 o_X7_rolls_0
  rw [k4, k0, x1]
  have S1 := S0.P (p := p) (f := 1) (v := nI (min (a + s) 99)) hp (by decide)
  have o1 : o_X7_lays_0 (nI p) 1 (nI (min (a + s) 99)) M := oLP (f := 1) hp (by decide)
  generalize hM1 : b_X7_lays_0 (nI p) (nI 1) (nI (min (a + s) 99)) M = M1 at S1
  rw [show b_X7_lays_0 (nI p) 1 (nI (min (a + s) 99)) M = M1 from hM1]
  have x2 : b_X7_more_0 0 (b_X7_of_0 (nI p) 0 M1 - nI s / 2) M1 = nI (w - s / 2) := by
    rw [mP_of S1.2 (f := 0) 0 rfl hp (by decide), upV_ne (by omega), p0, show (2 : Int32) = nI 2 from rfl, i_div (by omega) (by decide) (by decide)]
    exact more7 (by omega) (by omega)
  unfold b_X7_rolls_33 o_X7_rolls_33
  rw [x2]
  have S2 := S1.P (p := p) (f := 0) (v := nI (w - s / 2)) hp (by decide)
  have o2 : o_X7_lays_0 (nI p) 0 (nI (w - s / 2)) M1 := oLP (f := 0) hp (by decide)
  generalize hM2 : b_X7_lays_0 (nI p) (nI 0) (nI (w - s / 2)) M1 = M2 at S2
  rw [show b_X7_lays_0 (nI p) 0 (nI (w - s / 2)) M1 = M2 from hM2]
  have S2' : MS M M2 (setV U (7 + p) (upd (upd (U (7 + p)) 1 (nI (min (a + s) 99))) 0 (nI (w - s / 2)))) := by
    rw [upV_set, upV_set, set_set, sv_at] at S2
    exact S2
  have tail : ∀ (M3 : Sx) (g : Nat → Int32), MS M M3 (setV U (7 + p) g) → o_X7_rolls_91 (nI h) M3 ∧ MS M (b_X7_rolls_91 (nI h) M3) (setV (setV U (7 + p) g) (11 + h) (if d - 1 = 0 then upd (upd (upd (upd (U (11 + h)) 2 (nI (min (t + 2) 20))) 3 (nI (d - 1))) 5 (U (11 + h) 5 + 1)) 4 (-1) else upd (upd (upd (U (11 + h)) 2 (nI (min (t + 2) 20))) 3 (nI (d - 1))) 5 (U (11 + h) 5 + 1))) := by
    intro M3 g S3
    have y0 : setV U (7 + p) g (11 + h) = U (11 + h) := sv_ne (by omega)
    have x3 : b_X7_less_0 20 (b_X7_ofHorse_0 (nI h) 2 M3 + 2) M3 = nI (min (t + 2) 20) := by
      rw [mH_of S3.2 (f := 2) 2 rfl hh (by decide), y0, e2, show (2 : Int32) = nI 2 from rfl, nI_add]
      exact less7 (a := 20) (by decide) (by omega)
    unfold b_X7_rolls_91 o_X7_rolls_91
    rw [x3]
    have S4 := S3.H (p := h) (f := 2) (v := nI (min (t + 2) 20)) hh (by decide)
    have o4 : o_X7_laysHorse_0 (nI h) 2 (nI (min (t + 2) 20)) M3 := oLH (f := 2) hh (by decide)
    generalize hM4 : b_X7_laysHorse_0 (nI h) (nI 2) (nI (min (t + 2) 20)) M3 = M4 at S4
    rw [show b_X7_laysHorse_0 (nI h) 2 (nI (min (t + 2) 20)) M3 = M4 from hM4]
    have x4 : b_X7_ofHorse_0 (nI h) 3 M4 - 1 = nI (d - 1) := by
      rw [mH_of S4.2 (f := 3) 3 rfl hh (by decide), upV_ne (by omega), y0, e3, show (1 : Int32) = nI 1 from rfl, nI_subI hd.1]
    unfold b_X7_rolls_110 o_X7_rolls_110
    rw [x4]
    have S5 := S4.H (p := h) (f := 3) (v := nI (d - 1)) hh (by decide)
    have o5 : o_X7_laysHorse_0 (nI h) 3 (nI (d - 1)) M4 := oLH (f := 3) hh (by decide)
    generalize hM5 : b_X7_laysHorse_0 (nI h) (nI 3) (nI (d - 1)) M4 = M5 at S5
    rw [show b_X7_laysHorse_0 (nI h) 3 (nI (d - 1)) M4 = M5 from hM5]
    have x5 : b_X7_ofHorse_0 (nI h) 5 M5 + 1 = U (11 + h) 5 + 1 := by
      rw [mH_of S5.2 (f := 5) 5 rfl hh (by decide), upV_ne (by omega), upV_ne (by omega), y0]
    unfold b_X7_rolls_124 o_X7_rolls_124
    rw [x5]
    have S6 := S5.H (p := h) (f := 5) (v := U (11 + h) 5 + 1) hh (by decide)
    have o6 : o_X7_laysHorse_0 (nI h) 5 (U (11 + h) 5 + 1) M5 := oLH (f := 5) hh (by decide)
    generalize hM6 : b_X7_laysHorse_0 (nI h) (nI 5) (U (11 + h) 5 + 1) M5 = M6 at S6
    rw [show b_X7_laysHorse_0 (nI h) 5 (U (11 + h) 5 + 1) M5 = M6 from hM6]
    have x6 : b_X7_ofHorse_0 (nI h) 3 M6 = nI (d - 1) := by
      rw [mH_of S6.2 (f := 3) 3 rfl hh (by decide), upV_ne (by omega), upV_at]
    unfold b_X7_rolls_138 o_X7_rolls_138 b_X7_rolls_154
    rw [x6]
    rw [upV_set, upV_set, upV_set, set_set, set_set, sv_at, sv_at, y0] at S6
    have o7 : o_X7_laysHorse_0 (nI h) 4 (-1) M6 := oLH (f := 4) hh (by decide)
    refine ⟨⟨q 2 M3 (by decide), o4, q 3 M4 (by decide), o5, q 5 M5 (by decide), o6, q 3 M6 (by decide), fun _ => ⟨o7, trivial⟩, fun _ => trivial⟩, ?_⟩
    by_cases hz : d - 1 = 0
    · rw [if_pos hz, if_pos (show nI (d - 1) = 0 by rw [hz]; rfl)]
      have S7 := S6.H (p := h) (f := 4) (v := -1) hh (by decide)
      rw [upV_set, set_set, sv_at] at S7
      exact S7
    · rw [if_neg hz, if_neg (nI_ne0 (by omega) (by omega))]
      exact S6
  have z1 : b_X7_ofHorse_0 (nI h) 1 M2 = U (11 + h) 1 := by
    rw [mH_of S2.2 (f := 1) 1 rfl hh (by decide), upV_ne (by omega), upV_ne (by omega)]
  unfold b_X7_rolls_53 o_X7_rolls_53
  rw [z1]
  by_cases hz : U (11 + h) 1 = 0
  · rw [if_pos hz, if_pos hz]
    have x6 : b_X7_less_0 99 (b_X7_of_0 (nI p) 2 M2 + b_X7_of_0 (nI p) 0 M2 / 10 + 1) M2 = nI (min (r + ((w - s / 2) / 10 + 1)) 99) := by
      rw [mP_of S2.2 (f := 2) 2 rfl hp (by decide), mP_of S2.2 (f := 0) 0 rfl hp (by decide), upV_ne (by omega), upV_ne (by omega), upV_at, p2, show (10 : Int32) = nI 10 from rfl, i_div (by omega) (by decide) (by decide), show (1 : Int32) = nI 1 from rfl, nI_add, nI_add]
      exact less7 (a := 99) (by decide) (by omega)
    rw [x6]
    have S3 := S2'.P (p := p) (f := 2) (v := nI (min (r + ((w - s / 2) / 10 + 1)) 99)) hp (by decide)
    rw [upV_set, set_set, sv_at] at S3
    have T := tail _ _ S3
    have o8 : o_X7_lays_0 (nI p) 2 (nI (min (r + ((w - s / 2) / 10 + 1)) 99)) M2 := oLP (f := 2) hp (by decide)
    exact ⟨⟨q 4 M (by decide), q 0 M (by decide), q' 1 M (by decide), o1, q' 0 M1 (by decide), o2, q 1 M2 (by decide), fun _ => ⟨q' 2 M2 (by decide), q' 0 M2 (by decide), o8, T.1⟩, fun e => absurd hz e⟩, T.2⟩
  · rw [if_neg hz, if_neg hz]
    have T := tail _ _ S2'
    exact ⟨⟨q 4 M (by decide), q 0 M (by decide), q' 1 M (by decide), o1, q' 0 M1 (by decide), o2, q 1 M2 (by decide), fun e => absurd e hz, fun _ => T.1⟩, T.2⟩
end

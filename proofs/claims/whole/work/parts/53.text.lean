/-! TEXTS: an order is read on both sides alike -/
section
variable {C M : Sx} {L a t : Nat}
theorem up2_up2 {S : Sx} {j k : Nat} {v w : Int32} : up2 (up2 S j k v) j k w = up2 S j k w := by
  funext x y
  by_cases h1 : x = j
  · by_cases h2 : y = k <;> simp [up2, h1, h2]
  · simp [up2, h1]
theorem up2_comm {S : Sx} {j k i m : Nat} {v w : Int32} (h : ¬ j = i) : up2 (up2 S j k v) i m w = up2 (up2 S i m w) j k v := by
  funext x y
  by_cases h1 : x = j
  · subst h1
    simp [up2, h]
  · by_cases h2 : x = i
    · subst h2
      simp [up2, h1]
    · simp [up2, h1, h2]
def PS (C M : Sx) (L a : Nat) : Prop := C 3 1 = nI L ∧ M 5 13 = nI L ∧ C 3 4 = nI a ∧ M 5 15 = nI a ∧ a ≤ L ∧ L ≤ 60 ∧ ∀ k, k < L → C 4 k = M 11 k
theorem PS.c (P : PS C M L a) {k : Nat} {v : Int32} (h1 : ¬ k = 1) (h4 : ¬ k = 4) : PS (up2 C 3 k v) M L a := by
  obtain ⟨p1, p2, p3, p4, p5, p6, p7⟩ := P
  have q1 : ¬ 1 = k := fun e => h1 e.symm
  have q4 : ¬ 4 = k := fun e => h4 e.symm
  exact ⟨by simpa [up2, q1] using p1, p2, by simpa [up2, q4] using p3, p4, p5, p6, fun k hk => by simpa [up2] using p7 k hk⟩
theorem PS.m (P : PS C M L a) {p : Nat} {v : Int32} : PS C (up2 M 12 p v) L a := by
  obtain ⟨p1, p2, p3, p4, p5, p6, p7⟩ := P
  exact ⟨p1, by simpa [up2] using p2, p3, by simpa [up2] using p4, p5, p6, fun k hk => by simpa [up2] using p7 k hk⟩
theorem PS.at (P : PS C M L a) {b : Nat} (h : b ≤ L) : PS (up2 C 3 4 (nI b)) (up2 M 5 15 (nI b)) L b := by
  obtain ⟨p1, p2, p3, p4, p5, p6, p7⟩ := P
  exact ⟨by simpa [up2] using p1, by simpa [up2] using p2, by simp [up2], by simp [up2], h, p6, fun k hk => by simpa [up2] using p7 k hk⟩
theorem PS.mk5 (P : PS C M L a) {k : Nat} {v : Int32} (h1 : ¬ k = 13) (h4 : ¬ k = 15) : PS C (up2 M 5 k v) L a := by
  obtain ⟨p1, p2, p3, p4, p5, p6, p7⟩ := P
  have q1 : ¬ 13 = k := fun e => h1 e.symm
  have q4 : ¬ 15 = k := fun e => h4 e.symm
  exact ⟨p1, by simpa [up2, q1] using p2, p3, by simpa [up2, q4] using p4, p5, p6, fun k hk => by simpa [up2] using p7 k hk⟩
theorem ps_sign (P : PS C M L a) : o_X3_signAhead_0 C ∧ o_X7_here_0 M ∧ b_X3_signAhead_0 C = b_X7_here_0 M ∧ ((a = L ∧ b_X7_here_0 M = -1) ∨ a < L) := by
  obtain ⟨p1, p2, p3, p4, p5, p6, p7⟩ := P
  unfold o_X3_signAhead_0 o_X7_here_0 b_X3_signAhead_0 b_X7_here_0 b_X3_signAhead_24 b_X7_here_24
  rw [p1, p2, p3, p4]
  by_cases h : L ≤ a
  · have h1 : nI L ≤ nI a := nI_le h (by omega)
    rw [if_pos h1, if_pos h1]
    exact ⟨⟨fun _ => trivial, fun e => absurd h1 e⟩, ⟨fun _ => trivial, fun e => absurd h1 e⟩, rfl, Or.inl ⟨by omega, rfl⟩⟩
  · have h1 : ¬ nI L ≤ nI a := nI_ge (by omega) (by omega)
    have i60 : vp_in (nI a) 60 := vp_in_nI (by omega) (by decide)
    rw [if_neg h1, if_neg h1, nI_clamp (by omega), p7 a (by omega)]
    exact ⟨⟨fun e => absurd e h1, fun _ => ⟨i60, trivial⟩⟩, ⟨fun e => absurd e h1, fun _ => ⟨i60, trivial⟩⟩, rfl, Or.inr (by omega)⟩
theorem ps_at (P : PS C M L a) : C 3 4 + 1 = nI (a + 1) ∧ M 5 15 + 1 = nI (a + 1) := by
  rw [P.2.2.1, P.2.2.2.1]
  exact ⟨nI_1 a, nI_1 a⟩
theorem ps_skip (P : PS C M L a) {x : Int32} (hx : ¬ x = -1) : o_X3_skip_0 x C ∧ o_X7_skips_0 x M ∧ ((b_X7_here_0 M = x ∧ a < L ∧ b_X3_skip_0 x C = (1, up2 C 3 4 (nI (a + 1))) ∧ b_X7_skips_0 x M = (1, up2 M 5 15 (nI (a + 1)))) ∨ (¬ b_X7_here_0 M = x ∧ b_X3_skip_0 x C = (0, C) ∧ b_X7_skips_0 x M = (0, M))) := by
  obtain ⟨s1, s2, s3, s4⟩ := ps_sign P
  obtain ⟨t1, t2⟩ := ps_at P
  unfold o_X3_skip_0 o_X7_skips_0 b_X3_skip_0 b_X7_skips_0
  rw [s3, t1, t2]
  refine ⟨⟨s1, trivial⟩, ⟨s2, trivial⟩, ?_⟩
  by_cases h : b_X7_here_0 M = x
  · rw [if_pos h, if_pos h]
    refine Or.inl ⟨h, ?_, rfl, rfl⟩
    rcases s4 with ⟨-, q⟩ | q
    · exact absurd (h.symm.trans q) hx
    · exact q
  · rw [if_neg h, if_neg h]
    exact Or.inr ⟨h, rfl, rfl⟩
theorem ps_dig (P : PS C M L a) : o_X3_findDigit_0 C ∧ ((b_X3_findDigit_0 C = (-1, C) ∧ b_X7_in_0 (b_X7_here_0 M) 48 57 M = 0) ∨ ∃ d, d ≤ 9 ∧ a < L ∧ b_X7_here_0 M = nI (48 + d) ∧ b_X3_findDigit_0 C = (nI d, up2 C 3 4 (nI (a + 1))) ∧ b_X7_in_0 (b_X7_here_0 M) 48 57 M = 1) := by
  obtain ⟨s1, s2, s3, s4⟩ := ps_sign P
  obtain ⟨t1, t2⟩ := ps_at P
  refine ⟨⟨s1, trivial⟩, ?_⟩
  unfold b_X3_findDigit_0 b_X3_findDigit_17
  rw [s3, t1]
  unfold b_X7_in_0 b_X7_in_14 b_X7_in_15
  by_cases h1 : b_X7_here_0 M < 48
  · rw [if_pos h1, if_pos h1]
    exact Or.inl ⟨rfl, rfl⟩
  · rw [if_neg h1, if_neg h1]
    by_cases h2 : 57 < b_X7_here_0 M
    · rw [if_pos h2, if_neg (Int32.not_le.mpr h2)]
      exact Or.inl ⟨rfl, rfl⟩
    · rw [if_neg h2, if_pos (Int32.not_lt.mp h2)]
      obtain ⟨j, j1, j2, e⟩ := rng_in (x := b_X7_here_0 M) (a := 48) (c := 57) (by decide) (by decide) h1 h2
      refine Or.inr ⟨j - 48, by omega, ?_, by rw [e, show 48 + (j - 48) = j by omega], ?_, rfl⟩
      · rcases s4 with ⟨-, q⟩ | q
        · exact absurd (e.symm.trans q) (nI_m1 (by omega))
        · exact q
      · rw [e, show (48 : Int32) = nI 48 from rfl, nI_subI j1]
theorem n25_stop {n : Nat} {v1 v2 v3 : Int32} {S : Sx} (h : v2 ≤ v3) : b_X7_number_25 (n + 1) v1 v2 v3 S = (1, S) ∧ o_X7_number_25 (n + 1) v1 v2 v3 S := by
  rw [b_X7_number_25, o_X7_number_25, if_pos h]
  exact ⟨rfl, fun _ => trivial, fun e => absurd h e⟩
theorem n25_non {n : Nat} {v1 v2 v3 : Int32} {S : Sx} (h : ¬ v2 ≤ v3) (hi : b_X7_in_0 (b_X7_here_0 S) 48 57 S = 0) (oh : o_X7_here_0 S) : b_X7_number_25 (n + 1) v1 v2 v3 S = (1, S) ∧ o_X7_number_25 (n + 1) v1 v2 v3 S := by
  rw [b_X7_number_25, o_X7_number_25, if_neg h, if_pos hi]
  exact ⟨rfl, fun e => absurd e h, fun _ => ⟨oh, o_in, fun _ => trivial, fun e => absurd hi e⟩⟩
theorem n25_go {n : Nat} {v1 v2 v3 : Int32} {S : Sx} (h : ¬ v2 ≤ v3) (hi : b_X7_in_0 (b_X7_here_0 S) 48 57 S = 1) (oh : o_X7_here_0 S) (hv : vp_in v1 124) {S' : Sx} (hS : S' = up2 (up2 S 12 v1.toNatClampNeg (((10 * (S 12 v1.toNatClampNeg)) + (b_X7_here_0 S)) - 48)) 5 15 ((S 5 15) + 1)) : b_X7_number_25 (n + 1) v1 v2 v3 S = b_X7_number_25 n v1 v2 (v3 + 1) S' ∧ (o_X7_number_25 n v1 v2 (v3 + 1) S' → o_X7_number_25 (n + 1) v1 v2 v3 S) := by
  have hi0 : ¬ b_X7_in_0 (b_X7_here_0 S) 48 57 S = 0 := by rw [hi]; decide
  have e5 : ∀ v, up2 S 12 v1.toNatClampNeg v 5 15 = S 5 15 := fun v => by rw [up2_ne (by decide)]
  subst hS
  rw [b_X7_number_25, o_X7_number_25, if_neg h, if_neg hi0]
  unfold b_X7_number_67 o_X7_number_67
  rw [e5]
  exact ⟨rfl, fun o => ⟨fun e => absurd e h, fun _ => ⟨oh, o_in, fun e => absurd e hi0, fun _ => ⟨hv, oh, hv, o⟩⟩⟩⟩
theorem ps_num1 (P : PS C M L a) {p : Nat} (hp : p < 124) : o_X3_findDigit_0 C ∧ o_X7_number_0 (nI p) 1 M ∧ ((b_X3_findDigit_0 C = (-1, C) ∧ b_X7_number_0 (nI p) 1 M = (0, M)) ∨ ∃ d, d ≤ 9 ∧ a < L ∧ b_X3_findDigit_0 C = (nI d, up2 C 3 4 (nI (a + 1))) ∧ b_X7_number_0 (nI p) 1 M = (1, up2 (up2 M 12 p (nI d)) 5 15 (nI (a + 1)))) := by
  obtain ⟨s1, s2, s3, s4⟩ := ps_sign P
  obtain ⟨o1, o2⟩ := ps_dig P
  obtain ⟨-, t2⟩ := ps_at P
  have ep := nI_clamp (n := p) (by omega)
  have ip : vp_in (nI p) 124 := vp_in_nI hp (by decide)
  refine ⟨o1, ?_⟩
  unfold o_X7_number_0 b_X7_number_0
  rcases o2 with ⟨d1, d2⟩ | ⟨d, hd, hL, d0, d1, d2⟩
  · rw [if_pos d2]
    exact ⟨⟨s2, o_in, fun _ => trivial, fun e => absurd d2 e⟩, Or.inl ⟨d1, rfl⟩⟩
  · have d3 : ¬ b_X7_in_0 (b_X7_here_0 M) 48 57 M = 0 := by rw [d2]; decide
    have P1 := P.m (p := p) (v := 0)
    obtain ⟨-, r2, -, -⟩ := ps_sign P1
    have h1 : b_X7_here_0 (up2 M 12 p 0) = b_X7_here_0 M := by
      rw [← (ps_sign P1).2.2.1, (ps_sign P).2.2.1]
    have v0 : ((10 : Int32) * up2 M 12 p 0 12 p + b_X7_here_0 (up2 M 12 p 0)) - 48 = nI d := by
      have e : up2 M 12 p 0 12 p = 0 := by simp [up2]
      rw [e, h1, d0, show (10 : Int32) * 0 = 0 from rfl, Int32.zero_add, show (48 : Int32) = nI 48 from rfl, nI_subI (by omega), show 48 + d - 48 = d by omega]
    have e5 : up2 M 12 p 0 5 15 + 1 = nI (a + 1) := by rw [up2_ne (by decide)]; exact t2
    have G := n25_go (n := 99) (v1 := nI p) (v2 := 1) (v3 := 0) (S := up2 M 12 p 0) (by decide) (by rw [h1]; exact d2) r2 ip (S' := up2 (up2 M 12 p (nI d)) 5 15 (nI (a + 1))) (by rw [ep, v0, e5, up2_up2])
    have H := n25_stop (n := 98) (v1 := nI p) (v2 := 1) (v3 := 0 + 1) (S := up2 (up2 M 12 p (nI d)) 5 15 (nI (a + 1))) (by decide)
    rw [if_neg d3, ep]
    refine ⟨⟨s2, o_in, fun e => absurd e d3, fun _ => ⟨ip, G.2 H.2⟩⟩, Or.inr ⟨d, hd, hL, d1, ?_⟩⟩
    exact G.1.trans H.1
theorem ten {d h : Nat} (hd : d ≤ 9) (hh : h ≤ 9) : ((10 : Int32) * nI d + nI (48 + h)) - 48 = nI (d * 10 + h) := by
  rw [show (10 : Int32) = nI 10 from rfl, nI_mul, nI_add, show (48 : Int32) = nI 48 from rfl, nI_subI (by omega)]
  congr 1
  omega
theorem ps_num2 (P : PS C M L a) {p : Nat} (hp : p < 124) : o_X3_findNumber_0 C ∧ o_X7_number_0 (nI p) 2 M ∧ ((b_X3_findNumber_0 C = (-1, C) ∧ b_X7_number_0 (nI p) 2 M = (0, M)) ∨ ∃ d a', d ≤ 99 ∧ a < a' ∧ a' ≤ L ∧ b_X3_findNumber_0 C = (nI d, up2 C 3 4 (nI a')) ∧ b_X7_number_0 (nI p) 2 M = (1, up2 (up2 M 12 p (nI d)) 5 15 (nI a'))) := by
  obtain ⟨s1, s2, s3, s4⟩ := ps_sign P
  obtain ⟨o1, o2⟩ := ps_dig P
  obtain ⟨-, t2⟩ := ps_at P
  have ep := nI_clamp (n := p) (by omega)
  have ip : vp_in (nI p) 124 := vp_in_nI hp (by decide)
  unfold o_X7_number_0 b_X7_number_0 o_X3_findNumber_0 b_X3_findNumber_0 b_X3_findNumber_16 b_X3_findNumber_32
  rcases o2 with ⟨d1, d2⟩ | ⟨d, hd, hL, d0, d1, d2⟩
  · rw [if_pos d2, d1]
    exact ⟨⟨o1, fun _ => trivial, fun e => absurd rfl e⟩, ⟨s2, o_in, fun _ => trivial, fun e => absurd d2 e⟩, Or.inl ⟨rfl, rfl⟩⟩
  · have d3 : ¬ b_X7_in_0 (b_X7_here_0 M) 48 57 M = 0 := by rw [d2]; decide
    have dm : ¬ nI d = -1 := nI_m1 (by omega)
    have P1 := P.m (p := p) (v := 0)
    obtain ⟨-, r2, -, -⟩ := ps_sign P1
    have h1 : b_X7_here_0 (up2 M 12 p 0) = b_X7_here_0 M := by
      rw [← (ps_sign P1).2.2.1, (ps_sign P).2.2.1]
    have v0 : ((10 : Int32) * up2 M 12 p 0 12 p + b_X7_here_0 (up2 M 12 p 0)) - 48 = nI d := by
      have e : up2 M 12 p 0 12 p = 0 := by simp [up2]
      rw [e, h1, d0, show (10 : Int32) * 0 = 0 from rfl, Int32.zero_add, show (48 : Int32) = nI 48 from rfl, nI_subI (by omega), show 48 + d - 48 = d by omega]
    have e5 : up2 M 12 p 0 5 15 + 1 = nI (a + 1) := by rw [up2_ne (by decide)]; exact t2
    have G := n25_go (n := 99) (v1 := nI p) (v2 := 2) (v3 := 0) (S := up2 M 12 p 0) (by decide) (by rw [h1]; exact d2) r2 ip (S' := up2 (up2 M 12 p (nI d)) 5 15 (nI (a + 1))) (by rw [ep, v0, e5, up2_up2])
    have P2 : PS (up2 C 3 4 (nI (a + 1))) (up2 (up2 M 12 p (nI d)) 5 15 (nI (a + 1))) L (a + 1) := (P.m (p := p) (v := nI d)).at (by omega)
    obtain ⟨w1, w2, w3, w4⟩ := ps_sign P2
    obtain ⟨x1, x2⟩ := ps_dig P2
    rw [d1, if_neg d3, ep]
    dsimp only
    rcases x2 with ⟨y1, y2⟩ | ⟨h, hh, yL, y0, y1, y2⟩
    · have H := n25_non (n := 98) (v1 := nI p) (v2 := 2) (v3 := 0 + 1) (S := up2 (up2 M 12 p (nI d)) 5 15 (nI (a + 1))) (by decide) y2 w2
      rw [if_neg dm, y1]
      dsimp only
      rw [if_pos rfl]
      exact ⟨⟨o1, fun e => absurd e dm, fun _ => ⟨x1, trivial⟩⟩, ⟨s2, o_in, fun e => absurd e d3, fun _ => ⟨ip, G.2 H.2⟩⟩, Or.inr ⟨d, a + 1, by omega, by omega, by omega, rfl, G.1.trans H.1⟩⟩
    · have hm : ¬ nI h = -1 := nI_m1 (by omega)
      have v1 : ((10 : Int32) * up2 (up2 M 12 p (nI d)) 5 15 (nI (a + 1)) 12 p + b_X7_here_0 (up2 (up2 M 12 p (nI d)) 5 15 (nI (a + 1)))) - 48 = nI (d * 10 + h) := by
        have e : up2 (up2 M 12 p (nI d)) 5 15 (nI (a + 1)) 12 p = nI d := by simp [up2]
        rw [e, y0]
        exact ten hd hh
      have e6 : up2 (up2 M 12 p (nI d)) 5 15 (nI (a + 1)) 5 15 + 1 = nI (a + 1 + 1) := (ps_at P2).2
      have G2 := n25_go (n := 98) (v1 := nI p) (v2 := 2) (v3 := 0 + 1) (S := up2 (up2 M 12 p (nI d)) 5 15 (nI (a + 1))) (by decide) y2 w2 ip (S' := up2 (up2 M 12 p (nI (d * 10 + h))) 5 15 (nI (a + 1 + 1))) (by
        rw [ep, v1, e6, up2_comm (S := up2 M 12 p (nI d)) (j := 5) (i := 12) (by decide), up2_up2, up2_up2])
      have H := n25_stop (n := 97) (v1 := nI p) (v2 := 2) (v3 := 0 + 1 + 1) (S := up2 (up2 M 12 p (nI (d * 10 + h))) 5 15 (nI (a + 1 + 1))) (by decide)
      rw [if_neg dm, y1]
      dsimp only
      rw [if_neg hm, up2_up2]
      have ev : nI d * 10 + nI h = nI (d * 10 + h) := by
        rw [show (10 : Int32) = nI 10 from rfl, nI_mul, nI_add]
      rw [ev]
      exact ⟨⟨o1, fun e => absurd e dm, fun _ => ⟨x1, trivial⟩⟩, ⟨s2, o_in, fun e => absurd e d3, fun _ => ⟨ip, G.2 (G2.2 H.2)⟩⟩, Or.inr ⟨d * 10 + h, a + 1 + 1, by omega, by omega, by omega, rfl, G.1.trans (G2.1.trans H.1)⟩⟩
/-- what reading an order leaves as it was -/
def FR (C C' : Sx) : Prop := (∀ j, ¬ j = 3 → C' j = C j) ∧ ∀ k, k < 4 → C' 3 k = C 3 k
def GT (t : Nat) (M M' : Sx) : Prop := (∀ j, ¬ j = 5 → ¬ j = 12 → M' j = M j) ∧ (∀ k, ¬ k = 15 → M' 5 k = M 5 k) ∧ ∀ k, k < 4 * t → M' 12 k = M 12 k
theorem FR.rf : FR C C := ⟨fun _ _ => rfl, fun _ _ => rfl⟩
theorem GT.rf : GT t M M := ⟨fun _ _ _ => rfl, fun _ _ => rfl, fun _ _ => rfl⟩
theorem FR.u {C' : Sx} (h : FR C C') {k : Nat} {v : Int32} (hk : 4 ≤ k) : FR C (up2 C' 3 k v) := ⟨fun j hj => by rw [up2_ne hj]; exact h.1 j hj, fun i hi => by rw [← h.2 i hi]; simp [up2, show ¬ i = k by omega]⟩
theorem GT.u {M' : Sx} (h : GT t M M') {k : Nat} {v : Int32} (hk : 4 * t ≤ k) : GT t M (up2 M' 12 k v) := ⟨fun j h5 h12 => by rw [up2_ne h12]; exact h.1 j h5 h12, fun k hk => by rw [up2_ne (by decide)]; exact h.2.1 k hk, fun i hi => by rw [← h.2.2 i hi]; simp [up2, show ¬ i = k by omega]⟩
theorem GT.v {M' : Sx} (h : GT t M M') {v : Int32} : GT t M (up2 M' 5 15 v) := ⟨fun j h5 h12 => by rw [up2_ne h5]; exact h.1 j h5 h12, fun k hk => by rw [← h.2.1 k hk]; simp [up2, hk], fun i hi => by rw [up2_ne (by decide)]; exact h.2.2 i hi⟩
/-- the end of reading an order -/
def PO (L a t : Nat) (C M : Sx) (c m : Int32 × Sx) : Prop := ∃ a', PS c.2 m.2 L a' ∧ FR C c.2 ∧ GT t M m.2 ∧ ((c.1 = 0 ∧ m.1 = 0 ∧ a ≤ a') ∨ (c.1 = 1 ∧ m.1 = 1 ∧ a + 1 < a' ∧ c.2 3 5 = m.2 12 (4 * t) ∧ c.2 3 6 = m.2 12 (4 * t + 1) ∧ ((c.2 3 5 = 99 ∨ c.2 3 5 = 117 ∨ c.2 3 5 = 101 ∨ c.2 3 5 = 104) ∨ (c.2 3 5 = 98 ∧ c.2 3 7 = m.2 12 (4 * t + 2)) ∨ (c.2 3 5 = 114 ∧ c.2 3 7 = m.2 12 (4 * t + 2) ∧ c.2 3 8 = m.2 12 (4 * t + 3)))))
theorem m1m : ¬ (58 : Int32) = -1 := by decide
/-- "r", a horse, ":" a pitch and "+" a digit -/
theorem A_roll (ht : t ≤ 25) {C0 M0 : Sx} (P : PS C M L a) (hF : FR C0 C) (hG : GT t M0 M) {a0 : Nat} (ha : a0 < a) (h5 : C 3 5 = 114) (h12 : M 12 (4 * t) = 114) : o_X3_findRollNumbers_0 C ∧ o_X7_number_0 (nI (4 * t + 1)) 1 M ∧ o_X7_orderHere_34 (nI (4 * t)) (b_X7_number_0 (nI (4 * t + 1)) 1 M).1 (b_X7_number_0 (nI (4 * t + 1)) 1 M).2 ∧ PO L a0 t C0 M0 (b_X3_findRollNumbers_0 C) (b_X7_orderHere_34 (nI (4 * t)) (b_X7_number_0 (nI (4 * t + 1)) 1 M).1 (b_X7_number_0 (nI (4 * t + 1)) 1 M).2) := by
  obtain ⟨o1, o2, o3⟩ := ps_num1 P (p := 4 * t + 1) (by omega)
  have z1 : bz 1 := bz_1
  have z0 : bz 0 := bz_0
  have e2 : nI (4 * t) + 2 = nI (4 * t + 2) := nI_add _ 2
  have e3 : nI (4 * t) + 3 = nI (4 * t + 3) := nI_add _ 3
  unfold o_X3_findRollNumbers_0 b_X3_findRollNumbers_0 o_X3_findRollNumbers_8 b_X3_findRollNumbers_8 o_X7_orderHere_34 b_X7_orderHere_34
  rw [e2]
  rcases o3 with ⟨b1, b2⟩ | ⟨d, hd, hL, b1, b2⟩
  · rw [b1, b2]
    refine ⟨⟨o1, by simp [up2], by simp [up2]⟩, o2, by simp [o_X7_orderHere_81, o_X7_orderHere_82, z0], ?_⟩
    have q : up2 C 3 6 (-1) 3 6 = -1 := by simp [up2]
    dsimp only
    rw [if_pos q, if_pos rfl]
    exact ⟨a, P.c (by decide) (by decide), hF.u (by decide), hG, Or.inl ⟨rfl, rfl, by omega⟩⟩
  · rw [b1, b2]
    dsimp only
    have dm : ¬ nI d = -1 := nI_m1 (by omega)
    have q : ¬ up2 (up2 C 3 4 (nI (a + 1))) 3 6 (nI d) 3 6 = -1 := by simpa [up2] using dm
    rw [if_neg q, if_neg z10]
    have P2 : PS (up2 (up2 C 3 4 (nI (a + 1))) 3 6 (nI d)) (up2 (up2 M 12 (4 * t + 1) (nI d)) 5 15 (nI (a + 1))) L (a + 1) := ((P.m).at (by omega)).c (by decide) (by decide)
    have F2 : FR C0 (up2 (up2 C 3 4 (nI (a + 1))) 3 6 (nI d)) := (hF.u (by decide)).u (by decide)
    have G2 : GT t M0 (up2 (up2 M 12 (4 * t + 1) (nI d)) 5 15 (nI (a + 1))) := (hG.u (by omega)).v
    have k5 : up2 (up2 C 3 4 (nI (a + 1))) 3 6 (nI d) 3 5 = 114 := by simpa [up2] using h5
    have k6 : up2 (up2 C 3 4 (nI (a + 1))) 3 6 (nI d) 3 6 = nI d := by simp [up2]
    have l0 : up2 (up2 M 12 (4 * t + 1) (nI d)) 5 15 (nI (a + 1)) 12 (4 * t) = 114 := by simpa [up2] using h12
    have l1 : up2 (up2 M 12 (4 * t + 1) (nI d)) 5 15 (nI (a + 1)) 12 (4 * t + 1) = nI d := by simp [up2]
    generalize up2 (up2 C 3 4 (nI (a + 1))) 3 6 (nI d) = C2 at *
    generalize up2 (up2 M 12 (4 * t + 1) (nI d)) 5 15 (nI (a + 1)) = M2 at *
    obtain ⟨s1, s2, s3⟩ := ps_skip P2 (x := 58) (by decide)
    rcases s3 with ⟨-, hL2, c1, c2⟩ | ⟨-, c1, c2⟩
    · rw [c1, c2]
      dsimp only
      rw [if_neg z10, if_neg z10]
      have P3 : PS (up2 C2 3 4 (nI (a + 1 + 1))) (up2 M2 5 15 (nI (a + 1 + 1))) L (a + 1 + 1) := P2.at (by omega)
      have F3 : FR C0 (up2 C2 3 4 (nI (a + 1 + 1))) := F2.u (by decide)
      have G3 : GT t M0 (up2 M2 5 15 (nI (a + 1 + 1))) := G2.v
      have k5 : up2 C2 3 4 (nI (a + 1 + 1)) 3 5 = 114 := by simpa [up2] using k5
      have k6 : up2 C2 3 4 (nI (a + 1 + 1)) 3 6 = nI d := by simpa [up2] using k6
      have l0 : up2 M2 5 15 (nI (a + 1 + 1)) 12 (4 * t) = 114 := by simpa [up2] using l0
      have l1 : up2 M2 5 15 (nI (a + 1 + 1)) 12 (4 * t + 1) = nI d := by simpa [up2] using l1
      generalize up2 C2 3 4 (nI (a + 1 + 1)) = C3 at *
      generalize up2 M2 5 15 (nI (a + 1 + 1)) = M3 at *
      obtain ⟨p1, p2, p3⟩ := ps_num1 P3 (p := 4 * t + 2) (by omega)
      unfold o_X3_findRollNumbers_32 b_X3_findRollNumbers_32 o_X7_orderHere_54 b_X7_orderHere_54
      rw [e3]
      rcases p3 with ⟨b1, b2⟩ | ⟨d', hd', hL', b1, b2⟩
      · rw [b1, b2]
        dsimp only
        have q : up2 C3 3 7 (-1) 3 7 = -1 := by simp [up2]
        rw [if_pos q, if_pos rfl]
        refine ⟨⟨o1, fun e => absurd e ‹_›, fun _ => ⟨s1, fun e => absurd e z10, fun _ => ⟨p1, fun _ => trivial, fun e => absurd q e⟩⟩⟩, o2, ⟨fun e => absurd e z10, fun _ => ⟨s2, fun e => absurd e z10, fun _ => ⟨p2, fun _ => ⟨z0, trivial⟩, fun e => absurd rfl e⟩⟩⟩, ?_⟩
        exact ⟨a + 1 + 1, P3.c (by decide) (by decide), F3.u (by decide), G3, Or.inl ⟨rfl, rfl, by omega⟩⟩
      · rw [b1, b2]
        dsimp only
        have dm' : ¬ nI d' = -1 := nI_m1 (by omega)
        have q' : ¬ up2 (up2 C3 3 4 (nI (a + 1 + 1 + 1))) 3 7 (nI d') 3 7 = -1 := by simpa [up2] using dm'
        rw [if_neg q', if_neg z10]
        have P4 : PS (up2 (up2 C3 3 4 (nI (a + 1 + 1 + 1))) 3 7 (nI d')) (up2 (up2 M3 12 (4 * t + 2) (nI d')) 5 15 (nI (a + 1 + 1 + 1))) L (a + 1 + 1 + 1) := ((P3.m).at (by omega)).c (by decide) (by decide)
        have F4 : FR C0 (up2 (up2 C3 3 4 (nI (a + 1 + 1 + 1))) 3 7 (nI d')) := (F3.u (by decide)).u (by decide)
        have G4 : GT t M0 (up2 (up2 M3 12 (4 * t + 2) (nI d')) 5 15 (nI (a + 1 + 1 + 1))) := (G3.u (by omega)).v
        have k5 : up2 (up2 C3 3 4 (nI (a + 1 + 1 + 1))) 3 7 (nI d') 3 5 = 114 := by simpa [up2] using k5
        have k6 : up2 (up2 C3 3 4 (nI (a + 1 + 1 + 1))) 3 7 (nI d') 3 6 = nI d := by simpa [up2] using k6
        have k7 : up2 (up2 C3 3 4 (nI (a + 1 + 1 + 1))) 3 7 (nI d') 3 7 = nI d' := by simp [up2]
        have l0 : up2 (up2 M3 12 (4 * t + 2) (nI d')) 5 15 (nI (a + 1 + 1 + 1)) 12 (4 * t) = 114 := by simpa [up2] using l0
        have l1 : up2 (up2 M3 12 (4 * t + 2) (nI d')) 5 15 (nI (a + 1 + 1 + 1)) 12 (4 * t + 1) = nI d := by simpa [up2] using l1
        have l2 : up2 (up2 M3 12 (4 * t + 2) (nI d')) 5 15 (nI (a + 1 + 1 + 1)) 12 (4 * t + 2) = nI d' := by simp [up2]
        generalize up2 (up2 C3 3 4 (nI (a + 1 + 1 + 1))) 3 7 (nI d') = C4 at *
        generalize up2 (up2 M3 12 (4 * t + 2) (nI d')) 5 15 (nI (a + 1 + 1 + 1)) = M4 at *
        obtain ⟨u1, u2, u3⟩ := ps_skip P4 (x := 43) (by decide)
        rcases u3 with ⟨-, hL4, c1', c2'⟩ | ⟨-, c1', c2'⟩
        · rw [c1', c2']
          dsimp only
          rw [if_neg z10, if_neg z10]
          have P5 : PS (up2 C4 3 4 (nI (a + 1 + 1 + 1 + 1))) (up2 M4 5 15 (nI (a + 1 + 1 + 1 + 1))) L (a + 1 + 1 + 1 + 1) := P4.at (by omega)
          have F5 : FR C0 (up2 C4 3 4 (nI (a + 1 + 1 + 1 + 1))) := F4.u (by decide)
          have G5 : GT t M0 (up2 M4 5 15 (nI (a + 1 + 1 + 1 + 1))) := G4.v
          have k5 : up2 C4 3 4 (nI (a + 1 + 1 + 1 + 1)) 3 5 = 114 := by simpa [up2] using k5
          have k6 : up2 C4 3 4 (nI (a + 1 + 1 + 1 + 1)) 3 6 = nI d := by simpa [up2] using k6
          have k7 : up2 C4 3 4 (nI (a + 1 + 1 + 1 + 1)) 3 7 = nI d' := by simpa [up2] using k7
          have l0 : up2 M4 5 15 (nI (a + 1 + 1 + 1 + 1)) 12 (4 * t) = 114 := by simpa [up2] using l0
          have l1 : up2 M4 5 15 (nI (a + 1 + 1 + 1 + 1)) 12 (4 * t + 1) = nI d := by simpa [up2] using l1
          have l2 : up2 M4 5 15 (nI (a + 1 + 1 + 1 + 1)) 12 (4 * t + 2) = nI d' := by simpa [up2] using l2
          generalize up2 C4 3 4 (nI (a + 1 + 1 + 1 + 1)) = C5 at *
          generalize up2 M4 5 15 (nI (a + 1 + 1 + 1 + 1)) = M5 at *
          obtain ⟨w1, w2, w3⟩ := ps_num1 P5 (p := 4 * t + 3) (by omega)
          unfold o_X3_findRollNumbers_59 b_X3_findRollNumbers_59 o_X7_orderHere_74 b_X7_orderHere_74
          rcases w3 with ⟨b1', b2'⟩ | ⟨d3, hd3, hL5, b1', b2'⟩
          · rw [b1', b2']
            dsimp only
            have q3 : up2 C5 3 8 (-1) 3 8 = -1 := by simp [up2]
            rw [if_pos q3, if_pos rfl]
            refine ⟨⟨o1, fun e => absurd e ‹_›, fun _ => ⟨s1, fun e => absurd e z10, fun _ => ⟨p1, fun e => absurd e q', fun _ => ⟨u1, fun e => absurd e z10, fun _ => ⟨w1, fun _ => ⟨z0, trivial⟩, fun e => absurd q3 e⟩⟩⟩⟩⟩, o2, ⟨fun e => absurd e z10, fun _ => ⟨s2, fun e => absurd e z10, fun _ => ⟨p2, fun e => absurd e z10, fun _ => ⟨u2, fun e => absurd e z10, fun _ => ⟨w2, fun _ => ⟨z0, trivial⟩, fun e => absurd rfl e⟩⟩⟩⟩⟩, ?_⟩
            exact ⟨a + 1 + 1 + 1 + 1, P5.c (by decide) (by decide), F5.u (by decide), G5, Or.inl ⟨rfl, rfl, by omega⟩⟩
          · rw [b1', b2']
            dsimp only
            have dm3 : ¬ nI d3 = -1 := nI_m1 (by omega)
            have q3 : ¬ up2 (up2 C5 3 4 (nI (a + 1 + 1 + 1 + 1 + 1))) 3 8 (nI d3) 3 8 = -1 := by simpa [up2] using dm3
            rw [if_neg q3, if_neg z10]
            refine ⟨⟨o1, fun e => absurd e ‹_›, fun _ => ⟨s1, fun e => absurd e z10, fun _ => ⟨p1, fun e => absurd e q', fun _ => ⟨u1, fun e => absurd e z10, fun _ => ⟨w1, fun e => absurd e q3, fun _ => ⟨z1, trivial⟩⟩⟩⟩⟩⟩, o2, ⟨fun e => absurd e z10, fun _ => ⟨s2, fun e => absurd e z10, fun _ => ⟨p2, fun e => absurd e z10, fun _ => ⟨u2, fun e => absurd e z10, fun _ => ⟨w2, fun e => absurd e z10, fun _ => ⟨z1, trivial⟩⟩⟩⟩⟩⟩, ?_⟩
            refine ⟨a + 1 + 1 + 1 + 1 + 1, ((P5.m).at (by omega)).c (by decide) (by decide), (F5.u (by decide)).u (by decide), (G5.u (by omega)).v, Or.inr ⟨rfl, rfl, by omega, ?_, ?_, Or.inr (Or.inr ⟨?_, ?_, ?_⟩)⟩⟩
            · show up2 (up2 C5 3 4 (nI (a + 1 + 1 + 1 + 1 + 1))) 3 8 (nI d3) 3 5 = up2 (up2 M5 12 (4 * t + 3) (nI d3)) 5 15 (nI (a + 1 + 1 + 1 + 1 + 1)) 12 (4 * t)
              simp [up2, k5, l0]
            · show up2 (up2 C5 3 4 (nI (a + 1 + 1 + 1 + 1 + 1))) 3 8 (nI d3) 3 6 = up2 (up2 M5 12 (4 * t + 3) (nI d3)) 5 15 (nI (a + 1 + 1 + 1 + 1 + 1)) 12 (4 * t + 1)
              simp [up2, k6, l1]
            · show up2 (up2 C5 3 4 (nI (a + 1 + 1 + 1 + 1 + 1))) 3 8 (nI d3) 3 5 = 114
              simp [up2, k5]
            · show up2 (up2 C5 3 4 (nI (a + 1 + 1 + 1 + 1 + 1))) 3 8 (nI d3) 3 7 = up2 (up2 M5 12 (4 * t + 3) (nI d3)) 5 15 (nI (a + 1 + 1 + 1 + 1 + 1)) 12 (4 * t + 2)
              simp [up2, k7, l2]
            · show up2 (up2 C5 3 4 (nI (a + 1 + 1 + 1 + 1 + 1))) 3 8 (nI d3) 3 8 = up2 (up2 M5 12 (4 * t + 3) (nI d3)) 5 15 (nI (a + 1 + 1 + 1 + 1 + 1)) 12 (4 * t + 3)
              simp [up2]
        · rw [c1', c2']
          dsimp only
          rw [if_pos rfl, if_pos rfl]
          refine ⟨⟨o1, fun e => absurd e ‹_›, fun _ => ⟨s1, fun e => absurd e z10, fun _ => ⟨p1, fun e => absurd e q', fun _ => ⟨u1, fun _ => trivial, fun e => absurd rfl e⟩⟩⟩⟩, o2, ⟨fun e => absurd e z10, fun _ => ⟨s2, fun e => absurd e z10, fun _ => ⟨p2, fun e => absurd e z10, fun _ => ⟨u2, fun _ => ⟨z0, trivial⟩, fun e => absurd rfl e⟩⟩⟩⟩, ?_⟩
          exact ⟨a + 1 + 1 + 1, P4, F4, G4, Or.inl ⟨rfl, rfl, by omega⟩⟩
    · rw [c1, c2]
      dsimp only
      rw [if_pos rfl, if_pos rfl]
      refine ⟨⟨o1, fun e => absurd e ‹_›, fun _ => ⟨s1, fun _ => trivial, fun e => absurd rfl e⟩⟩, o2, ⟨fun e => absurd e z10, fun _ => ⟨s2, fun _ => ⟨z0, trivial⟩, fun e => absurd rfl e⟩⟩, ?_⟩
      exact ⟨a + 1, P2, F2, G2, Or.inl ⟨rfl, rfl, by omega⟩⟩
/-- "b", innings, "*" and a number -/
theorem A_bowl (ht : t ≤ 25) {C0 M0 : Sx} (P : PS C M L a) (hF : FR C0 C) (hG : GT t M0 M) {a0 : Nat} (ha : a0 < a) (h5 : C 3 5 = 98) (h12 : M 12 (4 * t) = 98) : o_X3_findOrder_133 C ∧ o_X7_orderHere_89 (nI (4 * t)) 1 M ∧ PO L a0 t C0 M0 (b_X3_findOrder_133 C) (b_X7_orderHere_89 (nI (4 * t)) 1 M) := by
  obtain ⟨o1, o2, o3⟩ := ps_num2 P (p := 4 * t + 1) (by omega)
  have z1 : bz 1 := bz_1
  have z0 : bz 0 := bz_0
  have e1 : nI (4 * t) + 1 = nI (4 * t + 1) := nI_add _ 1
  have e2 : nI (4 * t) + 2 = nI (4 * t + 2) := nI_add _ 2
  unfold o_X3_findOrder_133 b_X3_findOrder_133 o_X3_findBowlNumbers_0 b_X3_findBowlNumbers_0 o_X3_findBowlNumbers_8 b_X3_findBowlNumbers_8 o_X7_orderHere_89 b_X7_orderHere_89
  rw [e1]
  rcases o3 with ⟨b1, b2⟩ | ⟨d, a1, hd, hL, hL1, b1, b2⟩
  · rw [b1, b2]
    have q : up2 C 3 6 (-1) 3 6 = -1 := by simp [up2]
    dsimp only
    rw [if_pos q, if_neg z10, if_pos rfl]
    refine ⟨⟨⟨o1, fun _ => trivial, fun e => absurd q e⟩, z0, trivial⟩, ⟨fun e => absurd e z10, fun _ => ⟨o2, fun _ => ⟨z0, trivial⟩, fun e => absurd rfl e⟩⟩, ?_⟩
    exact ⟨a, P.c (by decide) (by decide), hF.u (by decide), hG, Or.inl ⟨rfl, rfl, by omega⟩⟩
  · rw [b1, b2]
    dsimp only
    have dm : ¬ nI d = -1 := nI_m1 (by omega)
    have q : ¬ up2 (up2 C 3 4 (nI a1)) 3 6 (nI d) 3 6 = -1 := by simpa [up2] using dm
    rw [if_neg q, if_neg z10, if_neg z10]
    have P2 : PS (up2 (up2 C 3 4 (nI a1)) 3 6 (nI d)) (up2 (up2 M 12 (4 * t + 1) (nI d)) 5 15 (nI a1)) L a1 := ((P.m).at hL1).c (by decide) (by decide)
    have F2 : FR C0 (up2 (up2 C 3 4 (nI a1)) 3 6 (nI d)) := (hF.u (by decide)).u (by decide)
    have G2 : GT t M0 (up2 (up2 M 12 (4 * t + 1) (nI d)) 5 15 (nI a1)) := (hG.u (by omega)).v
    have k5 : up2 (up2 C 3 4 (nI a1)) 3 6 (nI d) 3 5 = 98 := by simpa [up2] using h5
    have k6 : up2 (up2 C 3 4 (nI a1)) 3 6 (nI d) 3 6 = nI d := by simp [up2]
    have l0 : up2 (up2 M 12 (4 * t + 1) (nI d)) 5 15 (nI a1) 12 (4 * t) = 98 := by simpa [up2] using h12
    have l1 : up2 (up2 M 12 (4 * t + 1) (nI d)) 5 15 (nI a1) 12 (4 * t + 1) = nI d := by simp [up2]
    generalize up2 (up2 C 3 4 (nI a1)) 3 6 (nI d) = C2 at *
    generalize up2 (up2 M 12 (4 * t + 1) (nI d)) 5 15 (nI a1) = M2 at *
    obtain ⟨s1, s2, s3⟩ := ps_skip P2 (x := 42) (by decide)
    unfold o_X7_orderHere_109 b_X7_orderHere_109
    rw [e2]
    rcases s3 with ⟨-, hL2, c1, c2⟩ | ⟨-, c1, c2⟩
    · rw [c1, c2]
      dsimp only
      rw [if_neg z10, if_neg z10]
      have P3 : PS (up2 C2 3 4 (nI (a1 + 1))) (up2 M2 5 15 (nI (a1 + 1))) L (a1 + 1) := P2.at (by omega)
      have F3 : FR C0 (up2 C2 3 4 (nI (a1 + 1))) := F2.u (by decide)
      have G3 : GT t M0 (up2 M2 5 15 (nI (a1 + 1))) := G2.v
      have k5 : up2 C2 3 4 (nI (a1 + 1)) 3 5 = 98 := by simpa [up2] using k5
      have k6 : up2 C2 3 4 (nI (a1 + 1)) 3 6 = nI d := by simpa [up2] using k6
      have l0 : up2 M2 5 15 (nI (a1 + 1)) 12 (4 * t) = 98 := by simpa [up2] using l0
      have l1 : up2 M2 5 15 (nI (a1 + 1)) 12 (4 * t + 1) = nI d := by simpa [up2] using l1
      generalize up2 C2 3 4 (nI (a1 + 1)) = C3 at *
      generalize up2 M2 5 15 (nI (a1 + 1)) = M3 at *
      obtain ⟨p1, p2, p3⟩ := ps_num2 P3 (p := 4 * t + 2) (by omega)
      unfold o_X3_findBowlNumbers_32 b_X3_findBowlNumbers_32
      rcases p3 with ⟨b1, b2⟩ | ⟨d', a2, hd', hL', hL2', b1, b2⟩
      · rw [b1, b2]
        dsimp only
        have q2 : up2 C3 3 7 (-1) 3 7 = -1 := by simp [up2]
        rw [if_pos q2, if_pos rfl]
        refine ⟨⟨⟨o1, fun e => absurd e q, fun _ => ⟨s1, fun e => absurd e z10, fun _ => ⟨p1, fun _ => ⟨z0, trivial⟩, fun e => absurd q2 e⟩⟩⟩, z0, trivial⟩, ⟨fun e => absurd e z10, fun _ => ⟨o2, fun e => absurd e z10, fun _ => ⟨s2, fun e => absurd e z10, fun _ => ⟨p2, fun _ => ⟨z0, trivial⟩, fun e => absurd rfl e⟩⟩⟩⟩, ?_⟩
        exact ⟨a1 + 1, P3.c (by decide) (by decide), F3.u (by decide), G3, Or.inl ⟨rfl, rfl, by omega⟩⟩
      · rw [b1, b2]
        dsimp only
        have dm' : ¬ nI d' = -1 := nI_m1 (by omega)
        have q' : ¬ up2 (up2 C3 3 4 (nI a2)) 3 7 (nI d') 3 7 = -1 := by simpa [up2] using dm'
        rw [if_neg q', if_neg z10]
        refine ⟨⟨⟨o1, fun e => absurd e q, fun _ => ⟨s1, fun e => absurd e z10, fun _ => ⟨p1, fun e => absurd e q', fun _ => ⟨z1, trivial⟩⟩⟩⟩, z1, trivial⟩, ⟨fun e => absurd e z10, fun _ => ⟨o2, fun e => absurd e z10, fun _ => ⟨s2, fun e => absurd e z10, fun _ => ⟨p2, fun e => absurd e z10, fun _ => ⟨z1, trivial⟩⟩⟩⟩⟩, ?_⟩
        refine ⟨a2, ((P3.m).at hL2').c (by decide) (by decide), (F3.u (by decide)).u (by decide), (G3.u (by omega)).v, Or.inr ⟨rfl, rfl, by omega, ?_, ?_, Or.inr (Or.inl ⟨?_, ?_⟩)⟩⟩
        · show up2 (up2 C3 3 4 (nI a2)) 3 7 (nI d') 3 5 = up2 (up2 M3 12 (4 * t + 2) (nI d')) 5 15 (nI a2) 12 (4 * t)
          simp [up2, k5, l0]
        · show up2 (up2 C3 3 4 (nI a2)) 3 7 (nI d') 3 6 = up2 (up2 M3 12 (4 * t + 2) (nI d')) 5 15 (nI a2) 12 (4 * t + 1)
          simp [up2, k6, l1]
        · show up2 (up2 C3 3 4 (nI a2)) 3 7 (nI d') 3 5 = 98
          simp [up2, k5]
        · show up2 (up2 C3 3 4 (nI a2)) 3 7 (nI d') 3 7 = up2 (up2 M3 12 (4 * t + 2) (nI d')) 5 15 (nI a2) 12 (4 * t + 2)
          simp [up2]
    · rw [c1, c2]
      dsimp only
      rw [if_pos rfl, if_pos rfl]
      refine ⟨⟨⟨o1, fun e => absurd e q, fun _ => ⟨s1, fun _ => trivial, fun e => absurd rfl e⟩⟩, z0, trivial⟩, ⟨fun e => absurd e z10, fun _ => ⟨o2, fun e => absurd e z10, fun _ => ⟨s2, fun _ => ⟨z0, trivial⟩, fun e => absurd rfl e⟩⟩⟩, ?_⟩
      exact ⟨a1, P2, F2, G2, Or.inl ⟨rfl, rfl, by omega⟩⟩
/-- "c" or "u" and a pitch -/
theorem A_cov (ht : t ≤ 25) {C0 M0 : Sx} (P : PS C M L a) (hF : FR C0 C) (hG : GT t M0 M) {a0 : Nat} (ha : a0 < a) {x : Int32} (hx : x = 99 ∨ x = 117) (h5 : C 3 5 = x) (h12 : M 12 (4 * t) = x) : o_X3_findOrder_148 C ∧ o_X7_orderHere_147 (nI (4 * t)) M ∧ PO L a0 t C0 M0 (b_X3_findOrder_148 C) (b_X7_orderHere_147 (nI (4 * t)) M) := by
  obtain ⟨o1, o2, o3⟩ := ps_num1 P (p := 4 * t + 1) (by omega)
  have z1 : bz 1 := bz_1
  have z0 : bz 0 := bz_0
  have e1 : nI (4 * t) + 1 = nI (4 * t + 1) := nI_add _ 1
  unfold o_X3_findOrder_148 b_X3_findOrder_148 o_X3_findOrder_156 b_X3_findOrder_156 o_X7_orderHere_147 b_X7_orderHere_147
  rw [e1]
  rcases o3 with ⟨b1, b2⟩ | ⟨d, hd, hL, b1, b2⟩
  · rw [b1, b2]
    have q : up2 C 3 6 (-1) 3 6 = -1 := by simp [up2]
    dsimp only
    rw [if_pos q]
    refine ⟨⟨o1, fun _ => ⟨z0, trivial⟩, fun e => absurd q e⟩, ⟨o2, z0, trivial⟩, ?_⟩
    exact ⟨a, P.c (by decide) (by decide), hF.u (by decide), hG, Or.inl ⟨rfl, rfl, by omega⟩⟩
  · rw [b1, b2]
    dsimp only
    have dm : ¬ nI d = -1 := nI_m1 (by omega)
    have q : ¬ up2 (up2 C 3 4 (nI (a + 1))) 3 6 (nI d) 3 6 = -1 := by simpa [up2] using dm
    rw [if_neg q]
    refine ⟨⟨o1, fun e => absurd e q, fun _ => ⟨z1, trivial⟩⟩, ⟨o2, z1, trivial⟩, ?_⟩
    refine ⟨a + 1, ((P.m).at (by omega)).c (by decide) (by decide), (hF.u (by decide)).u (by decide), (hG.u (by omega)).v, Or.inr ⟨rfl, rfl, by omega, ?_, ?_, Or.inl ?_⟩⟩
    · show up2 (up2 C 3 4 (nI (a + 1))) 3 6 (nI d) 3 5 = up2 (up2 M 12 (4 * t + 1) (nI d)) 5 15 (nI (a + 1)) 12 (4 * t)
      simp [up2, h5, h12]
    · show up2 (up2 C 3 4 (nI (a + 1))) 3 6 (nI d) 3 6 = up2 (up2 M 12 (4 * t + 1) (nI d)) 5 15 (nI (a + 1)) 12 (4 * t + 1)
      simp [up2]
    · have e : up2 (up2 C 3 4 (nI (a + 1))) 3 6 (nI d) 3 5 = x := by simpa [up2] using h5
      show up2 (up2 C 3 4 (nI (a + 1))) 3 6 (nI d) 3 5 = 99 ∨ up2 (up2 C 3 4 (nI (a + 1))) 3 6 (nI d) 3 5 = 117 ∨ up2 (up2 C 3 4 (nI (a + 1))) 3 6 (nI d) 3 5 = 101 ∨ up2 (up2 C 3 4 (nI (a + 1))) 3 6 (nI d) 3 5 = 104
      rw [e]
      rcases hx with h | h
      · exact Or.inl h
      · exact Or.inr (Or.inl h)
/-- "e" or "h" and a number -/
theorem A_num (ht : t ≤ 25) {C0 M0 : Sx} (P : PS C M L a) (hF : FR C0 C) (hG : GT t M0 M) {a0 : Nat} (ha : a0 < a) {x : Int32} (hx : x = 101 ∨ x = 104) (h5 : C 3 5 = x) (h12 : M 12 (4 * t) = x) : o_X3_findOrder_180 C ∧ o_X7_orderHere_174 (nI (4 * t)) M ∧ PO L a0 t C0 M0 (b_X3_findOrder_180 C) (b_X7_orderHere_174 (nI (4 * t)) M) := by
  obtain ⟨o1, o2, o3⟩ := ps_num2 P (p := 4 * t + 1) (by omega)
  have z1 : bz 1 := bz_1
  have z0 : bz 0 := bz_0
  have e1 : nI (4 * t) + 1 = nI (4 * t + 1) := nI_add _ 1
  unfold o_X3_findOrder_180 b_X3_findOrder_180 o_X3_findOrder_188 b_X3_findOrder_188 o_X7_orderHere_174 b_X7_orderHere_174
  rw [e1]
  rcases o3 with ⟨b1, b2⟩ | ⟨d, a1, hd, hL, hL1, b1, b2⟩
  · rw [b1, b2]
    have q : up2 C 3 6 (-1) 3 6 = -1 := by simp [up2]
    dsimp only
    rw [if_pos q, if_pos rfl]
    refine ⟨⟨o1, fun _ => ⟨z0, trivial⟩, fun e => absurd q e⟩, ⟨o2, fun _ => ⟨z0, trivial⟩, fun e => absurd rfl e⟩, ?_⟩
    exact ⟨a, P.c (by decide) (by decide), hF.u (by decide), hG, Or.inl ⟨rfl, rfl, by omega⟩⟩
  · rw [b1, b2]
    dsimp only
    have dm : ¬ nI d = -1 := nI_m1 (by omega)
    have q : ¬ up2 (up2 C 3 4 (nI a1)) 3 6 (nI d) 3 6 = -1 := by simpa [up2] using dm
    rw [if_neg q, if_neg z10]
    refine ⟨⟨o1, fun e => absurd e q, fun _ => ⟨z1, trivial⟩⟩, ⟨o2, fun e => absurd e z10, fun _ => ⟨z1, trivial⟩⟩, ?_⟩
    refine ⟨a1, ((P.m).at hL1).c (by decide) (by decide), (hF.u (by decide)).u (by decide), (hG.u (by omega)).v, Or.inr ⟨rfl, rfl, by omega, ?_, ?_, Or.inl ?_⟩⟩
    · show up2 (up2 C 3 4 (nI a1)) 3 6 (nI d) 3 5 = up2 (up2 M 12 (4 * t + 1) (nI d)) 5 15 (nI a1) 12 (4 * t)
      simp [up2, h5, h12]
    · show up2 (up2 C 3 4 (nI a1)) 3 6 (nI d) 3 6 = up2 (up2 M 12 (4 * t + 1) (nI d)) 5 15 (nI a1) 12 (4 * t + 1)
      simp [up2]
    · have e : up2 (up2 C 3 4 (nI a1)) 3 6 (nI d) 3 5 = x := by simpa [up2] using h5
      show up2 (up2 C 3 4 (nI a1)) 3 6 (nI d) 3 5 = 99 ∨ up2 (up2 C 3 4 (nI a1)) 3 6 (nI d) 3 5 = 117 ∨ up2 (up2 C 3 4 (nI a1)) 3 6 (nI d) 3 5 = 101 ∨ up2 (up2 C 3 4 (nI a1)) 3 6 (nI d) 3 5 = 104
      rw [e]
      rcases hx with h | h
      · exact Or.inr (Or.inr (Or.inl h))
      · exact Or.inr (Or.inr (Or.inr h))
theorem sk_no {x h : Int32} {S : Sx} (e : b_X7_here_0 S = h) (n : ¬ h = x) : b_X7_skips_0 x S = (0, S) := by
  unfold b_X7_skips_0
  rw [e, if_neg n]
theorem sk_yes {x : Int32} {S : Sx} (e : b_X7_here_0 S = x) : b_X7_skips_0 x S = (1, up2 S 5 15 (S 5 15 + 1)) := by
  unfold b_X7_skips_0
  rw [if_pos e]
theorem fo_114 {y : Int32} (hs : b_X3_signAhead_0 C = 114) (hy : C 3 4 + 1 = y) (o1 : o_X3_signAhead_0 C) : b_X3_findOrder_0 C = b_X3_findOrder_118 (up2 (up2 C 3 5 114) 3 4 y) ∧ (o_X3_findOrder_118 (up2 (up2 C 3 5 114) 3 4 y) → o_X3_findOrder_0 C) := by
  have k5 : up2 C 3 5 114 3 5 = 114 := by simp [up2]
  have k4 : up2 C 3 5 114 3 4 + 1 = y := by rw [← hy]; simp [up2]
  unfold b_X3_findOrder_0 o_X3_findOrder_0
  rw [hs, k5, k4]
  exact ⟨by simp, fun o => ⟨o1, by simp [o]⟩⟩
theorem fo_98 {y : Int32} (hs : b_X3_signAhead_0 C = 98) (hy : C 3 4 + 1 = y) (o1 : o_X3_signAhead_0 C) : b_X3_findOrder_0 C = b_X3_findOrder_133 (up2 (up2 C 3 5 98) 3 4 y) ∧ (o_X3_findOrder_133 (up2 (up2 C 3 5 98) 3 4 y) → o_X3_findOrder_0 C) := by
  have k5 : up2 C 3 5 98 3 5 = 98 := by simp [up2]
  have k4 : up2 C 3 5 98 3 4 + 1 = y := by rw [← hy]; simp [up2]
  unfold b_X3_findOrder_0 o_X3_findOrder_0
  rw [hs, k5, k4]
  exact ⟨by simp, fun o => ⟨o1, by simp [o]⟩⟩
theorem fo_99 {y : Int32} (hs : b_X3_signAhead_0 C = 99) (hy : C 3 4 + 1 = y) (o1 : o_X3_signAhead_0 C) : b_X3_findOrder_0 C = b_X3_findOrder_148 (up2 (up2 C 3 5 99) 3 4 y) ∧ (o_X3_findOrder_148 (up2 (up2 C 3 5 99) 3 4 y) → o_X3_findOrder_0 C) := by
  have k5 : up2 C 3 5 99 3 5 = 99 := by simp [up2]
  have k4 : up2 C 3 5 99 3 4 + 1 = y := by rw [← hy]; simp [up2]
  unfold b_X3_findOrder_0 o_X3_findOrder_0
  rw [hs, k5, k4]
  exact ⟨by simp, fun o => ⟨o1, by simp [o]⟩⟩
theorem fo_117 {y : Int32} (hs : b_X3_signAhead_0 C = 117) (hy : C 3 4 + 1 = y) (o1 : o_X3_signAhead_0 C) : b_X3_findOrder_0 C = b_X3_findOrder_148 (up2 (up2 C 3 5 117) 3 4 y) ∧ (o_X3_findOrder_148 (up2 (up2 C 3 5 117) 3 4 y) → o_X3_findOrder_0 C) := by
  have k5 : up2 C 3 5 117 3 5 = 117 := by simp [up2]
  have k4 : up2 C 3 5 117 3 4 + 1 = y := by rw [← hy]; simp [up2]
  unfold b_X3_findOrder_0 o_X3_findOrder_0
  rw [hs, k5, k4]
  exact ⟨by simp, fun o => ⟨o1, by simp [o]⟩⟩
theorem fo_101 {y : Int32} (hs : b_X3_signAhead_0 C = 101) (hy : C 3 4 + 1 = y) (o1 : o_X3_signAhead_0 C) : b_X3_findOrder_0 C = b_X3_findOrder_180 (up2 (up2 C 3 5 101) 3 4 y) ∧ (o_X3_findOrder_180 (up2 (up2 C 3 5 101) 3 4 y) → o_X3_findOrder_0 C) := by
  have k5 : up2 C 3 5 101 3 5 = 101 := by simp [up2]
  have k4 : up2 C 3 5 101 3 4 + 1 = y := by rw [← hy]; simp [up2]
  unfold b_X3_findOrder_0 o_X3_findOrder_0
  rw [hs, k5, k4]
  exact ⟨by simp, fun o => ⟨o1, by simp [o]⟩⟩
theorem fo_104 {y : Int32} (hs : b_X3_signAhead_0 C = 104) (hy : C 3 4 + 1 = y) (o1 : o_X3_signAhead_0 C) : b_X3_findOrder_0 C = b_X3_findOrder_180 (up2 (up2 C 3 5 104) 3 4 y) ∧ (o_X3_findOrder_180 (up2 (up2 C 3 5 104) 3 4 y) → o_X3_findOrder_0 C) := by
  have k5 : up2 C 3 5 104 3 5 = 104 := by simp [up2]
  have k4 : up2 C 3 5 104 3 4 + 1 = y := by rw [← hy]; simp [up2]
  unfold b_X3_findOrder_0 o_X3_findOrder_0
  rw [hs, k5, k4]
  exact ⟨by simp, fun o => ⟨o1, by simp [o]⟩⟩
theorem fo_no {h : Int32} (hs : b_X3_signAhead_0 C = h) (o1 : o_X3_signAhead_0 C) (h114 : ¬ h = 114) (h98 : ¬ h = 98) (h99 : ¬ h = 99) (h117 : ¬ h = 117) (h101 : ¬ h = 101) (h104 : ¬ h = 104) : b_X3_findOrder_0 C = (0, up2 C 3 5 h) ∧ o_X3_findOrder_0 C := by
  have k5 : up2 C 3 5 h 3 5 = h := by simp [up2]
  unfold b_X3_findOrder_0 o_X3_findOrder_0
  rw [hs, k5]
  exact ⟨by simp [h114, h98, h99, h117, h101, h104], o1, by simp [h114, h98, h99, h117, h101, h104]⟩
theorem oh_98 {v1 y : Int32} (r : b_X7_here_0 M = 98) (o1 : o_X7_here_0 M) (hy : M 5 15 + 1 = y) : b_X7_orderHere_17 v1 M = b_X7_orderHere_89 v1 1 (up2 M 5 15 y) ∧ (o_X7_orderHere_89 v1 1 (up2 M 5 15 y) → o_X7_orderHere_17 v1 M) := by
  have s : ∀ x : Int32, ¬ (98 : Int32) = x → b_X7_skips_0 x M = (0, M) := fun x n => sk_no r n
  have sy : b_X7_skips_0 98 M = (1, up2 M 5 15 y) := by rw [sk_yes r, hy]
  refine ⟨?_, fun o => ?_⟩
  · simp only [b_X7_orderHere_17, s 114 (by decide), sy, if_true, if_false, z10]
  · have os : ∀ x, o_X7_skips_0 x M := fun x => ⟨o1, trivial⟩
    simp [o_X7_orderHere_17, os, s 114 (by decide), sy, o]
theorem oh_99 {v1 y : Int32} (r : b_X7_here_0 M = 99) (o1 : o_X7_here_0 M) (hy : M 5 15 + 1 = y) : b_X7_orderHere_17 v1 M = b_X7_orderHere_147 v1 (up2 M 5 15 y) ∧ (o_X7_orderHere_147 v1 (up2 M 5 15 y) → o_X7_orderHere_17 v1 M) := by
  have s : ∀ x : Int32, ¬ (99 : Int32) = x → b_X7_skips_0 x M = (0, M) := fun x n => sk_no r n
  have sy : b_X7_skips_0 99 M = (1, up2 M 5 15 y) := by rw [sk_yes r, hy]
  refine ⟨?_, fun o => ?_⟩
  · simp only [b_X7_orderHere_17, b_X7_orderHere_89, s 114 (by decide), s 98 (by decide), sy, if_true, if_false, z10]
  · have os : ∀ x, o_X7_skips_0 x M := fun x => ⟨o1, trivial⟩
    simp [o_X7_orderHere_17, o_X7_orderHere_89, os, s 114 (by decide), s 98 (by decide), sy, o]
theorem oh_117 {v1 y : Int32} (r : b_X7_here_0 M = 117) (o1 : o_X7_here_0 M) (hy : M 5 15 + 1 = y) : b_X7_orderHere_17 v1 M = b_X7_orderHere_147 v1 (up2 M 5 15 y) ∧ (o_X7_orderHere_147 v1 (up2 M 5 15 y) → o_X7_orderHere_17 v1 M) := by
  have s : ∀ x : Int32, ¬ (117 : Int32) = x → b_X7_skips_0 x M = (0, M) := fun x n => sk_no r n
  have sy : b_X7_skips_0 117 M = (1, up2 M 5 15 y) := by rw [sk_yes r, hy]
  refine ⟨?_, fun o => ?_⟩
  · simp only [b_X7_orderHere_17, b_X7_orderHere_89, b_X7_orderHere_144, s 114 (by decide), s 98 (by decide), s 99 (by decide), sy, if_true, if_false, z10]
  · have os : ∀ x, o_X7_skips_0 x M := fun x => ⟨o1, trivial⟩
    simp [o_X7_orderHere_17, o_X7_orderHere_89, o_X7_orderHere_144, os, s 114 (by decide), s 98 (by decide), s 99 (by decide), sy, o]
theorem oh_101 {v1 y : Int32} (r : b_X7_here_0 M = 101) (o1 : o_X7_here_0 M) (hy : M 5 15 + 1 = y) : b_X7_orderHere_17 v1 M = b_X7_orderHere_174 v1 (up2 M 5 15 y) ∧ (o_X7_orderHere_174 v1 (up2 M 5 15 y) → o_X7_orderHere_17 v1 M) := by
  have s : ∀ x : Int32, ¬ (101 : Int32) = x → b_X7_skips_0 x M = (0, M) := fun x n => sk_no r n
  have sy : b_X7_skips_0 101 M = (1, up2 M 5 15 y) := by rw [sk_yes r, hy]
  refine ⟨?_, fun o => ?_⟩
  · simp only [b_X7_orderHere_17, b_X7_orderHere_89, b_X7_orderHere_144, s 114 (by decide), s 98 (by decide), s 99 (by decide), s 117 (by decide), sy, if_true, if_false, z10]
  · have os : ∀ x, o_X7_skips_0 x M := fun x => ⟨o1, trivial⟩
    simp [o_X7_orderHere_17, o_X7_orderHere_89, o_X7_orderHere_144, os, s 114 (by decide), s 98 (by decide), s 99 (by decide), s 117 (by decide), sy, o]
theorem oh_104 {v1 y : Int32} (r : b_X7_here_0 M = 104) (o1 : o_X7_here_0 M) (hy : M 5 15 + 1 = y) : b_X7_orderHere_17 v1 M = b_X7_orderHere_174 v1 (up2 M 5 15 y) ∧ (o_X7_orderHere_174 v1 (up2 M 5 15 y) → o_X7_orderHere_17 v1 M) := by
  have s : ∀ x : Int32, ¬ (104 : Int32) = x → b_X7_skips_0 x M = (0, M) := fun x n => sk_no r n
  have sy : b_X7_skips_0 104 M = (1, up2 M 5 15 y) := by rw [sk_yes r, hy]
  refine ⟨?_, fun o => ?_⟩
  · simp only [b_X7_orderHere_17, b_X7_orderHere_89, b_X7_orderHere_144, b_X7_orderHere_171, s 114 (by decide), s 98 (by decide), s 99 (by decide), s 117 (by decide), s 101 (by decide), sy, if_true, if_false, z10]
  · have os : ∀ x, o_X7_skips_0 x M := fun x => ⟨o1, trivial⟩
    simp [o_X7_orderHere_17, o_X7_orderHere_89, o_X7_orderHere_144, o_X7_orderHere_171, os, s 114 (by decide), s 98 (by decide), s 99 (by decide), s 117 (by decide), s 101 (by decide), sy, o]
theorem oh_114 {v1 y : Int32} (r : b_X7_here_0 M = 114) (o1 : o_X7_here_0 M) (hy : M 5 15 + 1 = y) : b_X7_orderHere_17 v1 M = b_X7_orderHere_34 v1 (b_X7_number_0 (v1 + 1) 1 (up2 M 5 15 y)).1 (b_X7_number_0 (v1 + 1) 1 (up2 M 5 15 y)).2 ∧ (o_X7_number_0 (v1 + 1) 1 (up2 M 5 15 y) → o_X7_orderHere_34 v1 (b_X7_number_0 (v1 + 1) 1 (up2 M 5 15 y)).1 (b_X7_number_0 (v1 + 1) 1 (up2 M 5 15 y)).2 → o_X7_orderHere_17 v1 M) := by
  have sy : b_X7_skips_0 114 M = (1, up2 M 5 15 y) := by rw [sk_yes r, hy]
  unfold b_X7_orderHere_17 o_X7_orderHere_17
  rw [sy]
  dsimp only
  rw [if_neg z10]
  exact ⟨rfl, fun o o2 => ⟨⟨o1, trivial⟩, fun e => absurd e z10, fun _ => ⟨o, o2⟩⟩⟩
theorem oh_no {v1 h : Int32} (r : b_X7_here_0 M = h) (o1 : o_X7_here_0 M) (h114 : ¬ h = 114) (h98 : ¬ h = 98) (h99 : ¬ h = 99) (h117 : ¬ h = 117) (h101 : ¬ h = 101) (h104 : ¬ h = 104) : b_X7_orderHere_17 v1 M = (0, M) ∧ o_X7_orderHere_17 v1 M := by
  have s : ∀ x : Int32, ¬ h = x → b_X7_skips_0 x M = (0, M) := fun x n => sk_no r n
  have os : ∀ x, o_X7_skips_0 x M := fun x => ⟨o1, trivial⟩
  refine ⟨?_, ?_⟩
  · simp only [b_X7_orderHere_17, b_X7_orderHere_89, b_X7_orderHere_144, b_X7_orderHere_171, b_X7_orderHere_189, b_X7_orderHere_190, s 114 h114, s 98 h98, s 99 h99, s 117 h117, s 101 h101, s 104 h104, if_true]
  · simp [o_X7_orderHere_17, o_X7_orderHere_89, o_X7_orderHere_144, o_X7_orderHere_171, o_X7_orderHere_189, o_X7_orderHere_190, os, s 114 h114, s 98 h98, s 99 h99, s 117 h117, s 101 h101, s 104 h104, bz_0]
/-- where an order begins -/
theorem A_pre (ht : t ≤ 25) (P : PS C M L a) {h : Int32} (hh : b_X7_here_0 M = h) : b_X3_signAhead_0 C = h ∧ o_X3_signAhead_0 C ∧ C 3 4 + 1 = nI (a + 1) ∧ b_X7_here_0 (up2 M 12 (4 * t) h) = h ∧ o_X7_here_0 (up2 M 12 (4 * t) h) ∧ up2 M 12 (4 * t) h 5 15 + 1 = nI (a + 1) ∧ (¬ h = -1 → PS (up2 (up2 C 3 5 h) 3 4 (nI (a + 1))) (up2 (up2 M 12 (4 * t) h) 5 15 (nI (a + 1))) L (a + 1)) ∧ FR C (up2 (up2 C 3 5 h) 3 4 (nI (a + 1))) ∧ GT t M (up2 (up2 M 12 (4 * t) h) 5 15 (nI (a + 1))) ∧ up2 (up2 C 3 5 h) 3 4 (nI (a + 1)) 3 5 = h ∧ up2 (up2 M 12 (4 * t) h) 5 15 (nI (a + 1)) 12 (4 * t) = h := by
  obtain ⟨s1, s2, s3, s4⟩ := ps_sign P
  have P1 : PS (up2 C 3 5 h) (up2 M 12 (4 * t) h) L a := (P.m).c (by decide) (by decide)
  obtain ⟨-, r2, q3, -⟩ := ps_sign P1
  have q : b_X3_signAhead_0 (up2 C 3 5 h) = b_X3_signAhead_0 C := rfl
  rw [hh] at s3 s4
  refine ⟨s3, s1, (ps_at P).1, by rw [← q3, q, s3], r2, (ps_at P1).2, fun n => P1.at ?_, (FR.rf.u (by decide)).u (by decide), (GT.rf.u (Nat.le_refl _)).v, by simp [up2], by simp [up2]⟩
  rcases s4 with ⟨-, e⟩ | e
  · exact absurd e n
  · omega
theorem o_oh {h : Int32} (ht : t ≤ 25) (hh : b_X7_here_0 M = h) (o : o_X7_here_0 M) (h17 : M 5 17 = nI t) : b_X7_orderHere_0 M = b_X7_orderHere_17 (nI (4 * t)) (up2 M 12 (4 * t) h) ∧ (o_X7_orderHere_17 (nI (4 * t)) (up2 M 12 (4 * t) h) → o_X7_orderHere_0 M) := by
  have e4 : (4 : Int32) * M 5 17 = nI (4 * t) := by rw [h17, show (4 : Int32) = nI 4 from rfl, nI_mul]
  have ec := nI_clamp (n := 4 * t) (by omega)
  have i4 : vp_in (nI (4 * t)) 124 := vp_in_nI (by omega) (by decide)
  unfold b_X7_orderHere_0 o_X7_orderHere_0
  rw [hh, e4, ec]
  exact ⟨rfl, fun o2 => ⟨o, i4, o2⟩⟩
/-- an order -/
theorem A_order (ht : t ≤ 25) (P : PS C M L a) (h17 : M 5 17 = nI t) : o_X3_findOrder_0 C ∧ o_X7_orderHere_0 M ∧ PO L a t C M (b_X3_findOrder_0 C) (b_X7_orderHere_0 M) := by
  obtain ⟨-, oh, -, -⟩ := ps_sign P
  obtain ⟨h, hh⟩ : ∃ h, b_X7_here_0 M = h := ⟨_, rfl⟩
  obtain ⟨a1, a2, a3, a4, a5, a6, a7, a8, a9, a10, a11⟩ := A_pre ht P hh
  obtain ⟨b1, b2⟩ := o_oh ht hh oh h17
  have e1 : nI (4 * t) + 1 = nI (4 * t + 1) := nI_add _ 1
  rw [b1]
  by_cases h114 : h = 114
  · subst h114
    obtain ⟨u1, u2, u3, u4⟩ := A_roll ht (a7 (by decide)) a8 a9 (a0 := a) (by omega) a10 a11
    obtain ⟨c1, c2⟩ := fo_114 a1 a3 a2
    obtain ⟨d1, d2⟩ := oh_114 (v1 := nI (4 * t)) a4 a5 a6
    rw [e1] at d1 d2
    rw [c1, d1]
    have ub : bz (b_X3_findRollNumbers_0 (up2 (up2 C 3 5 114) 3 4 (nI (a + 1)))).1 := by
      obtain ⟨a', -, -, -, w⟩ := u4
      rcases w with ⟨w, -⟩ | ⟨w, -⟩ <;> rw [w]
      · exact bz_0
      · exact bz_1
    exact ⟨c2 ⟨u1, ub, trivial⟩, b2 (d2 u2 u3), u4⟩
  by_cases h98 : h = 98
  · subst h98
    obtain ⟨u1, u2, u3⟩ := A_bowl ht (a7 (by decide)) a8 a9 (a0 := a) (by omega) a10 a11
    obtain ⟨c1, c2⟩ := fo_98 a1 a3 a2
    obtain ⟨d1, d2⟩ := oh_98 (v1 := nI (4 * t)) a4 a5 a6
    rw [c1, d1]
    exact ⟨c2 u1, b2 (d2 u2), u3⟩
  by_cases h99 : h = 99
  · subst h99
    obtain ⟨u1, u2, u3⟩ := A_cov ht (a7 (by decide)) a8 a9 (a0 := a) (by omega) (Or.inl rfl) a10 a11
    obtain ⟨c1, c2⟩ := fo_99 a1 a3 a2
    obtain ⟨d1, d2⟩ := oh_99 (v1 := nI (4 * t)) a4 a5 a6
    rw [c1, d1]
    exact ⟨c2 u1, b2 (d2 u2), u3⟩
  by_cases h117 : h = 117
  · subst h117
    obtain ⟨u1, u2, u3⟩ := A_cov ht (a7 (by decide)) a8 a9 (a0 := a) (by omega) (Or.inr rfl) a10 a11
    obtain ⟨c1, c2⟩ := fo_117 a1 a3 a2
    obtain ⟨d1, d2⟩ := oh_117 (v1 := nI (4 * t)) a4 a5 a6
    rw [c1, d1]
    exact ⟨c2 u1, b2 (d2 u2), u3⟩
  by_cases h101 : h = 101
  · subst h101
    obtain ⟨u1, u2, u3⟩ := A_num ht (a7 (by decide)) a8 a9 (a0 := a) (by omega) (Or.inl rfl) a10 a11
    obtain ⟨c1, c2⟩ := fo_101 a1 a3 a2
    obtain ⟨d1, d2⟩ := oh_101 (v1 := nI (4 * t)) a4 a5 a6
    rw [c1, d1]
    exact ⟨c2 u1, b2 (d2 u2), u3⟩
  by_cases h104 : h = 104
  · subst h104
    obtain ⟨u1, u2, u3⟩ := A_num ht (a7 (by decide)) a8 a9 (a0 := a) (by omega) (Or.inr rfl) a10 a11
    obtain ⟨c1, c2⟩ := fo_104 a1 a3 a2
    obtain ⟨d1, d2⟩ := oh_104 (v1 := nI (4 * t)) a4 a5 a6
    rw [c1, d1]
    exact ⟨c2 u1, b2 (d2 u2), u3⟩
  · obtain ⟨c1, c2⟩ := fo_no a1 a2 h114 h98 h99 h117 h101 h104
    obtain ⟨d1, d2⟩ := oh_no (v1 := nI (4 * t)) a4 a5 h114 h98 h99 h117 h101 h104
    rw [c1, d1]
    exact ⟨c2, b2 d2, a, (P.m).c (by decide) (by decide), FR.rf.u (by decide), GT.rf.u (Nat.le_refl _), Or.inl ⟨rfl, rfl, Nat.le_refl a⟩⟩
end

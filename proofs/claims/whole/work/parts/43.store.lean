/-! GROUNDS AND ROWS THAT BECOME OTHERS -/
def vq (f : Nat → Int32) (i k : Nat) : Int32 := if isb i k = true then nb (f k) else f k
def CP (S S' : Sx) (b c : Nat) (D : Nat → Nat → Prop) : Prop := (∀ j, (j < b ∨ b + 40 ≤ j) → S' j = S j) ∧ ∀ i k, rel i k = true → D i k → vq (S' (b + i)) i k = vq (S (c + i)) i k
theorem nb_nb (x : Int32) : nb (nb x) = nb x := nb_of (bz_nb x)
theorem CP.mono {S S' : Sx} {b c : Nat} {D D' : Nat → Nat → Prop} (h : CP S S' b c D) (hD : ∀ i k, rel i k = true → D' i k → D i k) : CP S S' b c D' := ⟨h.1, fun i k hr hd => h.2 i k hr (hD i k hr hd)⟩
theorem CP.set {S S' : Sx} {b c : Nat} {D : Nat → Nat → Prop} (h : CP S S' b c D) {i k : Nat} {v : Int32} (hi : i < 40) (hv : (if isb i k = true then nb v else v) = vq (S (c + i)) i k) : CP S (up2 S' (b + i) k v) b c (fun a e => (a = i ∧ e = k) ∨ D a e) := by
  refine ⟨fun j hj => by rw [up2_ne (by omega)]; exact h.1 j hj, fun a e hr hd => ?_⟩
  by_cases h1 : a = i
  · subst h1
    rw [up2_at]
    by_cases h2 : e = k
    · subst h2
      rw [← hv]
      simp [vq, upd]
    · have hd2 : D a e := by
        rcases hd with q | q
        · exact absurd q.2 h2
        · exact q
      rw [← h.2 a e hr hd2]
      simp [vq, upd, h2]
  · have hd2 : D a e := by
      rcases hd with q | q
      · exact absurd q.1 h1
      · exact q
    rw [up2_ne (by omega)]
    exact h.2 a e hr hd2
theorem CP.cp {S S' : Sx} {b c : Nat} {D : Nat → Nat → Prop} (hd : c + 40 ≤ b ∨ b + 40 ≤ c) (h : CP S S' b c D) {i k : Nat} (hi : i < 40) : CP S (up2 S' (b + i) k (S' (c + i) k)) b c (fun a e => (a = i ∧ e = k) ∨ D a e) := h.set hi (by rw [h.1 (c + i) (by omega)]; rfl)
theorem CP.cb {S S' : Sx} {b c : Nat} {D : Nat → Nat → Prop} (hd : c + 40 ≤ b ∨ b + 40 ≤ c) (h : CP S S' b c D) {i k : Nat} (hi : i < 40) (hb : isb i k = true) : CP S (up2 S' (b + i) k (nb (S' (c + i) k))) b c (fun a e => (a = i ∧ e = k) ∨ D a e) := h.set hi (by rw [h.1 (c + i) (by omega)]; simp [vq, hb, nb_nb])
theorem CP.ar {S S' : Sx} {b c : Nat} {D : Nat → Nat → Prop} (hd : c + 40 ≤ b ∨ b + 40 ≤ c) (h : CP S S' b c D) {i n : Nat} (hi : i < 40) : CP S (upA S' (b + i) (va_cpy (S' (c + i)) (S' (b + i)) 0 0 n)) b c (fun a e => (a = i ∧ e < n) ∨ D a e) := by
  refine ⟨fun j hj => by rw [upA_ne (by omega)]; exact h.1 j hj, fun a e hr hdd => ?_⟩
  by_cases h1 : a = i
  · subst h1
    have e1 : upA S' (b + a) (va_cpy (S' (c + a)) (S' (b + a)) 0 0 n) (b + a) = va_cpy (S' (c + a)) (S' (b + a)) 0 0 n := by simp [upA]
    rw [e1, h.1 (c + a) (by omega)]
    by_cases h2 : e < n
    · have e2 : va_cpy (S (c + a)) (S' (b + a)) 0 0 n e = S (c + a) e := by simp [va_cpy, h2]
      unfold vq
      rw [e2]
    · have hd2 : D a e := by
        rcases hdd with q | q
        · exact absurd q.2 h2
        · exact q
      have e2 : va_cpy (S (c + a)) (S' (b + a)) 0 0 n e = S' (b + a) e := by simp [va_cpy, h2]
      rw [← h.2 a e hr hd2]
      unfold vq
      rw [e2]
  · have hd2 : D a e := by
      rcases hdd with q | q
      · exact absurd q.1 h1
      · exact q
    rw [upA_ne (by omega)]
    exact h.2 a e hr hd2
section
variable {S S' : Sx} {b c : Nat} {D : Nat → Nat → Prop}
theorem rel_P5 {p e : Nat} (hp : p < 4) (h : rel (7 + p) e = true) : e < 5 := by
  rcases rel_c h with ⟨a, q⟩ | ⟨a, q⟩ | ⟨a, q⟩ | ⟨a, q⟩ | ⟨a, a2, q⟩ | ⟨a, a2, q⟩ | ⟨a, a2, q⟩ | ⟨a, a2, q⟩ <;> omega
theorem rel_H6 {p e : Nat} (hp : p < 5) (h : rel (11 + p) e = true) : e < 6 := by
  rcases rel_c h with ⟨a, q⟩ | ⟨a, q⟩ | ⟨a, q⟩ | ⟨a, q⟩ | ⟨a, a2, q⟩ | ⟨a, a2, q⟩ | ⟨a, a2, q⟩ | ⟨a, a2, q⟩ <;> omega
theorem rel_I7 {p e : Nat} (hp : p < 12) (h : rel (16 + p) e = true) : e < 7 := by
  rcases rel_c h with ⟨a, q⟩ | ⟨a, q⟩ | ⟨a, q⟩ | ⟨a, q⟩ | ⟨a, a2, q⟩ | ⟨a, a2, q⟩ | ⟨a, a2, q⟩ | ⟨a, a2, q⟩ <;> omega
theorem rel_O7 {p e : Nat} (hp : p < 12) (h : rel (28 + p) e = true) : e < 7 := by
  rcases rel_c h with ⟨a, q⟩ | ⟨a, q⟩ | ⟨a, q⟩ | ⟨a, q⟩ | ⟨a, a2, q⟩ | ⟨a, a2, q⟩ | ⟨a, a2, q⟩ | ⟨a, a2, q⟩ <;> omega
theorem cp_P (hd : c + 40 ≤ b ∨ b + 40 ≤ c) (h : CP S S' b c D) {p : Nat} (hp : p < 4) : CP S (b_X5_become_0 (b + 7 + p) (c + 7 + p) S') b c (fun a e => a = 7 + p ∨ D a e) := by
  unfold b_X5_become_0 b_X5_become_16 b_X5_become_32
  rw [Nat.add_assoc, Nat.add_assoc]
  have s := (((((h.cp hd (i := 7 + p) (k := 0) (by omega)).cp hd (i := 7 + p) (k := 1) (by omega)).cp hd (i := 7 + p) (k := 2) (by omega)).cb hd (i := 7 + p) (k := 3) (by omega) (isb_P3 hp)).cp hd (i := 7 + p) (k := 4) (by omega))
  refine s.mono (fun a e hr hq => ?_)
  rcases hq with rfl | hq
  · have := rel_P5 hp hr
    have h5 : e = 0 ∨ e = 1 ∨ e = 2 ∨ e = 3 ∨ e = 4 := by omega
    rcases h5 with rfl | rfl | rfl | rfl | rfl <;> simp
  · simp [hq]
theorem cp_H (hd : c + 40 ≤ b ∨ b + 40 ≤ c) (h : CP S S' b c D) {p : Nat} (hp : p < 5) : CP S (b_X1_become_0 (b + 11 + p) (c + 11 + p) S') b c (fun a e => a = 11 + p ∨ D a e) := by
  unfold b_X1_become_0 b_X1_become_16 b_X1_become_32
  rw [Nat.add_assoc, Nat.add_assoc]
  have s := ((((((h.cp hd (i := 11 + p) (k := 0) (by omega)).cb hd (i := 11 + p) (k := 1) (by omega) (isb_H1 hp)).cp hd (i := 11 + p) (k := 2) (by omega)).cp hd (i := 11 + p) (k := 3) (by omega)).cp hd (i := 11 + p) (k := 4) (by omega)).cp hd (i := 11 + p) (k := 5) (by omega))
  refine s.mono (fun a e hr hq => ?_)
  rcases hq with rfl | hq
  · have := rel_H6 hp hr
    have h5 : e = 0 ∨ e = 1 ∨ e = 2 ∨ e = 3 ∨ e = 4 ∨ e = 5 := by omega
    rcases h5 with rfl | rfl | rfl | rfl | rfl | rfl <;> simp
  · simp [hq]
theorem cp_I (hd : c + 40 ≤ b ∨ b + 40 ≤ c) (h : CP S S' b c D) {p : Nat} (hp : p < 12) : CP S (b_X2_become_0 (b + 16 + p) (c + 16 + p) S') b c (fun a e => (a = 16 + p ∨ a = 28 + p) ∨ D a e) := by
  unfold b_X2_become_0 b_X2_become_16 b_X2_become_32 b_X2_become_48
  rw [show b + 16 + p + 12 = b + (28 + p) by omega, show c + 16 + p + 12 = c + (28 + p) by omega, show b + 16 + p = b + (16 + p) by omega, show c + 16 + p = c + (16 + p) by omega]
  have s := (((((((h.cp hd (i := 16 + p) (k := 0) (by omega)).cp hd (i := 16 + p) (k := 1) (by omega)).cp hd (i := 16 + p) (k := 2) (by omega)).cp hd (i := 16 + p) (k := 3) (by omega)).cp hd (i := 16 + p) (k := 4) (by omega)).cp hd (i := 16 + p) (k := 5) (by omega)).cb hd (i := 16 + p) (k := 6) (by omega) (isb_I6 hp)).ar hd (i := 28 + p) (n := (7 : Int32).toNatClampNeg) (by omega)
  refine s.mono (fun a e hr hq => ?_)
  rcases hq with (rfl | rfl) | hq
  · have := rel_I7 hp hr
    have h5 : e = 0 ∨ e = 1 ∨ e = 2 ∨ e = 3 ∨ e = 4 ∨ e = 5 ∨ e = 6 := by omega
    rcases h5 with rfl | rfl | rfl | rfl | rfl | rfl | rfl <;> simp
  · have h7 : e < (7 : Int32).toNatClampNeg := rel_O7 hp hr
    exact Or.inl ⟨rfl, h7⟩
  · simp [hq]
theorem cp_150 (hd : c + 40 ≤ b ∨ b + 40 ≤ c) : ∀ n i (S' : Sx), i ≤ 12 → 12 < n + i → CP S S' b c (fun a _ => a < 16 ∨ ∃ k, k < i ∧ (a = 16 + k ∨ a = 28 + k)) → o_X0_become_150 n b c (nI i) S' ∧ CP S (b_X0_become_150 n b c (nI i) S') b c (fun _ _ => True) := by
  intro n
  induction n with
  | zero => intro i S' h1 h2; omega
  | succ n ih =>
    intro i S' h1 h2 h
    by_cases hi : i < 12
    · have hle : ¬ (12 : Int32) ≤ nI i := nI_ge (b := 12) hi (by decide)
      have hin : vp_in (nI i) 12 := vp_in_nI hi (by decide)
      have s := cp_I hd h hi
      have J := ih (i + 1) _ (by omega) (by omega) (s.mono (fun a e hr hq => by
        rcases hq with q | ⟨k, hk, q⟩
        · exact Or.inr (Or.inl q)
        · by_cases e2 : k = i
          · subst e2
            exact Or.inl q
          · exact Or.inr (Or.inr ⟨k, by omega, q⟩)))
      rw [nI_succ] at J
      rw [b_X0_become_150, o_X0_become_150, if_neg hle, nI_clamp (by omega)]
      exact ⟨⟨fun e => absurd e hle, fun _ => ⟨hin, hin, J.1⟩⟩, J.2⟩
    · have hie : i = 12 := by omega
      subst hie
      have hle : (12 : Int32) ≤ nI 12 := by decide
      rw [b_X0_become_150, o_X0_become_150, if_pos hle]
      refine ⟨⟨fun _ => trivial, fun e => absurd hle e⟩, h.mono (fun a e hr _ => ?_)⟩
      have := rel_lt hr
      by_cases h16 : a < 16
      · exact Or.inl h16
      · by_cases h28 : a < 28
        · exact Or.inr ⟨a - 16, by omega, Or.inl (by omega)⟩
        · exact Or.inr ⟨a - 28, by omega, Or.inr (by omega)⟩
theorem cp_122 (hd : c + 40 ≤ b ∨ b + 40 ≤ c) : ∀ n i (S' : Sx), i ≤ 5 → 5 < n + i → CP S S' b c (fun a _ => a < 11 ∨ ∃ k, k < i ∧ a = 11 + k) → o_X0_become_122 n b c (nI i) S' ∧ CP S (b_X0_become_122 n b c (nI i) S') b c (fun _ _ => True) := by
  intro n
  induction n with
  | zero => intro i S' h1 h2; omega
  | succ n ih =>
    intro i S' h1 h2 h
    by_cases hi : i < 5
    · have hle : ¬ (5 : Int32) ≤ nI i := nI_ge (b := 5) hi (by decide)
      have hin : vp_in (nI i) 5 := vp_in_nI hi (by decide)
      have s := cp_H hd h hi
      have J := ih (i + 1) _ (by omega) (by omega) (s.mono (fun a e hr hq => by
        rcases hq with q | ⟨k, hk, q⟩
        · exact Or.inr (Or.inl q)
        · by_cases e2 : k = i
          · subst e2
            exact Or.inl q
          · exact Or.inr (Or.inr ⟨k, by omega, q⟩)))
      rw [nI_succ] at J
      rw [b_X0_become_122, o_X0_become_122, if_neg hle, nI_clamp (by omega)]
      exact ⟨⟨fun e => absurd e hle, fun _ => ⟨hin, hin, J.1⟩⟩, J.2⟩
    · have hie : i = 5 := by omega
      subst hie
      have hle : (5 : Int32) ≤ nI 5 := by decide
      have J := cp_150 (S := S) hd 100 0 S' (by omega) (by omega) (h.mono (fun a e hr hq => by
        rcases hq with q | ⟨k, hk, q⟩
        · by_cases h11 : a < 11
          · exact Or.inl h11
          · exact Or.inr ⟨a - 11, by omega, by omega⟩
        · omega))
      rw [nI_0] at J
      rw [b_X0_become_122, o_X0_become_122, if_pos hle]
      exact ⟨⟨fun _ => J.1, fun e => absurd hle e⟩, J.2⟩
theorem cp_94 (hd : c + 40 ≤ b ∨ b + 40 ≤ c) : ∀ n i (S' : Sx), i ≤ 4 → 4 < n + i → CP S S' b c (fun a _ => a < 7 ∨ ∃ k, k < i ∧ a = 7 + k) → o_X0_become_94 n b c (nI i) S' ∧ CP S (b_X0_become_94 n b c (nI i) S') b c (fun _ _ => True) := by
  intro n
  induction n with
  | zero => intro i S' h1 h2; omega
  | succ n ih =>
    intro i S' h1 h2 h
    by_cases hi : i < 4
    · have hle : ¬ (4 : Int32) ≤ nI i := nI_ge (b := 4) hi (by decide)
      have hin : vp_in (nI i) 4 := vp_in_nI hi (by decide)
      have s := cp_P hd h hi
      have J := ih (i + 1) _ (by omega) (by omega) (s.mono (fun a e hr hq => by
        rcases hq with q | ⟨k, hk, q⟩
        · exact Or.inr (Or.inl q)
        · by_cases e2 : k = i
          · subst e2
            exact Or.inl q
          · exact Or.inr (Or.inr ⟨k, by omega, q⟩)))
      rw [nI_succ] at J
      rw [b_X0_become_94, o_X0_become_94, if_neg hle, nI_clamp (by omega)]
      exact ⟨⟨fun e => absurd e hle, fun _ => ⟨hin, hin, J.1⟩⟩, J.2⟩
    · have hie : i = 4 := by omega
      subst hie
      have hle : (4 : Int32) ≤ nI 4 := by decide
      have J := cp_122 (S := S) hd 100 0 S' (by omega) (by omega) (h.mono (fun a e hr hq => by
        rcases hq with q | ⟨k, hk, q⟩
        · by_cases h11 : a < 7
          · exact Or.inl h11
          · exact Or.inr ⟨a - 7, by omega, by omega⟩
        · omega))
      rw [nI_0] at J
      rw [b_X0_become_94, o_X0_become_94, if_pos hle]
      exact ⟨⟨fun _ => J.1, fun e => absurd hle e⟩, J.2⟩
/-- a ground becomes another -/
theorem q_bec (hd : c + 40 ≤ b ∨ b + 40 ≤ c) : o_X0_become_0 b c S ∧ FC b S (b_X0_become_0 b c S) ∧ vw (b_X0_become_0 b c S) b = vw S c := by
  have h0 : CP S S b c (fun _ _ => False) := ⟨fun _ _ => rfl, fun _ _ _ h => h.elim⟩
  have s := ((((((((((h0.cp hd (i := 0) (k := 0) (by omega)).cp hd (i := 0) (k := 1) (by omega)).ar hd (i := 1) (n := (24 : Int32).toNatClampNeg) (by omega)).ar hd (i := 2) (n := (24 : Int32).toNatClampNeg) (by omega)).cp hd (i := 0) (k := 4) (by omega)).cp hd (i := 0) (k := 6) (by omega)).cp hd (i := 0) (k := 8) (by omega)).cp hd (i := 0) (k := 10) (by omega)).ar hd (i := 3) (n := (3 : Int32).toNatClampNeg) (by omega)))
  have J := cp_94 (S := S) hd 100 0 _ (by omega) (by omega) (s.mono (fun a e hr hq => by
    have h7 : a < 7 := by
      rcases hq with q | ⟨k, hk, q⟩
      · exact q
      · omega
    have e24 : (24 : Int32).toNatClampNeg = 24 := by decide
    have e3 : (3 : Int32).toNatClampNeg = 3 := by decide
    rcases rel_c hr with ⟨rfl, q⟩ | ⟨rfl, q⟩ | ⟨rfl, q⟩ | ⟨rfl, q⟩ | ⟨q1, q⟩ | ⟨q1, q⟩ | ⟨q1, q⟩ | ⟨q1, q⟩
    · rcases q with rfl | rfl | rfl | rfl | rfl | rfl <;> simp
    · simp [q]
    · simp [q]
    · simp [q]
    · omega
    · omega
    · omega
    · omega))
  rw [nI_0] at J
  refine ⟨J.1, J.2.1, vw_congr (fun i k hr => J.2.2 i k hr trivial)⟩
/-- a row is copied -/
theorem up_upA {S : Sx} {j : Nat} {f : Nat → Int32} {k : Nat} {v : Int32} : up2 (upA S j f) j k v = upA S j (upd f k v) := by
  funext a e
  by_cases h : a = j
  · subst h
    by_cases h2 : e = k <;> simp [up2, upA, upd, h2]
  · simp [up2, upA, h]
theorem s_cop {x y o1 o2 : Nat} (hxy : ¬ x = y) (h1 : o1 + 275 ≤ alen x) (h2 : o2 + 275 ≤ alen y) (l1 : alen x < 2 ^ 20) (l2 : alen y < 2 ^ 20) : ∀ n i, i ≤ 275 → 275 < n + i → o_X7_copies_3 n x (nI o1) y (nI o2) (nI i) (upA S y (fun e => if o2 ≤ e ∧ e < o2 + i then S x (o1 + (e - o2)) else S y e)) ∧ b_X7_copies_3 n x (nI o1) y (nI o2) (nI i) (upA S y (fun e => if o2 ≤ e ∧ e < o2 + i then S x (o1 + (e - o2)) else S y e)) = upA S y (fun e => if o2 ≤ e ∧ e < o2 + 275 then S x (o1 + (e - o2)) else S y e) := by
  intro n
  induction n with
  | zero => intro i h1 h2; omega
  | succ n ih =>
    intro i h3 h4
    by_cases hi : i < 275
    · have hle : ¬ (275 : Int32) ≤ nI i := nI_ge (b := 275) hi (by decide)
      have J := ih (i + 1) (by omega) (by omega)
      rw [nI_succ] at J
      have e1 : upd (fun e => if o2 ≤ e ∧ e < o2 + i then S x (o1 + (e - o2)) else S y e) (o2 + i) (S x (o1 + i)) = (fun e => if o2 ≤ e ∧ e < o2 + (i + 1) then S x (o1 + (e - o2)) else S y e) := by
        funext e
        by_cases q : e = o2 + i
        · subst q
          have q1 : o2 ≤ o2 + i ∧ o2 + i < o2 + (i + 1) := by omega
          have q2 : o2 + i - o2 = i := by omega
          simp [upd, q1, q2]
        · by_cases q1 : o2 ≤ e ∧ e < o2 + i
          · have q2 : o2 ≤ e ∧ e < o2 + (i + 1) := by omega
            simp only [upd, q, if_false, if_pos q1, if_pos q2]
          · have q2 : ¬ (o2 ≤ e ∧ e < o2 + (i + 1)) := by omega
            simp only [upd, q, if_false, if_neg q1, if_neg q2]
      rw [b_X7_copies_3, o_X7_copies_3, if_neg hle, nI_add, nI_add, nI_clamp (by omega), nI_clamp (by omega), upA_ne hxy, up_upA, e1]
      exact ⟨⟨fun e => absurd e hle, fun _ => ⟨vp_in_nI (by omega) (by omega), vp_in_nI (by omega) (by omega), J.1⟩⟩, J.2⟩
    · have hie : i = 275 := by omega
      subst hie
      have hle : (275 : Int32) ≤ nI 275 := by decide
      rw [b_X7_copies_3, o_X7_copies_3, if_pos hle]
      exact ⟨⟨fun _ => trivial, fun e => absurd hle e⟩, rfl⟩
theorem q_cop {x y o1 o2 : Nat} (hxy : ¬ x = y) (h1 : o1 + 275 ≤ alen x) (h2 : o2 + 275 ≤ alen y) (l1 : alen x < 2 ^ 20) (l2 : alen y < 2 ^ 20) : o_X7_copies_0 x (nI o1) y (nI o2) S ∧ b_X7_copies_0 x (nI o1) y (nI o2) S = upA S y (fun e => if o2 ≤ e ∧ e < o2 + 275 then S x (o1 + (e - o2)) else S y e) := by
  have J := s_cop (S := S) hxy h1 h2 l1 l2 300 0 (by omega) (by omega)
  have e0 : upA S y (fun e => if o2 ≤ e ∧ e < o2 + 0 then S x (o1 + (e - o2)) else S y e) = S := by
    funext a e
    by_cases h : a = y
    · subst h
      have q : ¬ (o2 ≤ e ∧ e < o2 + 0) := by omega
      simp only [upA, if_true, if_neg q]
    · simp [upA, h]
  rw [e0, nI_0] at J
  exact J
/-- the kept rows move down by one -/
theorem s_shift {j1 : Nat} {G : Sx → Sx} {OG : Sx → Prop} (hG : ∀ T, b_X7_keeps_58 j1 (up2 T 5 6 (T 5 6 - 1)) = G T) (hO : ∀ T, o_X7_keeps_58 j1 (up2 T 5 6 (T 5 6 - 1)) = OG T) : ∀ n i, i ≤ 1925 → 1925 < n + i → OG (upA S 7 (fun e => if e < 1925 then S 7 (e + 275) else S 7 e)) → o_X7_keeps_19 n j1 (nI i) (upA S 7 (fun e => if e < i then S 7 (e + 275) else S 7 e)) ∧ b_X7_keeps_19 n j1 (nI i) (upA S 7 (fun e => if e < i then S 7 (e + 275) else S 7 e)) = G (upA S 7 (fun e => if e < 1925 then S 7 (e + 275) else S 7 e)) := by
  intro n
  induction n with
  | zero => intro i h1 h2; omega
  | succ n ih =>
    intro i h3 h4 ho
    by_cases hi : i < 1925
    · have hle : ¬ (1925 : Int32) ≤ nI i := nI_ge (b := 1925) hi (by decide)
      have J := ih (i + 1) (by omega) (by omega) ho
      rw [nI_succ] at J
      have r1 : upA S 7 (fun e => if e < i then S 7 (e + 275) else S 7 e) 7 (i + 275) = S 7 (i + 275) := by
        have q : ¬ i + 275 < i := by omega
        simp [upA, q]
      have e1 : upd (fun e => if e < i then S 7 (e + 275) else S 7 e) i (S 7 (i + 275)) = (fun e => if e < i + 1 then S 7 (e + 275) else S 7 e) := by
        funext e
        by_cases q : e = i
        · subst q
          simp [upd]
        · by_cases q1 : e < i
          · have q2 : e < i + 1 := by omega
            simp [upd, q, q1, q2]
          · have q2 : ¬ e < i + 1 := by omega
            simp [upd, q, q1, q2]
      rw [b_X7_keeps_19, o_X7_keeps_19, if_neg hle, show nI i + 275 = nI (i + 275) from nI_add i 275, nI_clamp (by omega), nI_clamp (by omega), r1, up_upA, e1]
      exact ⟨⟨fun e => absurd e hle, fun _ => ⟨vp_in_nI (by omega) (by omega), vp_in_nI (by omega) (by omega), J.1⟩⟩, J.2⟩
    · have hie : i = 1925 := by omega
      subst hie
      have hle : (1925 : Int32) ≤ nI 1925 := by decide
      rw [b_X7_keeps_19, o_X7_keeps_19, if_pos hle, hG, hO]
      exact ⟨⟨fun _ => ho, fun e => absurd hle e⟩, rfl⟩
end

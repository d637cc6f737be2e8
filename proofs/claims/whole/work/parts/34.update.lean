/-! UPDATES of the relation -/
def setV (V : Nat → Nat → Int32) (i : Nat) (g : Nat → Int32) : Nat → Nat → Int32 := fun a => if a = i then g else V a
theorem sv_ne {V : Nat → Nat → Int32} {i a : Nat} {g : Nat → Int32} (h : ¬ a = i) : setV V i g a = V a := by simp [setV, h]
theorem sv_at {V : Nat → Nat → Int32} {i : Nat} {g : Nat → Int32} : setV V i g i = g := by simp [setV]
theorem upV_set {V : Nat → Nat → Int32} {i k : Nat} {v : Int32} : upV V i k v = setV V i (upd (V i) k v) := by
  funext a c
  by_cases h : a = i
  · subst h
    by_cases h2 : c = k <;> simp [upV, setV, upd, h2]
  · simp [upV, setV, h]
theorem set_set {V : Nat → Nat → Int32} {i : Nat} {g g' : Nat → Int32} : setV (setV V i g) i g' = setV V i g' := by
  funext a
  by_cases h : a = i <;> simp [setV, h]
theorem set_comm {V : Nat → Nat → Int32} {i j : Nat} {g g' : Nat → Int32} (h : ¬ i = j) : setV (setV V i g) j g' = setV (setV V j g') i g := by
  funext a
  by_cases h1 : a = i
  · subst h1
    simp [setV, h]
  · simp [setV, h1]
section
variable {V U V' U' : Nat → Nat → Int32} {N pc hc uc ic hr : Nat}
theorem RS_c (h1 : V' 0 = V 0) (h2 : U' 0 = U 0) (h : RS V U N pc hc uc ic hr) : RS V' U' N pc hc uc ic hr := by
  unfold RS at *
  rw [h1, h2]
  exact h
theorem RW_c (h1 : V' 1 = V 1) (h2 : V' 2 = V 2) (h3 : U' 1 = U 1) (h4 : U' 2 = U 2) (h : RW V U) : RW V' U' := by
  unfold RW at *
  rw [h1, h2, h3, h4]
  exact h
theorem RU_c (h1 : V' 3 = V 3) (h2 : U' 3 = U 3) (h : RU V U uc) : RU V' U' uc := by
  unfold RU at *
  rw [h1, h2]
  exact h
theorem RP_c (h1 : ∀ p, p < 4 → V' (7 + p) = V (7 + p)) (h2 : ∀ p, p < 4 → U' (7 + p) = U (7 + p)) (h : RP V U pc) : RP V' U' pc := by
  intro p hp
  rw [h1 p hp, h2 p hp]
  exact h p hp
theorem RH_c (h1 : ∀ p, p < 5 → V' (11 + p) = V (11 + p)) (h2 : ∀ p, p < 5 → U' (11 + p) = U (11 + p)) (h : RH V U pc hc) : RH V' U' pc hc := by
  intro p hp
  rw [h1 p hp, h2 p hp]
  exact h p hp
theorem RI_c (h1 : ∀ k, k < 12 → V' (16 + k) = V (16 + k)) (h2 : ∀ k, k < 12 → U' (16 + k) = U (16 + k)) (h3 : ∀ k, k < 12 → V' (28 + k) = V (28 + k)) (h4 : ∀ k, k < 12 → U' (28 + k) = U (28 + k)) (h : RI V U pc uc ic) : RI V' U' pc uc ic := by
  intro p hp
  rw [h1 p hp, h2 p hp, h3 p hp, h4 p hp]
  exact h p hp
theorem RX_c (h1 : ∀ h, h < hc → U' (11 + h) = U (11 + h)) (h2 : ∀ k, k < ic → U' (16 + k) = U (16 + k)) (h : RX U hc ic) : RX U' hc ic := by
  intro a k ha hk
  rw [h1 a ha, h2 k hk]
  exact h a k ha hk
theorem sumOn_c {p : Int32} : ∀ n, (∀ k, k < n → U' (16 + k) = U (16 + k)) → sumOn U' p n = sumOn U p n := by
  intro n
  induction n with
  | zero => intro _; rfl
  | succ n ih =>
    intro h
    show sumOn U' p n + _ = sumOn U p n + _
    rw [ih (fun k hk => h k (by omega)), h n (by omega)]
theorem RB_c (h1 : ∀ p, p < pc → U' (7 + p) 4 = U (7 + p) 4) (h2 : ∀ k, k < ic → U' (16 + k) = U (16 + k)) (h : RB U pc ic) : RB U' pc ic := by
  intro p hp
  rw [h1 p hp, sumOn_c ic h2]
  exact h p hp
/-- one pitch changes, not its count of balls -/
theorem rg_P (R : Rg V U N pc hc uc ic hr) {p : Nat} {v u : Nat → Int32} (hp : p < pc) (h : RPl v u) (h4 : u 4 = U (7 + p) 4) : Rg (setV V (7 + p) v) (setV U (7 + p) u) N pc hc uc ic hr := by
  have hb := R.1.1
  obtain ⟨r1, r2, r3, r4, r5, r6, r7, r8⟩ := R
  refine ⟨RS_c (sv_ne (by omega)) (sv_ne (by omega)) r1, RW_c (sv_ne (by omega)) (sv_ne (by omega)) (sv_ne (by omega)) (sv_ne (by omega)) r2, RU_c (sv_ne (by omega)) (sv_ne (by omega)) r3, ?_, RH_c (fun x hx => sv_ne (by omega)) (fun x hx => sv_ne (by omega)) r5, RI_c (fun x hx => sv_ne (by omega)) (fun x hx => sv_ne (by omega)) (fun x hx => sv_ne (by omega)) (fun x hx => sv_ne (by omega)) r6, RX_c (fun x hx => sv_ne (by omega)) (fun x hx => sv_ne (by omega)) r7, RB_c (fun x hx => ?_) (fun x hx => sv_ne (by omega)) r8⟩
  · intro x hx
    by_cases e : x = p
    · subst e
      rw [sv_at, sv_at]
      exact ⟨fun _ => h, fun n => absurd hp n⟩
    · rw [sv_ne (by omega), sv_ne (by omega)]
      exact r4 x hx
  · by_cases e : x = p
    · subst e
      rw [sv_at]
      exact h4
    · rw [sv_ne (by omega)]
/-- one horse changes -/
theorem rg_H (R : Rg V U N pc hc uc ic hr) {j : Nat} {v u : Nat → Int32} (hj : j < hc) (h : RHl pc v u) (hX : ∀ k, k < ic → ¬ (¬ u 3 = 0 ∧ U (16 + k) 6 = 0 ∧ u 4 = U (16 + k) 0)) : Rg (setV V (11 + j) v) (setV U (11 + j) u) N pc hc uc ic hr := by
  have hb := R.1.1
  obtain ⟨r1, r2, r3, r4, r5, r6, r7, r8⟩ := R
  refine ⟨RS_c (sv_ne (by omega)) (sv_ne (by omega)) r1, RW_c (sv_ne (by omega)) (sv_ne (by omega)) (sv_ne (by omega)) (sv_ne (by omega)) r2, RU_c (sv_ne (by omega)) (sv_ne (by omega)) r3, RP_c (fun x hx => sv_ne (by omega)) (fun x hx => sv_ne (by omega)) r4, ?_, RI_c (fun x hx => sv_ne (by omega)) (fun x hx => sv_ne (by omega)) (fun x hx => sv_ne (by omega)) (fun x hx => sv_ne (by omega)) r6, ?_, RB_c (fun x hx => by rw [sv_ne (by omega)]) (fun x hx => sv_ne (by omega)) r8⟩
  · intro x hx
    by_cases e : x = j
    · subst e
      rw [sv_at, sv_at]
      exact ⟨fun _ => h, fun n => absurd hj n⟩
    · rw [sv_ne (by omega), sv_ne (by omega)]
      exact r5 x hx
  · intro a k ha hk
    rw [sv_ne (a := 16 + k) (by omega)]
    by_cases e : a = j
    · subst e
      rw [sv_at]
      exact hX k hk
    · rw [sv_ne (by omega)]
      exact r7 a k ha hk
/-- the number of a row that has a new pitch's count, of the same innings -/
theorem sumOn_up {p : Int32} {k : Nat} {u : Nat → Int32} (h0 : u 0 = U (16 + k) 0) : ∀ n, sumOn (setV U (16 + k) u) p n = (if k < n ∧ U (16 + k) 0 = p then sumOn U p n + (u 3 - U (16 + k) 3) else sumOn U p n) := by
  intro n
  induction n with
  | zero => simp [sumOn]
  | succ n ih =>
    show sumOn (setV U (16 + k) u) p n + (if setV U (16 + k) u (16 + n) 0 = p then setV U (16 + k) u (16 + n) 3 else 0) = _
    rw [ih]
    by_cases e : n = k
    · subst e
      rw [sv_at, if_neg (by omega), h0]
      by_cases e2 : U (16 + n) 0 = p
      · rw [if_pos e2, if_pos ⟨by omega, e2⟩]
        show _ = sumOn U p n + (if U (16 + n) 0 = p then U (16 + n) 3 else 0) + _
        rw [if_pos e2, Int32.add_assoc]
        congr 1
        rw [Int32.sub_eq_add_neg, Int32.add_comm (u 3), ← Int32.add_assoc, Int32.add_right_neg, Int32.zero_add]
      · rw [if_neg e2, if_neg (fun h => e2 h.2)]
        show _ = sumOn U p n + (if U (16 + n) 0 = p then U (16 + n) 3 else 0)
        rw [if_neg e2]
    · rw [sv_ne (by omega)]
      by_cases e2 : k < n ∧ U (16 + k) 0 = p
      · have e3 : k < n + 1 ∧ U (16 + k) 0 = p := ⟨by omega, e2.2⟩
        rw [if_pos e2, if_pos e3]
        show _ = sumOn U p n + (if U (16 + n) 0 = p then U (16 + n) 3 else 0) + _
        rw [Int32.add_assoc, Int32.add_assoc, Int32.add_comm (u 3 - U (16 + k) 3)]
      · have e3 : ¬ (k < n + 1 ∧ U (16 + k) 0 = p) := fun h => e2 ⟨by omega, h.2⟩
        rw [if_neg e2, if_neg e3]
        rfl
/-- a ball: an innings, its worths and its pitch change -/
theorem rg_I (R : Rg V U N pc hc uc ic hr) {k p : Nat} {v u w z v2 u2 : Nat → Int32} (hk : k < ic) (hp : p < pc) (h : RIl pc uc v u w z) (h2 : RPl v2 u2) (hp0 : U (16 + k) 0 = nI p) (h0 : u 0 = U (16 + k) 0) (h6 : u 6 = 0 → U (16 + k) 6 = 0) (h4 : u2 4 = U (7 + p) 4 + (u 3 - U (16 + k) 3)) : Rg (setV (setV (setV V (16 + k) v) (28 + k) w) (7 + p) v2) (setV (setV (setV U (16 + k) u) (28 + k) z) (7 + p) u2) N pc hc uc ic hr := by
  have hb := R.1.1
  obtain ⟨r1, r2, r3, r4, r5, r6, r7, r8⟩ := R
  have n7 : ∀ (W : Nat → Nat → Int32) (a b c : Nat → Int32) (x : Nat), ¬ x = 7 + p → ¬ x = 28 + k → ¬ x = 16 + k → setV (setV (setV W (16 + k) a) (28 + k) b) (7 + p) c x = W x := fun W a b c x e1 e2 e3 => by rw [sv_ne e1, sv_ne e2, sv_ne e3]
  refine ⟨RS_c (n7 _ _ _ _ _ (by omega) (by omega) (by omega)) (n7 _ _ _ _ _ (by omega) (by omega) (by omega)) r1, RW_c (n7 _ _ _ _ _ (by omega) (by omega) (by omega)) (n7 _ _ _ _ _ (by omega) (by omega) (by omega)) (n7 _ _ _ _ _ (by omega) (by omega) (by omega)) (n7 _ _ _ _ _ (by omega) (by omega) (by omega)) r2, RU_c (n7 _ _ _ _ _ (by omega) (by omega) (by omega)) (n7 _ _ _ _ _ (by omega) (by omega) (by omega)) r3, ?_, RH_c (fun x hx => n7 _ _ _ _ _ (by omega) (by omega) (by omega)) (fun x hx => n7 _ _ _ _ _ (by omega) (by omega) (by omega)) r5, ?_, ?_, ?_⟩
  · intro x hx
    by_cases e : x = p
    · subst e
      rw [sv_at, sv_at]
      exact ⟨fun _ => h2, fun n => absurd hp n⟩
    · rw [n7 _ _ _ _ _ (by omega) (by omega) (by omega), n7 _ _ _ _ _ (by omega) (by omega) (by omega)]
      exact r4 x hx
  · intro x hx
    by_cases e : x = k
    · subst e
      rw [sv_ne (a := 16 + x) (by omega), sv_ne (a := 16 + x) (by omega), sv_at, sv_ne (a := 16 + x) (by omega), sv_ne (a := 16 + x) (by omega), sv_at, sv_ne (a := 28 + x) (by omega), sv_at, sv_ne (a := 28 + x) (by omega), sv_at]
      exact ⟨fun _ => h, fun n => absurd hk n⟩
    · rw [n7 _ _ _ _ (16 + x) (by omega) (by omega) (by omega), n7 _ _ _ _ (16 + x) (by omega) (by omega) (by omega), n7 _ _ _ _ (28 + x) (by omega) (by omega) (by omega), n7 _ _ _ _ (28 + x) (by omega) (by omega) (by omega)]
      exact r6 x hx
  · intro a x ha hx
    rw [n7 _ _ _ _ (11 + a) (by omega) (by omega) (by omega)]
    by_cases e : x = k
    · subst e
      rw [sv_ne (a := 16 + x) (by omega), sv_ne (a := 16 + x) (by omega), sv_at]
      intro ⟨y1, y2, y3⟩
      exact r7 a x ha hx ⟨y1, h6 y2, by rw [y3, h0]⟩
    · rw [n7 _ _ _ _ (16 + x) (by omega) (by omega) (by omega)]
      exact r7 a x ha hx
  · intro x hx
    have e1 : sumOn (setV (setV (setV U (16 + k) u) (28 + k) z) (7 + p) u2) (nI x) ic = sumOn (setV U (16 + k) u) (nI x) ic := sumOn_c ic (fun y hy => by rw [sv_ne (by omega), sv_ne (by omega)])
    rw [e1, sumOn_up h0 ic, hp0]
    by_cases e : x = p
    · subst e
      rw [sv_at, if_pos ⟨hk, rfl⟩, ← r8 x hx]
      exact h4
    · have e3 : ¬ nI p = nI x := fun q => e ((nI_eq (by omega) (by omega)).mp q).symm
      rw [n7 _ _ _ _ _ (by omega) (by omega) (by omega), if_neg (fun q => e3 q.2)]
      exact r8 x hx
/-- the hour goes on -/
theorem rg_hour (R : Rg V U N pc hc uc ic hr) {hr' N' : Nat} {v u : Nat → Int32} (hh : hr' ≤ N') (h0 : v 0 = nI hr' ∧ u 0 = nI hr') (hv : ∀ k, ¬ k = 0 → v k = V 0 k) (hu : ∀ k, ¬ k = 0 → u k = U 0 k) : Rg (setV V 0 v) (setV U 0 u) N' pc hc uc ic hr' := by
  obtain ⟨r1, r2, r3, r4, r5, r6, r7, r8⟩ := R
  refine ⟨?_, RW_c (sv_ne (by omega)) (sv_ne (by omega)) (sv_ne (by omega)) (sv_ne (by omega)) r2, RU_c (sv_ne (by omega)) (sv_ne (by omega)) r3, RP_c (fun x hx => sv_ne (by omega)) (fun x hx => sv_ne (by omega)) r4, RH_c (fun x hx => sv_ne (by omega)) (fun x hx => sv_ne (by omega)) r5, RI_c (fun x hx => sv_ne (by omega)) (fun x hx => sv_ne (by omega)) (fun x hx => sv_ne (by omega)) (fun x hx => sv_ne (by omega)) r6, RX_c (fun x hx => sv_ne (by omega)) (fun x hx => sv_ne (by omega)) r7, RB_c (fun x hx => by rw [sv_ne (by omega)]) (fun x hx => sv_ne (by omega)) r8⟩
  unfold RS at *
  rw [sv_at, sv_at, hv 1 (by decide), hv 4 (by decide), hv 6 (by decide), hv 8 (by decide), hv 10 (by decide), hu 1 (by decide), hu 4 (by decide), hu 6 (by decide), hu 8 (by decide), hu 10 (by decide)]
  exact ⟨⟨r1.1.1, r1.1.2.1, r1.1.2.2.1, r1.1.2.2.2.1, hh⟩, h0, r1.2.2⟩
theorem rg_N (R : Rg V U N pc hc uc ic hr) {N' : Nat} (h : N ≤ N') : Rg V U N' pc hc uc ic hr := ⟨⟨⟨R.1.1.1, R.1.1.2.1, R.1.1.2.2.1, R.1.1.2.2.2.1, by have := R.1.1.2.2.2.2; omega⟩, R.1.2⟩, R.2⟩
theorem Rl_N {N' : Nat} (R : Rl N V U) (h : N ≤ N') : Rl N' V U := by
  obtain ⟨a, b, c, d, e, R⟩ := R
  exact ⟨a, b, c, d, e, rg_N R h⟩
/-- tea -/
theorem rg_tea (R : Rg V U N pc hc uc ic hr) {v u : Nat → Int32} (h1 : v 1 = u 1) (hv : ∀ k, ¬ k = 1 → v k = V 0 k) (hu : ∀ k, ¬ k = 1 → u k = U 0 k) : Rg (setV V 0 v) (setV U 0 u) N pc hc uc ic hr := by
  obtain ⟨r1, r2, r3, r4, r5, r6, r7, r8⟩ := R
  refine ⟨?_, RW_c (sv_ne (by omega)) (sv_ne (by omega)) (sv_ne (by omega)) (sv_ne (by omega)) r2, RU_c (sv_ne (by omega)) (sv_ne (by omega)) r3, RP_c (fun x hx => sv_ne (by omega)) (fun x hx => sv_ne (by omega)) r4, RH_c (fun x hx => sv_ne (by omega)) (fun x hx => sv_ne (by omega)) r5, RI_c (fun x hx => sv_ne (by omega)) (fun x hx => sv_ne (by omega)) (fun x hx => sv_ne (by omega)) (fun x hx => sv_ne (by omega)) r6, RX_c (fun x hx => sv_ne (by omega)) (fun x hx => sv_ne (by omega)) r7, RB_c (fun x hx => by rw [sv_ne (by omega)]) (fun x hx => sv_ne (by omega)) r8⟩
  unfold RS at *
  rw [sv_at, sv_at, hv 0 (by decide), hv 4 (by decide), hv 6 (by decide), hv 8 (by decide), hv 10 (by decide), hu 0 (by decide), hu 4 (by decide), hu 6 (by decide), hu 8 (by decide), hu 10 (by decide)]
  exact ⟨r1.1, r1.2.1, h1, r1.2.2.2⟩
/-- rain (1) or light (2) of an hour -/
theorem rg_W (R : Rg V U N pc hc uc ic hr) {i h : Nat} {x : Int32} (hi : i = 1 ∨ i = 2) (hx : sm 9 x) : Rg (upV V i h x) (upV U i h x) N pc hc uc ic hr := by
  rw [upV_set, upV_set]
  obtain ⟨r1, r2, r3, r4, r5, r6, r7, r8⟩ := R
  refine ⟨RS_c (sv_ne (by omega)) (sv_ne (by omega)) r1, ?_, RU_c (sv_ne (by omega)) (sv_ne (by omega)) r3, RP_c (fun x hx => sv_ne (by omega)) (fun x hx => sv_ne (by omega)) r4, RH_c (fun x hx => sv_ne (by omega)) (fun x hx => sv_ne (by omega)) r5, RI_c (fun x hx => sv_ne (by omega)) (fun x hx => sv_ne (by omega)) (fun x hx => sv_ne (by omega)) (fun x hx => sv_ne (by omega)) r6, RX_c (fun x hx => sv_ne (by omega)) (fun x hx => sv_ne (by omega)) r7, RB_c (fun x hx => by rw [sv_ne (by omega)]) (fun x hx => sv_ne (by omega)) r8⟩
  intro a ha
  have r := r2 a ha
  rcases hi with rfl | rfl
  · rw [sv_at, sv_at, sv_ne (by decide), sv_ne (by decide)]
    by_cases e : a = h
    · subst e
      simp only [upd, if_true]
      exact ⟨trivial, r.2.1, hx, r.2.2.2⟩
    · simp only [upd, e, if_false]
      exact r
  · rw [sv_at, sv_at, sv_ne (by decide), sv_ne (by decide)]
    by_cases e : a = h
    · subst e
      simp only [upd, if_true]
      exact ⟨r.1, trivial, r.2.2.1, hx⟩
    · simp only [upd, e, if_false]
      exact r
end

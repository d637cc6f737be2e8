/-! THE UNIVERSE AT THE START -/
def S0k (K k : Nat) : Int32 := match K with
  | 0 => if k = 1 then 16 else 0
  | 2 => if 6 ≤ k ∧ k < 20 then 7 else 0
  | 7 => if k = 0 then 20 else if k = 1 then 10 else 0
  | 20 => if k = 6 ∨ k = 7 then -1 else 0
  | 23 => if k = 2 then -1 else 0
  | 25 => if k = 14 then -1 else 0
  | 26 => if k = 1 then 16 else if 32 ≤ k ∧ k < 26 + 20 then 7 else 0
  | _ => 0
def S0 : Sx := fun j k => S0k (kd j) k
theorem S0_k {j K : Nat} (h : kd j = K) : S0 j = S0k K := by
  subst h
  rfl
theorem inv_0 : Inv 0 S0 S0 := by
  refine ⟨⟨0, 0, 0, 0, 0, ?_, ?_, ?_, ?_, ?_, ?_, ?_, ?_⟩, ⟨by decide, fun h => absurd (by decide) h⟩, ⟨0, 0, by decide, by decide, by decide, by decide, by decide, fun k hk => absurd hk (by omega)⟩, Or.inl ⟨by decide, by decide⟩, ⟨0, by decide, by decide, by decide, fun k hk => absurd hk (by omega)⟩, by decide, by decide⟩
  · unfold RS
    decide +kernel
  · have h : ∀ h, h < 24 → vw S0 15 1 h = dR (S0 6) 1 h ∧ vw S0 15 2 h = dR (S0 6) 2 h ∧ dR (S0 6) 1 h = nI 0 ∧ (dR (S0 6) 2 h = nI 0 ∨ dR (S0 6) 2 h = nI 7) := by decide +kernel
    intro k hk
    obtain ⟨h1, h2, h3, h4⟩ := h k hk
    refine ⟨h1, h2, ⟨0, by decide, h3⟩, ?_⟩
    rcases h4 with h4 | h4
    · exact ⟨0, by decide, h4⟩
    · exact ⟨7, by decide, h4⟩
  · exact fun u hu => absurd hu (by omega)
  · have h : ∀ p, p < 4 → (vw S0 15 (7 + p) 0 = 20 ∧ vw S0 15 (7 + p) 1 = 10 ∧ vw S0 15 (7 + p) 2 = 0 ∧ vw S0 15 (7 + p) 3 = 0 ∧ vw S0 15 (7 + p) 4 = 0) := by decide +kernel
    exact fun p hp => ⟨fun q => absurd q (by omega), fun _ => h p hp⟩
  · have h : ∀ p, p < 5 → (vw S0 15 (11 + p) 2 = 0 ∧ vw S0 15 (11 + p) 3 = 0 ∧ vw S0 15 (11 + p) 5 = 0) := by decide +kernel
    exact fun p hp => ⟨fun q => absurd q (by omega), fun _ => h p hp⟩
  · have h : ∀ p, p < 12 → (vw S0 15 (16 + p) 3 = 0 ∧ vw S0 15 (16 + p) 4 = 0 ∧ vw S0 15 (16 + p) 5 = 0 ∧ vw S0 15 (16 + p) 6 = 0 ∧ ∀ j, j < 7 → vw S0 15 (28 + p) j = 0) := by decide +kernel
    exact fun p hp => ⟨fun q => absurd q (by omega), fun _ => h p hp⟩
  · exact fun h k hh => absurd hh (by omega)
  · exact fun p hp => absurd hp (by omega)
def ofr (r : Nat) : Nat := if r = 3 then 5 else if r = 4 then 3 else if r = 5 then 4 else if r < 16 then r else if r < 28 then 16 + 2 * (r - 16) else 17 + 2 * (r - 28)
def bs (g : Nat) : Nat := if g < 3 then 1 + 40 * g else 3 + 40 * g
def off (j : Nat) : Nat := if j = 0 then 0 else if j = 1 then 121 else if j = 2 then 122 else if j = 3 then 443 else if j = 4 then 444 else if j < 15 then 440 + j else bs ((j - 15) / 40) + ofr ((j - 15) % 40)
def fri (x : Nat) : Nat := if x < 3 then x else if x = 3 then 4 else if x = 4 then 5 else if x = 5 then 3 else if x < 16 then x else if x % 2 = 0 then 16 + (x - 16) / 2 else 28 + (x - 17) / 2
def fof (o : Nat) : Nat := if o = 0 then 0 else if o < 121 then 15 + 40 * ((o - 1) / 40) + fri ((o - 1) % 40) else if o = 121 then 1 else if o = 122 then 2 else if o < 443 then 135 + 40 * ((o - 123) / 40) + fri ((o - 123) % 40) else if o = 443 then 3 else if o = 444 then 4 else o - 440
theorem off_fof : ∀ j, j < 455 → fof (off j) = j ∧ off j < 455 := by decide +kernel
def adB (B j : Nat) : Nat := B + off j
theorem adB_inj {B : Nat} : inj4 (adB B) := fun i j hi hj h => by
  have h2 : off i = off j := by
    unfold adB at h
    omega
  rw [← (off_fof i hi).1, ← (off_fof j hj).1, h2]
theorem off_g {g r : Nat} (hr : r < 40) : off (15 + 40 * g + r) = bs g + ofr r := by
  unfold off
  rw [if_neg (by omega), if_neg (by omega), if_neg (by omega), if_neg (by omega), if_neg (by omega), if_neg (by omega), show (15 + 40 * g + r - 15) / 40 = g by omega, show (15 + 40 * g + r - 15) % 40 = r by omega]
theorem adB_gk {B g r k : Nat} (hr : r + k < 40) : adB B (15 + 40 * g + r + k) = B + bs g + ofr (r + k) := by
  unfold adB
  rw [show 15 + 40 * g + r + k = 15 + 40 * g + (r + k) by omega, off_g hr]
  omega
theorem kd_g {g r : Nat} (hr : r < 40) : kd (15 + 40 * g + r) = if r < 7 then r else if r < 11 then 7 else if r < 16 then 8 else if r < 28 then 9 else 10 := by
  unfold kd
  rw [if_neg (by omega), show (15 + 40 * g + r - 15) % 40 = r by omega]
/-- the cells as they were made -/
def fcel (q : Nat → ClassId) (B i : Nat) : va_E :=
  if i < 445 then xcel q B [.ref (B + 1), .ref (B + 41), .ref (B + 81), .int 0, .ref (B + 121), .ref (B + 443), .int (-1), .int (-1)] i
  else if i < 453 then mcel q (B + 445) 20 (i - 445)
  else if i = 453 then .inl (q 6, 1, .inr (.inl (fun _ => 0)))
  else .inl (q 7, 1, .inr (.inr (.inr (.inl (fun _ => 0)))))
theorem ofr_lt {r : Nat} (h : r < 40) : ofr r < 40 := by
  unfold ofr
  repeat' split
  all_goals omega
theorem fcel_g {q : Nat → ClassId} {B g r : Nat} (hg : g < 11) (hr : r < 40) : fcel q B (off (15 + 40 * g + r)) = gcel q (B + bs g) 20 4 5 12 (ofr r) := by
  have ho := ofr_lt hr
  rw [off_g hr]
  unfold fcel bs
  by_cases h3 : g < 3
  · rw [if_pos h3, if_pos (by omega)]
    exact (xcel_g h3 ho).symm
  · rw [if_neg h3, if_pos (by omega)]
    obtain ⟨k, rfl⟩ : ∃ k, g = 3 + k := ⟨g - 3, by omega⟩
    rw [show 3 + 40 * (3 + k) + ofr r = 121 + (2 + 40 * k + ofr r) by omega, ← xcel_p (by omega), pcel_g ho, show B + 121 + (2 + 40 * k) = B + (3 + 40 * (3 + k)) by omega]
/-- one cell for another that says the same -/
def EqC (e e' : va_E) : Prop := ∀ (D : va_G) (x : Nat) (H : Heap), va_at D vCl (x, e) H → va_at D vCl (x, e') H
theorem EqC.of {e e' : va_E} (h : e = e') : EqC e e' := by
  subst h
  exact fun _ _ _ h => h
theorem arrV_cg {cI : ClassId} {N : Nat} {f g : Nat → Value} (h : ∀ j, j < N → f j = g j) : arrV cI N f = arrV cI N g := by
  have e : (fun j : Fin N => f j.val) = (fun j : Fin N => g j.val) := funext fun j => h j.1 j.2
  unfold arrV
  rw [e]
theorem EqC.ob {cA : ClassId} {n : Nat} {f g : Nat → Option Nat} (h : ∀ k, k < n → f k = g k) : EqC (.inl (cA, n, .inr (.inr (.inr (.inr f))))) (.inl (cA, n, .inr (.inr (.inr (.inr g))))) := by
  intro D x H hx
  have e : vp_cell cA (n, .inr (.inr (.inr (.inr f)))) = vp_cell cA (n, .inr (.inr (.inr (.inr g)))) := by
    show arrV cA n (fun j => va_rf (f j)) = arrV cA n (fun j => va_rf (g j))
    refine arrV_cg (fun j hj => ?_)
    show va_rf (f j) = va_rf (g j)
    rw [h j hj]
  show H[x]? = some (vp_cell cA (n, .inr (.inr (.inr (.inr g)))))
  rw [← e]
  exact hx
theorem ofr_id {r : Nat} (h1 : 6 ≤ r) (h2 : r < 16) : ofr r = r := by
  unfold ofr
  rw [if_neg (by omega), if_neg (by omega), if_neg (by omega), if_pos h2]
theorem ofr_i {k : Nat} (h : k < 12) : ofr (16 + k) = 16 + 2 * k := by
  unfold ofr
  rw [if_neg (by omega), if_neg (by omega), if_neg (by omega), if_neg (by omega), if_pos (by omega)]
  omega
theorem ofr_w {k : Nat} : ofr (28 + k) = 16 + 2 * k + 1 := by
  unfold ofr
  rw [if_neg (by omega), if_neg (by omega), if_neg (by omega), if_neg (by omega), if_neg (by omega)]
  omega
theorem cv_g {q : Nat → ClassId} {B g r : Nat} (hg : g < 11) (hr : r < 40) : EqC (fcel q B (off (15 + 40 * g + r))) (cellU (adB B) q 0 S0 (15 + 40 * g + r)) := by
  rw [fcel_g hg hr]
  have hk := kd_g (g := g) hr
  have hj : 15 + 40 * g + r < 455 := by omega
  have h4 : r = 0 ∨ r = 1 ∨ r = 2 ∨ r = 3 ∨ r = 4 ∨ r = 5 ∨ r = 6 ∨ r = 7 ∨ r = 8 ∨ r = 9 ∨ r = 10 ∨ r = 11 ∨ r = 12 ∨ r = 13 ∨ r = 14 ∨ r = 15 ∨ (∃ k, k < 12 ∧ r = 16 + k) ∨ (∃ k, k < 12 ∧ r = 28 + k) := by
    by_cases h1 : r < 16
    · omega
    · by_cases h2 : r < 28
      · have : ∃ k, k < 12 ∧ r = 16 + k := ⟨r - 16, by omega, by omega⟩
        simp [this]
      · have : ∃ k, k < 12 ∧ r = 28 + k := ⟨r - 28, by omega, by omega⟩
        simp [this]
  rcases h4 with rfl | rfl | rfl | rfl | rfl | rfl | rfl | rfl | rfl | rfl | rfl | rfl | rfl | rfl | rfl | rfl | ⟨k, hk2, rfl⟩ | ⟨k, hk2, rfl⟩
  · have h : isK 0 (15 + 40 * g + 0) := ⟨hj, hk⟩
    rw [cl_0 h, S0_k h.2, adB_gk (by decide), adB_gk (by decide), adB_gk (by decide), adB_gk (by decide), adB_gk (by decide), adB_gk (by decide)]
    exact EqC.of rfl
  · have h : isK 1 (15 + 40 * g + 1) := ⟨hj, hk⟩
    rw [cl_1 h, S0_k h.2]
    exact EqC.of rfl
  · have h : isK 2 (15 + 40 * g + 2) := ⟨hj, hk⟩
    rw [cl_2 h, S0_k h.2]
    exact EqC.of rfl
  · have h : isK 3 (15 + 40 * g + 3) := ⟨hj, hk⟩
    rw [cl_3 h, S0_k h.2]
    exact EqC.of rfl
  · have h : isK 4 (15 + 40 * g + 4) := ⟨hj, hk⟩
    rw [cl_4 h]
    refine EqC.ob (f := fun k => if k < 4 then some (B + bs g + (7 + k)) else none) (fun k hk3 => ?_)
    rw [if_pos hk3, show 15 + 40 * g + 4 + 3 + k = 15 + 40 * g + 4 + (3 + k) by omega, adB_gk (by omega), ofr_id (by omega) (by omega)]
    congr 1
    omega
  · have h : isK 5 (15 + 40 * g + 5) := ⟨hj, hk⟩
    rw [cl_5 h]
    refine EqC.ob (f := fun k => if k < 5 then some (B + bs g + (11 + k)) else none) (fun k hk3 => ?_)
    rw [if_pos hk3, show 15 + 40 * g + 5 + 6 + k = 15 + 40 * g + 5 + (6 + k) by omega, adB_gk (by omega), ofr_id (by omega) (by omega)]
    congr 1
    omega
  · have h : isK 6 (15 + 40 * g + 6) := ⟨hj, hk⟩
    rw [cl_6 h]
    refine EqC.ob (f := fun k => if k < 12 then some (B + bs g + (16 + 2 * k)) else none) (fun k hk3 => ?_)
    rw [if_pos hk3, show 15 + 40 * g + 6 + 10 + k = 15 + 40 * g + 6 + (10 + k) by omega, adB_gk (by omega), show 6 + (10 + k) = 16 + k by omega, ofr_i hk3]
  · have h : isK 7 (15 + 40 * g + 7) := ⟨hj, hk⟩
    rw [cl_7 h, S0_k h.2]
    exact EqC.of rfl
  · have h : isK 7 (15 + 40 * g + 8) := ⟨hj, hk⟩
    rw [cl_7 h, S0_k h.2]
    exact EqC.of rfl
  · have h : isK 7 (15 + 40 * g + 9) := ⟨hj, hk⟩
    rw [cl_7 h, S0_k h.2]
    exact EqC.of rfl
  · have h : isK 7 (15 + 40 * g + 10) := ⟨hj, hk⟩
    rw [cl_7 h, S0_k h.2]
    exact EqC.of rfl
  · have h : isK 8 (15 + 40 * g + 11) := ⟨hj, hk⟩
    rw [cl_8 h, S0_k h.2]
    exact EqC.of rfl
  · have h : isK 8 (15 + 40 * g + 12) := ⟨hj, hk⟩
    rw [cl_8 h, S0_k h.2]
    exact EqC.of rfl
  · have h : isK 8 (15 + 40 * g + 13) := ⟨hj, hk⟩
    rw [cl_8 h, S0_k h.2]
    exact EqC.of rfl
  · have h : isK 8 (15 + 40 * g + 14) := ⟨hj, hk⟩
    rw [cl_8 h, S0_k h.2]
    exact EqC.of rfl
  · have h : isK 8 (15 + 40 * g + 15) := ⟨hj, hk⟩
    rw [cl_8 h, S0_k h.2]
    exact EqC.of rfl
  · rw [if_neg (by omega), if_neg (by omega), if_neg (by omega), if_pos (by omega)] at hk
    have h : isK 9 (15 + 40 * g + (16 + k)) := ⟨hj, hk⟩
    rw [cl_9 h, S0_k h.2, adB_gk (by omega), ofr_i hk2, gcel_inn, show 16 + k + 12 = 28 + k by omega, ofr_w]
    exact EqC.of rfl
  · rw [if_neg (by omega), if_neg (by omega), if_neg (by omega), if_neg (by omega)] at hk
    have h : isK 10 (15 + 40 * g + (28 + k)) := ⟨hj, hk⟩
    rw [cl_10 h, S0_k h.2, ofr_w, gcel_inn1]
    exact EqC.of rfl
theorem cv {q : Nat → ClassId} {B j : Nat} (hj : j < 455) : EqC (fcel q B (off j)) (cellU (adB B) q 0 S0 j) := by
  by_cases h15 : j < 15
  · have h4 : j = 0 ∨ j = 1 ∨ j = 2 ∨ j = 3 ∨ j = 4 ∨ j = 5 ∨ j = 6 ∨ j = 7 ∨ j = 8 ∨ j = 9 ∨ j = 10 ∨ j = 11 ∨ j = 12 ∨ j = 13 ∨ j = 14 := by omega
    rcases h4 with rfl | rfl | rfl | rfl | rfl | rfl | rfl | rfl | rfl | rfl | rfl | rfl | rfl | rfl | rfl
    · exact EqC.of rfl
    · exact EqC.of rfl
    · refine EqC.ob (f := fun k => if k < 8 then some (B + 121 + (2 + 40 * k)) else none) (g := fun k => some (adB B (135 + 40 * k))) (n := 8) (cA := q 4) (fun k hk3 => ?_)
      rw [if_pos hk3]
      unfold adB
      have e := off_g (g := 3 + k) (r := 0) (by decide)
      rw [show 15 + 40 * (3 + k) + 0 = 135 + 40 * k by omega] at e
      rw [e]
      unfold bs
      rw [if_neg (by omega)]
      have e0 : ofr 0 = 0 := rfl
      rw [e0]
      congr 1
      omega
    · exact EqC.of rfl
    · exact EqC.of rfl
    · exact EqC.of rfl
    · exact EqC.of rfl
    · exact EqC.of rfl
    · exact EqC.of rfl
    · exact EqC.of rfl
    · exact EqC.of rfl
    · exact EqC.of rfl
    · exact EqC.of rfl
    · exact EqC.of rfl
    · exact EqC.of rfl
  · have e : j = 15 + 40 * ((j - 15) / 40) + (j - 15) % 40 := by omega
    rw [e]
    exact cv_g (by omega) (by omega)
theorem cv_P {D : va_G} {q : Nat → ClassId} {B : Nat} {H : Heap} (h : va_P D vCl (gw B 455 (fcel q B)) H) : va_P D vCl (wdU (adB B) q 0 S0) H := by
  intro k x hx
  obtain ⟨hk, rfl⟩ := wd_inv hx
  exact cv hk D _ H (h (off k) _ (gw_at (off_fof k hk).2))

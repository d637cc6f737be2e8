/-! THE RELATION between a ground's view V and a row's view U -/
def sm (n : Nat) (x : Int32) : Prop := ∃ j, j ≤ n ∧ x = nI j
def over (v : Nat → Int32) : Int32 := if v 6 = 0 then (if v 2 ≤ v 3 then 1 else if v 5 < 10 then 0 else 1) else 1
def RS (V U : Nat → Nat → Int32) (N pc hc uc ic hr : Nat) : Prop := (pc ≤ 4 ∧ hc ≤ 5 ∧ uc ≤ 3 ∧ ic ≤ 12 ∧ hr ≤ N) ∧ (V 0 0 = nI hr ∧ U 0 0 = nI hr) ∧ (V 0 1 = U 0 1) ∧ (V 0 4 = nI pc ∧ U 0 4 = nI pc) ∧ (V 0 6 = nI hc ∧ U 0 6 = nI hc) ∧ (V 0 8 = nI uc ∧ U 0 8 = nI uc) ∧ (V 0 10 = nI ic ∧ U 0 10 = nI ic)
def RW (V U : Nat → Nat → Int32) : Prop := ∀ h, h < 24 → V 1 h = U 1 h ∧ V 2 h = U 2 h ∧ sm 9 (U 1 h) ∧ sm 9 (U 2 h)
def RU (V U : Nat → Nat → Int32) (uc : Nat) : Prop := ∀ u, u < uc → V 3 u = U 3 u
def RPl (v u : Nat → Int32) : Prop := (v 0 = u 0 ∧ v 1 = u 1 ∧ v 2 = u 2 ∧ v 3 = u 3 ∧ v 4 = u 4) ∧ sm 99 (u 0) ∧ sm 99 (u 1) ∧ sm 99 (u 2) ∧ bz (u 3)
def RPd (v : Nat → Int32) : Prop := v 0 = 20 ∧ v 1 = 10 ∧ v 2 = 0 ∧ v 3 = 0 ∧ v 4 = 0
def RP (V U : Nat → Nat → Int32) (pc : Nat) : Prop := ∀ p, p < 4 → (p < pc → RPl (V (7 + p)) (U (7 + p))) ∧ (¬ p < pc → RPd (V (7 + p)))
def RHl (pc : Nat) (v u : Nat → Int32) : Prop := (v 0 = u 0 ∧ v 1 = u 1 ∧ v 2 = u 2 ∧ v 3 = u 3 ∧ v 5 = u 5) ∧ bz (u 1) ∧ sm 9 (u 0) ∧ sm 20 (u 2) ∧ sm 6 (u 3) ∧ ((u 3 = 0 ∧ u 4 = -1) ∨ (¬ u 3 = 0 ∧ v 4 = u 4 ∧ ∃ p, p < pc ∧ u 4 = nI p))
def RHd (v : Nat → Int32) : Prop := v 2 = 0 ∧ v 3 = 0 ∧ v 5 = 0
def RH (V U : Nat → Nat → Int32) (pc hc : Nat) : Prop := ∀ h, h < 5 → (h < hc → RHl pc (V (11 + h)) (U (11 + h))) ∧ (¬ h < hc → RHd (V (11 + h)))
def RIl (pc uc : Nat) (v u w z : Nat → Int32) : Prop := (v 0 = u 0 ∧ v 1 = u 1 ∧ v 2 = u 2 ∧ v 3 = u 3 ∧ v 4 = u 4 ∧ v 5 = u 5) ∧ (u 6 = over v ∧ (∃ p, p < pc ∧ u 0 = nI p) ∧ (∃ x, x < uc ∧ u 1 = nI x)) ∧ (∃ F n k, u 2 = nI F ∧ u 3 = nI n ∧ u 5 = nI k ∧ n ≤ F ∧ F ≤ 120 ∧ k ≤ 10) ∧ (∀ j, j < 7 → w j = z j) ∧ (u 4 = z 1 + 2 * z 2 + 3 * z 3 + 4 * z 4 + 6 * z 6 ∧ u 5 = z 5 ∧ u 3 = z 0 + z 1 + z 2 + z 3 + z 4 + z 5 + z 6)
def RId (v w : Nat → Int32) : Prop := v 3 = 0 ∧ v 4 = 0 ∧ v 5 = 0 ∧ v 6 = 0 ∧ ∀ j, j < 7 → w j = 0
def RI (V U : Nat → Nat → Int32) (pc uc ic : Nat) : Prop := ∀ k, k < 12 → (k < ic → RIl pc uc (V (16 + k)) (U (16 + k)) (V (28 + k)) (U (28 + k))) ∧ (¬ k < ic → RId (V (16 + k)) (V (28 + k)))
def RX (U : Nat → Nat → Int32) (hc ic : Nat) : Prop := ∀ h k, h < hc → k < ic → ¬ (¬ U (11 + h) 3 = 0 ∧ U (16 + k) 6 = 0 ∧ U (11 + h) 4 = U (16 + k) 0)
def sumOn (U : Nat → Nat → Int32) (p : Int32) : Nat → Int32
  | 0 => 0
  | n + 1 => sumOn U p n + (if U (16 + n) 0 = p then U (16 + n) 3 else 0)
def RB (U : Nat → Nat → Int32) (pc ic : Nat) : Prop := ∀ p, p < pc → U (7 + p) 4 = sumOn U (nI p) ic
def Rg (V U : Nat → Nat → Int32) (N pc hc uc ic hr : Nat) : Prop := RS V U N pc hc uc ic hr ∧ RW V U ∧ RU V U uc ∧ RP V U pc ∧ RH V U pc hc ∧ RI V U pc uc ic ∧ RX U hc ic ∧ RB U pc ic
def Rl (N : Nat) (V U : Nat → Nat → Int32) : Prop := ∃ pc hc uc ic hr, Rg V U N pc hc uc ic hr
theorem nle {a c : Nat} (h : c < a) (ha : a < 2 ^ 31 := by omega) : ¬ nI a ≤ nI c := nI_ge h ha
theorem sm_n {n : Nat} {x : Int32} (h : sm n x) (hn : n < 2 ^ 31) : ∃ j, j ≤ n ∧ x = nI j ∧ x.toNatClampNeg = j := by
  obtain ⟨j, h1, h2⟩ := h
  exact ⟨j, h1, h2, cl_n (by omega) h2⟩
theorem sm_le0 {n : Nat} {x : Int32} (h : sm n x) (hn : n < 2 ^ 31) : x ≤ 0 ↔ x = 0 := by
  obtain ⟨j, h1, rfl⟩ := h
  rw [← nI_0, nI_leI (by omega) (by decide), nI_eq (by omega) (by decide)]
  omega
/-- a number that the verdicts let through -/
theorem num_in {x : Int32} {c : Nat} (hc : c < 2 ^ 31) (h0 : ¬ x < 0) (h1 : ¬ nI c ≤ x) : ∃ j, j < c ∧ x = nI j := by
  obtain ⟨j, hj, rfl⟩ := nI_of h0
  rw [nI_leI hc hj] at h1
  exact ⟨j, by omega, rfl⟩
theorem rng_in {x : Int32} {a c : Nat} (ha : a < 2 ^ 31) (hc : c < 2 ^ 31) (h0 : ¬ x < nI a) (h1 : ¬ nI c < x) : ∃ j, a ≤ j ∧ j ≤ c ∧ x = nI j := by
  have h2 : ¬ x < 0 := fun h => h0 (Int32.lt_of_lt_of_le h (nI_pos' ha))
  obtain ⟨j, hj, rfl⟩ := nI_of h2
  rw [nI_ltI hj ha] at h0
  rw [nI_ltI hc hj] at h1
  exact ⟨j, by omega, by omega, rfl⟩
theorem nI_subI {a c : Nat} (h : c ≤ a) : nI a - nI c = nI (a - c) := by
  have e : nI a = nI (a - c) + nI c := by rw [nI_add]; congr 1; omega
  rw [e, Int32.add_sub_cancel]
theorem nI_m1 {a : Nat} (h : a < 2 ^ 31) : ¬ nI a = -1 := fun e => nI_pos h (by rw [e]; decide)
theorem m1_lt : ((-1 : Int32) < 0) := by decide
/-- class's numberVerdict and reference's in -/
theorem vd_num {x : Int32} {c : Nat} {C M : Sx} (hc : c < 2 ^ 30) : (b_X6_numberVerdict_0 x (nI c) C = 0 ∧ b_X7_in_0 x 0 (nI c - 1) M = 1 ∧ ∃ j, j < c ∧ x = nI j) ∨ (b_X6_numberVerdict_0 x (nI c) C = -1 ∧ b_X7_in_0 x 0 (nI c - 1) M = 0) := by
  unfold b_X6_numberVerdict_0 b_X6_numberVerdict_13 b_X6_numberVerdict_14 b_X7_in_0 b_X7_in_14 b_X7_in_15
  by_cases h0 : x < 0
  · rw [if_pos h0, if_pos h0]
    exact Or.inr ⟨rfl, rfl⟩
  · rw [if_neg h0, if_neg h0]
    obtain ⟨j, hj, rfl⟩ := nI_of h0
    by_cases h1 : c ≤ j
    · rw [if_pos (nI_le h1 hj)]
      have h2 : nI c - 1 < nI j := by
        rcases Nat.eq_zero_or_pos c with rfl | h3
        · exact Int32.lt_of_lt_of_le (by decide) (nI_pos' hj)
        · rw [show (1 : Int32) = nI 1 from rfl, nI_subI h3]
          exact nI_lt (by omega) hj
      rw [if_pos h2]
      exact Or.inr ⟨rfl, rfl⟩
    · rw [if_neg (nI_ge (by omega) (by omega))]
      have h2 : ¬ nI c - 1 < nI j := by
        rw [show (1 : Int32) = nI 1 from rfl, nI_subI (by omega)]
        exact nI_nlt (by omega) (by omega)
      rw [if_neg h2]
      exact Or.inl ⟨rfl, rfl, j, by omega, rfl⟩
theorem vd_rng {x : Int32} {a c : Nat} {C M : Sx} (ha : a < 2 ^ 30) (hc : c < 2 ^ 30) : (b_X6_rangeVerdict_0 x (nI a) (nI c) C = 0 ∧ b_X7_in_0 x (nI a) (nI c) M = 1 ∧ ∃ j, a ≤ j ∧ j ≤ c ∧ x = nI j) ∨ (b_X6_rangeVerdict_0 x (nI a) (nI c) C = -2 ∧ b_X7_in_0 x (nI a) (nI c) M = 0) := by
  unfold b_X6_rangeVerdict_0 b_X6_rangeVerdict_14 b_X6_rangeVerdict_16 b_X7_in_0 b_X7_in_14 b_X7_in_15
  by_cases h0 : x < nI a
  · rw [if_pos h0, if_pos h0]
    exact Or.inr ⟨rfl, rfl⟩
  · rw [if_neg h0, if_neg h0]
    by_cases h1 : nI c < x
    · rw [if_pos h1, if_pos h1]
      exact Or.inr ⟨rfl, rfl⟩
    · rw [if_neg h1, if_neg h1]
      exact Or.inl ⟨rfl, rfl, rng_in (by omega) (by omega) h0 h1⟩
theorem vd_hour {x : Int32} {C M : Sx} : (b_X6_hourVerdict_0 x C = 0 ∧ b_X7_isHour_0 x M = 1 ∧ ∃ j, j < 24 ∧ x = nI j) ∨ (b_X6_hourVerdict_0 x C = -1 ∧ b_X7_isHour_0 x M = 0) := vd_num (c := 24) (by decide)
theorem modI {a k : Nat} (h : a < 2 ^ 31) (hk : 0 < k) (hk2 : k < 2 ^ 31) : i_rem (nI a) (nI k) = nI (a % k) := pk_rem h hk hk2

/-! THE PURE PART. Views: what a ground (class) or a row (reference) says, by local cell and slot -/
def rel (i k : Nat) : Bool := if i = 0 then (k == 0 || k == 1 || k == 4 || k == 6 || k == 8 || k == 10) else if i < 3 then decide (k < 24) else if i = 3 then decide (k < 3) else if i < 7 then false else if i < 11 then decide (k < 5) else if i < 16 then decide (k < 6) else if i < 40 then decide (k < 7) else false
def isb (i k : Nat) : Bool := if i < 7 then false else if i < 11 then k == 3 else if i < 16 then k == 1 else if i < 28 then k == 6 else false
def vw (C : Sx) (b i k : Nat) : Int32 := if rel i k = true then (if isb i k = true then nb (C (b + i) k) else C (b + i) k) else 0
def pos (i k : Nat) : Nat := if i = 0 then (if k < 2 then k else if k = 4 then 50 else if k = 6 then 71 else if k = 8 then 102 else 106) else if i = 1 then 2 + k else if i = 2 then 26 + k else if i = 3 then 103 + k else if i < 11 then 51 + 5 * (i - 7) + k else if i < 16 then 72 + 6 * (i - 11) + k else if i < 28 then 107 + 14 * (i - 16) + k else 114 + 14 * (i - 28) + k
def dR (F : Nat → Int32) (i k : Nat) : Int32 := if rel i k = true then F (pos i k) else 0
def upV (V : Nat → Nat → Int32) (i k : Nat) (v : Int32) : Nat → Nat → Int32 := fun a c => if a = i ∧ c = k then v else V a c
theorem rel_c {i k : Nat} (h : rel i k = true) : (i = 0 ∧ (k = 0 ∨ k = 1 ∨ k = 4 ∨ k = 6 ∨ k = 8 ∨ k = 10)) ∨ (i = 1 ∧ k < 24) ∨ (i = 2 ∧ k < 24) ∨ (i = 3 ∧ k < 3) ∨ (7 ≤ i ∧ i < 11 ∧ k < 5) ∨ (11 ≤ i ∧ i < 16 ∧ k < 6) ∨ (16 ≤ i ∧ i < 28 ∧ k < 7) ∨ (28 ≤ i ∧ i < 40 ∧ k < 7) := by
  unfold rel at h
  repeat' split at h
  all_goals simp at h
  all_goals omega
theorem pos_P {p f : Nat} (hp : p < 4) : pos (7 + p) f = 51 + 5 * p + f := by
  unfold pos
  repeat' split
  all_goals omega
theorem pos_H {h f : Nat} (hp : h < 5) : pos (11 + h) f = 72 + 6 * h + f := by
  unfold pos
  repeat' split
  all_goals omega
theorem pos_I {k f : Nat} (hp : k < 12) : pos (16 + k) f = 107 + 14 * k + f := by
  unfold pos
  repeat' split
  all_goals omega
theorem pos_O {k f : Nat} (hp : k < 12) : pos (28 + k) f = 114 + 14 * k + f := by
  unfold pos
  repeat' split
  all_goals omega
theorem pos_v {i k : Nat} (h : rel i k = true) : (i = 0 ∧ ((k = 0 ∧ pos i k = 0) ∨ (k = 1 ∧ pos i k = 1) ∨ (k = 4 ∧ pos i k = 50) ∨ (k = 6 ∧ pos i k = 71) ∨ (k = 8 ∧ pos i k = 102) ∨ (k = 10 ∧ pos i k = 106))) ∨ (i = 1 ∧ k < 24 ∧ pos i k = 2 + k) ∨ (i = 2 ∧ k < 24 ∧ pos i k = 26 + k) ∨ (i = 3 ∧ k < 3 ∧ pos i k = 103 + k) ∨ (∃ p, p < 4 ∧ i = 7 + p ∧ k < 5 ∧ pos i k = 51 + 5 * p + k) ∨ (∃ p, p < 5 ∧ i = 11 + p ∧ k < 6 ∧ pos i k = 72 + 6 * p + k) ∨ (∃ p, p < 12 ∧ i = 16 + p ∧ k < 7 ∧ pos i k = 107 + 14 * p + k) ∨ (∃ p, p < 12 ∧ i = 28 + p ∧ k < 7 ∧ pos i k = 114 + 14 * p + k) := by
  rcases rel_c h with ⟨rfl, a⟩ | ⟨rfl, a⟩ | ⟨rfl, a⟩ | ⟨rfl, a⟩ | ⟨a, b, c⟩ | ⟨a, b, c⟩ | ⟨a, b, c⟩ | ⟨a, b, c⟩
  · refine Or.inl ⟨rfl, ?_⟩
    rcases a with rfl | rfl | rfl | rfl | rfl | rfl <;> simp [pos]
  · exact Or.inr (Or.inl ⟨rfl, a, rfl⟩)
  · exact Or.inr (Or.inr (Or.inl ⟨rfl, a, rfl⟩))
  · exact Or.inr (Or.inr (Or.inr (Or.inl ⟨rfl, a, rfl⟩)))
  · obtain ⟨p, rfl⟩ : ∃ p, i = 7 + p := ⟨i - 7, by omega⟩
    exact Or.inr (Or.inr (Or.inr (Or.inr (Or.inl ⟨p, by omega, rfl, c, pos_P (by omega)⟩))))
  · obtain ⟨p, rfl⟩ : ∃ p, i = 11 + p := ⟨i - 11, by omega⟩
    exact Or.inr (Or.inr (Or.inr (Or.inr (Or.inr (Or.inl ⟨p, by omega, rfl, c, pos_H (by omega)⟩)))))
  · obtain ⟨p, rfl⟩ : ∃ p, i = 16 + p := ⟨i - 16, by omega⟩
    exact Or.inr (Or.inr (Or.inr (Or.inr (Or.inr (Or.inr (Or.inl ⟨p, by omega, rfl, c, pos_I (by omega)⟩))))))
  · obtain ⟨p, rfl⟩ : ∃ p, i = 28 + p := ⟨i - 28, by omega⟩
    exact Or.inr (Or.inr (Or.inr (Or.inr (Or.inr (Or.inr (Or.inr ⟨p, by omega, rfl, c, pos_O (by omega)⟩))))))
theorem pos_lt {i k : Nat} (h : rel i k = true) : pos i k < 275 := by
  rcases pos_v h with ⟨a, a2⟩ | ⟨a1, a2, a3⟩ | ⟨a1, a2, a3⟩ | ⟨a1, a2, a3⟩ | ⟨a, a1, a2, a3, a4⟩ | ⟨a, a1, a2, a3, a4⟩ | ⟨a, a1, a2, a3, a4⟩ | ⟨a, a1, a2, a3, a4⟩ <;> omega
theorem pos_inj {i k i' k' : Nat} (h : rel i k = true) (h' : rel i' k' = true) (e : pos i k = pos i' k') : i = i' ∧ k = k' := by
  rcases pos_v h with ⟨a, a2⟩ | ⟨a1, a2, a3⟩ | ⟨a1, a2, a3⟩ | ⟨a1, a2, a3⟩ | ⟨a, a1, a2, a3, a4⟩ | ⟨a, a1, a2, a3, a4⟩ | ⟨a, a1, a2, a3, a4⟩ | ⟨a, a1, a2, a3, a4⟩ <;> rcases pos_v h' with ⟨b, b2⟩ | ⟨b1, b2, b3⟩ | ⟨b1, b2, b3⟩ | ⟨b1, b2, b3⟩ | ⟨b, b1, b2, b3, b4⟩ | ⟨b, b1, b2, b3, b4⟩ | ⟨b, b1, b2, b3, b4⟩ | ⟨b, b1, b2, b3, b4⟩ <;> omega
theorem dR_upd {F : Nat → Int32} {i k : Nat} {v : Int32} (h : rel i k = true) : dR (upd F (pos i k) v) = upV (dR F) i k v := by
  funext a c
  simp only [dR, upV]
  by_cases h1 : rel a c = true
  · rw [if_pos h1, if_pos h1]
    by_cases h2 : a = i ∧ c = k
    · obtain ⟨rfl, rfl⟩ := h2
      simp [upd]
    · rw [if_neg h2]
      have h3 : ¬ pos a c = pos i k := fun e => h2 (pos_inj h1 h e)
      simp [upd, h3]
  · rw [if_neg h1, if_neg h1, if_neg (fun h2 => h1 (by rw [h2.1, h2.2]; exact h))]
theorem rel_lt {i k : Nat} (h : rel i k = true) : i < 40 := by
  unfold rel at h
  repeat' split at h
  all_goals first | omega | simp at h
theorem vw_up {C : Sx} {b i k : Nat} {v : Int32} (h : rel i k = true) (hb : isb i k = false ∨ bz v) : vw (up2 C (b + i) k v) b = upV (vw C b) i k v := by
  funext a c
  simp only [vw, upV]
  by_cases h1 : rel a c = true
  · rw [if_pos h1, if_pos h1]
    by_cases h2 : a = i ∧ c = k
    · obtain ⟨rfl, rfl⟩ := h2
      rw [if_pos (show a = a ∧ c = c from ⟨rfl, rfl⟩)]
      rcases hb with hb | hb
      · simp [hb, up2]
      · by_cases h3 : isb a c = true
        · simp [h3, up2, nb_of hb]
        · simp [h3, up2]
    · rw [if_neg h2]
      by_cases h3 : a = i
      · subst h3
        have h4 : ¬ c = k := fun e => h2 ⟨rfl, e⟩
        simp [up2, h4]
      · simp [up2, h3]
  · rw [if_neg h1, if_neg h1, if_neg (fun h2 => h1 (by rw [h2.1, h2.2]; exact h))]
/-- a view is of its own cells alone -/
theorem vw_congr {C C' : Sx} {b b' : Nat} (h : ∀ i k, rel i k = true → (if isb i k = true then nb (C (b + i) k) else C (b + i) k) = (if isb i k = true then nb (C' (b' + i) k) else C' (b' + i) k)) : vw C b = vw C' b' := by
  funext a c
  unfold vw
  by_cases h1 : rel a c = true
  · rw [if_pos h1, if_pos h1]
    exact h a c h1
  · rw [if_neg h1, if_neg h1]
theorem vw_frame {C C' : Sx} {b : Nat} (h : ∀ i, i < 40 → C' (b + i) = C (b + i)) : vw C' b = vw C b := vw_congr (fun i k hr => by rw [h i (rel_lt hr)])
theorem dR_congr {F G : Nat → Int32} (h : ∀ k, k < 275 → F k = G k) : dR F = dR G := by
  funext a c
  unfold dR
  by_cases h1 : rel a c = true
  · rw [if_pos h1, if_pos h1, h _ (pos_lt h1)]
  · rw [if_neg h1, if_neg h1]
theorem rel_P {p f : Nat} (hp : p < 4) (hf : f < 5) : rel (7 + p) f = true := by
  unfold rel
  repeat' split
  all_goals first | omega | simp [hf]
theorem rel_H {h f : Nat} (hp : h < 5) (hf : f < 6) : rel (11 + h) f = true := by
  unfold rel
  repeat' split
  all_goals first | omega | simp [hf]
theorem rel_I {k f : Nat} (hp : k < 12) (hf : f < 7) : rel (16 + k) f = true := by
  unfold rel
  repeat' split
  all_goals first | omega | simp [hf]
theorem rel_O {k f : Nat} (hp : k < 12) (hf : f < 7) : rel (28 + k) f = true := by
  unfold rel
  repeat' split
  all_goals first | omega | simp [hf]
theorem rel_1 {f : Nat} (hf : f < 24) : rel 1 f = true := by
  unfold rel
  simp [hf]
theorem rel_2 {f : Nat} (hf : f < 24) : rel 2 f = true := by
  unfold rel
  simp [hf]
theorem rel_3 {f : Nat} (hf : f < 3) : rel 3 f = true := by
  unfold rel
  simp [hf]
theorem isb_P {p f : Nat} (hp : p < 4) (hf : ¬ f = 3) : isb (7 + p) f = false := by
  unfold isb
  repeat' split
  all_goals first | omega | simp [hf]
theorem isb_H {h f : Nat} (hp : h < 5) (hf : ¬ f = 1) : isb (11 + h) f = false := by
  unfold isb
  repeat' split
  all_goals first | omega | simp [hf]
theorem isb_I {k f : Nat} (hp : k < 12) (hf : ¬ f = 6) : isb (16 + k) f = false := by
  unfold isb
  repeat' split
  all_goals first | omega | simp [hf]
theorem isb_O {k f : Nat} (hp : k < 12) : isb (28 + k) f = false := by
  unfold isb
  repeat' split
  all_goals first | omega | simp
theorem isb_P3 {p : Nat} (hp : p < 4) : isb (7 + p) 3 = true := by
  unfold isb
  repeat' split
  all_goals first | omega | simp
theorem isb_H1 {h : Nat} (hp : h < 5) : isb (11 + h) 1 = true := by
  unfold isb
  repeat' split
  all_goals first | omega | simp
theorem isb_I6 {k : Nat} (hp : k < 12) : isb (16 + k) 6 = true := by
  unfold isb
  repeat' split
  all_goals first | omega | simp
section
variable {C M : Sx} {b : Nat}
theorem vP {p f : Nat} (hp : p < 4) (hf : f < 5) (h3 : ¬ f = 3) : C (b + 7 + p) f = vw C b (7 + p) f := by
  unfold vw
  rw [if_pos (rel_P hp hf), isb_P hp h3, Nat.add_assoc]
  rfl
theorem vP3 {p : Nat} (hp : p < 4) : nb (C (b + 7 + p) 3) = vw C b (7 + p) 3 := by
  unfold vw
  rw [if_pos (rel_P hp (by decide)), if_pos (isb_P3 hp), Nat.add_assoc]
theorem vH {p f : Nat} (hp : p < 5) (hf : f < 6) (h3 : ¬ f = 1) : C (b + 11 + p) f = vw C b (11 + p) f := by
  unfold vw
  rw [if_pos (rel_H hp hf), isb_H hp h3, Nat.add_assoc]
  rfl
theorem vH1 {p : Nat} (hp : p < 5) : nb (C (b + 11 + p) 1) = vw C b (11 + p) 1 := by
  unfold vw
  rw [if_pos (rel_H hp (by decide)), if_pos (isb_H1 hp), Nat.add_assoc]
theorem vI {p f : Nat} (hp : p < 12) (hf : f < 7) (h3 : ¬ f = 6) : C (b + 16 + p) f = vw C b (16 + p) f := by
  unfold vw
  rw [if_pos (rel_I hp hf), isb_I hp h3, Nat.add_assoc]
  rfl
theorem vI6 {p : Nat} (hp : p < 12) : nb (C (b + 16 + p) 6) = vw C b (16 + p) 6 := by
  unfold vw
  rw [if_pos (rel_I hp (by decide)), if_pos (isb_I6 hp), Nat.add_assoc]
theorem vO {p f : Nat} (hp : p < 12) (hf : f < 7) : C (b + 16 + p + 12) f = vw C b (28 + p) f := by
  unfold vw
  rw [if_pos (rel_O hp hf), isb_O hp, show b + 16 + p + 12 = b + (28 + p) by omega]
  rfl
theorem v1 {h : Nat} (hp : h < 24) : C (b + 1) h = vw C b 1 h := by
  unfold vw
  rw [if_pos (rel_1 hp)]
  rfl
theorem v2 {h : Nat} (hp : h < 24) : C (b + 2) h = vw C b 2 h := by
  unfold vw
  rw [if_pos (rel_2 hp)]
  rfl
theorem v3 {h : Nat} (hp : h < 3) : C (b + 3) h = vw C b 3 h := by
  unfold vw
  rw [if_pos (rel_3 hp)]
  rfl
theorem v00 : C b 0 = vw C b 0 0 := rfl
theorem v01 : C b 1 = vw C b 0 1 := rfl
theorem v04 : C b 4 = vw C b 0 4 := rfl
theorem v06 : C b 6 = vw C b 0 6 := rfl
theorem v08 : C b 8 = vw C b 0 8 := rfl
theorem v010 : C b 10 = vw C b 0 10 := rfl
theorem cl_n {n : Nat} (h : n < 2 ^ 31) {x : Int32} (e : x = nI n) : x.toNatClampNeg = n := by rw [e]; exact nI_clamp h
theorem nI_mul (a c : Nat) : nI a * nI c = nI (a * c) := by
  unfold nI
  exact (Int32.ofNat_mul a c).symm
theorem ix5 {p f : Nat} (hp : p < 4) (hf : f < 5) : (((51 : Int32) + 5 * nI p) + nI f).toNatClampNeg = pos (7 + p) f := by
  rw [pos_P hp, show (51 : Int32) = nI 51 from rfl, show (5 : Int32) = nI 5 from rfl, nI_mul, nI_add, nI_add]
  exact nI_clamp (by omega)
theorem ix6 {p f : Nat} (hp : p < 5) (hf : f < 6) : (((72 : Int32) + 6 * nI p) + nI f).toNatClampNeg = pos (11 + p) f := by
  rw [pos_H hp, show (72 : Int32) = nI 72 from rfl, show (6 : Int32) = nI 6 from rfl, nI_mul, nI_add, nI_add]
  exact nI_clamp (by omega)
theorem ix14 {p f : Nat} (hp : p < 12) (hf : f < 7) : (((107 : Int32) + 14 * nI p) + nI f).toNatClampNeg = pos (16 + p) f := by
  rw [pos_I hp, show (107 : Int32) = nI 107 from rfl, show (14 : Int32) = nI 14 from rfl, nI_mul, nI_add, nI_add]
  exact nI_clamp (by omega)
theorem ix15 {p f : Nat} (hp : p < 12) (hf : f < 7) : (((107 : Int32) + 14 * nI p) + nI (7 + f)).toNatClampNeg = pos (28 + p) f := by
  rw [pos_O hp, show (107 : Int32) = nI 107 from rfl, show (14 : Int32) = nI 14 from rfl, nI_mul, nI_add, nI_add, show 107 + 14 * p + (7 + f) = 114 + 14 * p + f by omega]
  exact nI_clamp (by omega)
theorem ofP {p f : Nat} (hp : p < 4) (hf : f < 5) : b_X7_of_0 (nI p) (nI f) M = dR (M 6) (7 + p) f := by
  show M 6 (((51 : Int32) + 5 * nI p) + nI f).toNatClampNeg = _
  rw [ix5 hp hf]
  unfold dR
  rw [if_pos (rel_P hp hf)]
theorem ofH {p f : Nat} (hp : p < 5) (hf : f < 6) : b_X7_ofHorse_0 (nI p) (nI f) M = dR (M 6) (11 + p) f := by
  show M 6 (((72 : Int32) + 6 * nI p) + nI f).toNatClampNeg = _
  rw [ix6 hp hf]
  unfold dR
  rw [if_pos (rel_H hp hf)]
theorem ofI {p f : Nat} (hp : p < 12) (hf : f < 7) : b_X7_ofInnings_0 (nI p) (nI f) M = dR (M 6) (16 + p) f := by
  show M 6 (((107 : Int32) + 14 * nI p) + nI f).toNatClampNeg = _
  rw [ix14 hp hf]
  unfold dR
  rw [if_pos (rel_I hp hf)]
theorem ofO {p f : Nat} (hp : p < 12) (hf : f < 7) : b_X7_ofInnings_0 (nI p) (nI (7 + f)) M = dR (M 6) (28 + p) f := by
  show M 6 (((107 : Int32) + 14 * nI p) + nI (7 + f)).toNatClampNeg = _
  rw [ix15 hp hf]
  unfold dR
  rw [if_pos (rel_O hp hf)]
theorem r00 : M 6 ((0 : Int32).toNatClampNeg) = dR (M 6) 0 0 := rfl
theorem r01 : M 6 ((1 : Int32).toNatClampNeg) = dR (M 6) 0 1 := rfl
theorem r04 : M 6 ((50 : Int32).toNatClampNeg) = dR (M 6) 0 4 := rfl
theorem r06 : M 6 ((71 : Int32).toNatClampNeg) = dR (M 6) 0 6 := rfl
theorem r08 : M 6 ((102 : Int32).toNatClampNeg) = dR (M 6) 0 8 := rfl
theorem r010 : M 6 ((106 : Int32).toNatClampNeg) = dR (M 6) 0 10 := rfl
theorem laysP {p f : Nat} {v : Int32} (hp : p < 4) (hf : f < 5) : b_X7_lays_0 (nI p) (nI f) v M = up2 M 6 (pos (7 + p) f) v := by
  show up2 M 6 (((51 : Int32) + 5 * nI p) + nI f).toNatClampNeg v = _
  rw [ix5 hp hf]
theorem laysH {p f : Nat} {v : Int32} (hp : p < 5) (hf : f < 6) : b_X7_laysHorse_0 (nI p) (nI f) v M = up2 M 6 (pos (11 + p) f) v := by
  show up2 M 6 (((72 : Int32) + 6 * nI p) + nI f).toNatClampNeg v = _
  rw [ix6 hp hf]
theorem laysI {p f : Nat} {v : Int32} (hp : p < 12) (hf : f < 7) : b_X7_laysInnings_0 (nI p) (nI f) v M = up2 M 6 (pos (16 + p) f) v := by
  show up2 M 6 (((107 : Int32) + 14 * nI p) + nI f).toNatClampNeg v = _
  rw [ix14 hp hf]
theorem laysO {p f : Nat} {v : Int32} (hp : p < 12) (hf : f < 7) : b_X7_laysInnings_0 (nI p) (nI (7 + f)) v M = up2 M 6 (pos (28 + p) f) v := by
  show up2 M 6 (((107 : Int32) + 14 * nI p) + nI (7 + f)).toNatClampNeg v = _
  rw [ix15 hp hf]
theorem dR_up {i k : Nat} {v : Int32} (h : rel i k = true) : dR (up2 M 6 (pos i k) v 6) = upV (dR (M 6)) i k v := by
  rw [up2_at]
  exact dR_upd h
end
theorem rel_0 {k : Nat} (h : k = 0 ∨ k = 1 ∨ k = 4 ∨ k = 6 ∨ k = 8 ∨ k = 10) : rel 0 k = true := by
  rcases h with rfl | rfl | rfl | rfl | rfl | rfl <;> rfl

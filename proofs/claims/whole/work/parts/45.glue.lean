/-! WHAT A CALL MUST DO, and how a change does it -/
def FCl (C C' : Sx) : Prop := ∀ j, 5 ≤ j → j < 15 → C' j = C j
def FMl (M M' : Sx) : Prop := ∀ j, (j < 5 ∨ 13 ≤ j) → M' j = M j
def Ok (N' : Nat) (codes : List (Nat × Nat)) (C M : Sx) (c : Nat × Int32 × Sx) (m : Int32 × Sx) : Prop := ((c.1 = 0 ∧ m.2 5 8 = 0 ∧ c.2.1 = m.1) ∨ (∃ e k, (e, k) ∈ codes ∧ c.1 = e ∧ m.2 5 8 = nI k)) ∧ FCl C c.2.2 ∧ FMl M m.2 ∧ Inv N' c.2.2 m.2
def Out (b N' kb kx : Nat) (C M : Sx) (v : Int32) (m : Int32 × Sx) (op : Sx → Int32 × Sx) (oop : Sx → Prop) : Prop := (v = -1 ∧ m = (0, up2 M 5 8 1)) ∨ (v = -2 ∧ m = (0, up2 M 5 8 (nI kb))) ∨ (∃ w d, 1 ≤ w ∧ w ≤ 10 ∧ d < 1000 ∧ v = nI (1000 * w + d) ∧ m = b_X7_refuses_0 (nI kx) (nI w) (nI d) (up2 M 5 8 0)) ∨ (v = 0 ∧ ∀ C1, vw C1 b = vw C b → oop C1 ∧ (op C1).1 = m.1 ∧ FC b C1 (op C1).2 ∧ FM (b_X7_keeps_0 6 (up2 M 5 8 0)) m.2 ∧ Rl N' (vw (op C1).2 b) (dR (m.2 6)))
theorem adm_0 {C : Sx} {v : Int32} (h : v = 0) : b_X6_admit_0 v C = (0, 0, b_X4_keep_0 15 C) := by
  subst h
  rfl
theorem adm_m1 {C : Sx} {v : Int32} (h : v = -1) : b_X6_admit_0 v C = (1, 0, C) := by
  subst h
  rfl
theorem adm_m2 {C : Sx} {v : Int32} (h : v = -2) : b_X6_admit_0 v C = (2, 0, C) := by
  subst h
  rfl
theorem adm_r {C : Sx} {v : Int32} {w d : Nat} (h1 : 1 ≤ w) (h2 : w ≤ 10) (h3 : d < 1000) (h : v = nI (1000 * w + d)) : b_X6_admit_0 v C = (3, 0, up2 (up2 C 0 6 (nI w)) 0 7 (nI d)) := by
  unfold b_X6_admit_0
  rw [h, set_r h1 (by omega) h3]
  rfl
theorem o_adm {C : Sx} {v : Int32} (h : v = 0 → o_X4_keep_0 15 C) (hv : v = 0 ∨ ¬ (b_X6_settle_0 v C).1 = 0) : o_X6_admit_0 v C := by
  unfold o_X6_admit_0 o_X6_admit_5
  intro hs
  rcases hv with hv | hv
  · have := h hv
    subst hv
    exact ⟨this, trivial⟩
  · exact absurd hs hv
theorem Inv.c0 {N : Nat} {C M : Sx} (I : Inv N C M) (x : Int32) : Inv N C (up2 M 5 8 x) := I.ag AgC.rf AgM.code
theorem ref_v {k w d : Int32} {M : Sx} : b_X7_refuses_0 k w d M = (0, up2 (up2 (up2 (up2 M 5 8 k) 5 9 1) 5 10 w) 5 11 d) := rfl
/-- a refusal is kept on both sides -/
theorem Inv.refuse {N : Nat} {C M : Sx} (I : Inv N C M) {w d : Nat} (h1 : 1 ≤ w) (h2 : w ≤ 10) (k : Int32) : Inv N (up2 (up2 C 0 6 (nI w)) 0 7 (nI d)) (b_X7_refuses_0 k (nI w) (nI d) M).2 := by
  obtain ⟨i1, i2, ⟨nx, cnt, p1, p2, p3, p4, p5, p6⟩, i4, ⟨L, t1, t2, t3, t4⟩, i6, i7⟩ := I
  rw [ref_v]
  have cj : ∀ j, ¬ j = 0 → up2 (up2 C 0 6 (nI w)) 0 7 (nI d) j = C j := fun j hj => by rw [up2_ne hj, up2_ne hj]
  have mj : ∀ j, ¬ j = 5 → up2 (up2 (up2 (up2 M 5 8 k) 5 9 1) 5 10 (nI w)) 5 11 (nI d) j = M j := fun j hj => by rw [up2_ne hj, up2_ne hj, up2_ne hj, up2_ne hj]
  have mk : ∀ e, e < 8 → up2 (up2 (up2 (up2 M 5 8 k) 5 9 1) 5 10 (nI w)) 5 11 (nI d) 5 e = M 5 e := fun e he => by
    have q1 : ¬ e = 8 := by omega
    have q2 : ¬ e = 9 := by omega
    have q3 : ¬ e = 10 := by omega
    have q4 : ¬ e = 11 := by omega
    simp [up2, q1, q2, q3, q4]
  refine ⟨?_, ?_, ⟨nx, cnt, p1, p2, ?_, ?_, ?_, ?_⟩, ?_, ⟨L, t1, ?_, ?_, ?_⟩, ?_, ?_⟩
  · rw [vw_frame (C := C) (fun i hi => cj (15 + i) (by omega))]
    show Rl N (vw C 15) (dR (up2 (up2 (up2 (up2 M 5 8 k) 5 9 1) 5 10 (nI w)) 5 11 (nI d) 6))
    rw [mj 6 (by decide)]
    exact i1
  · unfold IvS at *
    show nb (up2 (up2 C 0 6 (nI w)) 0 7 (nI d) 0 3) = nb (up2 (up2 (up2 (up2 M 5 8 k) 5 9 1) 5 10 (nI w)) 5 11 (nI d) 5 5) ∧ (¬ nb (up2 (up2 C 0 6 (nI w)) 0 7 (nI d) 0 3) = 0 → Rl N (vw (up2 (up2 C 0 6 (nI w)) 0 7 (nI d)) 95) (dR (up2 (up2 (up2 (up2 M 5 8 k) 5 9 1) 5 10 (nI w)) 5 11 (nI d) 8)))
    rw [vw_frame (C := C) (fun i hi => cj (95 + i) (by omega)), mj 8 (by decide), mk 5 (by decide)]
    have e : up2 (up2 C 0 6 (nI w)) 0 7 (nI d) 0 3 = C 0 3 := by simp [up2]
    rw [e]
    exact i2
  · rw [cj 1 (by decide), p3]
  · rw [cj 1 (by decide), p4]
  · exact (mk 6 (by decide)).trans p5
  · intro j hj
    have := rx_le (nx := nx) (cnt := cnt) (k := j)
    rw [vw_frame (C := C) (fun i hi => cj (rx nx cnt j + i) (by omega))]
    have e2 : rowK (up2 (up2 (up2 (up2 M 5 8 k) 5 9 1) 5 10 (nI w)) 5 11 (nI d)) j = rowK M j := by unfold rowK; rw [mj 7 (by decide)]
    show Rl N _ (dR (rowK (up2 (up2 (up2 (up2 M 5 8 k) 5 9 1) 5 10 (nI w)) 5 11 (nI d)) j))
    rw [e2]
    exact p6 j hj
  · refine Or.inr ⟨by simp [up2], by simp [up2], ?_, ?_⟩
    · simp only [up2]
      simpa using nI_ne0 (n := w) (by omega) (by omega)
    · simp only [up2]
      simpa using nI_m1 (a := w) (by omega)
  · rw [cj 3 (by decide), t2]
  · simp only [up2]
    simpa using t3
  · intro j hj
    rw [cj 4 (by decide)]
    show C 4 j = up2 (up2 (up2 (up2 M 5 8 k) 5 9 1) 5 10 (nI w)) 5 11 (nI d) 11 j
    rw [mj 11 (by decide)]
    exact t4 j hj
  · rw [cj 3 (by decide)]
    simp only [up2]
    simpa using i6
  · show nb (up2 (up2 (up2 (up2 M 5 8 k) 5 9 1) 5 10 (nI w)) 5 11 (nI d) 5 7) = 0
    rw [mk 7 (by decide)]
    exact i7
theorem FMl.code {M : Sx} {x : Int32} : FMl M (up2 M 5 8 x) := fun j hj => up2_ne (by omega)
theorem code_at {M : Sx} {x : Int32} : up2 M 5 8 x 5 8 = x := by simp [up2]
/-- a change: admitted, kept, done -/
theorem chg {N N' kb kx : Nat} {codes : List (Nat × Nat)} {C M : Sx} {v : Int32} {c : Nat × Int32 × Sx} {m : Int32 × Sx} {op : Sx → Int32 × Sx} {oop : Sx → Prop} (I : Inv N C M) (hN : N ≤ N')
    (hc : c = if (b_X6_admit_0 v C).1 = 0 then (0, (op (b_X6_admit_0 v C).2.2).1, (op (b_X6_admit_0 v C).2.2).2) else ((b_X6_admit_0 v C).1, 0, (b_X6_admit_0 v C).2.2))
    (hO : Out 15 N' kb kx C M v m op oop) (h1 : v = -1 → (1, 1) ∈ codes) (h2 : v = -2 → (2, kb) ∈ codes) (h3 : ¬ v = -1 → ¬ v = -2 → ¬ v = 0 → (3, kx) ∈ codes) : (o_X6_admit_0 v C ∧ ((b_X6_admit_0 v C).1 = 0 → oop (b_X6_admit_0 v C).2.2)) ∧ Ok N' codes C M c m := by
  rcases hO with ⟨e, rfl⟩ | ⟨e, rfl⟩ | ⟨w, d, w1, w2, d1, e, rfl⟩ | ⟨e, H⟩
  · have A := adm_m1 (C := C) e
    rw [A] at hc ⊢
    rw [if_neg (show ¬ ((1 : Nat), (0 : Int32), C).1 = 0 by simp)] at hc
    subst hc
    refine ⟨⟨o_adm (fun h => by rw [e] at h; exact absurd h (by decide)) (Or.inr (by rw [e, set_m1]; simp)), fun h => absurd h (by simp)⟩, Or.inr ⟨1, 1, h1 e, rfl, code_at (M := M) (x := 1)⟩, fun _ _ _ => rfl, FMl.code, (I.up hN).c0 1⟩
  · have A := adm_m2 (C := C) e
    rw [A] at hc ⊢
    rw [if_neg (show ¬ ((2 : Nat), (0 : Int32), C).1 = 0 by simp)] at hc
    subst hc
    refine ⟨⟨o_adm (fun h => by rw [e] at h; exact absurd h (by decide)) (Or.inr (by rw [e, set_m2]; simp)), fun h => absurd h (by simp)⟩, Or.inr ⟨2, kb, h2 e, rfl, code_at (M := M) (x := nI kb)⟩, fun _ _ _ => rfl, FMl.code, (I.up hN).c0 _⟩
  · have A := adm_r (C := C) w1 w2 d1 e
    rw [A] at hc ⊢
    rw [if_neg (show ¬ ((3 : Nat), (0 : Int32), up2 (up2 C 0 6 (nI w)) 0 7 (nI d)).1 = 0 by simp)] at hc
    subst hc
    have n0 : ¬ v = 0 := by rw [e]; exact nI_ne0 (by omega) (by omega)
    have n1 : ¬ v = -1 := by rw [e]; exact nI_m1 (by omega)
    have n2 : ¬ v = -2 := by rw [e]; exact fun q => nI_pos (n := 1000 * w + d) (by omega) (by rw [q]; decide)
    refine ⟨⟨o_adm (fun h => absurd h n0) (Or.inr (by rw [e, set_r w1 (by omega) d1]; simp)), fun h => absurd h (by simp)⟩, Or.inr ⟨3, kx, h3 n1 n2 n0, rfl, by simp [ref_v, up2]⟩, fun j a1 a2 => by
      show up2 (up2 C 0 6 (nI w)) 0 7 (nI d) j = C j
      rw [up2_ne (by omega), up2_ne (by omega)], fun j hj => ?_, ?_⟩
    · rw [ref_v]
      show up2 (up2 (up2 (up2 (up2 M 5 8 0) 5 8 (nI kx)) 5 9 1) 5 10 (nI w)) 5 11 (nI d) j = M j
      rw [up2_ne (by omega), up2_ne (by omega), up2_ne (by omega), up2_ne (by omega), up2_ne (by omega)]
    · exact ((I.up hN).c0 0).refuse w1 w2 _
  · have A := adm_0 (C := C) e
    obtain ⟨k1, k2, k3, k4, k5⟩ := (I.c0 0).keep
    have vk : vw (b_X4_keep_0 15 C) 15 = vw C 15 := vw_frame (fun i hi => k3 (15 + i) (by omega) (by omega))
    have o1 : o_X6_admit_0 v C := o_adm (fun _ => k1) (Or.inl e)
    rw [A] at hc ⊢
    generalize b_X4_keep_0 15 C = K at *
    have hc2 : c = (0, (op K).1, (op K).2) := hc
    obtain ⟨q1, q2, q3, q4, q5⟩ := H K vk
    have hok : Ok N' codes C M c m := by
      rw [hc2]
      refine ⟨Or.inl ⟨rfl, ?_, q2⟩, fun j a1 a2 => ?_, fun j hj => ?_, ?_⟩
      · rw [q4 5 (by decide), k4.2 8 (by decide)]
        exact code_at
      · show (op K).2 j = C j
        rw [q3 j (by omega), k3 j (by omega) (by omega)]
      · rw [q4 j (by omega), k4.1 j (by omega) (by omega), up2_ne (by omega)]
      · exact (k5.up hN).now q3 q4 q5
    exact ⟨⟨o1, fun _ => q1⟩, hok⟩
/-- a reading: nothing changes but reference's code -/
theorem rd {N : Nat} {codes : List (Nat × Nat)} {C M : Sx} {c : Nat × Int32 × Sx} {m : Int32 × Sx} {x : Int32} (I : Inv N C M) (h1 : c.2.2 = C) (h2 : m.2 = up2 M 5 8 x) (h3 : (c.1 = 0 ∧ x = 0 ∧ c.2.1 = m.1) ∨ (∃ e k, (e, k) ∈ codes ∧ c.1 = e ∧ x = nI k)) : Ok N codes C M c m := by
  unfold Ok
  rw [h1, h2, code_at]
  exact ⟨h3, fun _ _ _ => rfl, FMl.code, I.c0 x⟩
theorem Ok.up {N N' : Nat} {codes : List (Nat × Nat)} {C M : Sx} {c : Nat × Int32 × Sx} {m : Int32 × Sx} (h : Ok N codes C M c m) (hN : N ≤ N') : Ok N' codes C M c m := ⟨h.1, h.2.1, h.2.2.1, h.2.2.2.up hN⟩
/-- a call as the law makes it: the wrapper, then the reference -/
theorem glue {N N' : Nat} {codes : List (Nat × Nat)} {S : Sx} {c : Nat × Int32 × Sx} {mf : Sx → Int32 × Sx} {om : Sx → Prop} {oc : Prop} {LR : Int32 × Sx} (I : Inv N S S) (H : ∀ M, Inv N S M → oc ∧ om M ∧ Ok N' codes S M c (mf M)) (h0 : c.1 = 0 → LR = (0, up2 c.2.2 13 0 c.2.1)) (hk : ∀ e k, (e, k) ∈ codes → c.1 = e → LR = (nI k, c.2.2)) : oc ∧ om LR.2 ∧ (mf LR.2).2 5 8 = LR.1 ∧ (LR.1 = 0 → ((∀ p ∈ codes, 1 ≤ p.2 ∧ p.2 ≤ 9) → (mf LR.2).2 13 0 = (mf LR.2).1)) ∧ Inv N' (mf LR.2).2 (mf LR.2).2 ∧ (c.1 = 0 ∨ ∃ p ∈ codes, c.1 = p.1) := by
  obtain ⟨a1, a2, a3, a4, a5, a6⟩ := H S I
  have l1 : ∀ j, ¬ j = 13 → LR.2 j = c.2.2 j := by
    rcases a3 with ⟨e, -⟩ | ⟨e, k, h, q, -⟩
    · intro j hj
      rw [h0 e]
      exact up2_ne hj
    · intro j hj
      rw [hk e k h q]
  have l2 : AgM S LR.2 := by
    have e5 : LR.2 5 = S 5 := by rw [l1 5 (by decide), a4 5 (by decide) (by decide)]
    refine ⟨by rw [e5], by rw [e5], by rw [e5], by rw [e5], by rw [e5], by rw [e5], by rw [e5], ?_, ?_, ?_, ?_⟩
    · rw [l1 6 (by decide), a4 6 (by decide) (by decide)]
    · rw [l1 7 (by decide), a4 7 (by decide) (by decide)]
    · rw [l1 8 (by decide), a4 8 (by decide) (by decide)]
    · rw [l1 11 (by decide), a4 11 (by decide) (by decide)]
  obtain ⟨b1, b2, b3, b4, b5, b6⟩ := H LR.2 (I.ag AgC.rf l2)
  refine ⟨b1, b2, ?_, ?_, ?_, ?_⟩
  · rcases b3 with ⟨e, q, -⟩ | ⟨e, k, h, q, q2⟩
    · rw [q, h0 e]
    · rw [q2, hk e k h q]
  · intro hz hcod
    rcases b3 with ⟨e, q, q2⟩ | ⟨e, k, h, q, q2⟩
    · rw [b5 13 (by omega), ← q2, h0 e]
      simp [up2]
    · rw [hk e k h q] at hz
      have := hcod (e, k) h
      exact absurd hz (nI_ne0 (n := k) (by omega) (by have := this.2; simp at this; omega))
  · refine b6.ag ?_ AgM.rf
    have mj : ∀ j, ¬ j = 13 → (j < 5 ∨ 13 ≤ j) → (mf LR.2).2 j = c.2.2 j := fun j h13 hj => by rw [b5 j hj, l1 j h13]
    refine ⟨?_, ?_, ?_, ?_, ?_, ?_, ?_, ?_, fun j hj _ => mj j (by omega) (by omega)⟩
    · rw [mj 0 (by decide) (by decide)]
    · rw [mj 0 (by decide) (by decide)]
    · rw [mj 0 (by decide) (by decide)]
    · rw [mj 1 (by decide) (by decide)]
    · rw [mj 1 (by decide) (by decide)]
    · rw [mj 3 (by decide) (by decide)]
    · rw [mj 3 (by decide) (by decide)]
    · rw [mj 4 (by decide) (by decide)]
  · rcases a3 with ⟨e, -⟩ | ⟨e, k, h, q, -⟩
    · exact Or.inl e
    · exact Or.inr ⟨(e, k), h, q⟩

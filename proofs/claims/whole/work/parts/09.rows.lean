theorem cl_0 {ad : Nat → Nat} {q : Nat → ClassId} {d : UInt64} {S : Sx} {j : Nat} (h : isK 0 j) : cellU ad q d S j = .inr (0, [.int (S j 0), .int (S j 1), .ref (ad (j + 1)), .ref (ad (j + 2)), .int (S j 4), .ref (ad (j + 4)), .int (S j 6), .ref (ad (j + 5)), .int (S j 8), .ref (ad (j + 3)), .int (S j 10), .ref (ad (j + 6))]) := by
  unfold cellU
  rw [h.2]
  rfl
theorem cl_1 {ad : Nat → Nat} {q : Nat → ClassId} {d : UInt64} {S : Sx} {j : Nat} (h : isK 1 j) : cellU ad q d S j = .inl (q 0, 24, .inl (S j)) := by
  unfold cellU
  rw [h.2]
  rfl
theorem cl_2 {ad : Nat → Nat} {q : Nat → ClassId} {d : UInt64} {S : Sx} {j : Nat} (h : isK 2 j) : cellU ad q d S j = .inl (q 0, 24, .inl (S j)) := by
  unfold cellU
  rw [h.2]
  rfl
theorem cl_3 {ad : Nat → Nat} {q : Nat → ClassId} {d : UInt64} {S : Sx} {j : Nat} (h : isK 3 j) : cellU ad q d S j = .inl (q 0, 3, .inl (S j)) := by
  unfold cellU
  rw [h.2]
  rfl
theorem cl_4 {ad : Nat → Nat} {q : Nat → ClassId} {d : UInt64} {S : Sx} {j : Nat} (h : isK 4 j) : cellU ad q d S j = .inl (q 1, 4, .inr (.inr (.inr (.inr (fun k => some (ad (j + 3 + k))))))) := by
  unfold cellU
  rw [h.2]
  rfl
theorem cl_5 {ad : Nat → Nat} {q : Nat → ClassId} {d : UInt64} {S : Sx} {j : Nat} (h : isK 5 j) : cellU ad q d S j = .inl (q 2, 5, .inr (.inr (.inr (.inr (fun k => some (ad (j + 6 + k))))))) := by
  unfold cellU
  rw [h.2]
  rfl
theorem cl_6 {ad : Nat → Nat} {q : Nat → ClassId} {d : UInt64} {S : Sx} {j : Nat} (h : isK 6 j) : cellU ad q d S j = .inl (q 3, 12, .inr (.inr (.inr (.inr (fun k => some (ad (j + 10 + k))))))) := by
  unfold cellU
  rw [h.2]
  rfl
theorem cl_7 {ad : Nat → Nat} {q : Nat → ClassId} {d : UInt64} {S : Sx} {j : Nat} (h : isK 7 j) : cellU ad q d S j = .inr (5, [.int (S j 0), .int (S j 1), .int (S j 2), .int (nb (S j 3)), .int (S j 4)]) := by
  unfold cellU
  rw [h.2]
  rfl
theorem cl_8 {ad : Nat → Nat} {q : Nat → ClassId} {d : UInt64} {S : Sx} {j : Nat} (h : isK 8 j) : cellU ad q d S j = .inr (1, [.int (S j 0), .int (nb (S j 1)), .int (S j 2), .int (S j 3), .int (S j 4), .int (S j 5)]) := by
  unfold cellU
  rw [h.2]
  rfl
theorem cl_9 {ad : Nat → Nat} {q : Nat → ClassId} {d : UInt64} {S : Sx} {j : Nat} (h : isK 9 j) : cellU ad q d S j = .inr (2, [.int (S j 0), .int (S j 1), .int (S j 2), .int (S j 3), .int (S j 4), .int (S j 5), .int (nb (S j 6)), .ref (ad (j + 12))]) := by
  unfold cellU
  rw [h.2]
  rfl
theorem cl_10 {ad : Nat → Nat} {q : Nat → ClassId} {d : UInt64} {S : Sx} {j : Nat} (h : isK 10 j) : cellU ad q d S j = .inl (q 0, 7, .inl (S j)) := by
  unfold cellU
  rw [h.2]
  rfl
theorem cl_20 {ad : Nat → Nat} {q : Nat → ClassId} {d : UInt64} {S : Sx} {j : Nat} (h : isK 20 j) : cellU ad q d S j = .inr (6, [.ref (ad 15), .ref (ad 55), .ref (ad 95), .int (nb (S j 3)), .ref (ad 1), .ref (ad 3), .int (S j 6), .int (S j 7)]) := by
  unfold cellU
  rw [h.2]
  rfl
theorem cl_21 {ad : Nat → Nat} {q : Nat → ClassId} {d : UInt64} {S : Sx} {j : Nat} (h : isK 21 j) : cellU ad q d S j = .inr (4, [.ref (ad 2), .int (S j 1), .int (S j 2)]) := by
  unfold cellU
  rw [h.2]
  rfl
theorem cl_22 {ad : Nat → Nat} {q : Nat → ClassId} {d : UInt64} {S : Sx} {j : Nat} (h : isK 22 j) : cellU ad q d S j = .inl (q 4, 8, .inr (.inr (.inr (.inr (fun k => some (ad (135 + 40 * k))))))) := by
  unfold cellU
  rw [h.2]
  rfl
theorem cl_23 {ad : Nat → Nat} {q : Nat → ClassId} {d : UInt64} {S : Sx} {j : Nat} (h : isK 23 j) : cellU ad q d S j = .inr (3, [.ref (ad 4), .int (S j 1), .int (S j 2), .int (S j 3), .int (S j 4), .int (S j 5), .int (S j 6), .int (S j 7), .int (S j 8)]) := by
  unfold cellU
  rw [h.2]
  rfl
theorem cl_24 {ad : Nat → Nat} {q : Nat → ClassId} {d : UInt64} {S : Sx} {j : Nat} (h : isK 24 j) : cellU ad q d S j = .inl (q 5, 60, .inl (S j)) := by
  unfold cellU
  rw [h.2]
  rfl
theorem cl_25 {ad : Nat → Nat} {q : Nat → ClassId} {d : UInt64} {S : Sx} {j : Nat} (h : isK 25 j) : cellU ad q d S j = .inr (7, [.ref (ad 6), .ref (ad 7), .ref (ad 8), .ref (ad 9), .ref (ad 10), .int (nb (S j 5)), .int (S j 6), .int (nb (S j 7)), .int (S j 8), .int (nb (S j 9)), .int (S j 10), .int (S j 11), .ref (ad 11), .int (S j 13), .int (S j 14), .int (S j 15), .ref (ad 12), .int (S j 17)]) := by
  unfold cellU
  rw [h.2]
  rfl
theorem cl_26 {ad : Nat → Nat} {q : Nat → ClassId} {d : UInt64} {S : Sx} {j : Nat} (h : isK 26 j) : cellU ad q d S j = .inl (q 0, 275, .inl (S j)) := by
  unfold cellU
  rw [h.2]
  rfl
theorem cl_27 {ad : Nat → Nat} {q : Nat → ClassId} {d : UInt64} {S : Sx} {j : Nat} (h : isK 27 j) : cellU ad q d S j = .inl (q 0, 2200, .inl (S j)) := by
  unfold cellU
  rw [h.2]
  rfl
theorem cl_28 {ad : Nat → Nat} {q : Nat → ClassId} {d : UInt64} {S : Sx} {j : Nat} (h : isK 28 j) : cellU ad q d S j = .inl (q 0, 275, .inl (S j)) := by
  unfold cellU
  rw [h.2]
  rfl
theorem cl_29 {ad : Nat → Nat} {q : Nat → ClassId} {d : UInt64} {S : Sx} {j : Nat} (h : isK 29 j) : cellU ad q d S j = .inl (q 0, 275, .inl (S j)) := by
  unfold cellU
  rw [h.2]
  rfl
theorem cl_30 {ad : Nat → Nat} {q : Nat → ClassId} {d : UInt64} {S : Sx} {j : Nat} (h : isK 30 j) : cellU ad q d S j = .inl (q 0, 275, .inl (S j)) := by
  unfold cellU
  rw [h.2]
  rfl
theorem cl_31 {ad : Nat → Nat} {q : Nat → ClassId} {d : UInt64} {S : Sx} {j : Nat} (h : isK 31 j) : cellU ad q d S j = .inl (q 0, 60, .inl (S j)) := by
  unfold cellU
  rw [h.2]
  rfl
theorem cl_32 {ad : Nat → Nat} {q : Nat → ClassId} {d : UInt64} {S : Sx} {j : Nat} (h : isK 32 j) : cellU ad q d S j = .inl (q 0, 124, .inl (S j)) := by
  unfold cellU
  rw [h.2]
  rfl
theorem cl_33 {ad : Nat → Nat} {q : Nat → ClassId} {d : UInt64} {S : Sx} {j : Nat} (h : isK 33 j) : cellU ad q d S j = .inl (q 6, 1, .inr (.inl (fun k => (S j k).toInt64))) := by
  unfold cellU
  rw [h.2]
  rfl
theorem cl_34 {ad : Nat → Nat} {q : Nat → ClassId} {d : UInt64} {S : Sx} {j : Nat} (h : isK 34 j) : cellU ad q d S j = .inl (q 7, 1, .inr (.inr (.inr (.inl (fun _ => d))))) := by
  unfold cellU
  rw [h.2]
  rfl
theorem kr {K j : Nat} (hK : K < 7) : isK K j ↔ j < 455 ∧ 15 ≤ j ∧ (j - 15) % 40 = K := by
  unfold isK kd
  constructor
  · rintro ⟨h1, h2⟩
    refine ⟨h1, ?_⟩
    by_cases g1 : j < 15
    · rw [if_pos g1] at h2; omega
    · by_cases g2 : (j - 15) % 40 < 7
      · rw [if_neg g1, if_pos g2] at h2; omega
      · by_cases g3 : (j - 15) % 40 < 11
        · rw [if_neg g1, if_neg g2, if_pos g3] at h2; omega
        · by_cases g4 : (j - 15) % 40 < 16
          · rw [if_neg g1, if_neg g2, if_neg g3, if_pos g4] at h2; omega
          · by_cases g5 : (j - 15) % 40 < 28
            · rw [if_neg g1, if_neg g2, if_neg g3, if_neg g4, if_pos g5] at h2; omega
            · rw [if_neg g1, if_neg g2, if_neg g3, if_neg g4, if_neg g5] at h2; omega
  · rintro ⟨h1, h2, h3⟩
    refine ⟨h1, ?_⟩
    rw [if_neg (by omega), if_pos (by omega)]
    exact h3
theorem kp {j : Nat} (h1 : j < 455) (h2 : 15 ≤ j) (h3 : 7 ≤ (j - 15) % 40) (h4 : (j - 15) % 40 < 11) : isK 7 j := ⟨h1, by unfold kd; rw [if_neg (by omega), if_neg (by omega), if_pos h4]⟩
theorem kh {j : Nat} (h1 : j < 455) (h2 : 15 ≤ j) (h3 : 11 ≤ (j - 15) % 40) (h4 : (j - 15) % 40 < 16) : isK 8 j := ⟨h1, by unfold kd; rw [if_neg (by omega), if_neg (by omega), if_neg (by omega), if_pos h4]⟩
theorem kn {j : Nat} (h1 : j < 455) (h2 : 15 ≤ j) (h3 : 16 ≤ (j - 15) % 40) (h4 : (j - 15) % 40 < 28) : isK 9 j := ⟨h1, by unfold kd; rw [if_neg (by omega), if_neg (by omega), if_neg (by omega), if_neg (by omega), if_pos h4]⟩
theorem kw {j : Nat} (h1 : j < 455) (h2 : 15 ≤ j) (h3 : 28 ≤ (j - 15) % 40) : isK 10 j := ⟨h1, by unfold kd; rw [if_neg (by omega), if_neg (by omega), if_neg (by omega), if_neg (by omega), if_neg (by omega)]⟩
theorem kn_r {j : Nat} (h : isK 9 j) : j < 455 ∧ 15 ≤ j ∧ 16 ≤ (j - 15) % 40 ∧ (j - 15) % 40 < 28 := by
  obtain ⟨h1, h2⟩ := h
  unfold kd at h2
  refine ⟨h1, ?_⟩
  by_cases g1 : j < 15
  · rw [if_pos g1] at h2; omega
  · by_cases g2 : (j - 15) % 40 < 7
    · rw [if_neg g1, if_pos g2] at h2; omega
    · by_cases g3 : (j - 15) % 40 < 11
      · rw [if_neg g1, if_neg g2, if_pos g3] at h2; omega
      · by_cases g4 : (j - 15) % 40 < 16
        · rw [if_neg g1, if_neg g2, if_neg g3, if_pos g4] at h2; omega
        · by_cases g5 : (j - 15) % 40 < 28
          · omega
          · rw [if_neg g1, if_neg g2, if_neg g3, if_neg g4, if_neg g5] at h2; omega
theorem k0_1 {j : Nat} (h : isK 0 j) : isK 1 (j + 1) := (kr (by decide)).mpr (by have := (kr (by decide)).mp h; omega)
theorem k0_2 {j : Nat} (h : isK 0 j) : isK 2 (j + 2) := (kr (by decide)).mpr (by have := (kr (by decide)).mp h; omega)
theorem k0_3 {j : Nat} (h : isK 0 j) : isK 3 (j + 3) := (kr (by decide)).mpr (by have := (kr (by decide)).mp h; omega)
theorem k0_4 {j : Nat} (h : isK 0 j) : isK 4 (j + 4) := (kr (by decide)).mpr (by have := (kr (by decide)).mp h; omega)
theorem k0_5 {j : Nat} (h : isK 0 j) : isK 5 (j + 5) := (kr (by decide)).mpr (by have := (kr (by decide)).mp h; omega)
theorem k0_6 {j : Nat} (h : isK 0 j) : isK 6 (j + 6) := (kr (by decide)).mpr (by have := (kr (by decide)).mp h; omega)
theorem k0_7 {j x : Nat} (h : isK 0 j) (hx : x < 4) : isK 7 (j + 7 + x) := by have := (kr (by decide)).mp h; exact kp (by omega) (by omega) (by omega) (by omega)
theorem k0_8 {j x : Nat} (h : isK 0 j) (hx : x < 5) : isK 8 (j + 11 + x) := by have := (kr (by decide)).mp h; exact kh (by omega) (by omega) (by omega) (by omega)
theorem k0_9 {j x : Nat} (h : isK 0 j) (hx : x < 12) : isK 9 (j + 16 + x) := by have := (kr (by decide)).mp h; exact kn (by omega) (by omega) (by omega) (by omega)
theorem k9_10 {j : Nat} (h : isK 9 j) : isK 10 (j + 12) := by have := kn_r h; exact kw (by omega) (by omega) (by omega)
theorem kg {x : Nat} (hx : x < 8) : isK 0 (135 + 40 * x) := (kr (by decide)).mpr (by omega)
theorem kg0 : isK 0 15 := ⟨by decide +kernel, by decide +kernel⟩
theorem kg1 : isK 0 55 := ⟨by decide +kernel, by decide +kernel⟩
theorem kg2 : isK 0 95 := ⟨by decide +kernel, by decide +kernel⟩
theorem vlt {x : Int32} {n : Nat} (h : vp_in x n) : x.toNatClampNeg < n := Nat.not_le.mp fun z => h (Or.inr z)
theorem kc20 : isK 20 0 := ⟨by decide +kernel, by decide +kernel⟩
theorem kc21 : isK 21 1 := ⟨by decide +kernel, by decide +kernel⟩
theorem kc22 : isK 22 2 := ⟨by decide +kernel, by decide +kernel⟩
theorem kc23 : isK 23 3 := ⟨by decide +kernel, by decide +kernel⟩
theorem kc24 : isK 24 4 := ⟨by decide +kernel, by decide +kernel⟩
theorem kc25 : isK 25 5 := ⟨by decide +kernel, by decide +kernel⟩
theorem kc26 : isK 26 6 := ⟨by decide +kernel, by decide +kernel⟩
theorem kc27 : isK 27 7 := ⟨by decide +kernel, by decide +kernel⟩
theorem kc28 : isK 28 8 := ⟨by decide +kernel, by decide +kernel⟩
theorem kc29 : isK 29 9 := ⟨by decide +kernel, by decide +kernel⟩
theorem kc30 : isK 30 10 := ⟨by decide +kernel, by decide +kernel⟩
theorem kc31 : isK 31 11 := ⟨by decide +kernel, by decide +kernel⟩
theorem kc32 : isK 32 12 := ⟨by decide +kernel, by decide +kernel⟩
theorem kc33 : isK 33 13 := ⟨by decide +kernel, by decide +kernel⟩
theorem kc34 : isK 34 14 := ⟨by decide +kernel, by decide +kernel⟩
section JF
variable {p : Program} {l : Launch} {e : Env} {R : Room} {s : State} {m : MethodId} {args : Array Value} {below : List Frame} {meth : Method} {c : Code} {cells slots : Nat} {Q : State → Prop} {D : va_G} {q : Nat → ClassId} {ad : Nat → Nat} {d : UInt64} {nL : Nat}
variable {cc : ByteArray} {own : String} {pc : Nat} {lv lv' : List (Nat × Value)} {st : List Value} {S S' : Sx}
theorem gf_0_0 (X : Cx p m c cc nL s args own D q ad) {index j : Nat} (hl1 : Cond.fieldLink own index "RollerHorses$Ground" "hour" "I" ∈ ALL) (hj : isK 0 j) (hd : decode cc pc = .ok (.getfield index, 3)) (g : Jg p l e R s m args below meth c cells slots Q D q ad d nL (pc + 3) lv (.int (S j 0) :: st) S) : Jg p l e R s m args below meth c cells slots Q D q ad d nL pc lv (.ref (ad j) :: st) S :=
  j_get X (C := RX0) (T := TX0) (N := 12) (ci := 0) (k := 0) hl1 winX0 rfl (by decide) rfl hj.1 (cl_0 hj) rfl hd g
theorem pf_0_0 (X : Cx p m c cc nL s args own D q ad) {index j : Nat} {v : Int32} (hl1 : Cond.fieldLink own index "RollerHorses$Ground" "hour" "I" ∈ ALL) (hj : isK 0 j) (hd : decode cc pc = .ok (.putfield index, 3)) (g : Jg p l e R s m args below meth c cells slots Q D q ad d nL (pc + 3) lv st (up2 S j 0 v)) : Jg p l e R s m args below meth c cells slots Q D q ad d nL pc lv (.int v :: .ref (ad j) :: st) S :=
  j_put X (C := RX0) (T := TX0) (N := 12) (ci := 0) (k := 0) (ty := .int) tyX0 tyX0_ok nmX0 hl1 winX0 rfl (by decide) rfl rfl rfl rfl rfl hj.1 (cl_0 hj) (by simp) (fun i hi => up2_ne hi) (by rw [cl_0 hj]; simp [up2]) hd g
theorem gf_0_1 (X : Cx p m c cc nL s args own D q ad) {index j : Nat} (hl1 : Cond.fieldLink own index "RollerHorses$Ground" "tea" "I" ∈ ALL) (hj : isK 0 j) (hd : decode cc pc = .ok (.getfield index, 3)) (g : Jg p l e R s m args below meth c cells slots Q D q ad d nL (pc + 3) lv (.int (S j 1) :: st) S) : Jg p l e R s m args below meth c cells slots Q D q ad d nL pc lv (.ref (ad j) :: st) S :=
  j_get X (C := RX0) (T := TX0) (N := 12) (ci := 0) (k := 1) hl1 winX0 rfl (by decide) rfl hj.1 (cl_0 hj) rfl hd g
theorem pf_0_1 (X : Cx p m c cc nL s args own D q ad) {index j : Nat} {v : Int32} (hl1 : Cond.fieldLink own index "RollerHorses$Ground" "tea" "I" ∈ ALL) (hj : isK 0 j) (hd : decode cc pc = .ok (.putfield index, 3)) (g : Jg p l e R s m args below meth c cells slots Q D q ad d nL (pc + 3) lv st (up2 S j 1 v)) : Jg p l e R s m args below meth c cells slots Q D q ad d nL pc lv (.int v :: .ref (ad j) :: st) S :=
  j_put X (C := RX0) (T := TX0) (N := 12) (ci := 0) (k := 1) (ty := .int) tyX0 tyX0_ok nmX0 hl1 winX0 rfl (by decide) rfl rfl rfl rfl rfl hj.1 (cl_0 hj) (by simp) (fun i hi => up2_ne hi) (by rw [cl_0 hj]; simp [up2]) hd g
theorem gf_0_2 (X : Cx p m c cc nL s args own D q ad) {index j : Nat} (hl1 : Cond.fieldLink own index "RollerHorses$Ground" "rain" "[I" ∈ ALL) (hj : isK 0 j) (hd : decode cc pc = .ok (.getfield index, 3)) (g : Jg p l e R s m args below meth c cells slots Q D q ad d nL (pc + 3) lv (.ref (ad (j + 1)) :: st) S) : Jg p l e R s m args below meth c cells slots Q D q ad d nL pc lv (.ref (ad j) :: st) S :=
  j_get X (C := RX0) (T := TX0) (N := 12) (ci := 0) (k := 2) hl1 winX0 rfl (by decide) rfl hj.1 (cl_0 hj) rfl hd g
theorem gf_0_3 (X : Cx p m c cc nL s args own D q ad) {index j : Nat} (hl1 : Cond.fieldLink own index "RollerHorses$Ground" "light" "[I" ∈ ALL) (hj : isK 0 j) (hd : decode cc pc = .ok (.getfield index, 3)) (g : Jg p l e R s m args below meth c cells slots Q D q ad d nL (pc + 3) lv (.ref (ad (j + 2)) :: st) S) : Jg p l e R s m args below meth c cells slots Q D q ad d nL pc lv (.ref (ad j) :: st) S :=
  j_get X (C := RX0) (T := TX0) (N := 12) (ci := 0) (k := 3) hl1 winX0 rfl (by decide) rfl hj.1 (cl_0 hj) rfl hd g
theorem gf_0_4 (X : Cx p m c cc nL s args own D q ad) {index j : Nat} (hl1 : Cond.fieldLink own index "RollerHorses$Ground" "pitchCount" "I" ∈ ALL) (hj : isK 0 j) (hd : decode cc pc = .ok (.getfield index, 3)) (g : Jg p l e R s m args below meth c cells slots Q D q ad d nL (pc + 3) lv (.int (S j 4) :: st) S) : Jg p l e R s m args below meth c cells slots Q D q ad d nL pc lv (.ref (ad j) :: st) S :=
  j_get X (C := RX0) (T := TX0) (N := 12) (ci := 0) (k := 4) hl1 winX0 rfl (by decide) rfl hj.1 (cl_0 hj) rfl hd g
theorem pf_0_4 (X : Cx p m c cc nL s args own D q ad) {index j : Nat} {v : Int32} (hl1 : Cond.fieldLink own index "RollerHorses$Ground" "pitchCount" "I" ∈ ALL) (hj : isK 0 j) (hd : decode cc pc = .ok (.putfield index, 3)) (g : Jg p l e R s m args below meth c cells slots Q D q ad d nL (pc + 3) lv st (up2 S j 4 v)) : Jg p l e R s m args below meth c cells slots Q D q ad d nL pc lv (.int v :: .ref (ad j) :: st) S :=
  j_put X (C := RX0) (T := TX0) (N := 12) (ci := 0) (k := 4) (ty := .int) tyX0 tyX0_ok nmX0 hl1 winX0 rfl (by decide) rfl rfl rfl rfl rfl hj.1 (cl_0 hj) (by simp) (fun i hi => up2_ne hi) (by rw [cl_0 hj]; simp [up2]) hd g
theorem gf_0_5 (X : Cx p m c cc nL s args own D q ad) {index j : Nat} (hl1 : Cond.fieldLink own index "RollerHorses$Ground" "pitches" "[LRollerHorses$Pitch;" ∈ ALL) (hj : isK 0 j) (hd : decode cc pc = .ok (.getfield index, 3)) (g : Jg p l e R s m args below meth c cells slots Q D q ad d nL (pc + 3) lv (.ref (ad (j + 4)) :: st) S) : Jg p l e R s m args below meth c cells slots Q D q ad d nL pc lv (.ref (ad j) :: st) S :=
  j_get X (C := RX0) (T := TX0) (N := 12) (ci := 0) (k := 5) hl1 winX0 rfl (by decide) rfl hj.1 (cl_0 hj) rfl hd g
theorem gf_0_6 (X : Cx p m c cc nL s args own D q ad) {index j : Nat} (hl1 : Cond.fieldLink own index "RollerHorses$Ground" "horseCount" "I" ∈ ALL) (hj : isK 0 j) (hd : decode cc pc = .ok (.getfield index, 3)) (g : Jg p l e R s m args below meth c cells slots Q D q ad d nL (pc + 3) lv (.int (S j 6) :: st) S) : Jg p l e R s m args below meth c cells slots Q D q ad d nL pc lv (.ref (ad j) :: st) S :=
  j_get X (C := RX0) (T := TX0) (N := 12) (ci := 0) (k := 6) hl1 winX0 rfl (by decide) rfl hj.1 (cl_0 hj) rfl hd g
theorem pf_0_6 (X : Cx p m c cc nL s args own D q ad) {index j : Nat} {v : Int32} (hl1 : Cond.fieldLink own index "RollerHorses$Ground" "horseCount" "I" ∈ ALL) (hj : isK 0 j) (hd : decode cc pc = .ok (.putfield index, 3)) (g : Jg p l e R s m args below meth c cells slots Q D q ad d nL (pc + 3) lv st (up2 S j 6 v)) : Jg p l e R s m args below meth c cells slots Q D q ad d nL pc lv (.int v :: .ref (ad j) :: st) S :=
  j_put X (C := RX0) (T := TX0) (N := 12) (ci := 0) (k := 6) (ty := .int) tyX0 tyX0_ok nmX0 hl1 winX0 rfl (by decide) rfl rfl rfl rfl rfl hj.1 (cl_0 hj) (by simp) (fun i hi => up2_ne hi) (by rw [cl_0 hj]; simp [up2]) hd g
theorem gf_0_7 (X : Cx p m c cc nL s args own D q ad) {index j : Nat} (hl1 : Cond.fieldLink own index "RollerHorses$Ground" "horses" "[LRollerHorses$Horse;" ∈ ALL) (hj : isK 0 j) (hd : decode cc pc = .ok (.getfield index, 3)) (g : Jg p l e R s m args below meth c cells slots Q D q ad d nL (pc + 3) lv (.ref (ad (j + 5)) :: st) S) : Jg p l e R s m args below meth c cells slots Q D q ad d nL pc lv (.ref (ad j) :: st) S :=
  j_get X (C := RX0) (T := TX0) (N := 12) (ci := 0) (k := 7) hl1 winX0 rfl (by decide) rfl hj.1 (cl_0 hj) rfl hd g
theorem gf_0_8 (X : Cx p m c cc nL s args own D q ad) {index j : Nat} (hl1 : Cond.fieldLink own index "RollerHorses$Ground" "umpireCount" "I" ∈ ALL) (hj : isK 0 j) (hd : decode cc pc = .ok (.getfield index, 3)) (g : Jg p l e R s m args below meth c cells slots Q D q ad d nL (pc + 3) lv (.int (S j 8) :: st) S) : Jg p l e R s m args below meth c cells slots Q D q ad d nL pc lv (.ref (ad j) :: st) S :=
  j_get X (C := RX0) (T := TX0) (N := 12) (ci := 0) (k := 8) hl1 winX0 rfl (by decide) rfl hj.1 (cl_0 hj) rfl hd g
theorem pf_0_8 (X : Cx p m c cc nL s args own D q ad) {index j : Nat} {v : Int32} (hl1 : Cond.fieldLink own index "RollerHorses$Ground" "umpireCount" "I" ∈ ALL) (hj : isK 0 j) (hd : decode cc pc = .ok (.putfield index, 3)) (g : Jg p l e R s m args below meth c cells slots Q D q ad d nL (pc + 3) lv st (up2 S j 8 v)) : Jg p l e R s m args below meth c cells slots Q D q ad d nL pc lv (.int v :: .ref (ad j) :: st) S :=
  j_put X (C := RX0) (T := TX0) (N := 12) (ci := 0) (k := 8) (ty := .int) tyX0 tyX0_ok nmX0 hl1 winX0 rfl (by decide) rfl rfl rfl rfl rfl hj.1 (cl_0 hj) (by simp) (fun i hi => up2_ne hi) (by rw [cl_0 hj]; simp [up2]) hd g
theorem gf_0_9 (X : Cx p m c cc nL s args own D q ad) {index j : Nat} (hl1 : Cond.fieldLink own index "RollerHorses$Ground" "strictness" "[I" ∈ ALL) (hj : isK 0 j) (hd : decode cc pc = .ok (.getfield index, 3)) (g : Jg p l e R s m args below meth c cells slots Q D q ad d nL (pc + 3) lv (.ref (ad (j + 3)) :: st) S) : Jg p l e R s m args below meth c cells slots Q D q ad d nL pc lv (.ref (ad j) :: st) S :=
  j_get X (C := RX0) (T := TX0) (N := 12) (ci := 0) (k := 9) hl1 winX0 rfl (by decide) rfl hj.1 (cl_0 hj) rfl hd g
theorem gf_0_10 (X : Cx p m c cc nL s args own D q ad) {index j : Nat} (hl1 : Cond.fieldLink own index "RollerHorses$Ground" "inningsCount" "I" ∈ ALL) (hj : isK 0 j) (hd : decode cc pc = .ok (.getfield index, 3)) (g : Jg p l e R s m args below meth c cells slots Q D q ad d nL (pc + 3) lv (.int (S j 10) :: st) S) : Jg p l e R s m args below meth c cells slots Q D q ad d nL pc lv (.ref (ad j) :: st) S :=
  j_get X (C := RX0) (T := TX0) (N := 12) (ci := 0) (k := 10) hl1 winX0 rfl (by decide) rfl hj.1 (cl_0 hj) rfl hd g
theorem pf_0_10 (X : Cx p m c cc nL s args own D q ad) {index j : Nat} {v : Int32} (hl1 : Cond.fieldLink own index "RollerHorses$Ground" "inningsCount" "I" ∈ ALL) (hj : isK 0 j) (hd : decode cc pc = .ok (.putfield index, 3)) (g : Jg p l e R s m args below meth c cells slots Q D q ad d nL (pc + 3) lv st (up2 S j 10 v)) : Jg p l e R s m args below meth c cells slots Q D q ad d nL pc lv (.int v :: .ref (ad j) :: st) S :=
  j_put X (C := RX0) (T := TX0) (N := 12) (ci := 0) (k := 10) (ty := .int) tyX0 tyX0_ok nmX0 hl1 winX0 rfl (by decide) rfl rfl rfl rfl rfl hj.1 (cl_0 hj) (by simp) (fun i hi => up2_ne hi) (by rw [cl_0 hj]; simp [up2]) hd g
theorem gf_0_11 (X : Cx p m c cc nL s args own D q ad) {index j : Nat} (hl1 : Cond.fieldLink own index "RollerHorses$Ground" "played" "[LRollerHorses$Innings;" ∈ ALL) (hj : isK 0 j) (hd : decode cc pc = .ok (.getfield index, 3)) (g : Jg p l e R s m args below meth c cells slots Q D q ad d nL (pc + 3) lv (.ref (ad (j + 6)) :: st) S) : Jg p l e R s m args below meth c cells slots Q D q ad d nL pc lv (.ref (ad j) :: st) S :=
  j_get X (C := RX0) (T := TX0) (N := 12) (ci := 0) (k := 11) hl1 winX0 rfl (by decide) rfl hj.1 (cl_0 hj) rfl hd g
theorem gf_8_0 (X : Cx p m c cc nL s args own D q ad) {index j : Nat} (hl1 : Cond.fieldLink own index "RollerHorses$Horse" "strength" "I" ∈ ALL) (hj : isK 8 j) (hd : decode cc pc = .ok (.getfield index, 3)) (g : Jg p l e R s m args below meth c cells slots Q D q ad d nL (pc + 3) lv (.int (S j 0) :: st) S) : Jg p l e R s m args below meth c cells slots Q D q ad d nL pc lv (.ref (ad j) :: st) S :=
  j_get X (C := RX1) (T := TX1) (N := 6) (ci := 1) (k := 0) hl1 winX1 rfl (by decide) rfl hj.1 (cl_8 hj) rfl hd g
theorem pf_8_0 (X : Cx p m c cc nL s args own D q ad) {index j : Nat} {v : Int32} (hl1 : Cond.fieldLink own index "RollerHorses$Horse" "strength" "I" ∈ ALL) (hj : isK 8 j) (hd : decode cc pc = .ok (.putfield index, 3)) (g : Jg p l e R s m args below meth c cells slots Q D q ad d nL (pc + 3) lv st (up2 S j 0 v)) : Jg p l e R s m args below meth c cells slots Q D q ad d nL pc lv (.int v :: .ref (ad j) :: st) S :=
  j_put X (C := RX1) (T := TX1) (N := 6) (ci := 1) (k := 0) (ty := .int) tyX1 tyX1_ok nmX1 hl1 winX1 rfl (by decide) rfl rfl rfl rfl rfl hj.1 (cl_8 hj) (by simp) (fun i hi => up2_ne hi) (by rw [cl_8 hj]; simp [up2]) hd g
theorem gf_8_1 (X : Cx p m c cc nL s args own D q ad) {index j : Nat} (hl1 : Cond.fieldLink own index "RollerHorses$Horse" "isBooted" "Z" ∈ ALL) (hj : isK 8 j) (hd : decode cc pc = .ok (.getfield index, 3)) (g : Jg p l e R s m args below meth c cells slots Q D q ad d nL (pc + 3) lv (.int (nb (S j 1)) :: st) S) : Jg p l e R s m args below meth c cells slots Q D q ad d nL pc lv (.ref (ad j) :: st) S :=
  j_get X (C := RX1) (T := TX1) (N := 6) (ci := 1) (k := 1) hl1 winX1 rfl (by decide) rfl hj.1 (cl_8 hj) rfl hd g
theorem pf_8_1 (X : Cx p m c cc nL s args own D q ad) {index j : Nat} {v : Int32} (hz : bz v) (hl1 : Cond.fieldLink own index "RollerHorses$Horse" "isBooted" "Z" ∈ ALL) (hj : isK 8 j) (hd : decode cc pc = .ok (.putfield index, 3)) (g : Jg p l e R s m args below meth c cells slots Q D q ad d nL (pc + 3) lv st (up2 S j 1 v)) : Jg p l e R s m args below meth c cells slots Q D q ad d nL pc lv (.int v :: .ref (ad j) :: st) S :=
  j_put X (C := RX1) (T := TX1) (N := 6) (ci := 1) (k := 1) (ty := .boolean) tyX1 tyX1_ok nmX1 hl1 winX1 rfl (by decide) rfl rfl rfl (bz_narrow hz) (bz_fits hz) hj.1 (cl_8 hj) (by simp) (fun i hi => up2_ne hi) (by rw [cl_8 hj]; simp [up2, nb_of hz]) hd g
theorem gf_8_2 (X : Cx p m c cc nL s args own D q ad) {index j : Nat} (hl1 : Cond.fieldLink own index "RollerHorses$Horse" "tiredness" "I" ∈ ALL) (hj : isK 8 j) (hd : decode cc pc = .ok (.getfield index, 3)) (g : Jg p l e R s m args below meth c cells slots Q D q ad d nL (pc + 3) lv (.int (S j 2) :: st) S) : Jg p l e R s m args below meth c cells slots Q D q ad d nL pc lv (.ref (ad j) :: st) S :=
  j_get X (C := RX1) (T := TX1) (N := 6) (ci := 1) (k := 2) hl1 winX1 rfl (by decide) rfl hj.1 (cl_8 hj) rfl hd g
theorem pf_8_2 (X : Cx p m c cc nL s args own D q ad) {index j : Nat} {v : Int32} (hl1 : Cond.fieldLink own index "RollerHorses$Horse" "tiredness" "I" ∈ ALL) (hj : isK 8 j) (hd : decode cc pc = .ok (.putfield index, 3)) (g : Jg p l e R s m args below meth c cells slots Q D q ad d nL (pc + 3) lv st (up2 S j 2 v)) : Jg p l e R s m args below meth c cells slots Q D q ad d nL pc lv (.int v :: .ref (ad j) :: st) S :=
  j_put X (C := RX1) (T := TX1) (N := 6) (ci := 1) (k := 2) (ty := .int) tyX1 tyX1_ok nmX1 hl1 winX1 rfl (by decide) rfl rfl rfl rfl rfl hj.1 (cl_8 hj) (by simp) (fun i hi => up2_ne hi) (by rw [cl_8 hj]; simp [up2]) hd g
theorem gf_8_3 (X : Cx p m c cc nL s args own D q ad) {index j : Nat} (hl1 : Cond.fieldLink own index "RollerHorses$Horse" "hoursLeft" "I" ∈ ALL) (hj : isK 8 j) (hd : decode cc pc = .ok (.getfield index, 3)) (g : Jg p l e R s m args below meth c cells slots Q D q ad d nL (pc + 3) lv (.int (S j 3) :: st) S) : Jg p l e R s m args below meth c cells slots Q D q ad d nL pc lv (.ref (ad j) :: st) S :=
  j_get X (C := RX1) (T := TX1) (N := 6) (ci := 1) (k := 3) hl1 winX1 rfl (by decide) rfl hj.1 (cl_8 hj) rfl hd g
theorem pf_8_3 (X : Cx p m c cc nL s args own D q ad) {index j : Nat} {v : Int32} (hl1 : Cond.fieldLink own index "RollerHorses$Horse" "hoursLeft" "I" ∈ ALL) (hj : isK 8 j) (hd : decode cc pc = .ok (.putfield index, 3)) (g : Jg p l e R s m args below meth c cells slots Q D q ad d nL (pc + 3) lv st (up2 S j 3 v)) : Jg p l e R s m args below meth c cells slots Q D q ad d nL pc lv (.int v :: .ref (ad j) :: st) S :=
  j_put X (C := RX1) (T := TX1) (N := 6) (ci := 1) (k := 3) (ty := .int) tyX1 tyX1_ok nmX1 hl1 winX1 rfl (by decide) rfl rfl rfl rfl rfl hj.1 (cl_8 hj) (by simp) (fun i hi => up2_ne hi) (by rw [cl_8 hj]; simp [up2]) hd g
theorem gf_8_4 (X : Cx p m c cc nL s args own D q ad) {index j : Nat} (hl1 : Cond.fieldLink own index "RollerHorses$Horse" "pitch" "I" ∈ ALL) (hj : isK 8 j) (hd : decode cc pc = .ok (.getfield index, 3)) (g : Jg p l e R s m args below meth c cells slots Q D q ad d nL (pc + 3) lv (.int (S j 4) :: st) S) : Jg p l e R s m args below meth c cells slots Q D q ad d nL pc lv (.ref (ad j) :: st) S :=
  j_get X (C := RX1) (T := TX1) (N := 6) (ci := 1) (k := 4) hl1 winX1 rfl (by decide) rfl hj.1 (cl_8 hj) rfl hd g
theorem pf_8_4 (X : Cx p m c cc nL s args own D q ad) {index j : Nat} {v : Int32} (hl1 : Cond.fieldLink own index "RollerHorses$Horse" "pitch" "I" ∈ ALL) (hj : isK 8 j) (hd : decode cc pc = .ok (.putfield index, 3)) (g : Jg p l e R s m args below meth c cells slots Q D q ad d nL (pc + 3) lv st (up2 S j 4 v)) : Jg p l e R s m args below meth c cells slots Q D q ad d nL pc lv (.int v :: .ref (ad j) :: st) S :=
  j_put X (C := RX1) (T := TX1) (N := 6) (ci := 1) (k := 4) (ty := .int) tyX1 tyX1_ok nmX1 hl1 winX1 rfl (by decide) rfl rfl rfl rfl rfl hj.1 (cl_8 hj) (by simp) (fun i hi => up2_ne hi) (by rw [cl_8 hj]; simp [up2]) hd g
theorem gf_8_5 (X : Cx p m c cc nL s args own D q ad) {index j : Nat} (hl1 : Cond.fieldLink own index "RollerHorses$Horse" "hoursRolled" "I" ∈ ALL) (hj : isK 8 j) (hd : decode cc pc = .ok (.getfield index, 3)) (g : Jg p l e R s m args below meth c cells slots Q D q ad d nL (pc + 3) lv (.int (S j 5) :: st) S) : Jg p l e R s m args below meth c cells slots Q D q ad d nL pc lv (.ref (ad j) :: st) S :=
  j_get X (C := RX1) (T := TX1) (N := 6) (ci := 1) (k := 5) hl1 winX1 rfl (by decide) rfl hj.1 (cl_8 hj) rfl hd g
theorem pf_8_5 (X : Cx p m c cc nL s args own D q ad) {index j : Nat} {v : Int32} (hl1 : Cond.fieldLink own index "RollerHorses$Horse" "hoursRolled" "I" ∈ ALL) (hj : isK 8 j) (hd : decode cc pc = .ok (.putfield index, 3)) (g : Jg p l e R s m args below meth c cells slots Q D q ad d nL (pc + 3) lv st (up2 S j 5 v)) : Jg p l e R s m args below meth c cells slots Q D q ad d nL pc lv (.int v :: .ref (ad j) :: st) S :=
  j_put X (C := RX1) (T := TX1) (N := 6) (ci := 1) (k := 5) (ty := .int) tyX1 tyX1_ok nmX1 hl1 winX1 rfl (by decide) rfl rfl rfl rfl rfl hj.1 (cl_8 hj) (by simp) (fun i hi => up2_ne hi) (by rw [cl_8 hj]; simp [up2]) hd g
theorem gf_9_0 (X : Cx p m c cc nL s args own D q ad) {index j : Nat} (hl1 : Cond.fieldLink own index "RollerHorses$Innings" "pitch" "I" ∈ ALL) (hj : isK 9 j) (hd : decode cc pc = .ok (.getfield index, 3)) (g : Jg p l e R s m args below meth c cells slots Q D q ad d nL (pc + 3) lv (.int (S j 0) :: st) S) : Jg p l e R s m args below meth c cells slots Q D q ad d nL pc lv (.ref (ad j) :: st) S :=
  j_get X (C := RX2) (T := TX2) (N := 8) (ci := 2) (k := 0) hl1 winX2 rfl (by decide) rfl hj.1 (cl_9 hj) rfl hd g
theorem pf_9_0 (X : Cx p m c cc nL s args own D q ad) {index j : Nat} {v : Int32} (hl1 : Cond.fieldLink own index "RollerHorses$Innings" "pitch" "I" ∈ ALL) (hj : isK 9 j) (hd : decode cc pc = .ok (.putfield index, 3)) (g : Jg p l e R s m args below meth c cells slots Q D q ad d nL (pc + 3) lv st (up2 S j 0 v)) : Jg p l e R s m args below meth c cells slots Q D q ad d nL pc lv (.int v :: .ref (ad j) :: st) S :=
  j_put X (C := RX2) (T := TX2) (N := 8) (ci := 2) (k := 0) (ty := .int) tyX2 tyX2_ok nmX2 hl1 winX2 rfl (by decide) rfl rfl rfl rfl rfl hj.1 (cl_9 hj) (by simp) (fun i hi => up2_ne hi) (by rw [cl_9 hj]; simp [up2]) hd g
theorem gf_9_1 (X : Cx p m c cc nL s args own D q ad) {index j : Nat} (hl1 : Cond.fieldLink own index "RollerHorses$Innings" "umpire" "I" ∈ ALL) (hj : isK 9 j) (hd : decode cc pc = .ok (.getfield index, 3)) (g : Jg p l e R s m args below meth c cells slots Q D q ad d nL (pc + 3) lv (.int (S j 1) :: st) S) : Jg p l e R s m args below meth c cells slots Q D q ad d nL pc lv (.ref (ad j) :: st) S :=
  j_get X (C := RX2) (T := TX2) (N := 8) (ci := 2) (k := 1) hl1 winX2 rfl (by decide) rfl hj.1 (cl_9 hj) rfl hd g
theorem pf_9_1 (X : Cx p m c cc nL s args own D q ad) {index j : Nat} {v : Int32} (hl1 : Cond.fieldLink own index "RollerHorses$Innings" "umpire" "I" ∈ ALL) (hj : isK 9 j) (hd : decode cc pc = .ok (.putfield index, 3)) (g : Jg p l e R s m args below meth c cells slots Q D q ad d nL (pc + 3) lv st (up2 S j 1 v)) : Jg p l e R s m args below meth c cells slots Q D q ad d nL pc lv (.int v :: .ref (ad j) :: st) S :=
  j_put X (C := RX2) (T := TX2) (N := 8) (ci := 2) (k := 1) (ty := .int) tyX2 tyX2_ok nmX2 hl1 winX2 rfl (by decide) rfl rfl rfl rfl rfl hj.1 (cl_9 hj) (by simp) (fun i hi => up2_ne hi) (by rw [cl_9 hj]; simp [up2]) hd g
theorem gf_9_2 (X : Cx p m c cc nL s args own D q ad) {index j : Nat} (hl1 : Cond.fieldLink own index "RollerHorses$Innings" "ballsInAll" "I" ∈ ALL) (hj : isK 9 j) (hd : decode cc pc = .ok (.getfield index, 3)) (g : Jg p l e R s m args below meth c cells slots Q D q ad d nL (pc + 3) lv (.int (S j 2) :: st) S) : Jg p l e R s m args below meth c cells slots Q D q ad d nL pc lv (.ref (ad j) :: st) S :=
  j_get X (C := RX2) (T := TX2) (N := 8) (ci := 2) (k := 2) hl1 winX2 rfl (by decide) rfl hj.1 (cl_9 hj) rfl hd g
theorem pf_9_2 (X : Cx p m c cc nL s args own D q ad) {index j : Nat} {v : Int32} (hl1 : Cond.fieldLink own index "RollerHorses$Innings" "ballsInAll" "I" ∈ ALL) (hj : isK 9 j) (hd : decode cc pc = .ok (.putfield index, 3)) (g : Jg p l e R s m args below meth c cells slots Q D q ad d nL (pc + 3) lv st (up2 S j 2 v)) : Jg p l e R s m args below meth c cells slots Q D q ad d nL pc lv (.int v :: .ref (ad j) :: st) S :=
  j_put X (C := RX2) (T := TX2) (N := 8) (ci := 2) (k := 2) (ty := .int) tyX2 tyX2_ok nmX2 hl1 winX2 rfl (by decide) rfl rfl rfl rfl rfl hj.1 (cl_9 hj) (by simp) (fun i hi => up2_ne hi) (by rw [cl_9 hj]; simp [up2]) hd g
theorem gf_9_3 (X : Cx p m c cc nL s args own D q ad) {index j : Nat} (hl1 : Cond.fieldLink own index "RollerHorses$Innings" "bowled" "I" ∈ ALL) (hj : isK 9 j) (hd : decode cc pc = .ok (.getfield index, 3)) (g : Jg p l e R s m args below meth c cells slots Q D q ad d nL (pc + 3) lv (.int (S j 3) :: st) S) : Jg p l e R s m args below meth c cells slots Q D q ad d nL pc lv (.ref (ad j) :: st) S :=
  j_get X (C := RX2) (T := TX2) (N := 8) (ci := 2) (k := 3) hl1 winX2 rfl (by decide) rfl hj.1 (cl_9 hj) rfl hd g
theorem pf_9_3 (X : Cx p m c cc nL s args own D q ad) {index j : Nat} {v : Int32} (hl1 : Cond.fieldLink own index "RollerHorses$Innings" "bowled" "I" ∈ ALL) (hj : isK 9 j) (hd : decode cc pc = .ok (.putfield index, 3)) (g : Jg p l e R s m args below meth c cells slots Q D q ad d nL (pc + 3) lv st (up2 S j 3 v)) : Jg p l e R s m args below meth c cells slots Q D q ad d nL pc lv (.int v :: .ref (ad j) :: st) S :=
  j_put X (C := RX2) (T := TX2) (N := 8) (ci := 2) (k := 3) (ty := .int) tyX2 tyX2_ok nmX2 hl1 winX2 rfl (by decide) rfl rfl rfl rfl rfl hj.1 (cl_9 hj) (by simp) (fun i hi => up2_ne hi) (by rw [cl_9 hj]; simp [up2]) hd g
theorem gf_9_4 (X : Cx p m c cc nL s args own D q ad) {index j : Nat} (hl1 : Cond.fieldLink own index "RollerHorses$Innings" "runs" "I" ∈ ALL) (hj : isK 9 j) (hd : decode cc pc = .ok (.getfield index, 3)) (g : Jg p l e R s m args below meth c cells slots Q D q ad d nL (pc + 3) lv (.int (S j 4) :: st) S) : Jg p l e R s m args below meth c cells slots Q D q ad d nL pc lv (.ref (ad j) :: st) S :=
  j_get X (C := RX2) (T := TX2) (N := 8) (ci := 2) (k := 4) hl1 winX2 rfl (by decide) rfl hj.1 (cl_9 hj) rfl hd g
theorem pf_9_4 (X : Cx p m c cc nL s args own D q ad) {index j : Nat} {v : Int32} (hl1 : Cond.fieldLink own index "RollerHorses$Innings" "runs" "I" ∈ ALL) (hj : isK 9 j) (hd : decode cc pc = .ok (.putfield index, 3)) (g : Jg p l e R s m args below meth c cells slots Q D q ad d nL (pc + 3) lv st (up2 S j 4 v)) : Jg p l e R s m args below meth c cells slots Q D q ad d nL pc lv (.int v :: .ref (ad j) :: st) S :=
  j_put X (C := RX2) (T := TX2) (N := 8) (ci := 2) (k := 4) (ty := .int) tyX2 tyX2_ok nmX2 hl1 winX2 rfl (by decide) rfl rfl rfl rfl rfl hj.1 (cl_9 hj) (by simp) (fun i hi => up2_ne hi) (by rw [cl_9 hj]; simp [up2]) hd g
theorem gf_9_5 (X : Cx p m c cc nL s args own D q ad) {index j : Nat} (hl1 : Cond.fieldLink own index "RollerHorses$Innings" "wickets" "I" ∈ ALL) (hj : isK 9 j) (hd : decode cc pc = .ok (.getfield index, 3)) (g : Jg p l e R s m args below meth c cells slots Q D q ad d nL (pc + 3) lv (.int (S j 5) :: st) S) : Jg p l e R s m args below meth c cells slots Q D q ad d nL pc lv (.ref (ad j) :: st) S :=
  j_get X (C := RX2) (T := TX2) (N := 8) (ci := 2) (k := 5) hl1 winX2 rfl (by decide) rfl hj.1 (cl_9 hj) rfl hd g
theorem pf_9_5 (X : Cx p m c cc nL s args own D q ad) {index j : Nat} {v : Int32} (hl1 : Cond.fieldLink own index "RollerHorses$Innings" "wickets" "I" ∈ ALL) (hj : isK 9 j) (hd : decode cc pc = .ok (.putfield index, 3)) (g : Jg p l e R s m args below meth c cells slots Q D q ad d nL (pc + 3) lv st (up2 S j 5 v)) : Jg p l e R s m args below meth c cells slots Q D q ad d nL pc lv (.int v :: .ref (ad j) :: st) S :=
  j_put X (C := RX2) (T := TX2) (N := 8) (ci := 2) (k := 5) (ty := .int) tyX2 tyX2_ok nmX2 hl1 winX2 rfl (by decide) rfl rfl rfl rfl rfl hj.1 (cl_9 hj) (by simp) (fun i hi => up2_ne hi) (by rw [cl_9 hj]; simp [up2]) hd g
theorem gf_9_6 (X : Cx p m c cc nL s args own D q ad) {index j : Nat} (hl1 : Cond.fieldLink own index "RollerHorses$Innings" "isEnded" "Z" ∈ ALL) (hj : isK 9 j) (hd : decode cc pc = .ok (.getfield index, 3)) (g : Jg p l e R s m args below meth c cells slots Q D q ad d nL (pc + 3) lv (.int (nb (S j 6)) :: st) S) : Jg p l e R s m args below meth c cells slots Q D q ad d nL pc lv (.ref (ad j) :: st) S :=
  j_get X (C := RX2) (T := TX2) (N := 8) (ci := 2) (k := 6) hl1 winX2 rfl (by decide) rfl hj.1 (cl_9 hj) rfl hd g
theorem pf_9_6 (X : Cx p m c cc nL s args own D q ad) {index j : Nat} {v : Int32} (hz : bz v) (hl1 : Cond.fieldLink own index "RollerHorses$Innings" "isEnded" "Z" ∈ ALL) (hj : isK 9 j) (hd : decode cc pc = .ok (.putfield index, 3)) (g : Jg p l e R s m args below meth c cells slots Q D q ad d nL (pc + 3) lv st (up2 S j 6 v)) : Jg p l e R s m args below meth c cells slots Q D q ad d nL pc lv (.int v :: .ref (ad j) :: st) S :=
  j_put X (C := RX2) (T := TX2) (N := 8) (ci := 2) (k := 6) (ty := .boolean) tyX2 tyX2_ok nmX2 hl1 winX2 rfl (by decide) rfl rfl rfl (bz_narrow hz) (bz_fits hz) hj.1 (cl_9 hj) (by simp) (fun i hi => up2_ne hi) (by rw [cl_9 hj]; simp [up2, nb_of hz]) hd g
theorem gf_9_7 (X : Cx p m c cc nL s args own D q ad) {index j : Nat} (hl1 : Cond.fieldLink own index "RollerHorses$Innings" "ofWorth" "[I" ∈ ALL) (hj : isK 9 j) (hd : decode cc pc = .ok (.getfield index, 3)) (g : Jg p l e R s m args below meth c cells slots Q D q ad d nL (pc + 3) lv (.ref (ad (j + 12)) :: st) S) : Jg p l e R s m args below meth c cells slots Q D q ad d nL pc lv (.ref (ad j) :: st) S :=
  j_get X (C := RX2) (T := TX2) (N := 8) (ci := 2) (k := 7) hl1 winX2 rfl (by decide) rfl hj.1 (cl_9 hj) rfl hd g
theorem gf_23_0 (X : Cx p m c cc nL s args own D q ad) {index j : Nat} (hl1 : Cond.fieldLink own index "RollerHorses$Orders" "signs" "[C" ∈ ALL) (hj : isK 23 j) (hd : decode cc pc = .ok (.getfield index, 3)) (g : Jg p l e R s m args below meth c cells slots Q D q ad d nL (pc + 3) lv (.ref (ad 4) :: st) S) : Jg p l e R s m args below meth c cells slots Q D q ad d nL pc lv (.ref (ad j) :: st) S :=
  j_get X (C := RX3) (T := TX3) (N := 9) (ci := 3) (k := 0) hl1 winX3 rfl (by decide) rfl hj.1 (cl_23 hj) rfl hd g
theorem gf_23_1 (X : Cx p m c cc nL s args own D q ad) {index j : Nat} (hl1 : Cond.fieldLink own index "RollerHorses$Orders" "length" "I" ∈ ALL) (hj : isK 23 j) (hd : decode cc pc = .ok (.getfield index, 3)) (g : Jg p l e R s m args below meth c cells slots Q D q ad d nL (pc + 3) lv (.int (S j 1) :: st) S) : Jg p l e R s m args below meth c cells slots Q D q ad d nL pc lv (.ref (ad j) :: st) S :=
  j_get X (C := RX3) (T := TX3) (N := 9) (ci := 3) (k := 1) hl1 winX3 rfl (by decide) rfl hj.1 (cl_23 hj) rfl hd g
theorem pf_23_1 (X : Cx p m c cc nL s args own D q ad) {index j : Nat} {v : Int32} (hl1 : Cond.fieldLink own index "RollerHorses$Orders" "length" "I" ∈ ALL) (hj : isK 23 j) (hd : decode cc pc = .ok (.putfield index, 3)) (g : Jg p l e R s m args below meth c cells slots Q D q ad d nL (pc + 3) lv st (up2 S j 1 v)) : Jg p l e R s m args below meth c cells slots Q D q ad d nL pc lv (.int v :: .ref (ad j) :: st) S :=
  j_put X (C := RX3) (T := TX3) (N := 9) (ci := 3) (k := 1) (ty := .int) tyX3 tyX3_ok nmX3 hl1 winX3 rfl (by decide) rfl rfl rfl rfl rfl hj.1 (cl_23 hj) (by simp) (fun i hi => up2_ne hi) (by rw [cl_23 hj]; simp [up2]) hd g
theorem gf_23_2 (X : Cx p m c cc nL s args own D q ad) {index j : Nat} (hl1 : Cond.fieldLink own index "RollerHorses$Orders" "errorAt" "I" ∈ ALL) (hj : isK 23 j) (hd : decode cc pc = .ok (.getfield index, 3)) (g : Jg p l e R s m args below meth c cells slots Q D q ad d nL (pc + 3) lv (.int (S j 2) :: st) S) : Jg p l e R s m args below meth c cells slots Q D q ad d nL pc lv (.ref (ad j) :: st) S :=
  j_get X (C := RX3) (T := TX3) (N := 9) (ci := 3) (k := 2) hl1 winX3 rfl (by decide) rfl hj.1 (cl_23 hj) rfl hd g
theorem pf_23_2 (X : Cx p m c cc nL s args own D q ad) {index j : Nat} {v : Int32} (hl1 : Cond.fieldLink own index "RollerHorses$Orders" "errorAt" "I" ∈ ALL) (hj : isK 23 j) (hd : decode cc pc = .ok (.putfield index, 3)) (g : Jg p l e R s m args below meth c cells slots Q D q ad d nL (pc + 3) lv st (up2 S j 2 v)) : Jg p l e R s m args below meth c cells slots Q D q ad d nL pc lv (.int v :: .ref (ad j) :: st) S :=
  j_put X (C := RX3) (T := TX3) (N := 9) (ci := 3) (k := 2) (ty := .int) tyX3 tyX3_ok nmX3 hl1 winX3 rfl (by decide) rfl rfl rfl rfl rfl hj.1 (cl_23 hj) (by simp) (fun i hi => up2_ne hi) (by rw [cl_23 hj]; simp [up2]) hd g
theorem gf_23_3 (X : Cx p m c cc nL s args own D q ad) {index j : Nat} (hl1 : Cond.fieldLink own index "RollerHorses$Orders" "count" "I" ∈ ALL) (hj : isK 23 j) (hd : decode cc pc = .ok (.getfield index, 3)) (g : Jg p l e R s m args below meth c cells slots Q D q ad d nL (pc + 3) lv (.int (S j 3) :: st) S) : Jg p l e R s m args below meth c cells slots Q D q ad d nL pc lv (.ref (ad j) :: st) S :=
  j_get X (C := RX3) (T := TX3) (N := 9) (ci := 3) (k := 3) hl1 winX3 rfl (by decide) rfl hj.1 (cl_23 hj) rfl hd g
theorem pf_23_3 (X : Cx p m c cc nL s args own D q ad) {index j : Nat} {v : Int32} (hl1 : Cond.fieldLink own index "RollerHorses$Orders" "count" "I" ∈ ALL) (hj : isK 23 j) (hd : decode cc pc = .ok (.putfield index, 3)) (g : Jg p l e R s m args below meth c cells slots Q D q ad d nL (pc + 3) lv st (up2 S j 3 v)) : Jg p l e R s m args below meth c cells slots Q D q ad d nL pc lv (.int v :: .ref (ad j) :: st) S :=
  j_put X (C := RX3) (T := TX3) (N := 9) (ci := 3) (k := 3) (ty := .int) tyX3 tyX3_ok nmX3 hl1 winX3 rfl (by decide) rfl rfl rfl rfl rfl hj.1 (cl_23 hj) (by simp) (fun i hi => up2_ne hi) (by rw [cl_23 hj]; simp [up2]) hd g
theorem gf_23_4 (X : Cx p m c cc nL s args own D q ad) {index j : Nat} (hl1 : Cond.fieldLink own index "RollerHorses$Orders" "at" "I" ∈ ALL) (hj : isK 23 j) (hd : decode cc pc = .ok (.getfield index, 3)) (g : Jg p l e R s m args below meth c cells slots Q D q ad d nL (pc + 3) lv (.int (S j 4) :: st) S) : Jg p l e R s m args below meth c cells slots Q D q ad d nL pc lv (.ref (ad j) :: st) S :=
  j_get X (C := RX3) (T := TX3) (N := 9) (ci := 3) (k := 4) hl1 winX3 rfl (by decide) rfl hj.1 (cl_23 hj) rfl hd g
theorem pf_23_4 (X : Cx p m c cc nL s args own D q ad) {index j : Nat} {v : Int32} (hl1 : Cond.fieldLink own index "RollerHorses$Orders" "at" "I" ∈ ALL) (hj : isK 23 j) (hd : decode cc pc = .ok (.putfield index, 3)) (g : Jg p l e R s m args below meth c cells slots Q D q ad d nL (pc + 3) lv st (up2 S j 4 v)) : Jg p l e R s m args below meth c cells slots Q D q ad d nL pc lv (.int v :: .ref (ad j) :: st) S :=
  j_put X (C := RX3) (T := TX3) (N := 9) (ci := 3) (k := 4) (ty := .int) tyX3 tyX3_ok nmX3 hl1 winX3 rfl (by decide) rfl rfl rfl rfl rfl hj.1 (cl_23 hj) (by simp) (fun i hi => up2_ne hi) (by rw [cl_23 hj]; simp [up2]) hd g
theorem gf_23_5 (X : Cx p m c cc nL s args own D q ad) {index j : Nat} (hl1 : Cond.fieldLink own index "RollerHorses$Orders" "kind" "I" ∈ ALL) (hj : isK 23 j) (hd : decode cc pc = .ok (.getfield index, 3)) (g : Jg p l e R s m args below meth c cells slots Q D q ad d nL (pc + 3) lv (.int (S j 5) :: st) S) : Jg p l e R s m args below meth c cells slots Q D q ad d nL pc lv (.ref (ad j) :: st) S :=
  j_get X (C := RX3) (T := TX3) (N := 9) (ci := 3) (k := 5) hl1 winX3 rfl (by decide) rfl hj.1 (cl_23 hj) rfl hd g
theorem pf_23_5 (X : Cx p m c cc nL s args own D q ad) {index j : Nat} {v : Int32} (hl1 : Cond.fieldLink own index "RollerHorses$Orders" "kind" "I" ∈ ALL) (hj : isK 23 j) (hd : decode cc pc = .ok (.putfield index, 3)) (g : Jg p l e R s m args below meth c cells slots Q D q ad d nL (pc + 3) lv st (up2 S j 5 v)) : Jg p l e R s m args below meth c cells slots Q D q ad d nL pc lv (.int v :: .ref (ad j) :: st) S :=
  j_put X (C := RX3) (T := TX3) (N := 9) (ci := 3) (k := 5) (ty := .int) tyX3 tyX3_ok nmX3 hl1 winX3 rfl (by decide) rfl rfl rfl rfl rfl hj.1 (cl_23 hj) (by simp) (fun i hi => up2_ne hi) (by rw [cl_23 hj]; simp [up2]) hd g
theorem gf_23_6 (X : Cx p m c cc nL s args own D q ad) {index j : Nat} (hl1 : Cond.fieldLink own index "RollerHorses$Orders" "first" "I" ∈ ALL) (hj : isK 23 j) (hd : decode cc pc = .ok (.getfield index, 3)) (g : Jg p l e R s m args below meth c cells slots Q D q ad d nL (pc + 3) lv (.int (S j 6) :: st) S) : Jg p l e R s m args below meth c cells slots Q D q ad d nL pc lv (.ref (ad j) :: st) S :=
  j_get X (C := RX3) (T := TX3) (N := 9) (ci := 3) (k := 6) hl1 winX3 rfl (by decide) rfl hj.1 (cl_23 hj) rfl hd g
theorem pf_23_6 (X : Cx p m c cc nL s args own D q ad) {index j : Nat} {v : Int32} (hl1 : Cond.fieldLink own index "RollerHorses$Orders" "first" "I" ∈ ALL) (hj : isK 23 j) (hd : decode cc pc = .ok (.putfield index, 3)) (g : Jg p l e R s m args below meth c cells slots Q D q ad d nL (pc + 3) lv st (up2 S j 6 v)) : Jg p l e R s m args below meth c cells slots Q D q ad d nL pc lv (.int v :: .ref (ad j) :: st) S :=
  j_put X (C := RX3) (T := TX3) (N := 9) (ci := 3) (k := 6) (ty := .int) tyX3 tyX3_ok nmX3 hl1 winX3 rfl (by decide) rfl rfl rfl rfl rfl hj.1 (cl_23 hj) (by simp) (fun i hi => up2_ne hi) (by rw [cl_23 hj]; simp [up2]) hd g
theorem gf_23_7 (X : Cx p m c cc nL s args own D q ad) {index j : Nat} (hl1 : Cond.fieldLink own index "RollerHorses$Orders" "second" "I" ∈ ALL) (hj : isK 23 j) (hd : decode cc pc = .ok (.getfield index, 3)) (g : Jg p l e R s m args below meth c cells slots Q D q ad d nL (pc + 3) lv (.int (S j 7) :: st) S) : Jg p l e R s m args below meth c cells slots Q D q ad d nL pc lv (.ref (ad j) :: st) S :=
  j_get X (C := RX3) (T := TX3) (N := 9) (ci := 3) (k := 7) hl1 winX3 rfl (by decide) rfl hj.1 (cl_23 hj) rfl hd g
theorem pf_23_7 (X : Cx p m c cc nL s args own D q ad) {index j : Nat} {v : Int32} (hl1 : Cond.fieldLink own index "RollerHorses$Orders" "second" "I" ∈ ALL) (hj : isK 23 j) (hd : decode cc pc = .ok (.putfield index, 3)) (g : Jg p l e R s m args below meth c cells slots Q D q ad d nL (pc + 3) lv st (up2 S j 7 v)) : Jg p l e R s m args below meth c cells slots Q D q ad d nL pc lv (.int v :: .ref (ad j) :: st) S :=
  j_put X (C := RX3) (T := TX3) (N := 9) (ci := 3) (k := 7) (ty := .int) tyX3 tyX3_ok nmX3 hl1 winX3 rfl (by decide) rfl rfl rfl rfl rfl hj.1 (cl_23 hj) (by simp) (fun i hi => up2_ne hi) (by rw [cl_23 hj]; simp [up2]) hd g
theorem gf_23_8 (X : Cx p m c cc nL s args own D q ad) {index j : Nat} (hl1 : Cond.fieldLink own index "RollerHorses$Orders" "third" "I" ∈ ALL) (hj : isK 23 j) (hd : decode cc pc = .ok (.getfield index, 3)) (g : Jg p l e R s m args below meth c cells slots Q D q ad d nL (pc + 3) lv (.int (S j 8) :: st) S) : Jg p l e R s m args below meth c cells slots Q D q ad d nL pc lv (.ref (ad j) :: st) S :=
  j_get X (C := RX3) (T := TX3) (N := 9) (ci := 3) (k := 8) hl1 winX3 rfl (by decide) rfl hj.1 (cl_23 hj) rfl hd g
theorem pf_23_8 (X : Cx p m c cc nL s args own D q ad) {index j : Nat} {v : Int32} (hl1 : Cond.fieldLink own index "RollerHorses$Orders" "third" "I" ∈ ALL) (hj : isK 23 j) (hd : decode cc pc = .ok (.putfield index, 3)) (g : Jg p l e R s m args below meth c cells slots Q D q ad d nL (pc + 3) lv st (up2 S j 8 v)) : Jg p l e R s m args below meth c cells slots Q D q ad d nL pc lv (.int v :: .ref (ad j) :: st) S :=
  j_put X (C := RX3) (T := TX3) (N := 9) (ci := 3) (k := 8) (ty := .int) tyX3 tyX3_ok nmX3 hl1 winX3 rfl (by decide) rfl rfl rfl rfl rfl hj.1 (cl_23 hj) (by simp) (fun i hi => up2_ne hi) (by rw [cl_23 hj]; simp [up2]) hd g
theorem gf_21_0 (X : Cx p m c cc nL s args own D q ad) {index j : Nat} (hl1 : Cond.fieldLink own index "RollerHorses$Past" "rows" "[LRollerHorses$Ground;" ∈ ALL) (hj : isK 21 j) (hd : decode cc pc = .ok (.getfield index, 3)) (g : Jg p l e R s m args below meth c cells slots Q D q ad d nL (pc + 3) lv (.ref (ad 2) :: st) S) : Jg p l e R s m args below meth c cells slots Q D q ad d nL pc lv (.ref (ad j) :: st) S :=
  j_get X (C := RX4) (T := TX4) (N := 3) (ci := 4) (k := 0) hl1 winX4 rfl (by decide) rfl hj.1 (cl_21 hj) rfl hd g
theorem gf_21_1 (X : Cx p m c cc nL s args own D q ad) {index j : Nat} (hl1 : Cond.fieldLink own index "RollerHorses$Past" "next" "I" ∈ ALL) (hj : isK 21 j) (hd : decode cc pc = .ok (.getfield index, 3)) (g : Jg p l e R s m args below meth c cells slots Q D q ad d nL (pc + 3) lv (.int (S j 1) :: st) S) : Jg p l e R s m args below meth c cells slots Q D q ad d nL pc lv (.ref (ad j) :: st) S :=
  j_get X (C := RX4) (T := TX4) (N := 3) (ci := 4) (k := 1) hl1 winX4 rfl (by decide) rfl hj.1 (cl_21 hj) rfl hd g
theorem pf_21_1 (X : Cx p m c cc nL s args own D q ad) {index j : Nat} {v : Int32} (hl1 : Cond.fieldLink own index "RollerHorses$Past" "next" "I" ∈ ALL) (hj : isK 21 j) (hd : decode cc pc = .ok (.putfield index, 3)) (g : Jg p l e R s m args below meth c cells slots Q D q ad d nL (pc + 3) lv st (up2 S j 1 v)) : Jg p l e R s m args below meth c cells slots Q D q ad d nL pc lv (.int v :: .ref (ad j) :: st) S :=
  j_put X (C := RX4) (T := TX4) (N := 3) (ci := 4) (k := 1) (ty := .int) tyX4 tyX4_ok nmX4 hl1 winX4 rfl (by decide) rfl rfl rfl rfl rfl hj.1 (cl_21 hj) (by simp) (fun i hi => up2_ne hi) (by rw [cl_21 hj]; simp [up2]) hd g
theorem gf_21_2 (X : Cx p m c cc nL s args own D q ad) {index j : Nat} (hl1 : Cond.fieldLink own index "RollerHorses$Past" "count" "I" ∈ ALL) (hj : isK 21 j) (hd : decode cc pc = .ok (.getfield index, 3)) (g : Jg p l e R s m args below meth c cells slots Q D q ad d nL (pc + 3) lv (.int (S j 2) :: st) S) : Jg p l e R s m args below meth c cells slots Q D q ad d nL pc lv (.ref (ad j) :: st) S :=
  j_get X (C := RX4) (T := TX4) (N := 3) (ci := 4) (k := 2) hl1 winX4 rfl (by decide) rfl hj.1 (cl_21 hj) rfl hd g
theorem pf_21_2 (X : Cx p m c cc nL s args own D q ad) {index j : Nat} {v : Int32} (hl1 : Cond.fieldLink own index "RollerHorses$Past" "count" "I" ∈ ALL) (hj : isK 21 j) (hd : decode cc pc = .ok (.putfield index, 3)) (g : Jg p l e R s m args below meth c cells slots Q D q ad d nL (pc + 3) lv st (up2 S j 2 v)) : Jg p l e R s m args below meth c cells slots Q D q ad d nL pc lv (.int v :: .ref (ad j) :: st) S :=
  j_put X (C := RX4) (T := TX4) (N := 3) (ci := 4) (k := 2) (ty := .int) tyX4 tyX4_ok nmX4 hl1 winX4 rfl (by decide) rfl rfl rfl rfl rfl hj.1 (cl_21 hj) (by simp) (fun i hi => up2_ne hi) (by rw [cl_21 hj]; simp [up2]) hd g
theorem gf_7_0 (X : Cx p m c cc nL s args own D q ad) {index j : Nat} (hl1 : Cond.fieldLink own index "RollerHorses$Pitch" "wetness" "I" ∈ ALL) (hj : isK 7 j) (hd : decode cc pc = .ok (.getfield index, 3)) (g : Jg p l e R s m args below meth c cells slots Q D q ad d nL (pc + 3) lv (.int (S j 0) :: st) S) : Jg p l e R s m args below meth c cells slots Q D q ad d nL pc lv (.ref (ad j) :: st) S :=
  j_get X (C := RX5) (T := TX5) (N := 5) (ci := 5) (k := 0) hl1 winX5 rfl (by decide) rfl hj.1 (cl_7 hj) rfl hd g
theorem pf_7_0 (X : Cx p m c cc nL s args own D q ad) {index j : Nat} {v : Int32} (hl1 : Cond.fieldLink own index "RollerHorses$Pitch" "wetness" "I" ∈ ALL) (hj : isK 7 j) (hd : decode cc pc = .ok (.putfield index, 3)) (g : Jg p l e R s m args below meth c cells slots Q D q ad d nL (pc + 3) lv st (up2 S j 0 v)) : Jg p l e R s m args below meth c cells slots Q D q ad d nL pc lv (.int v :: .ref (ad j) :: st) S :=
  j_put X (C := RX5) (T := TX5) (N := 5) (ci := 5) (k := 0) (ty := .int) tyX5 tyX5_ok nmX5 hl1 winX5 rfl (by decide) rfl rfl rfl rfl rfl hj.1 (cl_7 hj) (by simp) (fun i hi => up2_ne hi) (by rw [cl_7 hj]; simp [up2]) hd g
theorem gf_7_1 (X : Cx p m c cc nL s args own D q ad) {index j : Nat} (hl1 : Cond.fieldLink own index "RollerHorses$Pitch" "hardness" "I" ∈ ALL) (hj : isK 7 j) (hd : decode cc pc = .ok (.getfield index, 3)) (g : Jg p l e R s m args below meth c cells slots Q D q ad d nL (pc + 3) lv (.int (S j 1) :: st) S) : Jg p l e R s m args below meth c cells slots Q D q ad d nL pc lv (.ref (ad j) :: st) S :=
  j_get X (C := RX5) (T := TX5) (N := 5) (ci := 5) (k := 1) hl1 winX5 rfl (by decide) rfl hj.1 (cl_7 hj) rfl hd g
theorem pf_7_1 (X : Cx p m c cc nL s args own D q ad) {index j : Nat} {v : Int32} (hl1 : Cond.fieldLink own index "RollerHorses$Pitch" "hardness" "I" ∈ ALL) (hj : isK 7 j) (hd : decode cc pc = .ok (.putfield index, 3)) (g : Jg p l e R s m args below meth c cells slots Q D q ad d nL (pc + 3) lv st (up2 S j 1 v)) : Jg p l e R s m args below meth c cells slots Q D q ad d nL pc lv (.int v :: .ref (ad j) :: st) S :=
  j_put X (C := RX5) (T := TX5) (N := 5) (ci := 5) (k := 1) (ty := .int) tyX5 tyX5_ok nmX5 hl1 winX5 rfl (by decide) rfl rfl rfl rfl rfl hj.1 (cl_7 hj) (by simp) (fun i hi => up2_ne hi) (by rw [cl_7 hj]; simp [up2]) hd g
theorem gf_7_2 (X : Cx p m c cc nL s args own D q ad) {index j : Nat} (hl1 : Cond.fieldLink own index "RollerHorses$Pitch" "ruts" "I" ∈ ALL) (hj : isK 7 j) (hd : decode cc pc = .ok (.getfield index, 3)) (g : Jg p l e R s m args below meth c cells slots Q D q ad d nL (pc + 3) lv (.int (S j 2) :: st) S) : Jg p l e R s m args below meth c cells slots Q D q ad d nL pc lv (.ref (ad j) :: st) S :=
  j_get X (C := RX5) (T := TX5) (N := 5) (ci := 5) (k := 2) hl1 winX5 rfl (by decide) rfl hj.1 (cl_7 hj) rfl hd g
theorem pf_7_2 (X : Cx p m c cc nL s args own D q ad) {index j : Nat} {v : Int32} (hl1 : Cond.fieldLink own index "RollerHorses$Pitch" "ruts" "I" ∈ ALL) (hj : isK 7 j) (hd : decode cc pc = .ok (.putfield index, 3)) (g : Jg p l e R s m args below meth c cells slots Q D q ad d nL (pc + 3) lv st (up2 S j 2 v)) : Jg p l e R s m args below meth c cells slots Q D q ad d nL pc lv (.int v :: .ref (ad j) :: st) S :=
  j_put X (C := RX5) (T := TX5) (N := 5) (ci := 5) (k := 2) (ty := .int) tyX5 tyX5_ok nmX5 hl1 winX5 rfl (by decide) rfl rfl rfl rfl rfl hj.1 (cl_7 hj) (by simp) (fun i hi => up2_ne hi) (by rw [cl_7 hj]; simp [up2]) hd g
theorem gf_7_3 (X : Cx p m c cc nL s args own D q ad) {index j : Nat} (hl1 : Cond.fieldLink own index "RollerHorses$Pitch" "isCovered" "Z" ∈ ALL) (hj : isK 7 j) (hd : decode cc pc = .ok (.getfield index, 3)) (g : Jg p l e R s m args below meth c cells slots Q D q ad d nL (pc + 3) lv (.int (nb (S j 3)) :: st) S) : Jg p l e R s m args below meth c cells slots Q D q ad d nL pc lv (.ref (ad j) :: st) S :=
  j_get X (C := RX5) (T := TX5) (N := 5) (ci := 5) (k := 3) hl1 winX5 rfl (by decide) rfl hj.1 (cl_7 hj) rfl hd g
theorem pf_7_3 (X : Cx p m c cc nL s args own D q ad) {index j : Nat} {v : Int32} (hz : bz v) (hl1 : Cond.fieldLink own index "RollerHorses$Pitch" "isCovered" "Z" ∈ ALL) (hj : isK 7 j) (hd : decode cc pc = .ok (.putfield index, 3)) (g : Jg p l e R s m args below meth c cells slots Q D q ad d nL (pc + 3) lv st (up2 S j 3 v)) : Jg p l e R s m args below meth c cells slots Q D q ad d nL pc lv (.int v :: .ref (ad j) :: st) S :=
  j_put X (C := RX5) (T := TX5) (N := 5) (ci := 5) (k := 3) (ty := .boolean) tyX5 tyX5_ok nmX5 hl1 winX5 rfl (by decide) rfl rfl rfl (bz_narrow hz) (bz_fits hz) hj.1 (cl_7 hj) (by simp) (fun i hi => up2_ne hi) (by rw [cl_7 hj]; simp [up2, nb_of hz]) hd g
theorem gf_7_4 (X : Cx p m c cc nL s args own D q ad) {index j : Nat} (hl1 : Cond.fieldLink own index "RollerHorses$Pitch" "ballsOnIt" "I" ∈ ALL) (hj : isK 7 j) (hd : decode cc pc = .ok (.getfield index, 3)) (g : Jg p l e R s m args below meth c cells slots Q D q ad d nL (pc + 3) lv (.int (S j 4) :: st) S) : Jg p l e R s m args below meth c cells slots Q D q ad d nL pc lv (.ref (ad j) :: st) S :=
  j_get X (C := RX5) (T := TX5) (N := 5) (ci := 5) (k := 4) hl1 winX5 rfl (by decide) rfl hj.1 (cl_7 hj) rfl hd g
theorem pf_7_4 (X : Cx p m c cc nL s args own D q ad) {index j : Nat} {v : Int32} (hl1 : Cond.fieldLink own index "RollerHorses$Pitch" "ballsOnIt" "I" ∈ ALL) (hj : isK 7 j) (hd : decode cc pc = .ok (.putfield index, 3)) (g : Jg p l e R s m args below meth c cells slots Q D q ad d nL (pc + 3) lv st (up2 S j 4 v)) : Jg p l e R s m args below meth c cells slots Q D q ad d nL pc lv (.int v :: .ref (ad j) :: st) S :=
  j_put X (C := RX5) (T := TX5) (N := 5) (ci := 5) (k := 4) (ty := .int) tyX5 tyX5_ok nmX5 hl1 winX5 rfl (by decide) rfl rfl rfl rfl rfl hj.1 (cl_7 hj) (by simp) (fun i hi => up2_ne hi) (by rw [cl_7 hj]; simp [up2]) hd g
theorem gf_20_0 (X : Cx p m c cc nL s args own D q ad) {index j : Nat} (hl1 : Cond.fieldLink own index "RollerHorses" "now" "LRollerHorses$Ground;" ∈ ALL) (hj : isK 20 j) (hd : decode cc pc = .ok (.getfield index, 3)) (g : Jg p l e R s m args below meth c cells slots Q D q ad d nL (pc + 3) lv (.ref (ad 15) :: st) S) : Jg p l e R s m args below meth c cells slots Q D q ad d nL pc lv (.ref (ad j) :: st) S :=
  j_get X (C := RX6) (T := TX6) (N := 8) (ci := 6) (k := 0) hl1 winX6 rfl (by decide) rfl hj.1 (cl_20 hj) rfl hd g
theorem gf_20_1 (X : Cx p m c cc nL s args own D q ad) {index j : Nat} (hl1 : Cond.fieldLink own index "RollerHorses" "trial" "LRollerHorses$Ground;" ∈ ALL) (hj : isK 20 j) (hd : decode cc pc = .ok (.getfield index, 3)) (g : Jg p l e R s m args below meth c cells slots Q D q ad d nL (pc + 3) lv (.ref (ad 55) :: st) S) : Jg p l e R s m args below meth c cells slots Q D q ad d nL pc lv (.ref (ad j) :: st) S :=
  j_get X (C := RX6) (T := TX6) (N := 8) (ci := 6) (k := 1) hl1 winX6 rfl (by decide) rfl hj.1 (cl_20 hj) rfl hd g
theorem gf_20_2 (X : Cx p m c cc nL s args own D q ad) {index j : Nat} (hl1 : Cond.fieldLink own index "RollerHorses" "snapshot" "LRollerHorses$Ground;" ∈ ALL) (hj : isK 20 j) (hd : decode cc pc = .ok (.getfield index, 3)) (g : Jg p l e R s m args below meth c cells slots Q D q ad d nL (pc + 3) lv (.ref (ad 95) :: st) S) : Jg p l e R s m args below meth c cells slots Q D q ad d nL pc lv (.ref (ad j) :: st) S :=
  j_get X (C := RX6) (T := TX6) (N := 8) (ci := 6) (k := 2) hl1 winX6 rfl (by decide) rfl hj.1 (cl_20 hj) rfl hd g
theorem gf_20_3 (X : Cx p m c cc nL s args own D q ad) {index j : Nat} (hl1 : Cond.fieldLink own index "RollerHorses" "hasSnapshot" "Z" ∈ ALL) (hj : isK 20 j) (hd : decode cc pc = .ok (.getfield index, 3)) (g : Jg p l e R s m args below meth c cells slots Q D q ad d nL (pc + 3) lv (.int (nb (S j 3)) :: st) S) : Jg p l e R s m args below meth c cells slots Q D q ad d nL pc lv (.ref (ad j) :: st) S :=
  j_get X (C := RX6) (T := TX6) (N := 8) (ci := 6) (k := 3) hl1 winX6 rfl (by decide) rfl hj.1 (cl_20 hj) rfl hd g
theorem pf_20_3 (X : Cx p m c cc nL s args own D q ad) {index j : Nat} {v : Int32} (hz : bz v) (hl1 : Cond.fieldLink own index "RollerHorses" "hasSnapshot" "Z" ∈ ALL) (hj : isK 20 j) (hd : decode cc pc = .ok (.putfield index, 3)) (g : Jg p l e R s m args below meth c cells slots Q D q ad d nL (pc + 3) lv st (up2 S j 3 v)) : Jg p l e R s m args below meth c cells slots Q D q ad d nL pc lv (.int v :: .ref (ad j) :: st) S :=
  j_put X (C := RX6) (T := TX6) (N := 8) (ci := 6) (k := 3) (ty := .boolean) tyX6 tyX6_ok nmX6 hl1 winX6 rfl (by decide) rfl rfl rfl (bz_narrow hz) (bz_fits hz) hj.1 (cl_20 hj) (by simp) (fun i hi => up2_ne hi) (by rw [cl_20 hj]; simp [up2, nb_of hz]) hd g
theorem gf_20_4 (X : Cx p m c cc nL s args own D q ad) {index j : Nat} (hl1 : Cond.fieldLink own index "RollerHorses" "past" "LRollerHorses$Past;" ∈ ALL) (hj : isK 20 j) (hd : decode cc pc = .ok (.getfield index, 3)) (g : Jg p l e R s m args below meth c cells slots Q D q ad d nL (pc + 3) lv (.ref (ad 1) :: st) S) : Jg p l e R s m args below meth c cells slots Q D q ad d nL pc lv (.ref (ad j) :: st) S :=
  j_get X (C := RX6) (T := TX6) (N := 8) (ci := 6) (k := 4) hl1 winX6 rfl (by decide) rfl hj.1 (cl_20 hj) rfl hd g
theorem gf_20_5 (X : Cx p m c cc nL s args own D q ad) {index j : Nat} (hl1 : Cond.fieldLink own index "RollerHorses" "orders" "LRollerHorses$Orders;" ∈ ALL) (hj : isK 20 j) (hd : decode cc pc = .ok (.getfield index, 3)) (g : Jg p l e R s m args below meth c cells slots Q D q ad d nL (pc + 3) lv (.ref (ad 3) :: st) S) : Jg p l e R s m args below meth c cells slots Q D q ad d nL pc lv (.ref (ad j) :: st) S :=
  j_get X (C := RX6) (T := TX6) (N := 8) (ci := 6) (k := 5) hl1 winX6 rfl (by decide) rfl hj.1 (cl_20 hj) rfl hd g
theorem gf_20_6 (X : Cx p m c cc nL s args own D q ad) {index j : Nat} (hl1 : Cond.fieldLink own index "RollerHorses" "reason" "I" ∈ ALL) (hj : isK 20 j) (hd : decode cc pc = .ok (.getfield index, 3)) (g : Jg p l e R s m args below meth c cells slots Q D q ad d nL (pc + 3) lv (.int (S j 6) :: st) S) : Jg p l e R s m args below meth c cells slots Q D q ad d nL pc lv (.ref (ad j) :: st) S :=
  j_get X (C := RX6) (T := TX6) (N := 8) (ci := 6) (k := 6) hl1 winX6 rfl (by decide) rfl hj.1 (cl_20 hj) rfl hd g
theorem pf_20_6 (X : Cx p m c cc nL s args own D q ad) {index j : Nat} {v : Int32} (hl1 : Cond.fieldLink own index "RollerHorses" "reason" "I" ∈ ALL) (hj : isK 20 j) (hd : decode cc pc = .ok (.putfield index, 3)) (g : Jg p l e R s m args below meth c cells slots Q D q ad d nL (pc + 3) lv st (up2 S j 6 v)) : Jg p l e R s m args below meth c cells slots Q D q ad d nL pc lv (.int v :: .ref (ad j) :: st) S :=
  j_put X (C := RX6) (T := TX6) (N := 8) (ci := 6) (k := 6) (ty := .int) tyX6 tyX6_ok nmX6 hl1 winX6 rfl (by decide) rfl rfl rfl rfl rfl hj.1 (cl_20 hj) (by simp) (fun i hi => up2_ne hi) (by rw [cl_20 hj]; simp [up2]) hd g
theorem gf_20_7 (X : Cx p m c cc nL s args own D q ad) {index j : Nat} (hl1 : Cond.fieldLink own index "RollerHorses" "detail" "I" ∈ ALL) (hj : isK 20 j) (hd : decode cc pc = .ok (.getfield index, 3)) (g : Jg p l e R s m args below meth c cells slots Q D q ad d nL (pc + 3) lv (.int (S j 7) :: st) S) : Jg p l e R s m args below meth c cells slots Q D q ad d nL pc lv (.ref (ad j) :: st) S :=
  j_get X (C := RX6) (T := TX6) (N := 8) (ci := 6) (k := 7) hl1 winX6 rfl (by decide) rfl hj.1 (cl_20 hj) rfl hd g
theorem pf_20_7 (X : Cx p m c cc nL s args own D q ad) {index j : Nat} {v : Int32} (hl1 : Cond.fieldLink own index "RollerHorses" "detail" "I" ∈ ALL) (hj : isK 20 j) (hd : decode cc pc = .ok (.putfield index, 3)) (g : Jg p l e R s m args below meth c cells slots Q D q ad d nL (pc + 3) lv st (up2 S j 7 v)) : Jg p l e R s m args below meth c cells slots Q D q ad d nL pc lv (.int v :: .ref (ad j) :: st) S :=
  j_put X (C := RX6) (T := TX6) (N := 8) (ci := 6) (k := 7) (ty := .int) tyX6 tyX6_ok nmX6 hl1 winX6 rfl (by decide) rfl rfl rfl rfl rfl hj.1 (cl_20 hj) (by simp) (fun i hi => up2_ne hi) (by rw [cl_20 hj]; simp [up2]) hd g
theorem gf_25_0 (X : Cx p m c cc nL s args own D q ad) {index j : Nat} (hl1 : Cond.fieldLink own index "RollerHorsesModel" "g" "[I" ∈ ALL) (hj : isK 25 j) (hd : decode cc pc = .ok (.getfield index, 3)) (g : Jg p l e R s m args below meth c cells slots Q D q ad d nL (pc + 3) lv (.ref (ad 6) :: st) S) : Jg p l e R s m args below meth c cells slots Q D q ad d nL pc lv (.ref (ad j) :: st) S :=
  j_get X (C := RX7) (T := TX7) (N := 18) (ci := 7) (k := 0) hl1 winX7 rfl (by decide) rfl hj.1 (cl_25 hj) rfl hd g
theorem gf_25_1 (X : Cx p m c cc nL s args own D q ad) {index j : Nat} (hl1 : Cond.fieldLink own index "RollerHorsesModel" "kept" "[I" ∈ ALL) (hj : isK 25 j) (hd : decode cc pc = .ok (.getfield index, 3)) (g : Jg p l e R s m args below meth c cells slots Q D q ad d nL (pc + 3) lv (.ref (ad 7) :: st) S) : Jg p l e R s m args below meth c cells slots Q D q ad d nL pc lv (.ref (ad j) :: st) S :=
  j_get X (C := RX7) (T := TX7) (N := 18) (ci := 7) (k := 1) hl1 winX7 rfl (by decide) rfl hj.1 (cl_25 hj) rfl hd g
theorem gf_25_2 (X : Cx p m c cc nL s args own D q ad) {index j : Nat} (hl1 : Cond.fieldLink own index "RollerHorsesModel" "saved" "[I" ∈ ALL) (hj : isK 25 j) (hd : decode cc pc = .ok (.getfield index, 3)) (g : Jg p l e R s m args below meth c cells slots Q D q ad d nL (pc + 3) lv (.ref (ad 8) :: st) S) : Jg p l e R s m args below meth c cells slots Q D q ad d nL pc lv (.ref (ad j) :: st) S :=
  j_get X (C := RX7) (T := TX7) (N := 18) (ci := 7) (k := 2) hl1 winX7 rfl (by decide) rfl hj.1 (cl_25 hj) rfl hd g
theorem gf_25_3 (X : Cx p m c cc nL s args own D q ad) {index j : Nat} (hl1 : Cond.fieldLink own index "RollerHorsesModel" "before" "[I" ∈ ALL) (hj : isK 25 j) (hd : decode cc pc = .ok (.getfield index, 3)) (g : Jg p l e R s m args below meth c cells slots Q D q ad d nL (pc + 3) lv (.ref (ad 9) :: st) S) : Jg p l e R s m args below meth c cells slots Q D q ad d nL pc lv (.ref (ad j) :: st) S :=
  j_get X (C := RX7) (T := TX7) (N := 18) (ci := 7) (k := 3) hl1 winX7 rfl (by decide) rfl hj.1 (cl_25 hj) rfl hd g
theorem gf_25_4 (X : Cx p m c cc nL s args own D q ad) {index j : Nat} (hl1 : Cond.fieldLink own index "RollerHorsesModel" "spare" "[I" ∈ ALL) (hj : isK 25 j) (hd : decode cc pc = .ok (.getfield index, 3)) (g : Jg p l e R s m args below meth c cells slots Q D q ad d nL (pc + 3) lv (.ref (ad 10) :: st) S) : Jg p l e R s m args below meth c cells slots Q D q ad d nL pc lv (.ref (ad j) :: st) S :=
  j_get X (C := RX7) (T := TX7) (N := 18) (ci := 7) (k := 4) hl1 winX7 rfl (by decide) rfl hj.1 (cl_25 hj) rfl hd g
theorem gf_25_5 (X : Cx p m c cc nL s args own D q ad) {index j : Nat} (hl1 : Cond.fieldLink own index "RollerHorsesModel" "isSaved" "Z" ∈ ALL) (hj : isK 25 j) (hd : decode cc pc = .ok (.getfield index, 3)) (g : Jg p l e R s m args below meth c cells slots Q D q ad d nL (pc + 3) lv (.int (nb (S j 5)) :: st) S) : Jg p l e R s m args below meth c cells slots Q D q ad d nL pc lv (.ref (ad j) :: st) S :=
  j_get X (C := RX7) (T := TX7) (N := 18) (ci := 7) (k := 5) hl1 winX7 rfl (by decide) rfl hj.1 (cl_25 hj) rfl hd g
theorem pf_25_5 (X : Cx p m c cc nL s args own D q ad) {index j : Nat} {v : Int32} (hz : bz v) (hl1 : Cond.fieldLink own index "RollerHorsesModel" "isSaved" "Z" ∈ ALL) (hj : isK 25 j) (hd : decode cc pc = .ok (.putfield index, 3)) (g : Jg p l e R s m args below meth c cells slots Q D q ad d nL (pc + 3) lv st (up2 S j 5 v)) : Jg p l e R s m args below meth c cells slots Q D q ad d nL pc lv (.int v :: .ref (ad j) :: st) S :=
  j_put X (C := RX7) (T := TX7) (N := 18) (ci := 7) (k := 5) (ty := .boolean) tyX7 tyX7_ok nmX7 hl1 winX7 rfl (by decide) rfl rfl rfl (bz_narrow hz) (bz_fits hz) hj.1 (cl_25 hj) (by simp) (fun i hi => up2_ne hi) (by rw [cl_25 hj]; simp [up2, nb_of hz]) hd g
theorem gf_25_6 (X : Cx p m c cc nL s args own D q ad) {index j : Nat} (hl1 : Cond.fieldLink own index "RollerHorsesModel" "changes" "I" ∈ ALL) (hj : isK 25 j) (hd : decode cc pc = .ok (.getfield index, 3)) (g : Jg p l e R s m args below meth c cells slots Q D q ad d nL (pc + 3) lv (.int (S j 6) :: st) S) : Jg p l e R s m args below meth c cells slots Q D q ad d nL pc lv (.ref (ad j) :: st) S :=
  j_get X (C := RX7) (T := TX7) (N := 18) (ci := 7) (k := 6) hl1 winX7 rfl (by decide) rfl hj.1 (cl_25 hj) rfl hd g
theorem pf_25_6 (X : Cx p m c cc nL s args own D q ad) {index j : Nat} {v : Int32} (hl1 : Cond.fieldLink own index "RollerHorsesModel" "changes" "I" ∈ ALL) (hj : isK 25 j) (hd : decode cc pc = .ok (.putfield index, 3)) (g : Jg p l e R s m args below meth c cells slots Q D q ad d nL (pc + 3) lv st (up2 S j 6 v)) : Jg p l e R s m args below meth c cells slots Q D q ad d nL pc lv (.int v :: .ref (ad j) :: st) S :=
  j_put X (C := RX7) (T := TX7) (N := 18) (ci := 7) (k := 6) (ty := .int) tyX7 tyX7_ok nmX7 hl1 winX7 rfl (by decide) rfl rfl rfl rfl rfl hj.1 (cl_25 hj) (by simp) (fun i hi => up2_ne hi) (by rw [cl_25 hj]; simp [up2]) hd g
theorem gf_25_7 (X : Cx p m c cc nL s args own D q ad) {index j : Nat} (hl1 : Cond.fieldLink own index "RollerHorsesModel" "isWithin" "Z" ∈ ALL) (hj : isK 25 j) (hd : decode cc pc = .ok (.getfield index, 3)) (g : Jg p l e R s m args below meth c cells slots Q D q ad d nL (pc + 3) lv (.int (nb (S j 7)) :: st) S) : Jg p l e R s m args below meth c cells slots Q D q ad d nL pc lv (.ref (ad j) :: st) S :=
  j_get X (C := RX7) (T := TX7) (N := 18) (ci := 7) (k := 7) hl1 winX7 rfl (by decide) rfl hj.1 (cl_25 hj) rfl hd g
theorem pf_25_7 (X : Cx p m c cc nL s args own D q ad) {index j : Nat} {v : Int32} (hz : bz v) (hl1 : Cond.fieldLink own index "RollerHorsesModel" "isWithin" "Z" ∈ ALL) (hj : isK 25 j) (hd : decode cc pc = .ok (.putfield index, 3)) (g : Jg p l e R s m args below meth c cells slots Q D q ad d nL (pc + 3) lv st (up2 S j 7 v)) : Jg p l e R s m args below meth c cells slots Q D q ad d nL pc lv (.int v :: .ref (ad j) :: st) S :=
  j_put X (C := RX7) (T := TX7) (N := 18) (ci := 7) (k := 7) (ty := .boolean) tyX7 tyX7_ok nmX7 hl1 winX7 rfl (by decide) rfl rfl rfl (bz_narrow hz) (bz_fits hz) hj.1 (cl_25 hj) (by simp) (fun i hi => up2_ne hi) (by rw [cl_25 hj]; simp [up2, nb_of hz]) hd g
theorem gf_25_8 (X : Cx p m c cc nL s args own D q ad) {index j : Nat} (hl1 : Cond.fieldLink own index "RollerHorsesModel" "code" "I" ∈ ALL) (hj : isK 25 j) (hd : decode cc pc = .ok (.getfield index, 3)) (g : Jg p l e R s m args below meth c cells slots Q D q ad d nL (pc + 3) lv (.int (S j 8) :: st) S) : Jg p l e R s m args below meth c cells slots Q D q ad d nL pc lv (.ref (ad j) :: st) S :=
  j_get X (C := RX7) (T := TX7) (N := 18) (ci := 7) (k := 8) hl1 winX7 rfl (by decide) rfl hj.1 (cl_25 hj) rfl hd g
theorem pf_25_8 (X : Cx p m c cc nL s args own D q ad) {index j : Nat} {v : Int32} (hl1 : Cond.fieldLink own index "RollerHorsesModel" "code" "I" ∈ ALL) (hj : isK 25 j) (hd : decode cc pc = .ok (.putfield index, 3)) (g : Jg p l e R s m args below meth c cells slots Q D q ad d nL (pc + 3) lv st (up2 S j 8 v)) : Jg p l e R s m args below meth c cells slots Q D q ad d nL pc lv (.int v :: .ref (ad j) :: st) S :=
  j_put X (C := RX7) (T := TX7) (N := 18) (ci := 7) (k := 8) (ty := .int) tyX7 tyX7_ok nmX7 hl1 winX7 rfl (by decide) rfl rfl rfl rfl rfl hj.1 (cl_25 hj) (by simp) (fun i hi => up2_ne hi) (by rw [cl_25 hj]; simp [up2]) hd g
theorem gf_25_9 (X : Cx p m c cc nL s args own D q ad) {index j : Nat} (hl1 : Cond.fieldLink own index "RollerHorsesModel" "isRefused" "Z" ∈ ALL) (hj : isK 25 j) (hd : decode cc pc = .ok (.getfield index, 3)) (g : Jg p l e R s m args below meth c cells slots Q D q ad d nL (pc + 3) lv (.int (nb (S j 9)) :: st) S) : Jg p l e R s m args below meth c cells slots Q D q ad d nL pc lv (.ref (ad j) :: st) S :=
  j_get X (C := RX7) (T := TX7) (N := 18) (ci := 7) (k := 9) hl1 winX7 rfl (by decide) rfl hj.1 (cl_25 hj) rfl hd g
theorem pf_25_9 (X : Cx p m c cc nL s args own D q ad) {index j : Nat} {v : Int32} (hz : bz v) (hl1 : Cond.fieldLink own index "RollerHorsesModel" "isRefused" "Z" ∈ ALL) (hj : isK 25 j) (hd : decode cc pc = .ok (.putfield index, 3)) (g : Jg p l e R s m args below meth c cells slots Q D q ad d nL (pc + 3) lv st (up2 S j 9 v)) : Jg p l e R s m args below meth c cells slots Q D q ad d nL pc lv (.int v :: .ref (ad j) :: st) S :=
  j_put X (C := RX7) (T := TX7) (N := 18) (ci := 7) (k := 9) (ty := .boolean) tyX7 tyX7_ok nmX7 hl1 winX7 rfl (by decide) rfl rfl rfl (bz_narrow hz) (bz_fits hz) hj.1 (cl_25 hj) (by simp) (fun i hi => up2_ne hi) (by rw [cl_25 hj]; simp [up2, nb_of hz]) hd g
theorem gf_25_10 (X : Cx p m c cc nL s args own D q ad) {index j : Nat} (hl1 : Cond.fieldLink own index "RollerHorsesModel" "why" "I" ∈ ALL) (hj : isK 25 j) (hd : decode cc pc = .ok (.getfield index, 3)) (g : Jg p l e R s m args below meth c cells slots Q D q ad d nL (pc + 3) lv (.int (S j 10) :: st) S) : Jg p l e R s m args below meth c cells slots Q D q ad d nL pc lv (.ref (ad j) :: st) S :=
  j_get X (C := RX7) (T := TX7) (N := 18) (ci := 7) (k := 10) hl1 winX7 rfl (by decide) rfl hj.1 (cl_25 hj) rfl hd g
theorem pf_25_10 (X : Cx p m c cc nL s args own D q ad) {index j : Nat} {v : Int32} (hl1 : Cond.fieldLink own index "RollerHorsesModel" "why" "I" ∈ ALL) (hj : isK 25 j) (hd : decode cc pc = .ok (.putfield index, 3)) (g : Jg p l e R s m args below meth c cells slots Q D q ad d nL (pc + 3) lv st (up2 S j 10 v)) : Jg p l e R s m args below meth c cells slots Q D q ad d nL pc lv (.int v :: .ref (ad j) :: st) S :=
  j_put X (C := RX7) (T := TX7) (N := 18) (ci := 7) (k := 10) (ty := .int) tyX7 tyX7_ok nmX7 hl1 winX7 rfl (by decide) rfl rfl rfl rfl rfl hj.1 (cl_25 hj) (by simp) (fun i hi => up2_ne hi) (by rw [cl_25 hj]; simp [up2]) hd g
theorem gf_25_11 (X : Cx p m c cc nL s args own D q ad) {index j : Nat} (hl1 : Cond.fieldLink own index "RollerHorsesModel" "detail" "I" ∈ ALL) (hj : isK 25 j) (hd : decode cc pc = .ok (.getfield index, 3)) (g : Jg p l e R s m args below meth c cells slots Q D q ad d nL (pc + 3) lv (.int (S j 11) :: st) S) : Jg p l e R s m args below meth c cells slots Q D q ad d nL pc lv (.ref (ad j) :: st) S :=
  j_get X (C := RX7) (T := TX7) (N := 18) (ci := 7) (k := 11) hl1 winX7 rfl (by decide) rfl hj.1 (cl_25 hj) rfl hd g
theorem pf_25_11 (X : Cx p m c cc nL s args own D q ad) {index j : Nat} {v : Int32} (hl1 : Cond.fieldLink own index "RollerHorsesModel" "detail" "I" ∈ ALL) (hj : isK 25 j) (hd : decode cc pc = .ok (.putfield index, 3)) (g : Jg p l e R s m args below meth c cells slots Q D q ad d nL (pc + 3) lv st (up2 S j 11 v)) : Jg p l e R s m args below meth c cells slots Q D q ad d nL pc lv (.int v :: .ref (ad j) :: st) S :=
  j_put X (C := RX7) (T := TX7) (N := 18) (ci := 7) (k := 11) (ty := .int) tyX7 tyX7_ok nmX7 hl1 winX7 rfl (by decide) rfl rfl rfl rfl rfl hj.1 (cl_25 hj) (by simp) (fun i hi => up2_ne hi) (by rw [cl_25 hj]; simp [up2]) hd g
theorem gf_25_12 (X : Cx p m c cc nL s args own D q ad) {index j : Nat} (hl1 : Cond.fieldLink own index "RollerHorsesModel" "input" "[I" ∈ ALL) (hj : isK 25 j) (hd : decode cc pc = .ok (.getfield index, 3)) (g : Jg p l e R s m args below meth c cells slots Q D q ad d nL (pc + 3) lv (.ref (ad 11) :: st) S) : Jg p l e R s m args below meth c cells slots Q D q ad d nL pc lv (.ref (ad j) :: st) S :=
  j_get X (C := RX7) (T := TX7) (N := 18) (ci := 7) (k := 12) hl1 winX7 rfl (by decide) rfl hj.1 (cl_25 hj) rfl hd g
theorem gf_25_13 (X : Cx p m c cc nL s args own D q ad) {index j : Nat} (hl1 : Cond.fieldLink own index "RollerHorsesModel" "length" "I" ∈ ALL) (hj : isK 25 j) (hd : decode cc pc = .ok (.getfield index, 3)) (g : Jg p l e R s m args below meth c cells slots Q D q ad d nL (pc + 3) lv (.int (S j 13) :: st) S) : Jg p l e R s m args below meth c cells slots Q D q ad d nL pc lv (.ref (ad j) :: st) S :=
  j_get X (C := RX7) (T := TX7) (N := 18) (ci := 7) (k := 13) hl1 winX7 rfl (by decide) rfl hj.1 (cl_25 hj) rfl hd g
theorem pf_25_13 (X : Cx p m c cc nL s args own D q ad) {index j : Nat} {v : Int32} (hl1 : Cond.fieldLink own index "RollerHorsesModel" "length" "I" ∈ ALL) (hj : isK 25 j) (hd : decode cc pc = .ok (.putfield index, 3)) (g : Jg p l e R s m args below meth c cells slots Q D q ad d nL (pc + 3) lv st (up2 S j 13 v)) : Jg p l e R s m args below meth c cells slots Q D q ad d nL pc lv (.int v :: .ref (ad j) :: st) S :=
  j_put X (C := RX7) (T := TX7) (N := 18) (ci := 7) (k := 13) (ty := .int) tyX7 tyX7_ok nmX7 hl1 winX7 rfl (by decide) rfl rfl rfl rfl rfl hj.1 (cl_25 hj) (by simp) (fun i hi => up2_ne hi) (by rw [cl_25 hj]; simp [up2]) hd g
theorem gf_25_14 (X : Cx p m c cc nL s args own D q ad) {index j : Nat} (hl1 : Cond.fieldLink own index "RollerHorsesModel" "error" "I" ∈ ALL) (hj : isK 25 j) (hd : decode cc pc = .ok (.getfield index, 3)) (g : Jg p l e R s m args below meth c cells slots Q D q ad d nL (pc + 3) lv (.int (S j 14) :: st) S) : Jg p l e R s m args below meth c cells slots Q D q ad d nL pc lv (.ref (ad j) :: st) S :=
  j_get X (C := RX7) (T := TX7) (N := 18) (ci := 7) (k := 14) hl1 winX7 rfl (by decide) rfl hj.1 (cl_25 hj) rfl hd g
theorem pf_25_14 (X : Cx p m c cc nL s args own D q ad) {index j : Nat} {v : Int32} (hl1 : Cond.fieldLink own index "RollerHorsesModel" "error" "I" ∈ ALL) (hj : isK 25 j) (hd : decode cc pc = .ok (.putfield index, 3)) (g : Jg p l e R s m args below meth c cells slots Q D q ad d nL (pc + 3) lv st (up2 S j 14 v)) : Jg p l e R s m args below meth c cells slots Q D q ad d nL pc lv (.int v :: .ref (ad j) :: st) S :=
  j_put X (C := RX7) (T := TX7) (N := 18) (ci := 7) (k := 14) (ty := .int) tyX7 tyX7_ok nmX7 hl1 winX7 rfl (by decide) rfl rfl rfl rfl rfl hj.1 (cl_25 hj) (by simp) (fun i hi => up2_ne hi) (by rw [cl_25 hj]; simp [up2]) hd g
theorem gf_25_15 (X : Cx p m c cc nL s args own D q ad) {index j : Nat} (hl1 : Cond.fieldLink own index "RollerHorsesModel" "at" "I" ∈ ALL) (hj : isK 25 j) (hd : decode cc pc = .ok (.getfield index, 3)) (g : Jg p l e R s m args below meth c cells slots Q D q ad d nL (pc + 3) lv (.int (S j 15) :: st) S) : Jg p l e R s m args below meth c cells slots Q D q ad d nL pc lv (.ref (ad j) :: st) S :=
  j_get X (C := RX7) (T := TX7) (N := 18) (ci := 7) (k := 15) hl1 winX7 rfl (by decide) rfl hj.1 (cl_25 hj) rfl hd g
theorem pf_25_15 (X : Cx p m c cc nL s args own D q ad) {index j : Nat} {v : Int32} (hl1 : Cond.fieldLink own index "RollerHorsesModel" "at" "I" ∈ ALL) (hj : isK 25 j) (hd : decode cc pc = .ok (.putfield index, 3)) (g : Jg p l e R s m args below meth c cells slots Q D q ad d nL (pc + 3) lv st (up2 S j 15 v)) : Jg p l e R s m args below meth c cells slots Q D q ad d nL pc lv (.int v :: .ref (ad j) :: st) S :=
  j_put X (C := RX7) (T := TX7) (N := 18) (ci := 7) (k := 15) (ty := .int) tyX7 tyX7_ok nmX7 hl1 winX7 rfl (by decide) rfl rfl rfl rfl rfl hj.1 (cl_25 hj) (by simp) (fun i hi => up2_ne hi) (by rw [cl_25 hj]; simp [up2]) hd g
theorem gf_25_16 (X : Cx p m c cc nL s args own D q ad) {index j : Nat} (hl1 : Cond.fieldLink own index "RollerHorsesModel" "told" "[I" ∈ ALL) (hj : isK 25 j) (hd : decode cc pc = .ok (.getfield index, 3)) (g : Jg p l e R s m args below meth c cells slots Q D q ad d nL (pc + 3) lv (.ref (ad 12) :: st) S) : Jg p l e R s m args below meth c cells slots Q D q ad d nL pc lv (.ref (ad j) :: st) S :=
  j_get X (C := RX7) (T := TX7) (N := 18) (ci := 7) (k := 16) hl1 winX7 rfl (by decide) rfl hj.1 (cl_25 hj) rfl hd g
theorem gf_25_17 (X : Cx p m c cc nL s args own D q ad) {index j : Nat} (hl1 : Cond.fieldLink own index "RollerHorsesModel" "toldMany" "I" ∈ ALL) (hj : isK 25 j) (hd : decode cc pc = .ok (.getfield index, 3)) (g : Jg p l e R s m args below meth c cells slots Q D q ad d nL (pc + 3) lv (.int (S j 17) :: st) S) : Jg p l e R s m args below meth c cells slots Q D q ad d nL pc lv (.ref (ad j) :: st) S :=
  j_get X (C := RX7) (T := TX7) (N := 18) (ci := 7) (k := 17) hl1 winX7 rfl (by decide) rfl hj.1 (cl_25 hj) rfl hd g
theorem pf_25_17 (X : Cx p m c cc nL s args own D q ad) {index j : Nat} {v : Int32} (hl1 : Cond.fieldLink own index "RollerHorsesModel" "toldMany" "I" ∈ ALL) (hj : isK 25 j) (hd : decode cc pc = .ok (.putfield index, 3)) (g : Jg p l e R s m args below meth c cells slots Q D q ad d nL (pc + 3) lv st (up2 S j 17 v)) : Jg p l e R s m args below meth c cells slots Q D q ad d nL pc lv (.int v :: .ref (ad j) :: st) S :=
  j_put X (C := RX7) (T := TX7) (N := 18) (ci := 7) (k := 17) (ty := .int) tyX7 tyX7_ok nmX7 hl1 winX7 rfl (by decide) rfl rfl rfl rfl rfl hj.1 (cl_25 hj) (by simp) (fun i hi => up2_ne hi) (by rw [cl_25 hj]; simp [up2]) hd g
end JF
theorem cw_L_101 : CWv RL 101 RX6 yX6_append cX6_append 2 (some .int) 1 := ⟨m_ml_L_101, m_im_X6_append, m_se_X6_append, m_in_X6, m_co_X6_append, by decide +kernel⟩
theorem cw_L_107 : CWv RL 107 RX6 yX6_read cX6_read 2 (some .int) 0 := ⟨m_ml_L_107, m_im_X6_read, m_se_X6_read, m_in_X6, m_co_X6_read, by decide +kernel⟩
theorem cw_L_110 : CWv RL 110 RX6 yX6_refusal cX6_refusal 2 (some .int) 1 := ⟨m_ml_L_110, m_im_X6_refusal, m_se_X6_refusal, m_in_X6, m_co_X6_refusal, by decide +kernel⟩
theorem cw_L_114 : CWv RL 114 RX6 yX6_account cX6_account 2 (some .int) 1 := ⟨m_ml_L_114, m_im_X6_account, m_se_X6_account, m_in_X6, m_co_X6_account, by decide +kernel⟩
theorem cw_L_117 : CWv RL 117 RX6 yX6_meanRuns cX6_meanRuns 1 (some .double) 0 := ⟨m_ml_L_117, m_im_X6_meanRuns, m_se_X6_meanRuns, m_in_X6, m_co_X6_meanRuns, by decide +kernel⟩
theorem cw_L_123 : CWv RL 123 RX6 yX6_wickets cX6_wickets 2 (some .float) 0 := ⟨m_ml_L_123, m_im_X6_wickets, m_se_X6_wickets, m_in_X6, m_co_X6_wickets, by decide +kernel⟩
theorem cw_L_127 : CWv RL 127 RX6 yX6_undo cX6_undo 1 (some .int) 0 := ⟨m_ml_L_127, m_im_X6_undo, m_se_X6_undo, m_in_X6, m_co_X6_undo, by decide +kernel⟩
theorem cw_L_130 : CWv RL 130 RX6 yX6_restore cX6_restore 1 (some .int) 0 := ⟨m_ml_L_130, m_im_X6_restore, m_se_X6_restore, m_in_X6, m_co_X6_restore, by decide +kernel⟩
theorem cw_L_142 : CWv RL 142 RX7 yX7_rain cX7_rain 3 (some .int) 2 := ⟨m_ml_L_142, m_im_X7_rain, m_se_X7_rain, m_in_X7, m_co_X7_rain, by decide +kernel⟩
theorem cw_L_143 : CWv RL 143 RX7 yX7_thrown cX7_thrown 1 (some .int) 0 := ⟨m_ml_L_143, m_im_X7_thrown, m_se_X7_thrown, m_in_X7, m_co_X7_thrown, by decide +kernel⟩
theorem cw_L_148 : CWv RL 148 RX7 yX7_light cX7_light 3 (some .int) 2 := ⟨m_ml_L_148, m_im_X7_light, m_se_X7_light, m_in_X7, m_co_X7_light, by decide +kernel⟩
theorem cw_L_152 : CWv RL 152 RX7 yX7_bell cX7_bell 2 (some .int) 1 := ⟨m_ml_L_152, m_im_X7_bell, m_se_X7_bell, m_in_X7, m_co_X7_bell, by decide +kernel⟩
theorem cw_L_156 : CWv RL 156 RX7 yX7_weather cX7_weather 3 (some .int) 2 := ⟨m_ml_L_156, m_im_X7_weather, m_se_X7_weather, m_in_X7, m_co_X7_weather, by decide +kernel⟩
theorem cw_L_160 : CWv RL 160 RX7 yX7_pitch cX7_pitch 3 (some .int) 0 := ⟨m_ml_L_160, m_im_X7_pitch, m_se_X7_pitch, m_in_X7, m_co_X7_pitch, by decide +kernel⟩
theorem cw_L_163 : CWv RL 163 RX7 yX7_cover cX7_cover 3 (some .int) 2 := ⟨m_ml_L_163, m_im_X7_cover, m_se_X7_cover, m_in_X7, m_co_X7_cover, by decide +kernel⟩
theorem cw_L_166 : CWv RL 166 RX7 yX7_pitchOf cX7_pitchOf 3 (some .int) 2 := ⟨m_ml_L_166, m_im_X7_pitchOf, m_se_X7_pitchOf, m_in_X7, m_co_X7_pitchOf, by decide +kernel⟩
theorem cw_L_169 : CWv RL 169 RX7 yX7_sign cX7_sign 2 (some .char) 1 := ⟨m_ml_L_169, m_im_X7_sign, m_se_X7_sign, m_in_X7, m_co_X7_sign, by decide +kernel⟩
theorem cw_L_17 : CWv RL 17 RX6 yX6_light cX6_light 3 (some .int) 2 := ⟨m_ml_L_17, m_im_X6_light, m_se_X6_light, m_in_X6, m_co_X6_light, by decide +kernel⟩
theorem cw_L_172 : CWv RL 172 RX7 yX7_horse cX7_horse 5 (some .int) 2 := ⟨m_ml_L_172, m_im_X7_horse, m_se_X7_horse, m_in_X7, m_co_X7_horse, by decide +kernel⟩
theorem cw_L_175 : CWv RL 175 RX7 yX7_boots cX7_boots 3 (some .int) 2 := ⟨m_ml_L_175, m_im_X7_boots, m_se_X7_boots, m_in_X7, m_co_X7_boots, by decide +kernel⟩
theorem cw_L_178 : CWv RL 178 RX7 yX7_horseOf cX7_horseOf 3 (some .int) 2 := ⟨m_ml_L_178, m_im_X7_horseOf, m_se_X7_horseOf, m_in_X7, m_co_X7_horseOf, by decide +kernel⟩
theorem cw_L_182 : CWv RL 182 RX7 yX7_roll cX7_roll 5 (some .int) 3 := ⟨m_ml_L_182, m_im_X7_roll, m_se_X7_roll, m_in_X7, m_co_X7_roll, by decide +kernel⟩
theorem cw_L_185 : CWv RL 185 RX7 yX7_bestHorse cX7_bestHorse 5 (some .int) 1 := ⟨m_ml_L_185, m_im_X7_bestHorse, m_se_X7_bestHorse, m_in_X7, m_co_X7_bestHorse, by decide +kernel⟩
theorem cw_L_188 : CWv RL 188 RX7 yX7_umpire cX7_umpire 2 (some .int) 1 := ⟨m_ml_L_188, m_im_X7_umpire, m_se_X7_umpire, m_in_X7, m_co_X7_umpire, by decide +kernel⟩
theorem cw_L_191 : CWv RL 191 RX7 yX7_call cX7_call 3 (some .int) 2 := ⟨m_ml_L_191, m_im_X7_call, m_se_X7_call, m_in_X7, m_co_X7_call, by decide +kernel⟩
theorem cw_L_194 : CWv RL 194 RX7 yX7_fitIn cX7_fitIn 5 (some .int) 2 := ⟨m_ml_L_194, m_im_X7_fitIn, m_se_X7_fitIn, m_in_X7, m_co_X7_fitIn, by decide +kernel⟩
theorem cw_L_197 : CWv RL 197 RX7 yX7_bestPitch cX7_bestPitch 4 (some .int) 1 := ⟨m_ml_L_197, m_im_X7_bestPitch, m_se_X7_bestPitch, m_in_X7, m_co_X7_bestPitch, by decide +kernel⟩
theorem cw_L_20 : CWv RL 20 RX6 yX6_bell cX6_bell 3 (some .int) 1 := ⟨m_ml_L_20, m_im_X6_bell, m_se_X6_bell, m_in_X6, m_co_X6_bell, by decide +kernel⟩
theorem cw_L_200 : CWv RL 200 RX7 yX7_innings cX7_innings 6 (some .int) 3 := ⟨m_ml_L_200, m_im_X7_innings, m_se_X7_innings, m_in_X7, m_co_X7_innings, by decide +kernel⟩
theorem cw_L_203 : CWv RL 203 RX7 yX7_bowl cX7_bowl 4 (some .int) 2 := ⟨m_ml_L_203, m_im_X7_bowl, m_se_X7_bowl, m_in_X7, m_co_X7_bowl, by decide +kernel⟩
theorem cw_L_206 : CWv RL 206 RX7 yX7_would cX7_would 4 (some .int) 2 := ⟨m_ml_L_206, m_im_X7_would, m_se_X7_would, m_in_X7, m_co_X7_would, by decide +kernel⟩
theorem cw_L_209 : CWv RL 209 RX7 yX7_end cX7_end 2 (some .int) 1 := ⟨m_ml_L_209, m_im_X7_end, m_se_X7_end, m_in_X7, m_co_X7_end, by decide +kernel⟩
theorem cw_L_212 : CWv RL 212 RX7 yX7_inningsOf cX7_inningsOf 3 (some .int) 2 := ⟨m_ml_L_212, m_im_X7_inningsOf, m_se_X7_inningsOf, m_in_X7, m_co_X7_inningsOf, by decide +kernel⟩
theorem cw_L_215 : CWv RL 215 RX7 yX7_balls cX7_balls 3 (some .int) 2 := ⟨m_ml_L_215, m_im_X7_balls, m_se_X7_balls, m_in_X7, m_co_X7_balls, by decide +kernel⟩
theorem cw_L_218 : CWv RL 218 RX7 yX7_runsAgain cX7_runsAgain 2 (some .int) 1 := ⟨m_ml_L_218, m_im_X7_runsAgain, m_se_X7_runsAgain, m_in_X7, m_co_X7_runsAgain, by decide +kernel⟩
theorem cw_L_221 : CWv RL 221 RX7 yX7_ranked cX7_ranked 3 (some .int) 1 := ⟨m_ml_L_221, m_im_X7_ranked, m_se_X7_ranked, m_in_X7, m_co_X7_ranked, by decide +kernel⟩
theorem cw_L_224 : CWv RL 224 RX7 yX7_pass cX7_pass 4 (some .int) 1 := ⟨m_ml_L_224, m_im_X7_pass, m_se_X7_pass, m_in_X7, m_co_X7_pass, by decide +kernel⟩
theorem cw_L_228 : CWv RL 228 RX7 yX7_append cX7_append 2 (some .int) 1 := ⟨m_ml_L_228, m_im_X7_append, m_se_X7_append, m_in_X7, m_co_X7_append, by decide +kernel⟩
theorem cw_L_231 : CWv RL 231 RX7 yX7_read cX7_read 4 (some .int) 0 := ⟨m_ml_L_231, m_im_X7_read, m_se_X7_read, m_in_X7, m_co_X7_read, by decide +kernel⟩
theorem cw_L_232 : CWv RL 232 RX6 yX6_errorPosition cX6_errorPosition 1 (some .int) 0 := ⟨m_ml_L_232, m_im_X6_errorPosition, m_se_X6_errorPosition, m_in_X6, m_co_X6_errorPosition, by decide +kernel⟩
theorem cw_L_235 : CWv RL 235 RX7 yX7_errorPosition cX7_errorPosition 1 (some .int) 0 := ⟨m_ml_L_235, m_im_X7_errorPosition, m_se_X7_errorPosition, m_in_X7, m_co_X7_errorPosition, by decide +kernel⟩
theorem cw_L_239 : CWv RL 239 RX7 yX7_refusal cX7_refusal 2 (some .int) 1 := ⟨m_ml_L_239, m_im_X7_refusal, m_se_X7_refusal, m_in_X7, m_co_X7_refusal, by decide +kernel⟩
theorem cw_L_24 : CWv RL 24 RX6 yX6_weather cX6_weather 3 (some .int) 2 := ⟨m_ml_L_24, m_im_X6_weather, m_se_X6_weather, m_in_X6, m_co_X6_weather, by decide +kernel⟩
theorem cw_L_242 : CWv RL 242 RX7 yX7_account cX7_account 2 (some .int) 1 := ⟨m_ml_L_242, m_im_X7_account, m_se_X7_account, m_in_X7, m_co_X7_account, by decide +kernel⟩
theorem cw_L_243 : CWv RL 243 RX6 yX6_isWell cX6_isWell 1 (some .boolean) 0 := ⟨m_ml_L_243, m_im_X6_isWell, m_se_X6_isWell, m_in_X6, m_co_X6_isWell, by decide +kernel⟩
theorem cw_L_247 : CWv RL 247 RX7 yX7_isWell cX7_isWell 3 (some .boolean) 0 := ⟨m_ml_L_247, m_im_X7_isWell, m_se_X7_isWell, m_in_X7, m_co_X7_isWell, by decide +kernel⟩
theorem cw_L_251 : CWv RL 251 RX7 yX7_meanRuns cX7_meanRuns 1 (some .double) 0 := ⟨m_ml_L_251, m_im_X7_meanRuns, m_se_X7_meanRuns, m_in_X7, m_co_X7_meanRuns, by decide +kernel⟩
theorem cw_L_254 : CWv RL 254 RX7 yX7_wickets cX7_wickets 1 (some .float) 0 := ⟨m_ml_L_254, m_im_X7_wickets, m_se_X7_wickets, m_in_X7, m_co_X7_wickets, by decide +kernel⟩
theorem cw_L_257 : CWv RL 257 RX7 yX7_undo cX7_undo 1 (some .int) 0 := ⟨m_ml_L_257, m_im_X7_undo, m_se_X7_undo, m_in_X7, m_co_X7_undo, by decide +kernel⟩
theorem cw_L_258 : CWv RL 258 RX6 yX6_save cX6_save 1 (some .int) 0 := ⟨m_ml_L_258, m_im_X6_save, m_se_X6_save, m_in_X6, m_co_X6_save, by decide +kernel⟩
theorem cw_L_261 : CWv RL 261 RX7 yX7_save cX7_save 1 (some .int) 0 := ⟨m_ml_L_261, m_im_X7_save, m_se_X7_save, m_in_X7, m_co_X7_save, by decide +kernel⟩
theorem cw_L_264 : CWv RL 264 RX7 yX7_restore cX7_restore 1 (some .int) 0 := ⟨m_ml_L_264, m_im_X7_restore, m_se_X7_restore, m_in_X7, m_co_X7_restore, by decide +kernel⟩
theorem cw_L_28 : CWv RL 28 RX6 yX6_pitch cX6_pitch 1 (some .int) 0 := ⟨m_ml_L_28, m_im_X6_pitch, m_se_X6_pitch, m_in_X6, m_co_X6_pitch, by decide +kernel⟩
theorem cw_L_34 : CWv RL 34 RX6 yX6_cover cX6_cover 3 (some .int) 2 := ⟨m_ml_L_34, m_im_X6_cover, m_se_X6_cover, m_in_X6, m_co_X6_cover, by decide +kernel⟩
theorem cw_L_37 : CWv RL 37 RX6 yX6_pitchOf cX6_pitchOf 4 (some .int) 2 := ⟨m_ml_L_37, m_im_X6_pitchOf, m_se_X6_pitchOf, m_in_X6, m_co_X6_pitchOf, by decide +kernel⟩
theorem cw_L_40 : CWv RL 40 RX6 yX6_sign cX6_sign 2 (some .char) 1 := ⟨m_ml_L_40, m_im_X6_sign, m_se_X6_sign, m_in_X6, m_co_X6_sign, by decide +kernel⟩
theorem cw_L_44 : CWv RL 44 RX6 yX6_horse cX6_horse 3 (some .int) 2 := ⟨m_ml_L_44, m_im_X6_horse, m_se_X6_horse, m_in_X6, m_co_X6_horse, by decide +kernel⟩
theorem cw_L_47 : CWv RL 47 RX6 yX6_boots cX6_boots 3 (some .int) 2 := ⟨m_ml_L_47, m_im_X6_boots, m_se_X6_boots, m_in_X6, m_co_X6_boots, by decide +kernel⟩
theorem cw_L_50 : CWv RL 50 RX6 yX6_horseOf cX6_horseOf 4 (some .int) 2 := ⟨m_ml_L_50, m_im_X6_horseOf, m_se_X6_horseOf, m_in_X6, m_co_X6_horseOf, by decide +kernel⟩
theorem cw_L_53 : CWv RL 53 RX6 yX6_roll cX6_roll 5 (some .int) 3 := ⟨m_ml_L_53, m_im_X6_roll, m_se_X6_roll, m_in_X6, m_co_X6_roll, by decide +kernel⟩
theorem cw_L_57 : CWv RL 57 RX6 yX6_bestHorse cX6_bestHorse 3 (some .int) 1 := ⟨m_ml_L_57, m_im_X6_bestHorse, m_se_X6_bestHorse, m_in_X6, m_co_X6_bestHorse, by decide +kernel⟩
theorem cw_L_62 : CWv RL 62 RX6 yX6_umpire cX6_umpire 2 (some .int) 1 := ⟨m_ml_L_62, m_im_X6_umpire, m_se_X6_umpire, m_in_X6, m_co_X6_umpire, by decide +kernel⟩
theorem cw_L_65 : CWv RL 65 RX6 yX6_call cX6_call 3 (some .int) 2 := ⟨m_ml_L_65, m_im_X6_call, m_se_X6_call, m_in_X6, m_co_X6_call, by decide +kernel⟩
theorem cw_L_68 : CWv RL 68 RX6 yX6_fitIn cX6_fitIn 4 (some .int) 2 := ⟨m_ml_L_68, m_im_X6_fitIn, m_se_X6_fitIn, m_in_X6, m_co_X6_fitIn, by decide +kernel⟩
theorem cw_L_7 : CWv RL 7 RX6 yX6_rain cX6_rain 3 (some .int) 2 := ⟨m_ml_L_7, m_im_X6_rain, m_se_X6_rain, m_in_X6, m_co_X6_rain, by decide +kernel⟩
theorem cw_L_71 : CWv RL 71 RX6 yX6_bestPitch cX6_bestPitch 3 (some .int) 1 := ⟨m_ml_L_71, m_im_X6_bestPitch, m_se_X6_bestPitch, m_in_X6, m_co_X6_bestPitch, by decide +kernel⟩
theorem cw_L_74 : CWv RL 74 RX6 yX6_innings cX6_innings 5 (some .int) 3 := ⟨m_ml_L_74, m_im_X6_innings, m_se_X6_innings, m_in_X6, m_co_X6_innings, by decide +kernel⟩
theorem cw_L_77 : CWv RL 77 RX6 yX6_bowl cX6_bowl 3 (some .int) 2 := ⟨m_ml_L_77, m_im_X6_bowl, m_se_X6_bowl, m_in_X6, m_co_X6_bowl, by decide +kernel⟩
theorem cw_L_80 : CWv RL 80 RX6 yX6_would cX6_would 3 (some .int) 2 := ⟨m_ml_L_80, m_im_X6_would, m_se_X6_would, m_in_X6, m_co_X6_would, by decide +kernel⟩
theorem cw_L_83 : CWv RL 83 RX6 yX6_end cX6_end 2 (some .int) 1 := ⟨m_ml_L_83, m_im_X6_end, m_se_X6_end, m_in_X6, m_co_X6_end, by decide +kernel⟩
theorem cw_L_86 : CWv RL 86 RX6 yX6_inningsOf cX6_inningsOf 4 (some .int) 2 := ⟨m_ml_L_86, m_im_X6_inningsOf, m_se_X6_inningsOf, m_in_X6, m_co_X6_inningsOf, by decide +kernel⟩
theorem cw_L_89 : CWv RL 89 RX6 yX6_balls cX6_balls 3 (some .int) 2 := ⟨m_ml_L_89, m_im_X6_balls, m_se_X6_balls, m_in_X6, m_co_X6_balls, by decide +kernel⟩
theorem cw_L_92 : CWv RL 92 RX6 yX6_runsAgain cX6_runsAgain 2 (some .int) 1 := ⟨m_ml_L_92, m_im_X6_runsAgain, m_se_X6_runsAgain, m_in_X6, m_co_X6_runsAgain, by decide +kernel⟩
theorem cw_L_95 : CWv RL 95 RX6 yX6_ranked cX6_ranked 3 (some .int) 1 := ⟨m_ml_L_95, m_im_X6_ranked, m_se_X6_ranked, m_in_X6, m_co_X6_ranked, by decide +kernel⟩
theorem cw_L_98 : CWv RL 98 RX6 yX6_pass cX6_pass 2 (some .int) 1 := ⟨m_ml_L_98, m_im_X6_pass, m_se_X6_pass, m_in_X6, m_co_X6_pass, by decide +kernel⟩
theorem cw_X0_108 : CWv RX0 108 RX0 yX0_umpireVerdict cX0_umpireVerdict 2 (some .int) 1 := ⟨m_ml_X0_108, m_im_X0_umpireVerdict, m_se_X0_umpireVerdict, m_in_X0, m_co_X0_umpireVerdict, by decide +kernel⟩
theorem cw_X0_111 : CWv RX0 111 RX0 yX0_pitchVerdict cX0_pitchVerdict 2 (some .int) 1 := ⟨m_ml_X0_111, m_im_X0_pitchVerdict, m_se_X0_pitchVerdict, m_in_X0, m_co_X0_pitchVerdict, by decide +kernel⟩
theorem cw_X0_114 : CWv RX0 114 RX0 yX0_rollerVerdict cX0_rollerVerdict 3 (some .int) 1 := ⟨m_ml_X0_114, m_im_X0_rollerVerdict, m_se_X0_rollerVerdict, m_in_X0, m_co_X0_rollerVerdict, by decide +kernel⟩
theorem cw_X0_120 : CWv RX0 120 RX0 yX0_playedOn cX0_playedOn 3 (some .int) 1 := ⟨m_ml_X0_120, m_im_X0_playedOn, m_se_X0_playedOn, m_in_X0, m_co_X0_playedOn, by decide +kernel⟩
theorem cw_X0_123 : CWv RX0 123 RX0 yX0_callOf cX0_callOf 4 (some .int) 2 := ⟨m_ml_X0_123, m_im_X0_callOf, m_se_X0_callOf, m_in_X0, m_co_X0_callOf, by decide +kernel⟩
theorem cw_X0_126 : CWv RX0 126 RX0 yX0_horseVerdict cX0_horseVerdict 2 (some .int) 1 := ⟨m_ml_X0_126, m_im_X0_horseVerdict, m_se_X0_horseVerdict, m_in_X0, m_co_X0_horseVerdict, by decide +kernel⟩
theorem cw_X0_129 : CWv RX0 129 RX1 yX1_isRolling cX1_isRolling 1 (some .boolean) 0 := ⟨m_ml_X0_129, m_im_X1_isRolling, m_se_X1_isRolling, m_in_X1, m_co_X1_isRolling, by decide +kernel⟩
theorem cw_X0_136 : CWv RX0 136 RX0 yX0_bootsVerdict cX0_bootsVerdict 3 (some .int) 1 := ⟨m_ml_X0_136, m_im_X0_bootsVerdict, m_se_X0_bootsVerdict, m_in_X0, m_co_X0_bootsVerdict, by decide +kernel⟩
theorem cw_X0_142 : CWv RX0 142 RX0 yX0_playVerdict cX0_playVerdict 3 (some .int) 1 := ⟨m_ml_X0_142, m_im_X0_playVerdict, m_se_X0_playVerdict, m_in_X0, m_co_X0_playVerdict, by decide +kernel⟩
theorem cw_X0_148 : CWv RX0 148 RX0 yX0_callerVerdict cX0_callerVerdict 4 (some .int) 2 := ⟨m_ml_X0_148, m_im_X0_callerVerdict, m_se_X0_callerVerdict, m_in_X0, m_co_X0_callerVerdict, by decide +kernel⟩
theorem cw_X0_154 : CWv RX0 154 RX0 yX0_callVerdict cX0_callVerdict 4 (some .int) 2 := ⟨m_ml_X0_154, m_im_X0_callVerdict, m_se_X0_callVerdict, m_in_X0, m_co_X0_callVerdict, by decide +kernel⟩
theorem cw_X0_157 : CWv RX0 157 RX0 yX0_playedVerdict cX0_playedVerdict 2 (some .int) 1 := ⟨m_ml_X0_157, m_im_X0_playedVerdict, m_se_X0_playedVerdict, m_in_X0, m_co_X0_playedVerdict, by decide +kernel⟩
theorem cw_X0_160 : CWv RX0 160 RX0 yX0_ballsVerdict cX0_ballsVerdict 4 (some .int) 2 := ⟨m_ml_X0_160, m_im_X0_ballsVerdict, m_se_X0_ballsVerdict, m_in_X0, m_co_X0_ballsVerdict, by decide +kernel⟩
theorem cw_X0_163 : CWv RX0 163 RX0 yX0_endVerdict cX0_endVerdict 3 (some .int) 1 := ⟨m_ml_X0_163, m_im_X0_endVerdict, m_se_X0_endVerdict, m_in_X0, m_co_X0_endVerdict, by decide +kernel⟩
theorem cw_X0_178 : CWv RX0 178 RX2 yX2_bowlOne cX2_bowlOne 3 none 1 := ⟨m_ml_X0_178, m_im_X2_bowlOne, m_se_X2_bowlOne, m_in_X2, m_co_X2_bowlOne, by decide +kernel⟩
theorem cw_X0_181 : CWv RX0 181 RX0 yX0_letHourGoBy cX0_letHourGoBy 4 (some .int) 0 := ⟨m_ml_X0_181, m_im_X0_letHourGoBy, m_se_X0_letHourGoBy, m_in_X0, m_co_X0_letHourGoBy, by decide +kernel⟩
theorem cw_X0_185 : CWv RX0 185 RX1 yX1_rollForAnHour cX1_rollForAnHour 2 none 1 := ⟨m_ml_X0_185, m_im_X1_rollForAnHour, m_se_X1_rollForAnHour, m_in_X1, m_co_X1_rollForAnHour, by decide +kernel⟩
theorem cw_X0_188 : CWv RX0 188 RX1 yX1_rest cX1_rest 1 none 0 := ⟨m_ml_X0_188, m_im_X1_rest, m_se_X1_rest, m_in_X1, m_co_X1_rest, by decide +kernel⟩
theorem cw_X0_191 : CWv RX0 191 RX5 yX5_letWeatherAct cX5_letWeatherAct 3 none 2 := ⟨m_ml_X0_191, m_im_X5_letWeatherAct, m_se_X5_letWeatherAct, m_in_X5, m_co_X5_letWeatherAct, by decide +kernel⟩
theorem cw_X0_195 : CWv RX0 195 RX0 yX0_rollVerdict cX0_rollVerdict 5 (some .int) 3 := ⟨m_ml_X0_195, m_im_X0_rollVerdict, m_se_X0_rollVerdict, m_in_X0, m_co_X0_rollVerdict, by decide +kernel⟩
theorem cw_X0_198 : CWv RX0 198 RX1 yX1_isBetterThan cX1_isBetterThan 2 (some .boolean) 1 := ⟨m_ml_X0_198, m_im_X1_isBetterThan, m_se_X1_isBetterThan, m_in_X1, m_co_X1_isBetterThan, by decide +kernel⟩
theorem cw_X0_208 : CWv RX0 208 RX0 yX0_placeOf cX0_placeOf 5 (some .int) 1 := ⟨m_ml_X0_208, m_im_X0_placeOf, m_se_X0_placeOf, m_in_X0, m_co_X0_placeOf, by decide +kernel⟩
theorem cw_X0_211 : CWv RX0 211 RX2 yX2_isAheadOf cX2_isAheadOf 2 (some .boolean) 1 := ⟨m_ml_X0_211, m_im_X2_isAheadOf, m_se_X2_isAheadOf, m_in_X2, m_co_X2_isAheadOf, by decide +kernel⟩
theorem cw_X0_221 : CWv RX0 221 RX2 yX2_isWellCounted cX2_isWellCounted 1 (some .boolean) 0 := ⟨m_ml_X0_221, m_im_X2_isWellCounted, m_se_X2_isWellCounted, m_in_X2, m_co_X2_isWellCounted, by decide +kernel⟩
theorem cw_X0_227 : CWv RX0 227 RX0 yX0_ballsOfInningsOn cX0_ballsOfInningsOn 4 (some .int) 1 := ⟨m_ml_X0_227, m_im_X0_ballsOfInningsOn, m_se_X0_ballsOfInningsOn, m_in_X0, m_co_X0_ballsOfInningsOn, by decide +kernel⟩
theorem cw_X0_67 : CWv RX0 67 RX5 yX5_become cX5_become 2 none 1 := ⟨m_ml_X0_67, m_im_X5_become, m_se_X5_become, m_in_X5, m_co_X5_become, by decide +kernel⟩
theorem cw_X0_71 : CWv RX0 71 RX1 yX1_become cX1_become 2 none 1 := ⟨m_ml_X0_71, m_im_X1_become, m_se_X1_become, m_in_X1, m_co_X1_become, by decide +kernel⟩
theorem cw_X0_74 : CWv RX0 74 RX2 yX2_become cX2_become 2 none 1 := ⟨m_ml_X0_74, m_im_X2_become, m_se_X2_become, m_in_X2, m_co_X2_become, by decide +kernel⟩
theorem cw_X0_84 : CWv RX0 84 RX2 yX2_isOver cX2_isOver 1 (some .boolean) 0 := ⟨m_ml_X0_84, m_im_X2_isOver, m_se_X2_isOver, m_in_X2, m_co_X2_isOver, by decide +kernel⟩
theorem cw_X0_88 : CWt RX0 88 yJ9_floorMod_7cf53 cJ9_floorMod_7cf53 3 (some .int) 2 := ⟨m_ml_X0_88, m_st_J9_floorMod_7cf53, m_in_J9, m_co_J9_floorMod_7cf53, by decide +kernel⟩
theorem cw_X0_98 : CWv RX0 98 RX0 yX0_rollerOf cX0_rollerOf 3 (some .int) 1 := ⟨m_ml_X0_98, m_im_X0_rollerOf, m_se_X0_rollerOf, m_in_X0, m_co_X0_rollerOf, by decide +kernel⟩
theorem cw_X2_52 : CWt RX2 52 yJ9_floorMod_7cf53 cJ9_floorMod_7cf53 3 (some .int) 2 := ⟨m_ml_X2_52, m_st_J9_floorMod_7cf53, m_in_J9, m_co_J9_floorMod_7cf53, by decide +kernel⟩
theorem cw_X2_64 : CWv RX2 64 RX2 yX2_runsByWorth cX2_runsByWorth 3 (some .int) 0 := ⟨m_ml_X2_64, m_im_X2_runsByWorth, m_se_X2_runsByWorth, m_in_X2, m_co_X2_runsByWorth, by decide +kernel⟩
theorem cw_X2_68 : CWv RX2 68 RX2 yX2_ballsByWorth cX2_ballsByWorth 3 (some .int) 0 := ⟨m_ml_X2_68, m_im_X2_ballsByWorth, m_se_X2_ballsByWorth, m_in_X2, m_co_X2_ballsByWorth, by decide +kernel⟩
theorem cw_X3_119 : CWv RX3 119 RX0 yX0_letHoursGoBy cX0_letHoursGoBy 4 (some .int) 1 := ⟨m_ml_X3_119, m_im_X0_letHoursGoBy, m_se_X0_letHoursGoBy, m_in_X0, m_co_X0_letHoursGoBy, by decide +kernel⟩
theorem cw_X3_25 : CWv RX3 25 RX3 yX3_findOrder cX3_findOrder 1 (some .boolean) 0 := ⟨m_ml_X3_25, m_im_X3_findOrder, m_se_X3_findOrder, m_in_X3, m_co_X3_findOrder, by decide +kernel⟩
theorem cw_X3_29 : CWv RX3 29 RX3 yX3_verdictOn cX3_verdictOn 2 (some .int) 1 := ⟨m_ml_X3_29, m_im_X3_verdictOn, m_se_X3_verdictOn, m_in_X3, m_co_X3_verdictOn, by decide +kernel⟩
theorem cw_X3_33 : CWv RX3 33 RX3 yX3_carryOut cX3_carryOut 2 none 1 := ⟨m_ml_X3_33, m_im_X3_carryOut, m_se_X3_carryOut, m_in_X3, m_co_X3_carryOut, by decide +kernel⟩
theorem cw_X3_37 : CWv RX3 37 RX3 yX3_skip cX3_skip 2 (some .boolean) 1 := ⟨m_ml_X3_37, m_im_X3_skip, m_se_X3_skip, m_in_X3, m_co_X3_skip, by decide +kernel⟩
theorem cw_X3_44 : CWv RX3 44 RX3 yX3_signAhead cX3_signAhead 1 (some .int) 0 := ⟨m_ml_X3_44, m_im_X3_signAhead, m_se_X3_signAhead, m_in_X3, m_co_X3_signAhead, by decide +kernel⟩
theorem cw_X3_51 : CWv RX3 51 RX3 yX3_findRollNumbers cX3_findRollNumbers 1 (some .boolean) 0 := ⟨m_ml_X3_51, m_im_X3_findRollNumbers, m_se_X3_findRollNumbers, m_in_X3, m_co_X3_findRollNumbers, by decide +kernel⟩
theorem cw_X3_54 : CWv RX3 54 RX3 yX3_findBowlNumbers cX3_findBowlNumbers 1 (some .boolean) 0 := ⟨m_ml_X3_54, m_im_X3_findBowlNumbers, m_se_X3_findBowlNumbers, m_in_X3, m_co_X3_findBowlNumbers, by decide +kernel⟩
theorem cw_X3_57 : CWv RX3 57 RX3 yX3_findDigit cX3_findDigit 2 (some .int) 0 := ⟨m_ml_X3_57, m_im_X3_findDigit, m_se_X3_findDigit, m_in_X3, m_co_X3_findDigit, by decide +kernel⟩
theorem cw_X3_63 : CWv RX3 63 RX3 yX3_findNumber cX3_findNumber 3 (some .int) 0 := ⟨m_ml_X3_63, m_im_X3_findNumber, m_se_X3_findNumber, m_in_X3, m_co_X3_findNumber, by decide +kernel⟩
theorem cw_X3_72 : CWv RX3 72 RX0 yX0_rollVerdict cX0_rollVerdict 5 (some .int) 3 := ⟨m_ml_X3_72, m_im_X0_rollVerdict, m_se_X0_rollVerdict, m_in_X0, m_co_X0_rollVerdict, by decide +kernel⟩
theorem cw_X3_78 : CWv RX3 78 RX0 yX0_bowlVerdict cX0_bowlVerdict 6 (some .int) 2 := ⟨m_ml_X3_78, m_im_X0_bowlVerdict, m_se_X0_bowlVerdict, m_in_X0, m_co_X0_bowlVerdict, by decide +kernel⟩
theorem cw_X3_82 : CWv RX3 82 RX0 yX0_coverVerdict cX0_coverVerdict 4 (some .int) 2 := ⟨m_ml_X3_82, m_im_X0_coverVerdict, m_se_X0_coverVerdict, m_in_X0, m_co_X0_coverVerdict, by decide +kernel⟩
theorem cw_X3_86 : CWv RX3 86 RX0 yX0_endVerdict cX0_endVerdict 3 (some .int) 1 := ⟨m_ml_X3_86, m_im_X0_endVerdict, m_se_X0_endVerdict, m_in_X0, m_co_X0_endVerdict, by decide +kernel⟩
theorem cw_X3_93 : CWv RX3 93 RX0 yX0_beginRolling cX0_beginRolling 4 none 3 := ⟨m_ml_X3_93, m_im_X0_beginRolling, m_se_X0_beginRolling, m_in_X0, m_co_X0_beginRolling, by decide +kernel⟩
theorem cw_X3_97 : CWv RX3 97 RX0 yX0_bowlBalls cX0_bowlBalls 6 (some .int) 2 := ⟨m_ml_X3_97, m_im_X0_bowlBalls, m_se_X0_bowlBalls, m_in_X0, m_co_X0_bowlBalls, by decide +kernel⟩
theorem cw_X4_22 : CWv RX4 22 RX0 yX0_become cX0_become 3 none 1 := ⟨m_ml_X4_22, m_im_X0_become, m_se_X0_become, m_in_X0, m_co_X0_become, by decide +kernel⟩
theorem cw_X6_104 : CWv RX6 104 RX0 yX0_rollerOf cX0_rollerOf 3 (some .int) 1 := ⟨m_ml_X6_104, m_im_X0_rollerOf, m_se_X0_rollerOf, m_in_X0, m_co_X0_rollerOf, by decide +kernel⟩
theorem cw_X6_107 : CWv RX6 107 RX0 yX0_playedOn cX0_playedOn 3 (some .int) 1 := ⟨m_ml_X6_107, m_im_X0_playedOn, m_se_X0_playedOn, m_in_X0, m_co_X0_playedOn, by decide +kernel⟩
theorem cw_X6_120 : CWs RX6 120 yX6_rangeVerdict cX6_rangeVerdict 3 (some .int) 3 := ⟨m_ml_X6_120, m_st_X6_rangeVerdict, m_in_X6, m_co_X6_rangeVerdict, by decide +kernel⟩
theorem cw_X6_139 : CWv RX6 139 RX0 yX0_bootsVerdict cX0_bootsVerdict 3 (some .int) 1 := ⟨m_ml_X6_139, m_im_X0_bootsVerdict, m_se_X0_bootsVerdict, m_in_X0, m_co_X0_bootsVerdict, by decide +kernel⟩
theorem cw_X6_142 : CWv RX6 142 RX0 yX0_bootedHorses cX0_bootedHorses 3 (some .int) 0 := ⟨m_ml_X6_142, m_im_X0_bootedHorses, m_se_X0_bootedHorses, m_in_X0, m_co_X0_bootedHorses, by decide +kernel⟩
theorem cw_X6_146 : CWv RX6 146 RX0 yX0_horseVerdict cX0_horseVerdict 2 (some .int) 1 := ⟨m_ml_X6_146, m_im_X0_horseVerdict, m_se_X0_horseVerdict, m_in_X0, m_co_X0_horseVerdict, by decide +kernel⟩
theorem cw_X6_155 : CWv RX6 155 RX1 yX1_isRolling cX1_isRolling 1 (some .boolean) 0 := ⟨m_ml_X6_155, m_im_X1_isRolling, m_se_X1_isRolling, m_in_X1, m_co_X1_isRolling, by decide +kernel⟩
theorem cw_X6_167 : CWv RX6 167 RX0 yX0_rollVerdict cX0_rollVerdict 5 (some .int) 3 := ⟨m_ml_X6_167, m_im_X0_rollVerdict, m_se_X0_rollVerdict, m_in_X0, m_co_X0_rollVerdict, by decide +kernel⟩
theorem cw_X6_170 : CWv RX6 170 RX0 yX0_beginRolling cX0_beginRolling 4 none 3 := ⟨m_ml_X6_170, m_im_X0_beginRolling, m_se_X0_beginRolling, m_in_X0, m_co_X0_beginRolling, by decide +kernel⟩
theorem cw_X6_179 : CWv RX6 179 RX0 yX0_bestRollerFor cX0_bestRollerFor 5 (some .int) 1 := ⟨m_ml_X6_179, m_im_X0_bestRollerFor, m_se_X0_bestRollerFor, m_in_X0, m_co_X0_bestRollerFor, by decide +kernel⟩
theorem cw_X6_193 : CWv RX6 193 RX0 yX0_callerVerdict cX0_callerVerdict 4 (some .int) 2 := ⟨m_ml_X6_193, m_im_X0_callerVerdict, m_se_X0_callerVerdict, m_in_X0, m_co_X0_callerVerdict, by decide +kernel⟩
theorem cw_X6_196 : CWv RX6 196 RX0 yX0_callOf cX0_callOf 4 (some .int) 2 := ⟨m_ml_X6_196, m_im_X0_callOf, m_se_X0_callOf, m_in_X0, m_co_X0_callOf, by decide +kernel⟩
theorem cw_X6_199 : CWv RX6 199 RX0 yX0_become cX0_become 3 none 1 := ⟨m_ml_X6_199, m_im_X0_become, m_se_X0_become, m_in_X0, m_co_X0_become, by decide +kernel⟩
theorem cw_X6_203 : CWv RX6 203 RX0 yX0_letHourGoBy cX0_letHourGoBy 4 (some .int) 0 := ⟨m_ml_X6_203, m_im_X0_letHourGoBy, m_se_X0_letHourGoBy, m_in_X0, m_co_X0_letHourGoBy, by decide +kernel⟩
theorem cw_X6_208 : CWv RX6 208 RX0 yX0_umpireVerdict cX0_umpireVerdict 2 (some .int) 1 := ⟨m_ml_X6_208, m_im_X0_umpireVerdict, m_se_X0_umpireVerdict, m_in_X0, m_co_X0_umpireVerdict, by decide +kernel⟩
theorem cw_X6_211 : CWv RX6 211 RX0 yX0_bestFitPitch cX0_bestFitPitch 6 (some .int) 1 := ⟨m_ml_X6_211, m_im_X0_bestFitPitch, m_se_X0_bestFitPitch, m_in_X0, m_co_X0_bestFitPitch, by decide +kernel⟩
theorem cw_X6_216 : CWv RX6 216 RX0 yX0_inningsVerdict cX0_inningsVerdict 5 (some .int) 3 := ⟨m_ml_X6_216, m_im_X0_inningsVerdict, m_se_X0_inningsVerdict, m_in_X0, m_co_X0_inningsVerdict, by decide +kernel⟩
theorem cw_X6_235 : CWv RX6 235 RX0 yX0_bowlVerdict cX0_bowlVerdict 6 (some .int) 2 := ⟨m_ml_X6_235, m_im_X0_bowlVerdict, m_se_X0_bowlVerdict, m_in_X0, m_co_X0_bowlVerdict, by decide +kernel⟩
theorem cw_X6_238 : CWv RX6 238 RX0 yX0_bowlBalls cX0_bowlBalls 6 (some .int) 2 := ⟨m_ml_X6_238, m_im_X0_bowlBalls, m_se_X0_bowlBalls, m_in_X0, m_co_X0_bowlBalls, by decide +kernel⟩
theorem cw_X6_241 : CWv RX6 241 RX0 yX0_ballsVerdict cX0_ballsVerdict 4 (some .int) 2 := ⟨m_ml_X6_241, m_im_X0_ballsVerdict, m_se_X0_ballsVerdict, m_in_X0, m_co_X0_ballsVerdict, by decide +kernel⟩
theorem cw_X6_244 : CWv RX6 244 RX0 yX0_endVerdict cX0_endVerdict 3 (some .int) 1 := ⟨m_ml_X6_244, m_im_X0_endVerdict, m_se_X0_endVerdict, m_in_X0, m_co_X0_endVerdict, by decide +kernel⟩
theorem cw_X6_253 : CWv RX6 253 RX0 yX0_playedVerdict cX0_playedVerdict 2 (some .int) 1 := ⟨m_ml_X6_253, m_im_X0_playedVerdict, m_se_X0_playedVerdict, m_in_X0, m_co_X0_playedVerdict, by decide +kernel⟩
theorem cw_X6_262 : CWv RX6 262 RX2 yX2_isOver cX2_isOver 1 (some .boolean) 0 := ⟨m_ml_X6_262, m_im_X2_isOver, m_se_X2_isOver, m_in_X2, m_co_X2_isOver, by decide +kernel⟩
theorem cw_X6_268 : CWv RX6 268 RX2 yX2_runsByWorth cX2_runsByWorth 3 (some .int) 0 := ⟨m_ml_X6_268, m_im_X2_runsByWorth, m_se_X2_runsByWorth, m_in_X2, m_co_X2_runsByWorth, by decide +kernel⟩
theorem cw_X6_271 : CWv RX6 271 RX0 yX0_inningsAtPlace cX0_inningsAtPlace 3 (some .int) 1 := ⟨m_ml_X6_271, m_im_X0_inningsAtPlace, m_se_X0_inningsAtPlace, m_in_X0, m_co_X0_inningsAtPlace, by decide +kernel⟩
theorem cw_X6_276 : CWv RX6 276 RX0 yX0_letHoursGoBy cX0_letHoursGoBy 4 (some .int) 1 := ⟨m_ml_X6_276, m_im_X0_letHoursGoBy, m_se_X0_letHoursGoBy, m_in_X0, m_co_X0_letHoursGoBy, by decide +kernel⟩
theorem cw_X6_291 : CWv RX6 291 RX3 yX3_carryOutAll cX3_carryOutAll 5 (some .int) 1 := ⟨m_ml_X6_291, m_im_X3_carryOutAll, m_se_X3_carryOutAll, m_in_X3, m_co_X3_carryOutAll, by decide +kernel⟩
theorem cw_X6_306 : CWv RX6 306 RX0 yX0_coveredPitches cX0_coveredPitches 3 (some .int) 0 := ⟨m_ml_X6_306, m_im_X0_coveredPitches, m_se_X0_coveredPitches, m_in_X0, m_co_X0_coveredPitches, by decide +kernel⟩
theorem cw_X6_309 : CWv RX6 309 RX0 yX0_rollingHorses cX0_rollingHorses 3 (some .int) 0 := ⟨m_ml_X6_309, m_im_X0_rollingHorses, m_se_X0_rollingHorses, m_in_X0, m_co_X0_rollingHorses, by decide +kernel⟩
theorem cw_X6_312 : CWv RX6 312 RX0 yX0_inningsOver cX0_inningsOver 3 (some .int) 0 := ⟨m_ml_X6_312, m_im_X0_inningsOver, m_se_X0_inningsOver, m_in_X0, m_co_X0_inningsOver, by decide +kernel⟩
theorem cw_X6_315 : CWv RX6 315 RX0 yX0_ballsInInnings cX0_ballsInInnings 3 (some .int) 0 := ⟨m_ml_X6_315, m_im_X0_ballsInInnings, m_se_X0_ballsInInnings, m_in_X0, m_co_X0_ballsInInnings, by decide +kernel⟩
theorem cw_X6_318 : CWv RX6 318 RX0 yX0_runsInInnings cX0_runsInInnings 3 (some .int) 0 := ⟨m_ml_X6_318, m_im_X0_runsInInnings, m_se_X0_runsInInnings, m_in_X0, m_co_X0_runsInInnings, by decide +kernel⟩
theorem cw_X6_321 : CWv RX6 321 RX0 yX0_wicketsInInnings cX0_wicketsInInnings 3 (some .int) 0 := ⟨m_ml_X6_321, m_im_X0_wicketsInInnings, m_se_X0_wicketsInInnings, m_in_X0, m_co_X0_wicketsInInnings, by decide +kernel⟩
theorem cw_X6_324 : CWv RX6 324 RX0 yX0_hoursOfHorses cX0_hoursOfHorses 3 (some .int) 0 := ⟨m_ml_X6_324, m_im_X0_hoursOfHorses, m_se_X0_hoursOfHorses, m_in_X0, m_co_X0_hoursOfHorses, by decide +kernel⟩
theorem cw_X6_327 : CWv RX6 327 RX0 yX0_wetnessOfPitches cX0_wetnessOfPitches 3 (some .int) 0 := ⟨m_ml_X6_327, m_im_X0_wetnessOfPitches, m_se_X0_wetnessOfPitches, m_in_X0, m_co_X0_wetnessOfPitches, by decide +kernel⟩
theorem cw_X6_333 : CWv RX6 333 RX0 yX0_areInningsWell cX0_areInningsWell 2 (some .boolean) 0 := ⟨m_ml_X6_333, m_im_X0_areInningsWell, m_se_X0_areInningsWell, m_in_X0, m_co_X0_areInningsWell, by decide +kernel⟩
theorem cw_X6_336 : CWv RX6 336 RX0 yX0_arePitchesWell cX0_arePitchesWell 3 (some .boolean) 0 := ⟨m_ml_X6_336, m_im_X0_arePitchesWell, m_se_X0_arePitchesWell, m_in_X0, m_co_X0_arePitchesWell, by decide +kernel⟩
theorem cw_X6_348 : CWv RX6 348 RX4 yX4_giveBack cX4_giveBack 2 none 1 := ⟨m_ml_X6_348, m_im_X4_giveBack, m_se_X4_giveBack, m_in_X4, m_co_X4_giveBack, by decide +kernel⟩
theorem cw_X6_368 : CWv RX6 368 RX4 yX4_keep cX4_keep 2 none 1 := ⟨m_ml_X6_368, m_im_X4_keep, m_se_X4_keep, m_in_X4, m_co_X4_keep, by decide +kernel⟩
theorem cw_X6_371 : CWs RX6 371 yX6_numberVerdict cX6_numberVerdict 2 (some .int) 2 := ⟨m_ml_X6_371, m_st_X6_numberVerdict, m_in_X6, m_co_X6_numberVerdict, by decide +kernel⟩
theorem cw_X6_374 : CWs RX6 374 yX6_refused cX6_refused 2 (some .int) 2 := ⟨m_ml_X6_374, m_st_X6_refused, m_in_X6, m_co_X6_refused, by decide +kernel⟩
theorem cw_X6_43 : CWs RX6 43 yX6_weatherVerdict cX6_weatherVerdict 3 (some .int) 2 := ⟨m_ml_X6_43, m_st_X6_weatherVerdict, m_in_X6, m_co_X6_weatherVerdict, by decide +kernel⟩
theorem cw_X6_47 : CWv RX6 47 RX6 yX6_admit cX6_admit 2 none 1 := ⟨m_ml_X6_47, m_im_X6_admit, m_se_X6_admit, m_in_X6, m_co_X6_admit, by decide +kernel⟩
theorem cw_X6_55 : CWs RX6 55 yX6_exchange cX6_exchange 4 (some .int) 3 := ⟨m_ml_X6_55, m_st_X6_exchange, m_in_X6, m_co_X6_exchange, by decide +kernel⟩
theorem cw_X6_62 : CWs RX6 62 yX6_hourVerdict cX6_hourVerdict 1 (some .int) 1 := ⟨m_ml_X6_62, m_st_X6_hourVerdict, m_in_X6, m_co_X6_hourVerdict, by decide +kernel⟩
theorem cw_X6_69 : CWv RX6 69 RX6 yX6_settle cX6_settle 2 none 1 := ⟨m_ml_X6_69, m_im_X6_settle, m_se_X6_settle, m_in_X6, m_co_X6_settle, by decide +kernel⟩
theorem cw_X6_75 : CWs RX6 75 yX6_roomVerdict cX6_roomVerdict 2 (some .int) 2 := ⟨m_ml_X6_75, m_st_X6_roomVerdict, m_in_X6, m_co_X6_roomVerdict, by decide +kernel⟩
theorem cw_X6_78 : CWv RX6 78 RX0 yX0_coverVerdict cX0_coverVerdict 4 (some .int) 2 := ⟨m_ml_X6_78, m_im_X0_coverVerdict, m_se_X0_coverVerdict, m_in_X0, m_co_X0_coverVerdict, by decide +kernel⟩
theorem cw_X6_95 : CWv RX6 95 RX0 yX0_pitchVerdict cX0_pitchVerdict 2 (some .int) 1 := ⟨m_ml_X6_95, m_im_X0_pitchVerdict, m_se_X0_pitchVerdict, m_in_X0, m_co_X0_pitchVerdict, by decide +kernel⟩
theorem cw_X7_101 : CWv RX7 101 RX7 yX7_openOn cX7_openOn 3 (some .int) 1 := ⟨m_ml_X7_101, m_im_X7_openOn, m_se_X7_openOn, m_in_X7, m_co_X7_openOn, by decide +kernel⟩
theorem cw_X7_104 : CWv RX7 104 RX7 yX7_laysHorse cX7_laysHorse 4 none 3 := ⟨m_ml_X7_104, m_im_X7_laysHorse, m_se_X7_laysHorse, m_in_X7, m_co_X7_laysHorse, by decide +kernel⟩
theorem cw_X7_107 : CWv RX7 107 RX7 yX7_isHorse cX7_isHorse 2 (some .boolean) 1 := ⟨m_ml_X7_107, m_im_X7_isHorse, m_se_X7_isHorse, m_in_X7, m_co_X7_isHorse, by decide +kernel⟩
theorem cw_X7_110 : CWv RX7 110 RX7 yX7_booted cX7_booted 3 (some .int) 0 := ⟨m_ml_X7_110, m_im_X7_booted, m_se_X7_booted, m_in_X7, m_co_X7_booted, by decide +kernel⟩
theorem cw_X7_114 : CWv RX7 114 RX7 yX7_whyNot cX7_whyNot 3 (some .int) 2 := ⟨m_ml_X7_114, m_im_X7_whyNot, m_se_X7_whyNot, m_in_X7, m_co_X7_whyNot, by decide +kernel⟩
theorem cw_X7_117 : CWv RX7 117 RX7 yX7_detailOf cX7_detailOf 4 (some .int) 3 := ⟨m_ml_X7_117, m_im_X7_detailOf, m_se_X7_detailOf, m_in_X7, m_co_X7_detailOf, by decide +kernel⟩
theorem cw_X7_120 : CWs RX7 120 yX7_less cX7_less 2 (some .int) 2 := ⟨m_ml_X7_120, m_st_X7_less, m_in_X7, m_co_X7_less, by decide +kernel⟩
theorem cw_X7_123 : CWv RX7 123 RX7 yX7_hourOfDay cX7_hourOfDay 1 (some .int) 0 := ⟨m_ml_X7_123, m_im_X7_hourOfDay, m_se_X7_hourOfDay, m_in_X7, m_co_X7_hourOfDay, by decide +kernel⟩
theorem cw_X7_126 : CWv RX7 126 RX7 yX7_isUmpire cX7_isUmpire 2 (some .boolean) 1 := ⟨m_ml_X7_126, m_im_X7_isUmpire, m_se_X7_isUmpire, m_in_X7, m_co_X7_isUmpire, by decide +kernel⟩
theorem cw_X7_129 : CWv RX7 129 RX7 yX7_calls cX7_calls 4 (some .int) 2 := ⟨m_ml_X7_129, m_im_X7_calls, m_se_X7_calls, m_in_X7, m_co_X7_calls, by decide +kernel⟩
theorem cw_X7_132 : CWv RX7 132 RX7 yX7_hourGoes cX7_hourGoes 4 (some .int) 0 := ⟨m_ml_X7_132, m_im_X7_hourGoes, m_se_X7_hourGoes, m_in_X7, m_co_X7_hourGoes, by decide +kernel⟩
theorem cw_X7_135 : CWv RX7 135 RX7 yX7_laysInnings cX7_laysInnings 4 none 3 := ⟨m_ml_X7_135, m_im_X7_laysInnings, m_se_X7_laysInnings, m_in_X7, m_co_X7_laysInnings, by decide +kernel⟩
theorem cw_X7_138 : CWs RX7 138 yX7_more cX7_more 2 (some .int) 2 := ⟨m_ml_X7_138, m_st_X7_more, m_in_X7, m_co_X7_more, by decide +kernel⟩
theorem cw_X7_141 : CWv RX7 141 RX7 yX7_ball cX7_ball 6 (some .int) 1 := ⟨m_ml_X7_141, m_im_X7_ball, m_se_X7_ball, m_in_X7, m_co_X7_ball, by decide +kernel⟩
theorem cw_X7_144 : CWv RX7 144 RX7 yX7_isInnings cX7_isInnings 2 (some .boolean) 1 := ⟨m_ml_X7_144, m_im_X7_isInnings, m_se_X7_isInnings, m_in_X7, m_co_X7_isInnings, by decide +kernel⟩
theorem cw_X7_147 : CWv RX7 147 RX7 yX7_left cX7_left 2 (some .int) 1 := ⟨m_ml_X7_147, m_im_X7_left, m_se_X7_left, m_in_X7, m_co_X7_left, by decide +kernel⟩
theorem cw_X7_150 : CWv RX7 150 RX7 yX7_bowls cX7_bowls 5 (some .int) 2 := ⟨m_ml_X7_150, m_im_X7_bowls, m_se_X7_bowls, m_in_X7, m_co_X7_bowls, by decide +kernel⟩
theorem cw_X7_153 : CWv RX7 153 RX7 yX7_runsBy cX7_runsBy 4 (some .int) 1 := ⟨m_ml_X7_153, m_im_X7_runsBy, m_se_X7_runsBy, m_in_X7, m_co_X7_runsBy, by decide +kernel⟩
theorem cw_X7_156 : CWv RX7 156 RX7 yX7_isAhead cX7_isAhead 3 (some .boolean) 2 := ⟨m_ml_X7_156, m_im_X7_isAhead, m_se_X7_isAhead, m_in_X7, m_co_X7_isAhead, by decide +kernel⟩
theorem cw_X7_160 : CWv RX7 160 RX7 yX7_rankOf cX7_rankOf 4 (some .int) 1 := ⟨m_ml_X7_160, m_im_X7_rankOf, m_se_X7_rankOf, m_in_X7, m_co_X7_rankOf, by decide +kernel⟩
theorem cw_X7_163 : CWv RX7 163 RX7 yX7_rolls cX7_rolls 4 none 1 := ⟨m_ml_X7_163, m_im_X7_rolls, m_se_X7_rolls, m_in_X7, m_co_X7_rolls, by decide +kernel⟩
theorem cw_X7_173 : CWv RX7 173 RX7 yX7_here cX7_here 1 (some .int) 0 := ⟨m_ml_X7_173, m_im_X7_here, m_se_X7_here, m_in_X7, m_co_X7_here, by decide +kernel⟩
theorem cw_X7_179 : CWv RX7 179 RX7 yX7_skips cX7_skips 2 (some .boolean) 1 := ⟨m_ml_X7_179, m_im_X7_skips, m_se_X7_skips, m_in_X7, m_co_X7_skips, by decide +kernel⟩
theorem cw_X7_182 : CWv RX7 182 RX7 yX7_number cX7_number 4 (some .boolean) 2 := ⟨m_ml_X7_182, m_im_X7_number, m_se_X7_number, m_in_X7, m_co_X7_number, by decide +kernel⟩
theorem cw_X7_185 : CWv RX7 185 RX7 yX7_orderHere cX7_orderHere 2 (some .boolean) 0 := ⟨m_ml_X7_185, m_im_X7_orderHere, m_se_X7_orderHere, m_in_X7, m_co_X7_orderHere, by decide +kernel⟩
theorem cw_X7_189 : CWv RX7 189 RX7 yX7_roll cX7_roll 5 (some .int) 3 := ⟨m_ml_X7_189, m_im_X7_roll, m_se_X7_roll, m_in_X7, m_co_X7_roll, by decide +kernel⟩
theorem cw_X7_192 : CWv RX7 192 RX7 yX7_bowl cX7_bowl 4 (some .int) 2 := ⟨m_ml_X7_192, m_im_X7_bowl, m_se_X7_bowl, m_in_X7, m_co_X7_bowl, by decide +kernel⟩
theorem cw_X7_195 : CWv RX7 195 RX7 yX7_cover cX7_cover 3 (some .int) 2 := ⟨m_ml_X7_195, m_im_X7_cover, m_se_X7_cover, m_in_X7, m_co_X7_cover, by decide +kernel⟩
theorem cw_X7_199 : CWv RX7 199 RX7 yX7_end cX7_end 2 (some .int) 1 := ⟨m_ml_X7_199, m_im_X7_end, m_se_X7_end, m_in_X7, m_co_X7_end, by decide +kernel⟩
theorem cw_X7_202 : CWv RX7 202 RX7 yX7_pass cX7_pass 4 (some .int) 1 := ⟨m_ml_X7_202, m_im_X7_pass, m_se_X7_pass, m_in_X7, m_co_X7_pass, by decide +kernel⟩
theorem cw_X7_205 : CWv RX7 205 RX7 yX7_isText cX7_isText 1 (some .boolean) 0 := ⟨m_ml_X7_205, m_im_X7_isText, m_se_X7_isText, m_in_X7, m_co_X7_isText, by decide +kernel⟩
theorem cw_X7_208 : CWv RX7 208 RX7 yX7_carries cX7_carries 2 (some .int) 1 := ⟨m_ml_X7_208, m_im_X7_carries, m_se_X7_carries, m_in_X7, m_co_X7_carries, by decide +kernel⟩
theorem cw_X7_211 : CWv RX7 211 RX7 yX7_sumOfPitches cX7_sumOfPitches 4 (some .int) 1 := ⟨m_ml_X7_211, m_im_X7_sumOfPitches, m_se_X7_sumOfPitches, m_in_X7, m_co_X7_sumOfPitches, by decide +kernel⟩
theorem cw_X7_214 : CWv RX7 214 RX7 yX7_ofHorses cX7_ofHorses 4 (some .int) 1 := ⟨m_ml_X7_214, m_im_X7_ofHorses, m_se_X7_ofHorses, m_in_X7, m_co_X7_ofHorses, by decide +kernel⟩
theorem cw_X7_218 : CWv RX7 218 RX7 yX7_sumOfInnings cX7_sumOfInnings 4 (some .int) 1 := ⟨m_ml_X7_218, m_im_X7_sumOfInnings, m_se_X7_sumOfInnings, m_in_X7, m_co_X7_sumOfInnings, by decide +kernel⟩
theorem cw_X7_54 : CWs RX7 54 yX7_copies cX7_copies 5 none 4 := ⟨m_ml_X7_54, m_st_X7_copies, m_in_X7, m_co_X7_copies, by decide +kernel⟩
theorem cw_X7_58 : CWs RX7 58 yX7_in cX7_in 3 (some .boolean) 3 := ⟨m_ml_X7_58, m_st_X7_in, m_in_X7, m_co_X7_in, by decide +kernel⟩
theorem cw_X7_62 : CWv RX7 62 RX7 yX7_keeps cX7_keeps 3 none 1 := ⟨m_ml_X7_62, m_im_X7_keeps, m_se_X7_keeps, m_in_X7, m_co_X7_keeps, by decide +kernel⟩
theorem cw_X7_66 : CWs RX7 66 yX7_isHour cX7_isHour 1 (some .boolean) 1 := ⟨m_ml_X7_66, m_st_X7_isHour, m_in_X7, m_co_X7_isHour, by decide +kernel⟩
theorem cw_X7_70 : CWv RX7 70 RX7 yX7_fails cX7_fails 2 (some .boolean) 1 := ⟨m_ml_X7_70, m_im_X7_fails, m_se_X7_fails, m_in_X7, m_co_X7_fails, by decide +kernel⟩
theorem cw_X7_73 : CWv RX7 73 RX7 yX7_sets cX7_sets 4 (some .int) 2 := ⟨m_ml_X7_73, m_im_X7_sets, m_se_X7_sets, m_in_X7, m_co_X7_sets, by decide +kernel⟩
theorem cw_X7_77 : CWv RX7 77 RX7 yX7_refuses cX7_refuses 4 (some .int) 3 := ⟨m_ml_X7_77, m_im_X7_refuses, m_se_X7_refuses, m_in_X7, m_co_X7_refuses, by decide +kernel⟩
theorem cw_X7_81 : CWv RX7 81 RX7 yX7_lays cX7_lays 4 none 3 := ⟨m_ml_X7_81, m_im_X7_lays, m_se_X7_lays, m_in_X7, m_co_X7_lays, by decide +kernel⟩
theorem cw_X7_85 : CWv RX7 85 RX7 yX7_ofHorse cX7_ofHorse 3 (some .int) 2 := ⟨m_ml_X7_85, m_im_X7_ofHorse, m_se_X7_ofHorse, m_in_X7, m_co_X7_ofHorse, by decide +kernel⟩
theorem cw_X7_88 : CWv RX7 88 RX7 yX7_ofInnings cX7_ofInnings 3 (some .int) 2 := ⟨m_ml_X7_88, m_im_X7_ofInnings, m_se_X7_ofInnings, m_in_X7, m_co_X7_ofInnings, by decide +kernel⟩
theorem cw_X7_91 : CWv RX7 91 RX7 yX7_isPitch cX7_isPitch 2 (some .boolean) 1 := ⟨m_ml_X7_91, m_im_X7_isPitch, m_se_X7_isPitch, m_in_X7, m_co_X7_isPitch, by decide +kernel⟩
theorem cw_X7_94 : CWv RX7 94 RX7 yX7_rollerOf cX7_rollerOf 3 (some .int) 1 := ⟨m_ml_X7_94, m_im_X7_rollerOf, m_se_X7_rollerOf, m_in_X7, m_co_X7_rollerOf, by decide +kernel⟩
theorem cw_X7_98 : CWv RX7 98 RX7 yX7_of cX7_of 3 (some .int) 2 := ⟨m_ml_X7_98, m_im_X7_of, m_se_X7_of, m_in_X7, m_co_X7_of, by decide +kernel⟩
theorem cw_X0_105 : CWn RX0 105 yX6_numberVerdict RX6 cX6_numberVerdict 2 (some .int) 2 := ⟨m_nl_X0_105, m_st_X6_numberVerdict, m_in_X6, m_co_X6_numberVerdict, by decide +kernel⟩
theorem cw_X0_117 : CWn RX0 117 yX6_refused RX6 cX6_refused 2 (some .int) 2 := ⟨m_nl_X0_117, m_st_X6_refused, m_in_X6, m_co_X6_refused, by decide +kernel⟩
theorem cw_X0_132 : CWn RX0 132 yX6_rangeVerdict RX6 cX6_rangeVerdict 3 (some .int) 3 := ⟨m_nl_X0_132, m_st_X6_rangeVerdict, m_in_X6, m_co_X6_rangeVerdict, by decide +kernel⟩
theorem cw_X1_36 : CWn RX1 36 yX6_more RX6 cX6_more 3 (some .int) 3 := ⟨m_nl_X1_36, m_st_X6_more, m_in_X6, m_co_X6_more, by decide +kernel⟩
theorem cw_X1_43 : CWn RX1 43 yX6_less RX6 cX6_less 2 (some .int) 2 := ⟨m_nl_X1_43, m_st_X6_less, m_in_X6, m_co_X6_less, by decide +kernel⟩
theorem cw_X5_28 : CWn RX5 28 yX6_more RX6 cX6_more 3 (some .int) 3 := ⟨m_nl_X5_28, m_st_X6_more, m_in_X6, m_co_X6_more, by decide +kernel⟩
theorem cw_X5_32 : CWn RX5 32 yX6_less RX6 cX6_less 2 (some .int) 2 := ⟨m_nl_X5_32, m_st_X6_less, m_in_X6, m_co_X6_less, by decide +kernel⟩
theorem cw_X0_151 : CWn RX0 151 yX6_roomVerdict RX6 cX6_roomVerdict 2 (some .int) 2 := ⟨m_nl_X0_151, m_st_X6_roomVerdict, m_in_X6, m_co_X6_roomVerdict, by decide +kernel⟩
theorem cw_X2_58 : CWn RX2 58 yX6_less RX6 cX6_less 2 (some .int) 2 := ⟨m_nl_X2_58, m_st_X6_less, m_in_X6, m_co_X6_less, by decide +kernel⟩
theorem cw_X3_90 : CWn RX3 90 yX6_rangeVerdict RX6 cX6_rangeVerdict 3 (some .int) 3 := ⟨m_nl_X3_90, m_st_X6_rangeVerdict, m_in_X6, m_co_X6_rangeVerdict, by decide +kernel⟩

/-! THE MAKERS -/
def gcel (q : Nat → ClassId) (a h np nh ni : Nat) (i : Nat) : va_E :=
  if i = 0 then .inr (0, [.int 0, .int 16, .ref (a + 1), .ref (a + 2), .int 0, .ref (a + 3), .int 0, .ref (a + 4), .int 0, .ref (a + 5), .int 0, .ref (a + 6)])
  else if i = 1 then .inl (q 0, 24, .inl (fun _ => 0))
  else if i = 2 then .inl (q 0, 24, .inl (fun k => if 6 ≤ k ∧ k < h then 7 else 0))
  else if i = 3 then .inl (q 1, 4, .inr (.inr (.inr (.inr (fun k => if k < np then some (a + (7 + k)) else none)))))
  else if i = 4 then .inl (q 2, 5, .inr (.inr (.inr (.inr (fun k => if k < nh then some (a + (11 + k)) else none)))))
  else if i = 5 then .inl (q 0, 3, .inl (fun _ => 0))
  else if i = 6 then .inl (q 3, 12, .inr (.inr (.inr (.inr (fun k => if k < ni then some (a + (16 + 2 * k)) else none)))))
  else if i < 11 then .inr (5, [.int 20, .int 10, .int 0, .int 0, .int 0])
  else if i < 16 then .inr (1, [.int 0, .int 0, .int 0, .int 0, .int 0, .int 0])
  else if i % 2 = 0 then .inr (2, [.int 0, .int 0, .int 0, .int 0, .int 0, .int 0, .int 0, .ref (a + i + 1)])
  else .inl (q 0, 7, .inl (fun _ => 0))
abbrev rmK (f c n : Nat) (lo : Nat) : Room := { frames := f, cells := c, slots := n, locals := lo }
theorem ra_int {s : State} {cA cB : ClassId} (h1 : va_RA s cA .int) (h2 : va_RA s cB .int) : cA = cB := Option.some.inj (h1.symm.trans h2)
theorem ra_char {s : State} {cA cB : ClassId} (h1 : va_RA s cA .char) (h2 : va_RA s cB .char) : cA = cB := Option.some.inj (h1.symm.trans h2)
theorem ra_long {s : State} {cA cB : ClassId} (h1 : va_RA s cA .long) (h2 : va_RA s cB .long) : cA = cB := Option.some.inj (h1.symm.trans h2)
theorem ra_double {s : State} {cA cB : ClassId} (h1 : va_RA s cA .double) (h2 : va_RA s cB .double) : cA = cB := Option.some.inj (h1.symm.trans h2)
theorem n_X5 {l : Launch} {D : va_G} {q : Nat → ClassId} : NewC l yX5_init cX5_init 1 (rmK 1 0 0 20) 0 0 D q 5 [.int 0, .int 0, .int 0, .int 0, .int 0] 1 (fun _ _ => .inr (5, [.int 20, .int 10, .int 0, .int 0, .int 0])) := by
  refine nc_of (by decide +kernel) rfl (by decide) (fun p e s m args below meth c a X hin hr hlocks => ?_)
  refine k_aload_n X 0 dX5_init_0 rfl ?_
  refine k_obj X m_ml_X5_3 (Nat.le_of_ble_eq_true rfl) (Nat.le_of_ble_eq_true rfl) dX5_init_1 ?_
  refine k_aload_n X 0 dX5_init_4 rfl ?_
  refine k_bipush (v := 20) X dX5_init_5 (by decide) ?_
  refine k_put (i := 0) (ci := 5) (k := 0) (C := RX5) (T := TX5) (N := 5) (ty := .int) X tyX5 (by decide) rfl tyX5_ok nmX5 m_fl_X5_9 winX5 rfl (by decide) rfl rfl rfl rfl rfl (by simp) dX5_init_7 ?_
  refine k_aload_n X 0 dX5_init_10 rfl ?_
  refine k_bipush (v := 10) X dX5_init_11 (by decide) ?_
  refine k_put (i := 0) (ci := 5) (k := 1) (C := RX5) (T := TX5) (N := 5) (ty := .int) X tyX5 (by decide) rfl tyX5_ok nmX5 m_fl_X5_15 winX5 rfl (by decide) rfl rfl rfl rfl rfl (by simp) dX5_init_13 ?_
  exact k_ret X hr hlocks dX5_init_16 (by decide) rfl (fun i hi => by
    have h0 : i = 0 := by omega
    subst h0
    rfl)
theorem n_X1 {l : Launch} {D : va_G} {q : Nat → ClassId} : NewC l yX1_init cX1_init 1 (rmK 1 0 0 20) 0 0 D q 1 [.int 0, .int 0, .int 0, .int 0, .int 0, .int 0] 1 (fun _ _ => .inr (1, [.int 0, .int 0, .int 0, .int 0, .int 0, .int 0])) := by
  refine nc_of (by decide +kernel) rfl (by decide) (fun p e s m args below meth c a X hin hr hlocks => ?_)
  refine k_aload_n X 0 dX1_init_0 rfl ?_
  refine k_obj X m_ml_X1_3 (Nat.le_of_ble_eq_true rfl) (Nat.le_of_ble_eq_true rfl) dX1_init_1 ?_
  exact k_ret X hr hlocks dX1_init_4 (by decide) rfl (fun i hi => rfl)
def icel (q : Nat → ClassId) (a i : Nat) : va_E := if i = 0 then .inr (2, [.int 0, .int 0, .int 0, .int 0, .int 0, .int 0, .int 0, .ref (a + 1)]) else .inl (q 0, 7, .inl (fun _ => 0))
theorem n_X2 {l : Launch} {D : va_G} {q : Nat → ClassId} : NewC l yX2_init cX2_init 1 (rmK 1 1 7 20) 1 7 D q 2 [.int 0, .int 0, .int 0, .int 0, .int 0, .int 0, .int 0, .null] 2 (icel q) := by
  refine nc_of (by decide +kernel) rfl (by decide) (fun p e s m args below meth c a X hin hr hlocks => ?_)
  refine k_aload_n X 0 dX2_init_0 rfl ?_
  refine k_obj X m_ml_X2_3 (Nat.le_of_ble_eq_true rfl) (Nat.le_of_ble_eq_true rfl) dX2_init_1 ?_
  refine k_aload_n X 0 dX2_init_4 rfl ?_
  refine k_bipush (v := 7) X dX2_init_5 (by decide) ?_
  refine k_newa (atype := .int) (ty := .int) (t0 := 0) (N := 7) (a0 := (7, .inl (fun _ => 0))) X m_ac_int rfl rfl (fun _ => ra_int) (fun _ => rfl) (by decide) (by decide) (by decide) (Nat.le_of_ble_eq_true rfl) (Nat.le_of_ble_eq_true rfl) dX2_init_7 ?_
  refine k_putF (i := 0) (ci := 2) (k := 7) (C := RX2) (T := TX2) (N := 8) (ty := .array .int) X tyX2 hin (by decide) rfl tyX2_ok nmX2 m_fl_X2_9 winX2 rfl (by decide) rfl rfl rfl rfl rfl rfl (by simp) dX2_init_9 ?_
  exact k_ret X hr hlocks dX2_init_12 (by decide) rfl (fun i hi => by
    have h0 : i = 0 ∨ i = 1 := by omega
    rcases h0 with rfl | rfl
    · rfl
    · rfl)
def ocel (q : Nat → ClassId) (a i : Nat) : va_E := if i = 0 then .inr (3, [.ref (a + 1), .int 0, .int (-1), .int 0, .int 0, .int 0, .int 0, .int 0, .int 0]) else .inl (q 5, 60, .inl (fun _ => 0))
theorem n_X3 {l : Launch} {D : va_G} {q : Nat → ClassId} : NewC l yX3_init cX3_init 1 (rmK 1 1 60 20) 1 60 D q 3 [.null, .int 0, .int 0, .int 0, .int 0, .int 0, .int 0, .int 0, .int 0] 2 (ocel q) := by
  refine nc_of (by decide +kernel) rfl (by decide) (fun p e s m args below meth c a X hin hr hlocks => ?_)
  refine k_aload_n X 0 dX3_init_0 rfl ?_
  refine k_obj X m_ml_X3_3 (Nat.le_of_ble_eq_true rfl) (Nat.le_of_ble_eq_true rfl) dX3_init_1 ?_
  refine k_aload_n X 0 dX3_init_4 rfl ?_
  refine k_bipush (v := 60) X dX3_init_5 (by decide) ?_
  refine k_newa (atype := .char) (ty := .char) (t0 := 5) (N := 60) (a0 := (60, .inl (fun _ => 0))) X m_ac_char rfl rfl (fun _ => ra_char) (fun _ => rfl) (by decide) (by decide) (by decide) (Nat.le_of_ble_eq_true rfl) (Nat.le_of_ble_eq_true rfl) dX3_init_7 ?_
  refine k_putF (i := 0) (ci := 3) (k := 0) (C := RX3) (T := TX3) (N := 9) (ty := .array .char) X tyX3 hin (by decide) rfl tyX3_ok nmX3 m_fl_X3_9 winX3 rfl (by decide) rfl rfl rfl rfl rfl rfl (by simp) dX3_init_9 ?_
  refine k_aload_n X 0 dX3_init_12 rfl ?_
  refine k_iconst (v := -1) X dX3_init_13 (by decide) ?_
  refine k_put (i := 0) (ci := 3) (k := 2) (C := RX3) (T := TX3) (N := 9) (ty := .int) X tyX3 (by decide) rfl tyX3_ok nmX3 m_fl_X3_15 winX3 rfl (by decide) rfl rfl rfl rfl rfl (by simp) dX3_init_14 ?_
  exact k_ret X hr hlocks dX3_init_17 (by decide) rfl (fun i hi => by
    have h0 : i = 0 ∨ i = 1 := by omega
    rcases h0 with rfl | rfl
    · rfl
    · rfl)
section G0
variable {p : Program} {l : Launch} {e : Env} {s : State} {m : MethodId} {args : Array Value} {below : List Frame} {meth : Method} {c : Code} {Q : State → Prop} {D : va_G} {q : Nat → ClassId} {a : Nat}
abbrev rm_G : Room := rmK 2 39 302 60
theorem x0_light {cells slots : Nat} (X : Ck p m c cX0_init 2 s args RX0 D q a) (g : Kg p l e rm_G s m args below meth c Q D a 2 cells slots 81 [(1, .int (nI 20)), (0, .ref a)] [] 7 (gcel q a 20 0 0 0)) : ∀ k h, 6 ≤ h → h ≤ 20 → 20 < k + h → Kg p l e rm_G s m args below meth c Q D a 2 cells slots 61 [(1, .int (nI h)), (0, .ref a)] [] 7 (gcel q a h 0 0 0) := by
  intro k
  induction k with
  | zero => intro h h1 h2 h3; omega
  | succ k ih =>
    intro h h1 h2 h3
    refine k_iload_n X 0 dX0_init_61 rfl ?_
    refine k_bipush (v := 19) X dX0_init_62 (by decide) ?_
    refine k_icmp_gt X 81 dX0_init_64 (by decide) (fun q1 => ?_) (fun q1 => ?_)
    · have e : h = 20 := by
        by_cases q2 : h = 20
        · exact q2
        · exact absurd q1 (nI_nlt (a := 19) (by omega) (by decide))
      subst e
      exact g
    · have hlt : h < 20 := by
        by_cases q2 : h < 20
        · exact q2
        · exact absurd (nI_lt (a := 19) (b := h) (by omega) (by omega)) q1
      refine k_aload_n X 1 dX0_init_67 rfl ?_
      refine k_get (i := 0) (ci := 0) (k := 3) (C := RX0) (T := TX0) (N := 12) X (by decide) rfl m_fl_X0_19 winX0 rfl (by decide) rfl rfl dX0_init_68 ?_
      refine k_iload_n X 0 dX0_init_71 rfl ?_
      refine k_bipush (v := 7) X dX0_init_72 (by decide) ?_
      refine k_iast (i := 2) (N := 24) X (by decide) rfl (vp_in_nI (by omega) (by decide)) dX0_init_74 ?_
      refine k_iinc X 0 (nI (h + 1)) [(1, .int (nI (h + 1))), (0, .ref a)] dX0_init_75 rfl (by rw [nI_succ]; rfl) (by decide) rfl ?_
      refine k_goto X 61 dX0_init_78 (by decide) ?_
      refine k_congr (fun i hi => ?_) (ih (h + 1) (by omega) (by omega) (by omega))
      by_cases i2 : i = 2
      · subst i2
        rw [ue_at, nI_clamp (by omega)]
        have e : upd (fun k => if 6 ≤ k ∧ k < h then (7 : Int32) else 0) h 7 = (fun k => if 6 ≤ k ∧ k < h + 1 then 7 else 0) := by
          funext k
          by_cases q2 : k = h
          · subst q2
            simp [upd, h1]
          · simp only [upd, q2, if_false]
            by_cases q3 : 6 ≤ k ∧ k < h
            · rw [if_pos q3, if_pos (by omega)]
            · rw [if_neg q3, if_neg (by omega)]
        show (Sum.inl (q 0, 24, Sum.inl (upd (fun k => if 6 ≤ k ∧ k < h then (7 : Int32) else 0) h 7)) : va_E) = Sum.inl (q 0, 24, Sum.inl (fun k => if 6 ≤ k ∧ k < h + 1 then 7 else 0))
        rw [e]
      · rw [ue_ne i2]
        have h7 : i = 0 ∨ i = 1 ∨ i = 3 ∨ i = 4 ∨ i = 5 ∨ i = 6 := by omega
        rcases h7 with rfl | rfl | rfl | rfl | rfl | rfl <;> rfl
end G0

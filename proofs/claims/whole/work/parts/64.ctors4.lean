def mcel (q : Nat → ClassId) (a h : Nat) (i : Nat) : va_E :=
  if i = 0 then .inr (7, [.ref (a + 1), .ref (a + 2), .ref (a + 3), .ref (a + 4), .ref (a + 5), .int 0, .int 0, .int 0, .int 0, .int 0, .int 0, .int 0, .ref (a + 6), .int 0, .int (-1), .int 0, .ref (a + 7), .int 0])
  else if i = 1 then .inl (q 0, 275, .inl (fun k => if k = 1 then 16 else if 32 ≤ k ∧ k < 26 + h then 7 else 0))
  else if i = 2 then .inl (q 0, 2200, .inl (fun _ => 0))
  else if i < 6 then .inl (q 0, 275, .inl (fun _ => 0))
  else if i = 6 then .inl (q 0, 60, .inl (fun _ => 0))
  else .inl (q 0, 124, .inl (fun _ => 0))
abbrev rm_M : Room := rmK 1 7 3484 40
theorem x7_loop {p : Program} {l : Launch} {e : Env} {s : State} {m : MethodId} {args : Array Value} {below : List Frame} {meth : Method} {c : Code} {Q : State → Prop} {D : va_G} {q : Nat → ClassId} {a : Nat} {cells slots : Nat} (X : Ck p m c cX7_init 2 s args RX7 D q a) (g : Kg p l e rm_M s m args below meth c Q D a 2 cells slots 104 [(1, .int (nI 20)), (0, .ref a)] [] 8 (mcel q a 20)) : ∀ k h, 6 ≤ h → h ≤ 20 → 20 < k + h → Kg p l e rm_M s m args below meth c Q D a 2 cells slots 81 [(1, .int (nI h)), (0, .ref a)] [] 8 (mcel q a h) := by
  intro k
  induction k with
  | zero => intro h h1 h2 h3; omega
  | succ k ih =>
    intro h h1 h2 h3
    refine k_iload_n X 0 dX7_init_81 rfl ?_
    refine k_bipush (v := 19) X dX7_init_82 (by decide) ?_
    refine k_icmp_gt X 104 dX7_init_84 (by decide) (fun q1 => ?_) (fun q1 => ?_)
    · have e : h = 20 := by
        by_cases q2 : h = 20
        · exact q2
        · exact absurd q1 (nI_nlt (a := 19) (by omega) (by decide))
      subst e
      exact g
    · have hlt : h < 20 := by
        by_cases q2 : h < 20
        · exact q2
        · exact absurd (nI_lt (a := 19) (b := h) (by omega) (by omega)) q1
      refine k_aload_n X 1 dX7_init_87 rfl ?_
      refine k_get (i := 0) (ci := 7) (k := 0) (C := RX7) (T := TX7) (N := 18) X (by decide) rfl m_fl_X7_7 winX7 rfl (by decide) rfl rfl dX7_init_88 ?_
      refine k_bipush (v := nI 26) X dX7_init_91 (by decide) ?_
      refine k_iload_n X 0 dX7_init_93 rfl ?_
      refine k_iadd X dX7_init_94 ?_
      rw [nI_add]
      refine k_bipush (v := 7) X dX7_init_95 (by decide) ?_
      refine k_iast (i := 1) (N := 275) X (by decide) rfl (vp_in_nI (by omega) (by decide)) dX7_init_97 ?_
      refine k_iinc X 0 (nI (h + 1)) [(1, .int (nI (h + 1))), (0, .ref a)] dX7_init_98 rfl (by rw [nI_succ]; rfl) (by decide) rfl ?_
      refine k_goto X 81 dX7_init_101 (by decide) ?_
      refine k_congr (fun i hi => ?_) (ih (h + 1) (by omega) (by omega) (by omega))
      by_cases i2 : i = 1
      · subst i2
        rw [ue_at, nI_clamp (by omega)]
        have e : upd (fun k => if k = 1 then (16 : Int32) else if 32 ≤ k ∧ k < 26 + h then 7 else 0) (26 + h) 7 = (fun k => if k = 1 then 16 else if 32 ≤ k ∧ k < 26 + (h + 1) then 7 else 0) := by
          funext k
          by_cases q2 : k = 26 + h
          · subst q2
            rw [if_neg (by omega), if_pos (by omega)]
            exact if_pos rfl
          · simp only [upd, q2, if_false]
            by_cases q4 : k = 1
            · rw [if_pos q4, if_pos q4]
            · rw [if_neg q4, if_neg q4]
              by_cases q3 : 32 ≤ k ∧ k < 26 + h
              · rw [if_pos q3, if_pos (by omega)]
              · rw [if_neg q3, if_neg (by omega)]
        show (Sum.inl (q 0, 275, Sum.inl (upd (fun k => if k = 1 then (16 : Int32) else if 32 ≤ k ∧ k < 26 + h then 7 else 0) (26 + h) 7)) : va_E) = Sum.inl (q 0, 275, Sum.inl (fun k => if k = 1 then 16 else if 32 ≤ k ∧ k < 26 + (h + 1) then 7 else 0))
        rw [e]
      · rw [ue_ne i2]
        unfold mcel
        rw [if_neg i2, if_neg i2]
theorem n_X7 {l : Launch} {D : va_G} {q : Nat → ClassId} : NewC l yX7_init cX7_init 2 rm_M 7 3484 D q 7 [.null, .null, .null, .null, .null, .int 0, .int 0, .int 0, .int 0, .int 0, .int 0, .int 0, .null, .int 0, .int 0, .int 0, .null, .int 0] 8 (fun a => mcel q a 20) := by
  refine nc_of (by decide +kernel) rfl (by decide) (fun p e s m args below meth c a X hin hr hlocks => ?_)
  refine k_aload_n X 0 dX7_init_0 rfl ?_
  refine k_obj X m_ml_X7_1 (Nat.le_of_ble_eq_true rfl) (Nat.le_of_ble_eq_true rfl) dX7_init_1 ?_
  refine k_aload_n X 0 dX7_init_4 rfl ?_
  refine k_sipush (v := 275) X dX7_init_5 (by decide) ?_
  refine k_newa (atype := .int) (ty := .int) (t0 := 0) (N := 275) (a0 := (275, .inl (fun _ => 0))) X m_ac_int rfl rfl (fun _ => ra_int) (fun _ => rfl) (by decide) (by decide) (by decide) (Nat.le_of_ble_eq_true rfl) (Nat.le_of_ble_eq_true rfl) dX7_init_8 ?_
  refine k_putF (i := 0) (ci := 7) (k := 0) (C := RX7) (T := TX7) (N := 18) (ty := .array .int) X tyX7 hin (by decide) rfl tyX7_ok nmX7 m_fl_X7_7 winX7 rfl (by decide) rfl rfl rfl rfl rfl rfl (by simp) dX7_init_10 ?_
  refine k_aload_n X 0 dX7_init_13 rfl ?_
  refine k_sipush (v := 2200) X dX7_init_14 (by decide) ?_
  refine k_newa (atype := .int) (ty := .int) (t0 := 0) (N := 2200) (a0 := (2200, .inl (fun _ => 0))) X m_ac_int rfl rfl (fun _ => ra_int) (fun _ => rfl) (by decide) (by decide) (by decide) (Nat.le_of_ble_eq_true rfl) (Nat.le_of_ble_eq_true rfl) dX7_init_17 ?_
  refine k_putF (i := 0) (ci := 7) (k := 1) (C := RX7) (T := TX7) (N := 18) (ty := .array .int) X tyX7 hin (by decide) rfl tyX7_ok nmX7 m_fl_X7_13 winX7 rfl (by decide) rfl rfl rfl rfl rfl rfl (by simp) dX7_init_19 ?_
  refine k_aload_n X 0 dX7_init_22 rfl ?_
  refine k_sipush (v := 275) X dX7_init_23 (by decide) ?_
  refine k_newa (atype := .int) (ty := .int) (t0 := 0) (N := 275) (a0 := (275, .inl (fun _ => 0))) X m_ac_int rfl rfl (fun _ => ra_int) (fun _ => rfl) (by decide) (by decide) (by decide) (Nat.le_of_ble_eq_true rfl) (Nat.le_of_ble_eq_true rfl) dX7_init_26 ?_
  refine k_putF (i := 0) (ci := 7) (k := 2) (C := RX7) (T := TX7) (N := 18) (ty := .array .int) X tyX7 hin (by decide) rfl tyX7_ok nmX7 m_fl_X7_16 winX7 rfl (by decide) rfl rfl rfl rfl rfl rfl (by simp) dX7_init_28 ?_
  refine k_aload_n X 0 dX7_init_31 rfl ?_
  refine k_sipush (v := 275) X dX7_init_32 (by decide) ?_
  refine k_newa (atype := .int) (ty := .int) (t0 := 0) (N := 275) (a0 := (275, .inl (fun _ => 0))) X m_ac_int rfl rfl (fun _ => ra_int) (fun _ => rfl) (by decide) (by decide) (by decide) (Nat.le_of_ble_eq_true rfl) (Nat.le_of_ble_eq_true rfl) dX7_init_35 ?_
  refine k_putF (i := 0) (ci := 7) (k := 3) (C := RX7) (T := TX7) (N := 18) (ty := .array .int) X tyX7 hin (by decide) rfl tyX7_ok nmX7 m_fl_X7_19 winX7 rfl (by decide) rfl rfl rfl rfl rfl rfl (by simp) dX7_init_37 ?_
  refine k_aload_n X 0 dX7_init_40 rfl ?_
  refine k_sipush (v := 275) X dX7_init_41 (by decide) ?_
  refine k_newa (atype := .int) (ty := .int) (t0 := 0) (N := 275) (a0 := (275, .inl (fun _ => 0))) X m_ac_int rfl rfl (fun _ => ra_int) (fun _ => rfl) (by decide) (by decide) (by decide) (Nat.le_of_ble_eq_true rfl) (Nat.le_of_ble_eq_true rfl) dX7_init_44 ?_
  refine k_putF (i := 0) (ci := 7) (k := 4) (C := RX7) (T := TX7) (N := 18) (ty := .array .int) X tyX7 hin (by decide) rfl tyX7_ok nmX7 m_fl_X7_22 winX7 rfl (by decide) rfl rfl rfl rfl rfl rfl (by simp) dX7_init_46 ?_
  refine k_aload_n X 0 dX7_init_49 rfl ?_
  refine k_bipush (v := 60) X dX7_init_50 (by decide) ?_
  refine k_newa (atype := .int) (ty := .int) (t0 := 0) (N := 60) (a0 := (60, .inl (fun _ => 0))) X m_ac_int rfl rfl (fun _ => ra_int) (fun _ => rfl) (by decide) (by decide) (by decide) (Nat.le_of_ble_eq_true rfl) (Nat.le_of_ble_eq_true rfl) dX7_init_52 ?_
  refine k_putF (i := 0) (ci := 7) (k := 12) (C := RX7) (T := TX7) (N := 18) (ty := .array .int) X tyX7 hin (by decide) rfl tyX7_ok nmX7 m_fl_X7_25 winX7 rfl (by decide) rfl rfl rfl rfl rfl rfl (by simp) dX7_init_54 ?_
  refine k_aload_n X 0 dX7_init_57 rfl ?_
  refine k_iconst (v := -1) X dX7_init_58 (by decide) ?_
  refine k_put (i := 0) (ci := 7) (k := 14) (C := RX7) (T := TX7) (N := 18) (ty := .int) X tyX7 (by decide) rfl tyX7_ok nmX7 m_fl_X7_28 winX7 rfl (by decide) rfl rfl rfl rfl rfl (by simp) dX7_init_59 ?_
  refine k_aload_n X 0 dX7_init_62 rfl ?_
  refine k_bipush (v := 124) X dX7_init_63 (by decide) ?_
  refine k_newa (atype := .int) (ty := .int) (t0 := 0) (N := 124) (a0 := (124, .inl (fun _ => 0))) X m_ac_int rfl rfl (fun _ => ra_int) (fun _ => rfl) (by decide) (by decide) (by decide) (Nat.le_of_ble_eq_true rfl) (Nat.le_of_ble_eq_true rfl) dX7_init_65 ?_
  refine k_putF (i := 0) (ci := 7) (k := 16) (C := RX7) (T := TX7) (N := 18) (ty := .array .int) X tyX7 hin (by decide) rfl tyX7_ok nmX7 m_fl_X7_32 winX7 rfl (by decide) rfl rfl rfl rfl rfl rfl (by simp) dX7_init_67 ?_
  refine k_aload_n X 0 dX7_init_70 rfl ?_
  refine k_get (i := 0) (ci := 7) (k := 0) (C := RX7) (T := TX7) (N := 18) X (by decide) rfl m_fl_X7_7 winX7 rfl (by decide) rfl rfl dX7_init_71 ?_
  refine k_iconst (v := nI 1) X dX7_init_74 (by decide) ?_
  refine k_bipush (v := 16) X dX7_init_75 (by decide) ?_
  refine k_iast (i := 1) (N := 275) X (by decide) rfl (vp_in_nI (by decide) (by decide)) dX7_init_77 ?_
  refine k_bipush (v := nI 6) X dX7_init_78 (by decide) ?_
  refine k_istore_n X [(1, .int (nI 6)), (0, .ref a)] dX7_init_80 (by decide) rfl ?_
  refine k_st 8 7 3484 (mcel q a 6) rfl rfl rfl (fun i hi => ?_) (x7_loop X ?_ 15 6 (by decide) (by decide) (by decide))
  · have h7 : i = 0 ∨ i = 1 ∨ i = 2 ∨ i = 3 ∨ i = 4 ∨ i = 5 ∨ i = 6 ∨ i = 7 := by omega
    rcases h7 with rfl | rfl | rfl | rfl | rfl | rfl | rfl | rfl
    · rfl
    · have e2 : (fun k => if k = 1 then (16 : Int32) else if 32 ≤ k ∧ k < 26 + 6 then 7 else 0) = upd (fun _ => 0) (nI 1).toNatClampNeg 16 := by
        rw [nI_clamp (by decide)]
        funext k
        by_cases q1 : k = 1
        · subst q1
          rfl
        · rw [if_neg q1, if_neg (by omega)]
          exact (if_neg q1).symm
      show _ = (Sum.inl (q 0, 275, Sum.inl (fun k => if k = 1 then (16 : Int32) else if 32 ≤ k ∧ k < 26 + 6 then 7 else 0)) : va_E)
      rw [e2]
      rfl
    · rfl
    · rfl
    · rfl
    · rfl
    · rfl
    · rfl
  exact k_ret X hr hlocks dX7_init_104 (by decide) rfl (fun i hi => rfl)

theorem k_st {p : Program} {l : Launch} {e : Env} {R : Room} {s : State} {m : MethodId} {args : Array Value} {below : List Frame} {meth : Method} {c : Code} {cells slots : Nat} {Q : State → Prop} {D : va_G} {nL B n : Nat} {pc : Nat} {lv : List (Nat × Value)} {st : List Value} {cel : Nat → va_E} (n2 k1 k2 : Nat) (cel2 : Nat → va_E) (hn : n = n2) (h1 : cells = k1) (h2 : slots = k2) (h : ∀ i, i < n2 → cel i = cel2 i) (g : Kg p l e R s m args below meth c Q D B nL k1 k2 pc lv st n2 cel2) : Kg p l e R s m args below meth c Q D B nL cells slots pc lv st n cel := by
  subst hn
  subst h1
  subst h2
  exact k_congr h g
theorem jn_ue {n0 k : Nat} {cel f : Nat → va_E} {e : va_E} (h : ∀ j, j < k → f j = cel (n0 + j)) : ∀ i, i < n0 + k → jn n0 (ue cel n0 e) f i = cel i := by
  intro i hi
  by_cases q1 : i < n0
  · simp only [jn, q1, if_true]
    exact ue_ne (by omega)
  · simp only [jn, q1, if_false]
    rw [h (i - n0) (by omega), show n0 + (i - n0) = i by omega]
theorem gcel_pit {q : Nat → ClassId} {a h np nh ni k : Nat} (hk : k < 4) : gcel q a h np nh ni (7 + k) = .inr (5, [.int 20, .int 10, .int 0, .int 0, .int 0]) := by
  have h4 : k = 0 ∨ k = 1 ∨ k = 2 ∨ k = 3 := by omega
  rcases h4 with rfl | rfl | rfl | rfl <;> rfl
theorem gcel_hor {q : Nat → ClassId} {a h np nh ni k : Nat} (hk : k < 5) : gcel q a h np nh ni (11 + k) = .inr (1, [.int 0, .int 0, .int 0, .int 0, .int 0, .int 0]) := by
  have h4 : k = 0 ∨ k = 1 ∨ k = 2 ∨ k = 3 ∨ k = 4 := by omega
  rcases h4 with rfl | rfl | rfl | rfl | rfl <;> rfl
theorem gcel_inn {q : Nat → ClassId} {a h np nh ni k : Nat} : gcel q a h np nh ni (16 + 2 * k) = .inr (2, [.int 0, .int 0, .int 0, .int 0, .int 0, .int 0, .int 0, .ref (a + (16 + 2 * k) + 1)]) := by
  unfold gcel
  rw [if_neg (by omega), if_neg (by omega), if_neg (by omega), if_neg (by omega), if_neg (by omega), if_neg (by omega), if_neg (by omega), if_neg (by omega), if_neg (by omega), if_pos (by omega)]
theorem gcel_inn1 {q : Nat → ClassId} {a h np nh ni k : Nat} : gcel q a h np nh ni (16 + 2 * k + 1) = .inl (q 0, 7, .inl (fun _ => 0)) := by
  unfold gcel
  rw [if_neg (by omega), if_neg (by omega), if_neg (by omega), if_neg (by omega), if_neg (by omega), if_neg (by omega), if_neg (by omega), if_neg (by omega), if_neg (by omega), if_neg (by omega)]
/-- which of the arrays of cells changes -/
theorem gcel_3 {q : Nat → ClassId} {a h np nh ni np' : Nat} {e : va_E} (he : e = .inl (q 1, 4, .inr (.inr (.inr (.inr (fun k => if k < np' then some (a + (7 + k)) else none)))))) (i : Nat) : ue (gcel q a h np nh ni) 3 e i = gcel q a h np' nh ni i := by
  by_cases h3 : i = 3
  · subst h3
    rw [ue_at, he]
    rfl
  · rw [ue_ne h3]
    unfold gcel
    rw [if_neg h3, if_neg h3]
theorem gcel_4 {q : Nat → ClassId} {a h np nh ni nh' : Nat} {e : va_E} (he : e = .inl (q 2, 5, .inr (.inr (.inr (.inr (fun k => if k < nh' then some (a + (11 + k)) else none)))))) (i : Nat) : ue (gcel q a h np nh ni) 4 e i = gcel q a h np nh' ni i := by
  by_cases h3 : i = 4
  · subst h3
    rw [ue_at, he]
    rfl
  · rw [ue_ne h3]
    unfold gcel
    rw [if_neg h3, if_neg h3]
theorem gcel_6 {q : Nat → ClassId} {a h np nh ni ni' : Nat} {e : va_E} (he : e = .inl (q 3, 12, .inr (.inr (.inr (.inr (fun k => if k < ni' then some (a + (16 + 2 * k)) else none)))))) (i : Nat) : ue (gcel q a h np nh ni) 6 e i = gcel q a h np nh ni' i := by
  by_cases h3 : i = 6
  · subst h3
    rw [ue_at, he]
    rfl
  · rw [ue_ne h3]
    unfold gcel
    rw [if_neg h3, if_neg h3]
theorem up_lt {k : Nat} {f : Nat → Nat} : va_up (fun j => if j < k then some (f j) else none) k (some (f k)) = (fun j => if j < k + 1 then some (f j) else none) := by
  funext j
  by_cases h : j = k
  · subst h
    simp [va_up]
  · simp only [va_up, h, if_false]
    by_cases h2 : j < k
    · rw [if_pos h2, if_pos (by omega)]
    · rw [if_neg h2, if_neg (by omega)]
section G1
variable {p : Program} {l : Launch} {e : Env} {s : State} {m : MethodId} {args : Array Value} {below : List Frame} {meth : Method} {c : Code} {Q : State → Prop} {D : va_G} {q : Nat → ClassId} {a : Nat}
theorem x0_inn (X : Ck p m c cX0_init 2 s args RX0 D q a) (g : Kg p l e rm_G s m args below meth c Q D a 2 39 302 160 [(1, .int (nI 12)), (0, .ref a)] [] 40 (gcel q a 20 4 5 12)) : ∀ f k, f + k = 12 → Kg p l e rm_G s m args below meth c Q D a 2 (15 + 2 * k) (122 + 15 * k) 135 [(1, .int (nI k)), (0, .ref a)] [] (16 + 2 * k) (gcel q a 20 4 5 k) := by
  intro f
  induction f with
  | zero =>
    intro k hk
    have e : k = 12 := by omega
    subst e
    refine k_iload_n X 0 dX0_init_135 rfl ?_
    refine k_bipush (v := 12) X dX0_init_136 (by decide) ?_
    refine k_icmp_ge X 160 dX0_init_138 (by decide) (fun q1 => g) (fun q1 => absurd (show (12 : Int32) ≤ nI 12 by decide) q1)
  | succ f ih =>
    intro k hk
    refine k_iload_n X 0 dX0_init_135 rfl ?_
    refine k_bipush (v := 12) X dX0_init_136 (by decide) ?_
    refine k_icmp_ge X 160 dX0_init_138 (by decide) (fun q1 => absurd q1 (nI_ge (a := k) (b := 12) (by omega) (by decide))) (fun q1 => ?_)
    refine k_aload_n X 1 dX0_init_141 rfl ?_
    refine k_get (i := 0) (ci := 0) (k := 11) (C := RX0) (T := TX0) (N := 12) X (by omega) rfl m_fl_X0_39 winX0 rfl (by decide) rfl rfl dX0_init_142 ?_
    refine k_iload_n X 0 dX0_init_145 rfl ?_
    refine k_new (ci := 2) (C := RX2) (T := TX2) (N := 8) (fs := [.int 0, .int 0, .int 0, .int 0, .int 0, .int 0, .int 0, .null]) X tyX2 tyX2_ok m_cl_X0_37 m_is_X2 m_in_X2 winX2 rfl (by decide +kernel) (by show _ ≤ 39; omega) (by show _ ≤ 302; omega) dX0_init_146 ?_
    refine k_dup X dX0_init_149 ?_
    refine k_ctorN (k := 2) X n_X2 ue_at rfl m_nl_X0_45 m_im_X2_init m_in_X2 m_co_X2_init ⟨rfl, by decide, by decide, by decide +kernel⟩ ⟨rfl, rfl, Nat.le_of_ble_eq_true rfl, Nat.le_of_ble_eq_true rfl⟩ (Nat.le_of_ble_eq_true rfl) ⟨by show _ ≤ 39; omega, by show _ ≤ 302; omega⟩ dX0_init_150 ?_
    refine k_st (16 + 2 * (k + 1)) (15 + 2 * (k + 1)) (122 + 15 * (k + 1)) (gcel q a 20 4 5 k) (by omega) (by omega) (by omega) (fun i hi => jn_ue (k := 2) (fun j hj => ?_) i (by omega)) ?_
    · have h2 : j = 0 ∨ j = 1 := by omega
      rcases h2 with rfl | rfl
      · exact (gcel_inn).symm
      · exact (gcel_inn1).symm
    refine k_astq (i := 6) (i2 := 16 + 2 * k) (t0 := 3) (ci := 2) (r := (RX2, TX2, 8)) X (by omega) rfl rfl (by omega) gcel_inn rfl (vp_in_nI (by omega) (by decide)) dX0_init_153 ?_
    refine k_iinc X 0 (nI (k + 1)) [(1, .int (nI (k + 1))), (0, .ref a)] dX0_init_154 rfl (by rw [nI_succ]; rfl) (by decide) rfl ?_
    refine k_goto X 135 dX0_init_157 (by decide) ?_
    refine k_congr (fun i hi => gcel_6 ?_ i) (ih (k + 1) (by omega))
    rw [nI_clamp (by omega), up_lt (f := fun j => a + (16 + 2 * j))]
theorem x0_hor (X : Ck p m c cX0_init 2 s args RX0 D q a) (g : Kg p l e rm_G s m args below meth c Q D a 2 15 122 133 [(1, .int (nI 5)), (0, .ref a)] [] 16 (gcel q a 20 4 5 0)) : ∀ f k, f + k = 5 → Kg p l e rm_G s m args below meth c Q D a 2 (10 + k) (92 + 6 * k) 109 [(1, .int (nI k)), (0, .ref a)] [] (11 + k) (gcel q a 20 4 k 0) := by
  intro f
  induction f with
  | zero =>
    intro k hk
    have e : k = 5 := by omega
    subst e
    refine k_iload_n X 0 dX0_init_109 rfl ?_
    refine k_iconst (v := 5) X dX0_init_110 (by decide) ?_
    refine k_icmp_ge X 133 dX0_init_111 (by decide) (fun q1 => g) (fun q1 => absurd (show (5 : Int32) ≤ nI 5 by decide) q1)
  | succ f ih =>
    intro k hk
    refine k_iload_n X 0 dX0_init_109 rfl ?_
    refine k_iconst (v := 5) X dX0_init_110 (by decide) ?_
    refine k_icmp_ge X 133 dX0_init_111 (by decide) (fun q1 => absurd q1 (nI_ge (a := k) (b := 5) (by omega) (by decide))) (fun q1 => ?_)
    refine k_aload_n X 1 dX0_init_114 rfl ?_
    refine k_get (i := 0) (ci := 0) (k := 7) (C := RX0) (T := TX0) (N := 12) X (by omega) rfl m_fl_X0_30 winX0 rfl (by decide) rfl rfl dX0_init_115 ?_
    refine k_iload_n X 0 dX0_init_118 rfl ?_
    refine k_new (ci := 1) (C := RX1) (T := TX1) (N := 6) (fs := [.int 0, .int 0, .int 0, .int 0, .int 0, .int 0]) X tyX1 tyX1_ok m_cl_X0_28 m_is_X1 m_in_X1 winX1 rfl (by decide +kernel) (by show _ ≤ 39; omega) (by show _ ≤ 302; omega) dX0_init_119 ?_
    refine k_dup X dX0_init_122 ?_
    refine k_ctorN (k := 1) X n_X1 ue_at rfl m_nl_X0_44 m_im_X1_init m_in_X1 m_co_X1_init ⟨rfl, by decide, by decide, by decide +kernel⟩ ⟨rfl, rfl, Nat.le_of_ble_eq_true rfl, Nat.le_of_ble_eq_true rfl⟩ (Nat.le_of_ble_eq_true rfl) ⟨by show _ ≤ 39; omega, by show _ ≤ 302; omega⟩ dX0_init_123 ?_
    refine k_st (11 + (k + 1)) (10 + (k + 1)) (92 + 6 * (k + 1)) (gcel q a 20 4 k 0) (by omega) (by omega) (by omega) (fun i hi => jn_ue (k := 1) (fun j hj => ?_) i (by omega)) ?_
    · have h2 : j = 0 := by omega
      subst h2
      exact (gcel_hor (by omega)).symm
    refine k_astq (i := 4) (i2 := 11 + k) (t0 := 2) (ci := 1) (r := (RX1, TX1, 6)) X (by omega) rfl rfl (by omega) (gcel_hor (by omega)) rfl (vp_in_nI (by omega) (by decide)) dX0_init_126 ?_
    refine k_iinc X 0 (nI (k + 1)) [(1, .int (nI (k + 1))), (0, .ref a)] dX0_init_127 rfl (by rw [nI_succ]; rfl) (by decide) rfl ?_
    refine k_goto X 109 dX0_init_130 (by decide) ?_
    refine k_congr (fun i hi => gcel_4 ?_ i) (ih (k + 1) (by omega))
    rw [nI_clamp (by omega), up_lt (f := fun j => a + (11 + j))]
theorem x0_pit (X : Ck p m c cX0_init 2 s args RX0 D q a) (g : Kg p l e rm_G s m args below meth c Q D a 2 10 92 107 [(1, .int (nI 4)), (0, .ref a)] [] 11 (gcel q a 20 4 0 0)) : ∀ f k, f + k = 4 → Kg p l e rm_G s m args below meth c Q D a 2 (6 + k) (72 + 5 * k) 83 [(1, .int (nI k)), (0, .ref a)] [] (7 + k) (gcel q a 20 k 0 0) := by
  intro f
  induction f with
  | zero =>
    intro k hk
    have e : k = 4 := by omega
    subst e
    refine k_iload_n X 0 dX0_init_83 rfl ?_
    refine k_iconst (v := 4) X dX0_init_84 (by decide) ?_
    refine k_icmp_ge X 107 dX0_init_85 (by decide) (fun q1 => g) (fun q1 => absurd (show (4 : Int32) ≤ nI 4 by decide) q1)
  | succ f ih =>
    intro k hk
    refine k_iload_n X 0 dX0_init_83 rfl ?_
    refine k_iconst (v := 4) X dX0_init_84 (by decide) ?_
    refine k_icmp_ge X 107 dX0_init_85 (by decide) (fun q1 => absurd q1 (nI_ge (a := k) (b := 4) (by omega) (by decide))) (fun q1 => ?_)
    refine k_aload_n X 1 dX0_init_88 rfl ?_
    refine k_get (i := 0) (ci := 0) (k := 5) (C := RX0) (T := TX0) (N := 12) X (by omega) rfl m_fl_X0_24 winX0 rfl (by decide) rfl rfl dX0_init_89 ?_
    refine k_iload_n X 0 dX0_init_92 rfl ?_
    refine k_new (ci := 5) (C := RX5) (T := TX5) (N := 5) (fs := [.int 0, .int 0, .int 0, .int 0, .int 0]) X tyX5 tyX5_ok m_cl_X0_22 m_is_X5 m_in_X5 winX5 rfl (by decide +kernel) (by show _ ≤ 39; omega) (by show _ ≤ 302; omega) dX0_init_93 ?_
    refine k_dup X dX0_init_96 ?_
    refine k_ctorN (k := 1) X n_X5 ue_at rfl m_nl_X0_43 m_im_X5_init m_in_X5 m_co_X5_init ⟨rfl, by decide, by decide, by decide +kernel⟩ ⟨rfl, rfl, Nat.le_of_ble_eq_true rfl, Nat.le_of_ble_eq_true rfl⟩ (Nat.le_of_ble_eq_true rfl) ⟨by show _ ≤ 39; omega, by show _ ≤ 302; omega⟩ dX0_init_97 ?_
    refine k_st (7 + (k + 1)) (6 + (k + 1)) (72 + 5 * (k + 1)) (gcel q a 20 k 0 0) (by omega) (by omega) (by omega) (fun i hi => jn_ue (k := 1) (fun j hj => ?_) i (by omega)) ?_
    · have h2 : j = 0 := by omega
      subst h2
      exact (gcel_pit (by omega)).symm
    refine k_astq (i := 3) (i2 := 7 + k) (t0 := 1) (ci := 5) (r := (RX5, TX5, 5)) X (by omega) rfl rfl (by omega) (gcel_pit (by omega)) rfl (vp_in_nI (by omega) (by decide)) dX0_init_100 ?_
    refine k_iinc X 0 (nI (k + 1)) [(1, .int (nI (k + 1))), (0, .ref a)] dX0_init_101 rfl (by rw [nI_succ]; rfl) (by decide) rfl ?_
    refine k_goto X 83 dX0_init_104 (by decide) ?_
    refine k_congr (fun i hi => gcel_3 ?_ i) (ih (k + 1) (by omega))
    rw [nI_clamp (by omega), up_lt (f := fun j => a + (7 + j))]
end G1
theorem n_X0 {l : Launch} {D : va_G} {q : Nat → ClassId} : NewC l yX0_init cX0_init 2 rm_G 39 302 D q 0 [.int 0, .int 0, .null, .null, .int 0, .null, .int 0, .null, .int 0, .null, .int 0, .null] 40 (fun a => gcel q a 20 4 5 12) := by
  refine nc_of (by decide +kernel) rfl (by decide) (fun p e s m args below meth c a X hin hr hlocks => ?_)
  refine k_aload_n X 0 dX0_init_0 rfl ?_
  refine k_obj X m_ml_X0_3 (Nat.le_of_ble_eq_true rfl) (Nat.le_of_ble_eq_true rfl) dX0_init_1 ?_
  refine k_aload_n X 0 dX0_init_4 rfl ?_
  refine k_bipush (v := 16) X dX0_init_5 (by decide) ?_
  refine k_put (i := 0) (ci := 0) (k := 1) (C := RX0) (T := TX0) (N := 12) (ty := .int) X tyX0 (by decide) rfl tyX0_ok nmX0 m_fl_X0_9 winX0 rfl (by decide) rfl rfl rfl rfl rfl (by simp) dX0_init_7 ?_
  refine k_aload_n X 0 dX0_init_10 rfl ?_
  refine k_bipush (v := 24) X dX0_init_11 (by decide) ?_
  refine k_newa (atype := .int) (ty := .int) (t0 := 0) (N := 24) (a0 := (24, .inl (fun _ => 0))) X m_ac_int rfl rfl (fun _ => ra_int) (fun _ => rfl) (by decide) (by decide) (by decide) (Nat.le_of_ble_eq_true rfl) (Nat.le_of_ble_eq_true rfl) dX0_init_13 ?_
  refine k_putF (i := 0) (ci := 0) (k := 2) (C := RX0) (T := TX0) (N := 12) (ty := .array .int) X tyX0 hin (by decide) rfl tyX0_ok nmX0 m_fl_X0_15 winX0 rfl (by decide) rfl rfl rfl rfl rfl rfl (by simp) dX0_init_15 ?_
  refine k_aload_n X 0 dX0_init_18 rfl ?_
  refine k_bipush (v := 24) X dX0_init_19 (by decide) ?_
  refine k_newa (atype := .int) (ty := .int) (t0 := 0) (N := 24) (a0 := (24, .inl (fun _ => 0))) X m_ac_int rfl rfl (fun _ => ra_int) (fun _ => rfl) (by decide) (by decide) (by decide) (Nat.le_of_ble_eq_true rfl) (Nat.le_of_ble_eq_true rfl) dX0_init_21 ?_
  refine k_putF (i := 0) (ci := 0) (k := 3) (C := RX0) (T := TX0) (N := 12) (ty := .array .int) X tyX0 hin (by decide) rfl tyX0_ok nmX0 m_fl_X0_19 winX0 rfl (by decide) rfl rfl rfl rfl rfl rfl (by simp) dX0_init_23 ?_
  refine k_aload_n X 0 dX0_init_26 rfl ?_
  refine k_iconst (v := 4) X dX0_init_27 (by decide) ?_
  refine k_newq (t0 := 1) (N := 4) (C := RX5) X m_cl_X0_22 X.2.2.2.2.2.2.2.1.1 rfl (by decide) (by decide) (by decide) (Nat.le_of_ble_eq_true rfl) (Nat.le_of_ble_eq_true rfl) dX0_init_28 ?_
  refine k_putF (i := 0) (ci := 0) (k := 5) (C := RX0) (T := TX0) (N := 12) (ty := .array (.object RX5)) X tyX0 hin (by decide) rfl tyX0_ok nmX0 m_fl_X0_24 winX0 rfl (by decide) rfl rfl rfl rfl rfl rfl (by simp) dX0_init_31 ?_
  refine k_aload_n X 0 dX0_init_34 rfl ?_
  refine k_iconst (v := 5) X dX0_init_35 (by decide) ?_
  refine k_newq (t0 := 2) (N := 5) (C := RX1) X m_cl_X0_28 X.2.2.2.2.2.2.2.1.2.1 rfl (by decide) (by decide) (by decide) (Nat.le_of_ble_eq_true rfl) (Nat.le_of_ble_eq_true rfl) dX0_init_36 ?_
  refine k_putF (i := 0) (ci := 0) (k := 7) (C := RX0) (T := TX0) (N := 12) (ty := .array (.object RX1)) X tyX0 hin (by decide) rfl tyX0_ok nmX0 m_fl_X0_30 winX0 rfl (by decide) rfl rfl rfl rfl rfl rfl (by simp) dX0_init_39 ?_
  refine k_aload_n X 0 dX0_init_42 rfl ?_
  refine k_iconst (v := 3) X dX0_init_43 (by decide) ?_
  refine k_newa (atype := .int) (ty := .int) (t0 := 0) (N := 3) (a0 := (3, .inl (fun _ => 0))) X m_ac_int rfl rfl (fun _ => ra_int) (fun _ => rfl) (by decide) (by decide) (by decide) (Nat.le_of_ble_eq_true rfl) (Nat.le_of_ble_eq_true rfl) dX0_init_44 ?_
  refine k_putF (i := 0) (ci := 0) (k := 9) (C := RX0) (T := TX0) (N := 12) (ty := .array .int) X tyX0 hin (by decide) rfl tyX0_ok nmX0 m_fl_X0_34 winX0 rfl (by decide) rfl rfl rfl rfl rfl rfl (by simp) dX0_init_46 ?_
  refine k_aload_n X 0 dX0_init_49 rfl ?_
  refine k_bipush (v := 12) X dX0_init_50 (by decide) ?_
  refine k_newq (t0 := 3) (N := 12) (C := RX2) X m_cl_X0_37 X.2.2.2.2.2.2.2.1.2.2.1 rfl (by decide) (by decide) (by decide) (Nat.le_of_ble_eq_true rfl) (Nat.le_of_ble_eq_true rfl) dX0_init_52 ?_
  refine k_putF (i := 0) (ci := 0) (k := 11) (C := RX0) (T := TX0) (N := 12) (ty := .array (.object RX2)) X tyX0 hin (by decide) rfl tyX0_ok nmX0 m_fl_X0_39 winX0 rfl (by decide) rfl rfl rfl rfl rfl rfl (by simp) dX0_init_55 ?_
  refine k_bipush (v := nI 6) X dX0_init_58 (by decide) ?_
  refine k_istore_n X [(1, .int (nI 6)), (0, .ref a)] dX0_init_60 (by decide) rfl ?_
  refine k_st 7 6 72 (gcel q a 6 0 0 0) rfl rfl rfl (fun i hi => ?_) (x0_light X ?_ 15 6 (by decide) (by decide) (by decide))
  · have h7 : i = 0 ∨ i = 1 ∨ i = 2 ∨ i = 3 ∨ i = 4 ∨ i = 5 ∨ i = 6 := by omega
    have e2 : (fun k => if 6 ≤ k ∧ k < 6 then (7 : Int32) else 0) = (fun _ => 0) := by
      funext k
      exact if_neg (by omega)
    rcases h7 with rfl | rfl | rfl | rfl | rfl | rfl | rfl
    · rfl
    · rfl
    · show _ = (Sum.inl (q 0, 24, Sum.inl (fun k => if 6 ≤ k ∧ k < 6 then (7 : Int32) else 0)) : va_E)
      rw [e2]
      rfl
    · rfl
    · rfl
    · rfl
    · rfl
  refine k_iconst (v := nI 0) X dX0_init_81 (by decide) ?_
  refine k_istore_n X [(1, .int (nI 0)), (0, .ref a)] dX0_init_82 (by decide) rfl ?_
  refine x0_pit X ?_ 4 0 rfl
  refine k_iconst (v := nI 0) X dX0_init_107 (by decide) ?_
  refine k_istore_n X [(1, .int (nI 0)), (0, .ref a)] dX0_init_108 (by decide) rfl ?_
  refine x0_hor X ?_ 5 0 rfl
  refine k_iconst (v := nI 0) X dX0_init_133 (by decide) ?_
  refine k_istore_n X [(1, .int (nI 0)), (0, .ref a)] dX0_init_134 (by decide) rfl ?_
  refine x0_inn X ?_ 12 0 rfl
  exact k_ret X hr hlocks dX0_init_160 (by decide) rfl (fun i hi => rfl)

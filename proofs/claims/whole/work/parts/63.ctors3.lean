def pcel (q : Nat → ClassId) (a np i : Nat) : va_E :=
  if i = 0 then .inr (4, [.ref (a + 1), .int 0, .int 0])
  else if i = 1 then .inl (q 4, 8, .inr (.inr (.inr (.inr (fun k => if k < np then some (a + (2 + 40 * k)) else none)))))
  else gcel q (a + (2 + 40 * ((i - 2) / 40))) 20 4 5 12 ((i - 2) % 40)
theorem pcel_g {q : Nat → ClassId} {a np k j : Nat} (hj : j < 40) : pcel q a np (2 + 40 * k + j) = gcel q (a + (2 + 40 * k)) 20 4 5 12 j := by
  unfold pcel
  rw [if_neg (by omega), if_neg (by omega), show (2 + 40 * k + j - 2) / 40 = k by omega, show (2 + 40 * k + j - 2) % 40 = j by omega]
theorem pcel_1 {q : Nat → ClassId} {a np np' : Nat} {e : va_E} (he : e = .inl (q 4, 8, .inr (.inr (.inr (.inr (fun k => if k < np' then some (a + (2 + 40 * k)) else none)))))) (i : Nat) : ue (pcel q a np) 1 e i = pcel q a np' i := by
  by_cases h3 : i = 1
  · subst h3
    rw [ue_at, he]
    rfl
  · rw [ue_ne h3]
    unfold pcel
    rw [if_neg h3, if_neg h3]
abbrev rm_P : Room := rmK 3 321 2520 100
section P1
variable {p : Program} {l : Launch} {e : Env} {s : State} {m : MethodId} {args : Array Value} {below : List Frame} {meth : Method} {c : Code} {Q : State → Prop} {D : va_G} {q : Nat → ClassId} {a : Nat}
theorem x4_loop (X : Ck p m c cX4_init 2 s args RX4 D q a) (g : Kg p l e rm_P s m args below meth c Q D a 2 321 2520 40 [(1, .int (nI 8)), (0, .ref a)] [] 322 (pcel q a 8)) : ∀ f k, f + k = 8 → Kg p l e rm_P s m args below meth c Q D a 2 (1 + 40 * k) (8 + 314 * k) 15 [(1, .int (nI k)), (0, .ref a)] [] (2 + 40 * k) (pcel q a k) := by
  intro f
  induction f with
  | zero =>
    intro k hk
    have e : k = 8 := by omega
    subst e
    refine k_iload_n X 0 dX4_init_15 rfl ?_
    refine k_bipush (v := 8) X dX4_init_16 (by decide) ?_
    refine k_icmp_ge X 40 dX4_init_18 (by decide) (fun q1 => g) (fun q1 => absurd (show (8 : Int32) ≤ nI 8 by decide) q1)
  | succ f ih =>
    intro k hk
    refine k_iload_n X 0 dX4_init_15 rfl ?_
    refine k_bipush (v := 8) X dX4_init_16 (by decide) ?_
    refine k_icmp_ge X 40 dX4_init_18 (by decide) (fun q1 => absurd q1 (nI_ge (a := k) (b := 8) (by omega) (by decide))) (fun q1 => ?_)
    refine k_aload_n X 1 dX4_init_21 rfl ?_
    refine k_get (i := 0) (ci := 4) (k := 0) (C := RX4) (T := TX4) (N := 3) X (by omega) rfl m_fl_X4_11 winX4 rfl (by decide) rfl rfl dX4_init_22 ?_
    refine k_iload_n X 0 dX4_init_25 rfl ?_
    refine k_new (ci := 0) (C := RX0) (T := TX0) (N := 12) (fs := [.int 0, .int 0, .null, .null, .int 0, .null, .int 0, .null, .int 0, .null, .int 0, .null]) X tyX0 tyX0_ok m_cl_X4_9 m_is_X0 m_in_X0 winX0 rfl (by decide +kernel) (by show _ ≤ 321; omega) (by show _ ≤ 2520; omega) dX4_init_26 ?_
    refine k_dup X dX4_init_29 ?_
    refine k_ctor (k := 40) X n_X0 ue_at rfl m_ml_X4_17 m_im_X0_init m_in_X0 m_co_X0_init ⟨rfl, by decide, by decide, by decide +kernel⟩ ⟨rfl, rfl, Nat.le_of_ble_eq_true rfl, Nat.le_of_ble_eq_true rfl⟩ (Nat.le_of_ble_eq_true rfl) ⟨by show _ ≤ 321; omega, by show _ ≤ 2520; omega⟩ dX4_init_30 ?_
    refine k_st (2 + 40 * (k + 1)) (1 + 40 * (k + 1)) (8 + 314 * (k + 1)) (pcel q a k) (by omega) (by omega) (by omega) (fun i hi => jn_ue (k := 40) (fun j hj => (pcel_g hj).symm) i (by omega)) ?_
    refine k_astq (i := 1) (i2 := 2 + 40 * k) (t0 := 4) (ci := 0) (r := (RX0, TX0, 12)) X (by omega) rfl rfl (by omega) (pcel_g (j := 0) (by decide)) rfl (vp_in_nI (by omega) (by decide)) dX4_init_33 ?_
    refine k_iinc X 0 (nI (k + 1)) [(1, .int (nI (k + 1))), (0, .ref a)] dX4_init_34 rfl (by rw [nI_succ]; rfl) (by decide) rfl ?_
    refine k_goto X 15 dX4_init_37 (by decide) ?_
    refine k_congr (fun i hi => pcel_1 ?_ i) (ih (k + 1) (by omega))
    rw [nI_clamp (by omega), up_lt (f := fun j => a + (2 + 40 * j))]
end P1
theorem n_X4 {l : Launch} {D : va_G} {q : Nat → ClassId} : NewC l yX4_init cX4_init 2 rm_P 321 2520 D q 4 [.null, .int 0, .int 0] 322 (fun a => pcel q a 8) := by
  refine nc_of (by decide +kernel) rfl (by decide) (fun p e s m args below meth c a X hin hr hlocks => ?_)
  refine k_aload_n X 0 dX4_init_0 rfl ?_
  refine k_obj X m_ml_X4_3 (Nat.le_of_ble_eq_true rfl) (Nat.le_of_ble_eq_true rfl) dX4_init_1 ?_
  refine k_aload_n X 0 dX4_init_4 rfl ?_
  refine k_bipush (v := 8) X dX4_init_5 (by decide) ?_
  refine k_newq (t0 := 4) (N := 8) (C := RX0) X m_cl_X4_9 X.2.2.2.2.2.2.2.1.2.2.2 rfl (by decide) (by decide) (by decide) (Nat.le_of_ble_eq_true rfl) (Nat.le_of_ble_eq_true rfl) dX4_init_7 ?_
  refine k_putF (i := 0) (ci := 4) (k := 0) (C := RX4) (T := TX4) (N := 3) (ty := .array (.object RX0)) X tyX4 hin (by decide) rfl tyX4_ok nmX4 m_fl_X4_11 winX4 rfl (by decide) rfl rfl rfl rfl rfl rfl (by simp) dX4_init_10 ?_
  refine k_iconst (v := nI 0) X dX4_init_13 (by decide) ?_
  refine k_istore_n X [(1, .int (nI 0)), (0, .ref a)] dX4_init_14 (by decide) rfl ?_
  refine k_st 2 1 8 (pcel q a 0) rfl rfl rfl (fun i hi => ?_) (x4_loop X ?_ 8 0 rfl)
  · have h7 : i = 0 ∨ i = 1 := by omega
    rcases h7 with rfl | rfl
    · rfl
    · have e2 : (fun k => if k < 0 then some (a + (2 + 40 * k)) else none) = (fun _ => none) := by
        funext k
        exact if_neg (by omega)
      show _ = (Sum.inl (q 4, 8, Sum.inr (Sum.inr (Sum.inr (Sum.inr (fun k => if k < 0 then some (a + (2 + 40 * k)) else none))))) : va_E)
      rw [e2]
      rfl
  exact k_ret X hr hlocks dX4_init_40 (by decide) rfl (fun i hi => rfl)
/-! the class -/
def xcel (q : Nat → ClassId) (a : Nat) (fs : List Value) (i : Nat) : va_E :=
  if i = 0 then .inr (6, fs)
  else if i < 121 then gcel q (a + (1 + 40 * ((i - 1) / 40))) 20 4 5 12 ((i - 1) % 40)
  else if i < 443 then pcel q (a + 121) 8 (i - 121)
  else ocel q (a + 443) (i - 443)
theorem xcel_0 {q : Nat → ClassId} {a : Nat} {fs fs' : List Value} (i : Nat) : ue (xcel q a fs) 0 (.inr (6, fs')) i = xcel q a fs' i := by
  by_cases h3 : i = 0
  · subst h3
    exact ue_at
  · rw [ue_ne h3]
    unfold xcel
    rw [if_neg h3, if_neg h3]
theorem xcel_g {q : Nat → ClassId} {a g j : Nat} {fs : List Value} (hg : g < 3) (hj : j < 40) : gcel q (a + (1 + 40 * g)) 20 4 5 12 j = xcel q a fs (1 + 40 * g + j) := by
  unfold xcel
  rw [if_neg (by omega), if_pos (by omega), show (1 + 40 * g + j - 1) / 40 = g by omega, show (1 + 40 * g + j - 1) % 40 = j by omega]
theorem xcel_p {q : Nat → ClassId} {a j : Nat} {fs : List Value} (hj : j < 322) : pcel q (a + 121) 8 j = xcel q a fs (121 + j) := by
  unfold xcel
  rw [if_neg (by omega), if_neg (by omega), if_pos (by omega), show 121 + j - 121 = j by omega]
theorem xcel_o {q : Nat → ClassId} {a j : Nat} {fs : List Value} : ocel q (a + 443) j = xcel q a fs (443 + j) := by
  unfold xcel
  rw [if_neg (by omega), if_neg (by omega), if_neg (by omega), show 443 + j - 443 = j by omega]
abbrev rm_X : Room := rmK 4 444 3534 140
theorem n_X6 {l : Launch} {D : va_G} {q : Nat → ClassId} : NewC l yX6_init cX6_init 1 rm_X 444 3534 D q 6 [.null, .null, .null, .int 0, .null, .null, .int 0, .int 0] 445 (fun a => xcel q a [.ref (a + 1), .ref (a + 41), .ref (a + 81), .int 0, .ref (a + 121), .ref (a + 443), .int (-1), .int (-1)]) := by
  refine nc_of (by decide +kernel) rfl (by decide) (fun p e s m args below meth c a X hin hr hlocks => ?_)
  refine k_st 1 0 0 (xcel q a [.null, .null, .null, .int 0, .null, .null, .int 0, .int 0]) rfl rfl rfl (fun i hi => ?_) ?_
  · have h2 : i = 0 := by omega
    subst h2
    rfl
  refine k_aload_n X 0 dX6_init_0 rfl ?_
  refine k_obj X m_ml_X6_1 (Nat.le_of_ble_eq_true rfl) (Nat.le_of_ble_eq_true rfl) dX6_init_1 ?_
  refine k_aload_n X 0 dX6_init_4 rfl ?_
  refine k_new (ci := 0) (C := RX0) (T := TX0) (N := 12) (fs := [.int 0, .int 0, .null, .null, .int 0, .null, .int 0, .null, .int 0, .null, .int 0, .null]) X tyX0 tyX0_ok m_cl_X6_7 m_is_X0 m_in_X0 winX0 rfl (by decide +kernel) (Nat.le_of_ble_eq_true rfl) (Nat.le_of_ble_eq_true rfl) dX6_init_5 ?_
  refine k_dup X dX6_init_8 ?_
  refine k_ctor (k := 40) X n_X0 ue_at rfl m_ml_X6_9 m_im_X0_init m_in_X0 m_co_X0_init ⟨rfl, by decide, by decide, by decide +kernel⟩ ⟨rfl, rfl, Nat.le_of_ble_eq_true rfl, Nat.le_of_ble_eq_true rfl⟩ (Nat.le_of_ble_eq_true rfl) ⟨Nat.le_of_ble_eq_true rfl, Nat.le_of_ble_eq_true rfl⟩ dX6_init_9 ?_
  refine k_st 41 40 314 (xcel q a [.null, .null, .null, .int 0, .null, .null, .int 0, .int 0]) rfl rfl rfl (fun i hi => jn_ue (k := 40) (fun j hj => xcel_g (g := 0) (by decide) hj) i hi) ?_
  refine k_putF (i := 0) (ci := 6) (k := 0) (C := RX6) (T := TX6) (N := 8) (ty := .object RX0) X tyX6 hin (by decide) rfl tyX6_ok nmX6 m_fl_X6_10 winX6 rfl (by decide) rfl rfl rfl rfl rfl rfl (by simp) dX6_init_12 ?_
  refine k_congr (fun i hi => xcel_0 i) ?_
  refine k_aload_n X 0 dX6_init_15 rfl ?_
  refine k_new (ci := 0) (C := RX0) (T := TX0) (N := 12) (fs := [.int 0, .int 0, .null, .null, .int 0, .null, .int 0, .null, .int 0, .null, .int 0, .null]) X tyX0 tyX0_ok m_cl_X6_7 m_is_X0 m_in_X0 winX0 rfl (by decide +kernel) (Nat.le_of_ble_eq_true rfl) (Nat.le_of_ble_eq_true rfl) dX6_init_16 ?_
  refine k_dup X dX6_init_19 ?_
  refine k_ctor (k := 40) X n_X0 ue_at rfl m_ml_X6_9 m_im_X0_init m_in_X0 m_co_X0_init ⟨rfl, by decide, by decide, by decide +kernel⟩ ⟨rfl, rfl, Nat.le_of_ble_eq_true rfl, Nat.le_of_ble_eq_true rfl⟩ (Nat.le_of_ble_eq_true rfl) ⟨Nat.le_of_ble_eq_true rfl, Nat.le_of_ble_eq_true rfl⟩ dX6_init_20 ?_
  refine k_st 81 80 628 (xcel q a [.ref (a + 1), .null, .null, .int 0, .null, .null, .int 0, .int 0]) rfl rfl rfl (fun i hi => jn_ue (k := 40) (fun j hj => xcel_g (g := 1) (by decide) hj) i hi) ?_
  refine k_putF (i := 0) (ci := 6) (k := 1) (C := RX6) (T := TX6) (N := 8) (ty := .object RX0) X tyX6 hin (by decide) rfl tyX6_ok nmX6 m_fl_X6_16 winX6 rfl (by decide) rfl rfl rfl rfl rfl rfl (by simp) dX6_init_23 ?_
  refine k_congr (fun i hi => xcel_0 i) ?_
  refine k_aload_n X 0 dX6_init_26 rfl ?_
  refine k_new (ci := 0) (C := RX0) (T := TX0) (N := 12) (fs := [.int 0, .int 0, .null, .null, .int 0, .null, .int 0, .null, .int 0, .null, .int 0, .null]) X tyX0 tyX0_ok m_cl_X6_7 m_is_X0 m_in_X0 winX0 rfl (by decide +kernel) (Nat.le_of_ble_eq_true rfl) (Nat.le_of_ble_eq_true rfl) dX6_init_27 ?_
  refine k_dup X dX6_init_30 ?_
  refine k_ctor (k := 40) X n_X0 ue_at rfl m_ml_X6_9 m_im_X0_init m_in_X0 m_co_X0_init ⟨rfl, by decide, by decide, by decide +kernel⟩ ⟨rfl, rfl, Nat.le_of_ble_eq_true rfl, Nat.le_of_ble_eq_true rfl⟩ (Nat.le_of_ble_eq_true rfl) ⟨Nat.le_of_ble_eq_true rfl, Nat.le_of_ble_eq_true rfl⟩ dX6_init_31 ?_
  refine k_st 121 120 942 (xcel q a [.ref (a + 1), .ref (a + 41), .null, .int 0, .null, .null, .int 0, .int 0]) rfl rfl rfl (fun i hi => jn_ue (k := 40) (fun j hj => xcel_g (g := 2) (by decide) hj) i hi) ?_
  refine k_putF (i := 0) (ci := 6) (k := 2) (C := RX6) (T := TX6) (N := 8) (ty := .object RX0) X tyX6 hin (by decide) rfl tyX6_ok nmX6 m_fl_X6_19 winX6 rfl (by decide) rfl rfl rfl rfl rfl rfl (by simp) dX6_init_34 ?_
  refine k_congr (fun i hi => xcel_0 i) ?_
  refine k_aload_n X 0 dX6_init_37 rfl ?_
  refine k_new (ci := 4) (C := RX4) (T := TX4) (N := 3) (fs := [.null, .int 0, .int 0]) X tyX4 tyX4_ok m_cl_X6_22 m_is_X4 m_in_X4 winX4 rfl (by decide +kernel) (Nat.le_of_ble_eq_true rfl) (Nat.le_of_ble_eq_true rfl) dX6_init_38 ?_
  refine k_dup X dX6_init_41 ?_
  refine k_ctor (k := 322) X n_X4 ue_at rfl m_ml_X6_24 m_im_X4_init m_in_X4 m_co_X4_init ⟨rfl, by decide, by decide, by decide +kernel⟩ ⟨rfl, rfl, Nat.le_of_ble_eq_true rfl, Nat.le_of_ble_eq_true rfl⟩ (Nat.le_of_ble_eq_true rfl) ⟨Nat.le_of_ble_eq_true rfl, Nat.le_of_ble_eq_true rfl⟩ dX6_init_42 ?_
  refine k_st 443 442 3465 (xcel q a [.ref (a + 1), .ref (a + 41), .ref (a + 81), .int 0, .null, .null, .int 0, .int 0]) rfl rfl rfl (fun i hi => jn_ue (k := 322) (fun j hj => xcel_p hj) i hi) ?_
  refine k_putF (i := 0) (ci := 6) (k := 4) (C := RX6) (T := TX6) (N := 8) (ty := .object RX4) X tyX6 hin (by decide) rfl tyX6_ok nmX6 m_fl_X6_25 winX6 rfl (by decide) rfl rfl rfl rfl rfl rfl (by simp) dX6_init_45 ?_
  refine k_congr (fun i hi => xcel_0 i) ?_
  refine k_aload_n X 0 dX6_init_48 rfl ?_
  refine k_new (ci := 3) (C := RX3) (T := TX3) (N := 9) (fs := [.null, .int 0, .int 0, .int 0, .int 0, .int 0, .int 0, .int 0, .int 0]) X tyX3 tyX3_ok m_cl_X6_29 m_is_X3 m_in_X3 winX3 rfl (by decide +kernel) (Nat.le_of_ble_eq_true rfl) (Nat.le_of_ble_eq_true rfl) dX6_init_49 ?_
  refine k_dup X dX6_init_52 ?_
  refine k_ctorN (k := 2) X n_X3 ue_at rfl m_nl_X6_31 m_im_X3_init m_in_X3 m_co_X3_init ⟨rfl, by decide, by decide, by decide +kernel⟩ ⟨rfl, rfl, Nat.le_of_ble_eq_true rfl, Nat.le_of_ble_eq_true rfl⟩ (Nat.le_of_ble_eq_true rfl) ⟨Nat.le_of_ble_eq_true rfl, Nat.le_of_ble_eq_true rfl⟩ dX6_init_53 ?_
  refine k_st 445 444 3534 (xcel q a [.ref (a + 1), .ref (a + 41), .ref (a + 81), .int 0, .ref (a + 121), .null, .int 0, .int 0]) rfl rfl rfl (fun i hi => jn_ue (k := 2) (fun j hj => xcel_o) i hi) ?_
  refine k_putF (i := 0) (ci := 6) (k := 5) (C := RX6) (T := TX6) (N := 8) (ty := .object RX3) X tyX6 hin (by decide) rfl tyX6_ok nmX6 m_fl_X6_32 winX6 rfl (by decide) rfl rfl rfl rfl rfl rfl (by simp) dX6_init_56 ?_
  refine k_congr (fun i hi => xcel_0 i) ?_
  refine k_aload_n X 0 dX6_init_59 rfl ?_
  refine k_iconst (v := -1) X dX6_init_60 (by decide) ?_
  refine k_put (i := 0) (ci := 6) (k := 6) (C := RX6) (T := TX6) (N := 8) (ty := .int) X tyX6 (by decide) rfl tyX6_ok nmX6 m_fl_X6_36 winX6 rfl (by decide) rfl rfl rfl rfl rfl (by simp) dX6_init_61 ?_
  refine k_congr (fun i hi => xcel_0 i) ?_
  refine k_aload_n X 0 dX6_init_64 rfl ?_
  refine k_iconst (v := -1) X dX6_init_65 (by decide) ?_
  refine k_put (i := 0) (ci := 6) (k := 7) (C := RX6) (T := TX6) (N := 8) (ty := .int) X tyX6 (by decide) rfl tyX6_ok nmX6 m_fl_X6_40 winX6 rfl (by decide) rfl rfl rfl rfl rfl (by simp) dX6_init_66 ?_
  refine k_congr (fun i hi => xcel_0 i) ?_
  exact k_ret X hr hlocks dX6_init_69 (by decide) rfl (fun i hi => rfl)

/-! RX7.rollerOf -/
abbrev rm_X7_rollerOf : Room := { frames := 1, cells := 0, slots := 0, locals := 22 }
section
variable {p : Program} {l : Launch} {e : Env} {s : State} {m : MethodId} {args : Array Value} {below : List Frame} {meth : Method} {c : Code} {D : va_G} {q : Nat → ClassId} {ad : Nat → Nat} {d : UInt64}
def b_X7_rollerOf_34 (kk : Int32 → Int32 → Sx → Int32) (v1 : Int32) (v2 : Int32) (S : Sx) : Int32 := kk v1 (v2 + 1) S
def o_X7_rollerOf_34 (ok : Int32 → Int32 → Sx → Prop) (v1 : Int32) (v2 : Int32) (S : Sx) : Prop := ok v1 (v2 + 1) S
set_option maxRecDepth 20000 in
theorem t_X7_rollerOf_34 (X : Cx p m c cX7_rollerOf 3 s args RX7 D q ad) (hr : meth.sig.returnType = some .int) (hlocks : meth.locks = false) (kk : Int32 → Int32 → Sx → Int32) (ok : Int32 → Int32 → Sx → Prop) (hkk : ∀ (v1 : Int32) (v2 : Int32) (S : Sx) (rv : Int32) (ho : ok v1 v2 S) (he : kk v1 v2 S = rv), Jg p l e rm_X7_rollerOf s m args below meth c 0 0 (MQ below (Qi D q ad d rv S s.heap.size) args s 0 0 (AU ad s.heap.size)) D q ad d 3 2 [(0, .ref (ad 5)), (1, .int v1), (2, .int v2)] [] S) (v1 : Int32) (v2 : Int32) (S : Sx) (rv : Int32) (ho : o_X7_rollerOf_34 ok v1 v2 S) (he : b_X7_rollerOf_34 kk v1 v2 S = rv) : Jg p l e rm_X7_rollerOf s m args below meth c 0 0 (MQ below (Qi D q ad d rv S s.heap.size) args s 0 0 (AU ad s.heap.size)) D q ad d 3 34 [(0, .ref (ad 5)), (1, .int v1), (2, .int v2)] [] S := by
  unfold b_X7_rollerOf_34 at he
  unfold o_X7_rollerOf_34 at ho
  refine j_iinc X 2 (v2 + 1) [(2, .int (v2 + 1)), (0, .ref (ad 5)), (1, .int v1)] dX7_rollerOf_34 rfl rfl (by decide) rfl ?_
  refine j_goto X 2 dX7_rollerOf_37 (by decide) ?_
  refine j_lv [1, 2, 0] [(0, .ref (ad 5)), (1, .int v1), (2, .int (v2 + 1))] rfl ?_
  exact hkk v1 (v2 + 1) S _ ho he
def b_X7_rollerOf_2 : Nat → Int32 → Int32 → Sx → Int32
  | 0, _, _, S => 0
  | n + 1, v1, v2, S => if (S 6 ((71 : Int32).toNatClampNeg)) ≤ v2 then (-1) else if (b_X7_ofHorse_0 v2 3 S) ≤ 0 then b_X7_rollerOf_34 (b_X7_rollerOf_2 n) v1 v2 S else if (b_X7_ofHorse_0 v2 4 S) = v1 then v2 else b_X7_rollerOf_34 (b_X7_rollerOf_2 n) v1 v2 S
def o_X7_rollerOf_2 : Nat → Int32 → Int32 → Sx → Prop
  | 0, _, _, _ => False
  | n + 1, v1, v2, S => ((S 6 ((71 : Int32).toNatClampNeg)) ≤ v2 → True) ∧ (¬ (S 6 ((71 : Int32).toNatClampNeg)) ≤ v2 → (o_X7_ofHorse_0 v2 3 S ∧ (((b_X7_ofHorse_0 v2 3 S) ≤ 0 → (o_X7_rollerOf_34 (o_X7_rollerOf_2 n) v1 v2 S)) ∧ (¬ (b_X7_ofHorse_0 v2 3 S) ≤ 0 → (o_X7_ofHorse_0 v2 4 S ∧ (((b_X7_ofHorse_0 v2 4 S) = v1 → True) ∧ (¬ (b_X7_ofHorse_0 v2 4 S) = v1 → (o_X7_rollerOf_34 (o_X7_rollerOf_2 n) v1 v2 S))))))))
set_option maxRecDepth 20000 in
theorem t_X7_rollerOf_2 (X : Cx p m c cX7_rollerOf 3 s args RX7 D q ad) (hr : meth.sig.returnType = some .int) (hlocks : meth.locks = false) : ∀ (n : Nat) (v1 : Int32) (v2 : Int32) (S : Sx) (rv : Int32) (ho : o_X7_rollerOf_2 n v1 v2 S) (he : b_X7_rollerOf_2 n v1 v2 S = rv), Jg p l e rm_X7_rollerOf s m args below meth c 0 0 (MQ below (Qi D q ad d rv S s.heap.size) args s 0 0 (AU ad s.heap.size)) D q ad d 3 2 [(0, .ref (ad 5)), (1, .int v1), (2, .int v2)] [] S := by
  intro n
  induction n with
  | zero =>
    intro v1 v2 S rv ho he
    unfold o_X7_rollerOf_2 at ho
    exact ho.elim
  | succ n ih =>
    intro v1 v2 S rv ho he
    unfold b_X7_rollerOf_2 at he
    unfold o_X7_rollerOf_2 at ho
    refine j_iload_n X 2 dX7_rollerOf_2 rfl ?_
    refine j_aload_n X 0 dX7_rollerOf_3 rfl ?_
    refine gf_25_0 X m_fl_X7_7 kc25 dX7_rollerOf_4 ?_
    refine j_bipush (v := 71) X dX7_rollerOf_7 (by decide) ?_
    refine j_iald X kc26.1 (cl_26 kc26) (by unfold vp_in; decide) dX7_rollerOf_9 ?_
    refine j_icmp_ge X 40 dX7_rollerOf_10 (by decide) (fun h2 => ?_) (fun h2 => ?_)
    · rw [if_pos h2] at he
      have ho := ho.1 h2
      refine j_iconst (v := (-1)) X dX7_rollerOf_40 (by decide) ?_
      exact j_iret X hr hlocks dX7_rollerOf_41 he rfl
    · rw [if_neg h2] at he
      have ho := ho.2 h2
      refine j_aload_n X 0 dX7_rollerOf_13 rfl ?_
      refine j_iload_n X 2 dX7_rollerOf_14 rfl ?_
      refine j_iconst (v := 3) X dX7_rollerOf_15 (by decide) ?_
      have h3 := ho.1
      have ho := ho.2
      refine j_callVi (rest := []) X (c_X7_ofHorse (cx_inj X) v2 3 S h3) cw_X7_85 kc25.1 (cl_25 kc25) rfl ⟨rfl, rfl, Nat.le_of_ble_eq_true rfl, Nat.le_of_ble_eq_true rfl⟩ rfl rfl (Nat.le_of_ble_eq_true rfl) ⟨Nat.le_of_ble_eq_true rfl, Nat.le_of_ble_eq_true rfl⟩ dX7_rollerOf_16 ?_
      refine j_if_le X 34 dX7_rollerOf_19 (by decide) (fun h4 => ?_) (fun h4 => ?_)
      · rw [if_pos h4] at he
        have ho := ho.1 h4
        exact t_X7_rollerOf_34 X hr hlocks (b_X7_rollerOf_2 n) (o_X7_rollerOf_2 n) ih v1 v2 S _ ho he
      · rw [if_neg h4] at he
        have ho := ho.2 h4
        refine j_aload_n X 0 dX7_rollerOf_22 rfl ?_
        refine j_iload_n X 2 dX7_rollerOf_23 rfl ?_
        refine j_iconst (v := 4) X dX7_rollerOf_24 (by decide) ?_
        have h5 := ho.1
        have ho := ho.2
        refine j_callVi (rest := []) X (c_X7_ofHorse (cx_inj X) v2 4 S h5) cw_X7_85 kc25.1 (cl_25 kc25) rfl ⟨rfl, rfl, Nat.le_of_ble_eq_true rfl, Nat.le_of_ble_eq_true rfl⟩ rfl rfl (Nat.le_of_ble_eq_true rfl) ⟨Nat.le_of_ble_eq_true rfl, Nat.le_of_ble_eq_true rfl⟩ dX7_rollerOf_25 ?_
        refine j_iload_n X 1 dX7_rollerOf_28 rfl ?_
        refine j_icmp_ne X 34 dX7_rollerOf_29 (by decide) (fun h6 => ?_) (fun h6 => ?_)
        · rw [if_neg h6] at he
          have ho := ho.2 h6
          exact t_X7_rollerOf_34 X hr hlocks (b_X7_rollerOf_2 n) (o_X7_rollerOf_2 n) ih v1 v2 S _ ho he
        · rw [if_pos h6] at he
          have ho := ho.1 h6
          refine j_iload_n X 2 dX7_rollerOf_32 rfl ?_
          exact j_iret X hr hlocks dX7_rollerOf_33 he rfl
def b_X7_rollerOf_0 (x1 : Int32) (S : Sx) : Int32 := b_X7_rollerOf_2 100 x1 0 S
def o_X7_rollerOf_0 (x1 : Int32) (S : Sx) : Prop := o_X7_rollerOf_2 100 x1 0 S
set_option maxRecDepth 20000 in
theorem t_X7_rollerOf_0 (X : Cx p m c cX7_rollerOf 3 s args RX7 D q ad) (hr : meth.sig.returnType = some .int) (hlocks : meth.locks = false) (x1 : Int32) (S : Sx) (rv : Int32) (ho : o_X7_rollerOf_0 x1 S) (he : b_X7_rollerOf_0 x1 S = rv) : Jg p l e rm_X7_rollerOf s m args below meth c 0 0 (MQ below (Qi D q ad d rv S s.heap.size) args s 0 0 (AU ad s.heap.size)) D q ad d 3 0 [(0, .ref (ad 5)), (1, .int x1)] [] S := by
  unfold b_X7_rollerOf_0 at he
  unfold o_X7_rollerOf_0 at ho
  refine j_iconst (v := 0) X dX7_rollerOf_0 (by decide) ?_
  refine j_istore_n X [(2, .int 0), (0, .ref (ad 5)), (1, .int x1)] dX7_rollerOf_1 (by decide) rfl ?_
  refine j_lv [1, 2, 0] [(0, .ref (ad 5)), (1, .int x1), (2, .int 0)] rfl ?_
  exact t_X7_rollerOf_2 X hr hlocks 100 x1 0 S _ ho he
theorem c_X7_rollerOf {l : Launch} {D : va_G} {q : Nat → ClassId} {ad : Nat → Nat} {d : UInt64} (hI : inj4 ad) (x1 : Int32) (S : Sx) (ho : o_X7_rollerOf_0 x1 S) : CI l yX7_rollerOf cX7_rollerOf 3 .int rm_X7_rollerOf D q ad d [.ref (ad 5), .int x1] S (b_X7_rollerOf_0 x1 S) S := ci_of hI (by decide +kernel) (Nat.le_of_ble_eq_true rfl) rfl (fun p e s m args below meth c X hr hlocks => t_X7_rollerOf_0 X hr hlocks x1 S _ ho rfl)
end
/-! RX7.openOn -/
abbrev rm_X7_openOn : Room := { frames := 1, cells := 0, slots := 0, locals := 22 }
section
variable {p : Program} {l : Launch} {e : Env} {s : State} {m : MethodId} {args : Array Value} {below : List Frame} {meth : Method} {c : Code} {D : va_G} {q : Nat → ClassId} {ad : Nat → Nat} {d : UInt64}
def b_X7_openOn_35 (kk : Int32 → Int32 → Sx → Int32) (v1 : Int32) (v2 : Int32) (S : Sx) : Int32 := kk v1 (v2 + 1) S
def o_X7_openOn_35 (ok : Int32 → Int32 → Sx → Prop) (v1 : Int32) (v2 : Int32) (S : Sx) : Prop := ok v1 (v2 + 1) S
set_option maxRecDepth 20000 in
theorem t_X7_openOn_35 (X : Cx p m c cX7_openOn 3 s args RX7 D q ad) (hr : meth.sig.returnType = some .int) (hlocks : meth.locks = false) (kk : Int32 → Int32 → Sx → Int32) (ok : Int32 → Int32 → Sx → Prop) (hkk : ∀ (v1 : Int32) (v2 : Int32) (S : Sx) (rv : Int32) (ho : ok v1 v2 S) (he : kk v1 v2 S = rv), Jg p l e rm_X7_openOn s m args below meth c 0 0 (MQ below (Qi D q ad d rv S s.heap.size) args s 0 0 (AU ad s.heap.size)) D q ad d 3 2 [(0, .ref (ad 5)), (1, .int v1), (2, .int v2)] [] S) (v1 : Int32) (v2 : Int32) (S : Sx) (rv : Int32) (ho : o_X7_openOn_35 ok v1 v2 S) (he : b_X7_openOn_35 kk v1 v2 S = rv) : Jg p l e rm_X7_openOn s m args below meth c 0 0 (MQ below (Qi D q ad d rv S s.heap.size) args s 0 0 (AU ad s.heap.size)) D q ad d 3 35 [(0, .ref (ad 5)), (1, .int v1), (2, .int v2)] [] S := by
  unfold b_X7_openOn_35 at he
  unfold o_X7_openOn_35 at ho
  refine j_iinc X 2 (v2 + 1) [(2, .int (v2 + 1)), (0, .ref (ad 5)), (1, .int v1)] dX7_openOn_35 rfl rfl (by decide) rfl ?_
  refine j_goto X 2 dX7_openOn_38 (by decide) ?_
  refine j_lv [1, 2, 0] [(0, .ref (ad 5)), (1, .int v1), (2, .int (v2 + 1))] rfl ?_
  exact hkk v1 (v2 + 1) S _ ho he
def b_X7_openOn_2 : Nat → Int32 → Int32 → Sx → Int32
  | 0, _, _, S => 0
  | n + 1, v1, v2, S => if (S 6 ((106 : Int32).toNatClampNeg)) ≤ v2 then (-1) else if (b_X7_ofInnings_0 v2 6 S) = 0 then if (b_X7_ofInnings_0 v2 0 S) = v1 then v2 else b_X7_openOn_35 (b_X7_openOn_2 n) v1 v2 S else b_X7_openOn_35 (b_X7_openOn_2 n) v1 v2 S
def o_X7_openOn_2 : Nat → Int32 → Int32 → Sx → Prop
  | 0, _, _, _ => False
  | n + 1, v1, v2, S => ((S 6 ((106 : Int32).toNatClampNeg)) ≤ v2 → True) ∧ (¬ (S 6 ((106 : Int32).toNatClampNeg)) ≤ v2 → (o_X7_ofInnings_0 v2 6 S ∧ (((b_X7_ofInnings_0 v2 6 S) = 0 → (o_X7_ofInnings_0 v2 0 S ∧ (((b_X7_ofInnings_0 v2 0 S) = v1 → True) ∧ (¬ (b_X7_ofInnings_0 v2 0 S) = v1 → (o_X7_openOn_35 (o_X7_openOn_2 n) v1 v2 S))))) ∧ (¬ (b_X7_ofInnings_0 v2 6 S) = 0 → (o_X7_openOn_35 (o_X7_openOn_2 n) v1 v2 S)))))
set_option maxRecDepth 20000 in
theorem t_X7_openOn_2 (X : Cx p m c cX7_openOn 3 s args RX7 D q ad) (hr : meth.sig.returnType = some .int) (hlocks : meth.locks = false) : ∀ (n : Nat) (v1 : Int32) (v2 : Int32) (S : Sx) (rv : Int32) (ho : o_X7_openOn_2 n v1 v2 S) (he : b_X7_openOn_2 n v1 v2 S = rv), Jg p l e rm_X7_openOn s m args below meth c 0 0 (MQ below (Qi D q ad d rv S s.heap.size) args s 0 0 (AU ad s.heap.size)) D q ad d 3 2 [(0, .ref (ad 5)), (1, .int v1), (2, .int v2)] [] S := by
  intro n
  induction n with
  | zero =>
    intro v1 v2 S rv ho he
    unfold o_X7_openOn_2 at ho
    exact ho.elim
  | succ n ih =>
    intro v1 v2 S rv ho he
    unfold b_X7_openOn_2 at he
    unfold o_X7_openOn_2 at ho
    refine j_iload_n X 2 dX7_openOn_2 rfl ?_
    refine j_aload_n X 0 dX7_openOn_3 rfl ?_
    refine gf_25_0 X m_fl_X7_7 kc25 dX7_openOn_4 ?_
    refine j_bipush (v := 106) X dX7_openOn_7 (by decide) ?_
    refine j_iald X kc26.1 (cl_26 kc26) (by unfold vp_in; decide) dX7_openOn_9 ?_
    refine j_icmp_ge X 41 dX7_openOn_10 (by decide) (fun h2 => ?_) (fun h2 => ?_)
    · rw [if_pos h2] at he
      have ho := ho.1 h2
      refine j_iconst (v := (-1)) X dX7_openOn_41 (by decide) ?_
      exact j_iret X hr hlocks dX7_openOn_42 he rfl
    · rw [if_neg h2] at he
      have ho := ho.2 h2
      refine j_aload_n X 0 dX7_openOn_13 rfl ?_
      refine j_iload_n X 2 dX7_openOn_14 rfl ?_
      refine j_bipush (v := 6) X dX7_openOn_15 (by decide) ?_
      have h3 := ho.1
      have ho := ho.2
      refine j_callVi (rest := []) X (c_X7_ofInnings (cx_inj X) v2 6 S h3) cw_X7_88 kc25.1 (cl_25 kc25) rfl ⟨rfl, rfl, Nat.le_of_ble_eq_true rfl, Nat.le_of_ble_eq_true rfl⟩ rfl rfl (Nat.le_of_ble_eq_true rfl) ⟨Nat.le_of_ble_eq_true rfl, Nat.le_of_ble_eq_true rfl⟩ dX7_openOn_17 ?_
      refine j_if_ne X 35 dX7_openOn_20 (by decide) (fun h4 => ?_) (fun h4 => ?_)
      · rw [if_neg h4] at he
        have ho := ho.2 h4
        exact t_X7_openOn_35 X hr hlocks (b_X7_openOn_2 n) (o_X7_openOn_2 n) ih v1 v2 S _ ho he
      · rw [if_pos h4] at he
        have ho := ho.1 h4
        refine j_aload_n X 0 dX7_openOn_23 rfl ?_
        refine j_iload_n X 2 dX7_openOn_24 rfl ?_
        refine j_iconst (v := 0) X dX7_openOn_25 (by decide) ?_
        have h5 := ho.1
        have ho := ho.2
        refine j_callVi (rest := []) X (c_X7_ofInnings (cx_inj X) v2 0 S h5) cw_X7_88 kc25.1 (cl_25 kc25) rfl ⟨rfl, rfl, Nat.le_of_ble_eq_true rfl, Nat.le_of_ble_eq_true rfl⟩ rfl rfl (Nat.le_of_ble_eq_true rfl) ⟨Nat.le_of_ble_eq_true rfl, Nat.le_of_ble_eq_true rfl⟩ dX7_openOn_26 ?_
        refine j_iload_n X 1 dX7_openOn_29 rfl ?_
        refine j_icmp_ne X 35 dX7_openOn_30 (by decide) (fun h6 => ?_) (fun h6 => ?_)
        · rw [if_neg h6] at he
          have ho := ho.2 h6
          exact t_X7_openOn_35 X hr hlocks (b_X7_openOn_2 n) (o_X7_openOn_2 n) ih v1 v2 S _ ho he
        · rw [if_pos h6] at he
          have ho := ho.1 h6
          refine j_iload_n X 2 dX7_openOn_33 rfl ?_
          exact j_iret X hr hlocks dX7_openOn_34 he rfl
def b_X7_openOn_0 (x1 : Int32) (S : Sx) : Int32 := b_X7_openOn_2 100 x1 0 S
def o_X7_openOn_0 (x1 : Int32) (S : Sx) : Prop := o_X7_openOn_2 100 x1 0 S
set_option maxRecDepth 20000 in
theorem t_X7_openOn_0 (X : Cx p m c cX7_openOn 3 s args RX7 D q ad) (hr : meth.sig.returnType = some .int) (hlocks : meth.locks = false) (x1 : Int32) (S : Sx) (rv : Int32) (ho : o_X7_openOn_0 x1 S) (he : b_X7_openOn_0 x1 S = rv) : Jg p l e rm_X7_openOn s m args below meth c 0 0 (MQ below (Qi D q ad d rv S s.heap.size) args s 0 0 (AU ad s.heap.size)) D q ad d 3 0 [(0, .ref (ad 5)), (1, .int x1)] [] S := by
  unfold b_X7_openOn_0 at he
  unfold o_X7_openOn_0 at ho
  refine j_iconst (v := 0) X dX7_openOn_0 (by decide) ?_
  refine j_istore_n X [(2, .int 0), (0, .ref (ad 5)), (1, .int x1)] dX7_openOn_1 (by decide) rfl ?_
  refine j_lv [1, 2, 0] [(0, .ref (ad 5)), (1, .int x1), (2, .int 0)] rfl ?_
  exact t_X7_openOn_2 X hr hlocks 100 x1 0 S _ ho he
theorem c_X7_openOn {l : Launch} {D : va_G} {q : Nat → ClassId} {ad : Nat → Nat} {d : UInt64} (hI : inj4 ad) (x1 : Int32) (S : Sx) (ho : o_X7_openOn_0 x1 S) : CI l yX7_openOn cX7_openOn 3 .int rm_X7_openOn D q ad d [.ref (ad 5), .int x1] S (b_X7_openOn_0 x1 S) S := ci_of hI (by decide +kernel) (Nat.le_of_ble_eq_true rfl) rfl (fun p e s m args below meth c X hr hlocks => t_X7_openOn_0 X hr hlocks x1 S _ ho rfl)
end
/-! RX7.cover -/
abbrev rm_X7_cover : Room := { frames := 2, cells := 0, slots := 0, locals := 46 }
section
variable {p : Program} {l : Launch} {e : Env} {s : State} {m : MethodId} {args : Array Value} {below : List Frame} {meth : Method} {c : Code} {D : va_G} {q : Nat → ClassId} {ad : Nat → Nat} {d : UInt64}
def b_X7_cover_66 (v1 : Int32) (w0 : Int32) (w1 : Int32) (w2 : Int32) (S : Sx) : Int32 × Sx := (b_X7_of_0 v1 0 (b_X7_lays_0 w2 w1 w0 S), b_X7_lays_0 w2 w1 w0 S)
def o_X7_cover_66 (v1 : Int32) (w0 : Int32) (w1 : Int32) (w2 : Int32) (S : Sx) : Prop := o_X7_lays_0 w2 w1 w0 S ∧ (o_X7_of_0 v1 0 (b_X7_lays_0 w2 w1 w0 S) ∧ True)
set_option maxRecDepth 20000 in
theorem t_X7_cover_66 (X : Cx p m c cX7_cover 3 s args RX7 D q ad) (hr : meth.sig.returnType = some .int) (hlocks : meth.locks = false) (v1 : Int32) (w0 : Int32) (w1 : Int32) (w2 : Int32) (S : Sx) (rv : Int32) (S' : Sx) (ho : o_X7_cover_66 v1 w0 w1 w2 S) (he : b_X7_cover_66 v1 w0 w1 w2 S = (rv, S')) : Jg p l e rm_X7_cover s m args below meth c 0 0 (MQ below (Qi D q ad d rv S' s.heap.size) args s 0 0 (AU ad s.heap.size)) D q ad d 3 66 [(0, .ref (ad 5)), (1, .int v1)] [.int w0, .int w1, .int w2, .ref (ad 5)] S := by
  unfold b_X7_cover_66 at he
  unfold o_X7_cover_66 at ho
  have h2 := ho.1
  have ho := ho.2
  refine j_callVv (rest := []) X (c_X7_lays (cx_inj X) w2 w1 w0 S h2) cw_X7_81 kc25.1 (cl_25 kc25) rfl ⟨rfl, rfl, Nat.le_of_ble_eq_true rfl, Nat.le_of_ble_eq_true rfl⟩ rfl rfl (Nat.le_of_ble_eq_true rfl) ⟨Nat.le_of_ble_eq_true rfl, Nat.le_of_ble_eq_true rfl⟩ dX7_cover_66 ?_
  refine j_aload_n X 0 dX7_cover_69 rfl ?_
  refine j_iload_n X 1 dX7_cover_70 rfl ?_
  refine j_iconst (v := 0) X dX7_cover_71 (by decide) ?_
  have h3 := ho.1
  have ho := ho.2
  refine j_callVi (rest := []) X (c_X7_of (cx_inj X) v1 0 (b_X7_lays_0 w2 w1 w0 S) h3) cw_X7_98 kc25.1 (cl_25 kc25) rfl ⟨rfl, rfl, Nat.le_of_ble_eq_true rfl, Nat.le_of_ble_eq_true rfl⟩ rfl rfl (Nat.le_of_ble_eq_true rfl) ⟨Nat.le_of_ble_eq_true rfl, Nat.le_of_ble_eq_true rfl⟩ dX7_cover_72 ?_
  exact j_iret X hr hlocks dX7_cover_75 (congrArg Prod.fst he) (congrArg Prod.snd he)
def b_X7_cover_46 (v1 : Int32) (v2 : Int32) (S : Sx) : Int32 × Sx := if v2 = 0 then b_X7_cover_66 v1 0 3 v1 (b_X7_keeps_0 6 S) else b_X7_cover_66 v1 1 3 v1 (b_X7_keeps_0 6 S)
def o_X7_cover_46 (v1 : Int32) (v2 : Int32) (S : Sx) : Prop := o_X7_keeps_0 6 S ∧ ((v2 = 0 → (o_X7_cover_66 v1 0 3 v1 (b_X7_keeps_0 6 S))) ∧ (¬ v2 = 0 → (o_X7_cover_66 v1 1 3 v1 (b_X7_keeps_0 6 S))))
set_option maxRecDepth 20000 in
theorem t_X7_cover_46 (X : Cx p m c cX7_cover 3 s args RX7 D q ad) (hr : meth.sig.returnType = some .int) (hlocks : meth.locks = false) (v1 : Int32) (v2 : Int32) (S : Sx) (rv : Int32) (S' : Sx) (ho : o_X7_cover_46 v1 v2 S) (he : b_X7_cover_46 v1 v2 S = (rv, S')) : Jg p l e rm_X7_cover s m args below meth c 0 0 (MQ below (Qi D q ad d rv S' s.heap.size) args s 0 0 (AU ad s.heap.size)) D q ad d 3 46 [(0, .ref (ad 5)), (1, .int v1), (2, .int v2)] [] S := by
  unfold b_X7_cover_46 at he
  unfold o_X7_cover_46 at ho
  refine j_aload_n X 0 dX7_cover_46 rfl ?_
  refine j_aload_n X 0 dX7_cover_47 rfl ?_
  refine gf_25_0 X m_fl_X7_7 kc25 dX7_cover_48 ?_
  have h2 := ho.1
  have ho := ho.2
  refine j_callVv (rest := []) X (c_X7_keeps (cx_inj X) 6 (isA_of26 kc26) S h2) cw_X7_62 kc25.1 (cl_25 kc25) rfl ⟨rfl, rfl, Nat.le_of_ble_eq_true rfl, Nat.le_of_ble_eq_true rfl⟩ rfl rfl (Nat.le_of_ble_eq_true rfl) ⟨Nat.le_of_ble_eq_true rfl, Nat.le_of_ble_eq_true rfl⟩ dX7_cover_51 ?_
  refine j_aload_n X 0 dX7_cover_54 rfl ?_
  refine j_iload_n X 1 dX7_cover_55 rfl ?_
  refine j_iconst (v := 3) X dX7_cover_56 (by decide) ?_
  refine j_iload_n X 2 dX7_cover_57 rfl ?_
  refine j_if_eq X 65 dX7_cover_58 (by decide) (fun h3 => ?_) (fun h3 => ?_)
  · rw [if_pos h3] at he
    have ho := ho.1 h3
    refine j_iconst (v := 0) X dX7_cover_65 (by decide) ?_
    refine j_lv [0, 1] [(0, .ref (ad 5)), (1, .int v1)] rfl ?_
    exact t_X7_cover_66 X hr hlocks v1 0 3 v1 (b_X7_keeps_0 6 S) _ _ ho he
  · rw [if_neg h3] at he
    have ho := ho.2 h3
    refine j_iconst (v := 1) X dX7_cover_61 (by decide) ?_
    refine j_goto X 66 dX7_cover_62 (by decide) ?_
    refine j_lv [0, 1] [(0, .ref (ad 5)), (1, .int v1)] rfl ?_
    exact t_X7_cover_66 X hr hlocks v1 1 3 v1 (b_X7_keeps_0 6 S) _ _ ho he
def b_X7_cover_14 (v1 : Int32) (v2 : Int32) (w0 : Int32) (S : Sx) : Int32 × Sx := if ((b_X7_fails_0 w0 S).1) = 0 then if v2 = 0 then b_X7_cover_46 v1 v2 ((b_X7_fails_0 w0 S).2) else if (b_X7_rollerOf_0 v1 ((b_X7_fails_0 w0 S).2)) < 0 then b_X7_cover_46 v1 v2 ((b_X7_fails_0 w0 S).2) else ((b_X7_refuses_0 2 4 (b_X7_rollerOf_0 v1 ((b_X7_fails_0 w0 S).2)) ((b_X7_fails_0 w0 S).2)).1, (b_X7_refuses_0 2 4 (b_X7_rollerOf_0 v1 ((b_X7_fails_0 w0 S).2)) ((b_X7_fails_0 w0 S).2)).2) else (0, (b_X7_fails_0 w0 S).2)
def o_X7_cover_14 (v1 : Int32) (v2 : Int32) (w0 : Int32) (S : Sx) : Prop := o_X7_fails_0 w0 S ∧ ((((b_X7_fails_0 w0 S).1) = 0 → ((v2 = 0 → (o_X7_cover_46 v1 v2 ((b_X7_fails_0 w0 S).2))) ∧ (¬ v2 = 0 → (o_X7_rollerOf_0 v1 ((b_X7_fails_0 w0 S).2) ∧ (((b_X7_rollerOf_0 v1 ((b_X7_fails_0 w0 S).2)) < 0 → (o_X7_cover_46 v1 v2 ((b_X7_fails_0 w0 S).2))) ∧ (¬ (b_X7_rollerOf_0 v1 ((b_X7_fails_0 w0 S).2)) < 0 → (o_X7_rollerOf_0 v1 ((b_X7_fails_0 w0 S).2) ∧ True))))))) ∧ (¬ ((b_X7_fails_0 w0 S).1) = 0 → True))
set_option maxRecDepth 20000 in
theorem t_X7_cover_14 (X : Cx p m c cX7_cover 3 s args RX7 D q ad) (hr : meth.sig.returnType = some .int) (hlocks : meth.locks = false) (v1 : Int32) (v2 : Int32) (w0 : Int32) (S : Sx) (rv : Int32) (S' : Sx) (ho : o_X7_cover_14 v1 v2 w0 S) (he : b_X7_cover_14 v1 v2 w0 S = (rv, S')) : Jg p l e rm_X7_cover s m args below meth c 0 0 (MQ below (Qi D q ad d rv S' s.heap.size) args s 0 0 (AU ad s.heap.size)) D q ad d 3 14 [(0, .ref (ad 5)), (1, .int v1), (2, .int v2)] [.int w0, .ref (ad 5)] S := by
  unfold b_X7_cover_14 at he
  unfold o_X7_cover_14 at ho
  have h2 := ho.1
  have ho := ho.2
  refine j_callVi (rest := []) X (c_X7_fails (cx_inj X) w0 S h2) cw_X7_70 kc25.1 (cl_25 kc25) rfl ⟨rfl, rfl, Nat.le_of_ble_eq_true rfl, Nat.le_of_ble_eq_true rfl⟩ rfl rfl (Nat.le_of_ble_eq_true rfl) ⟨Nat.le_of_ble_eq_true rfl, Nat.le_of_ble_eq_true rfl⟩ dX7_cover_14 ?_
  refine j_if_eq X 22 dX7_cover_17 (by decide) (fun h3 => ?_) (fun h3 => ?_)
  · rw [if_pos h3] at he
    have ho := ho.1 h3
    refine j_iload_n X 2 dX7_cover_22 rfl ?_
    refine j_if_eq X 46 dX7_cover_23 (by decide) (fun h4 => ?_) (fun h4 => ?_)
    · rw [if_pos h4] at he
      have ho := ho.1 h4
      exact t_X7_cover_46 X hr hlocks v1 v2 ((b_X7_fails_0 w0 S).2) _ _ ho he
    · rw [if_neg h4] at he
      have ho := ho.2 h4
      refine j_aload_n X 0 dX7_cover_26 rfl ?_
      refine j_iload_n X 1 dX7_cover_27 rfl ?_
      have h5 := ho.1
      have ho := ho.2
      refine j_callVi (rest := []) X (c_X7_rollerOf (cx_inj X) v1 ((b_X7_fails_0 w0 S).2) h5) cw_X7_94 kc25.1 (cl_25 kc25) rfl ⟨rfl, rfl, Nat.le_of_ble_eq_true rfl, Nat.le_of_ble_eq_true rfl⟩ rfl rfl (Nat.le_of_ble_eq_true rfl) ⟨Nat.le_of_ble_eq_true rfl, Nat.le_of_ble_eq_true rfl⟩ dX7_cover_28 ?_
      refine j_if_lt X 46 dX7_cover_31 (by decide) (fun h6 => ?_) (fun h6 => ?_)
      · rw [if_pos h6] at he
        have ho := ho.1 h6
        exact t_X7_cover_46 X hr hlocks v1 v2 ((b_X7_fails_0 w0 S).2) _ _ ho he
      · rw [if_neg h6] at he
        have ho := ho.2 h6
        refine j_aload_n X 0 dX7_cover_34 rfl ?_
        refine j_iconst (v := 2) X dX7_cover_35 (by decide) ?_
        refine j_iconst (v := 4) X dX7_cover_36 (by decide) ?_
        refine j_aload_n X 0 dX7_cover_37 rfl ?_
        refine j_iload_n X 1 dX7_cover_38 rfl ?_
        have h7 := ho.1
        have ho := ho.2
        refine j_callVi (rest := [.int 4, .int 2, .ref (ad 5)]) X (c_X7_rollerOf (cx_inj X) v1 ((b_X7_fails_0 w0 S).2) h7) cw_X7_94 kc25.1 (cl_25 kc25) rfl ⟨rfl, rfl, Nat.le_of_ble_eq_true rfl, Nat.le_of_ble_eq_true rfl⟩ rfl rfl (Nat.le_of_ble_eq_true rfl) ⟨Nat.le_of_ble_eq_true rfl, Nat.le_of_ble_eq_true rfl⟩ dX7_cover_39 ?_
        refine j_callVi (rest := []) X (c_X7_refuses (cx_inj X) 2 4 (b_X7_rollerOf_0 v1 ((b_X7_fails_0 w0 S).2)) ((b_X7_fails_0 w0 S).2)) cw_X7_77 kc25.1 (cl_25 kc25) rfl ⟨rfl, rfl, Nat.le_of_ble_eq_true rfl, Nat.le_of_ble_eq_true rfl⟩ rfl rfl (Nat.le_of_ble_eq_true rfl) ⟨Nat.le_of_ble_eq_true rfl, Nat.le_of_ble_eq_true rfl⟩ dX7_cover_42 ?_
        exact j_iret X hr hlocks dX7_cover_45 (congrArg Prod.fst he) (congrArg Prod.snd he)
  · rw [if_neg h3] at he
    have ho := ho.2 h3
    refine j_iconst (v := 0) X dX7_cover_20 (by decide) ?_
    exact j_iret X hr hlocks dX7_cover_21 (congrArg Prod.fst he) (congrArg Prod.snd he)
def b_X7_cover_0 (x1 : Int32) (x2 : Int32) (S : Sx) : Int32 × Sx := if (b_X7_isPitch_0 x1 S) = 0 then b_X7_cover_14 x1 x2 1 S else b_X7_cover_14 x1 x2 0 S
def o_X7_cover_0 (x1 : Int32) (x2 : Int32) (S : Sx) : Prop := o_X7_isPitch_0 x1 S ∧ (((b_X7_isPitch_0 x1 S) = 0 → (o_X7_cover_14 x1 x2 1 S)) ∧ (¬ (b_X7_isPitch_0 x1 S) = 0 → (o_X7_cover_14 x1 x2 0 S)))
set_option maxRecDepth 20000 in
theorem t_X7_cover_0 (X : Cx p m c cX7_cover 3 s args RX7 D q ad) (hr : meth.sig.returnType = some .int) (hlocks : meth.locks = false) (x1 : Int32) (x2 : Int32) (S : Sx) (rv : Int32) (S' : Sx) (ho : o_X7_cover_0 x1 x2 S) (he : b_X7_cover_0 x1 x2 S = (rv, S')) : Jg p l e rm_X7_cover s m args below meth c 0 0 (MQ below (Qi D q ad d rv S' s.heap.size) args s 0 0 (AU ad s.heap.size)) D q ad d 3 0 [(0, .ref (ad 5)), (1, .int x1), (2, .int x2)] [] S := by
  unfold b_X7_cover_0 at he
  unfold o_X7_cover_0 at ho
  refine j_aload_n X 0 dX7_cover_0 rfl ?_
  refine j_aload_n X 0 dX7_cover_1 rfl ?_
  refine j_iload_n X 1 dX7_cover_2 rfl ?_
  have h2 := ho.1
  have ho := ho.2
  refine j_callVi (rest := [.ref (ad 5)]) X (c_X7_isPitch (cx_inj X) x1 S h2) cw_X7_91 kc25.1 (cl_25 kc25) rfl ⟨rfl, rfl, Nat.le_of_ble_eq_true rfl, Nat.le_of_ble_eq_true rfl⟩ rfl rfl (Nat.le_of_ble_eq_true rfl) ⟨Nat.le_of_ble_eq_true rfl, Nat.le_of_ble_eq_true rfl⟩ dX7_cover_3 ?_
  refine j_if_eq X 13 dX7_cover_6 (by decide) (fun h3 => ?_) (fun h3 => ?_)
  · rw [if_pos h3] at he
    have ho := ho.1 h3
    refine j_iconst (v := 1) X dX7_cover_13 (by decide) ?_
    exact t_X7_cover_14 X hr hlocks x1 x2 1 S _ _ ho he
  · rw [if_neg h3] at he
    have ho := ho.2 h3
    refine j_iconst (v := 0) X dX7_cover_9 (by decide) ?_
    refine j_goto X 14 dX7_cover_10 (by decide) ?_
    exact t_X7_cover_14 X hr hlocks x1 x2 0 S _ _ ho he
theorem c_X7_cover {l : Launch} {D : va_G} {q : Nat → ClassId} {ad : Nat → Nat} {d : UInt64} (hI : inj4 ad) (x1 : Int32) (x2 : Int32) (S : Sx) (ho : o_X7_cover_0 x1 x2 S) : CI l yX7_cover cX7_cover 3 .int rm_X7_cover D q ad d [.ref (ad 5), .int x1, .int x2] S (b_X7_cover_0 x1 x2 S).1 (b_X7_cover_0 x1 x2 S).2 := ci_of hI (by decide +kernel) (Nat.le_of_ble_eq_true rfl) rfl (fun p e s m args below meth c X hr hlocks => t_X7_cover_0 X hr hlocks x1 x2 S _ _ ho (pe _))
end
/-! RX7.pitchOf -/
abbrev rm_X7_pitchOf : Room := { frames := 2, cells := 0, slots := 0, locals := 44 }
section
variable {p : Program} {l : Launch} {e : Env} {s : State} {m : MethodId} {args : Array Value} {below : List Frame} {meth : Method} {c : Code} {D : va_G} {q : Nat → ClassId} {ad : Nat → Nat} {d : UInt64}
def b_X7_pitchOf_82 (w0 : Int32) (S : Sx) : Int32 × Sx := (w0, S)
set_option maxRecDepth 20000 in
theorem t_X7_pitchOf_82 (X : Cx p m c cX7_pitchOf 3 s args RX7 D q ad) (hr : meth.sig.returnType = some .int) (hlocks : meth.locks = false) (w0 : Int32) (S : Sx) (rv : Int32) (S' : Sx) (he : b_X7_pitchOf_82 w0 S = (rv, S')) : Jg p l e rm_X7_pitchOf s m args below meth c 0 0 (MQ below (Qi D q ad d rv S' s.heap.size) args s 0 0 (AU ad s.heap.size)) D q ad d 3 82 [] [.int w0] S := by
  unfold b_X7_pitchOf_82 at he
  exact j_iret X hr hlocks dX7_pitchOf_82 (congrArg Prod.fst he) (congrArg Prod.snd he)
def b_X7_pitchOf_28 (v1 : Int32) (v2 : Int32) (w0 : Int32) (S : Sx) : Int32 × Sx := if ((b_X7_fails_0 w0 S).1) = 0 then if 4 ≤ v2 then if v2 = 4 then b_X7_pitchOf_82 (b_X7_rollerOf_0 v1 ((b_X7_fails_0 w0 S).2)) ((b_X7_fails_0 w0 S).2) else if v2 = 5 then b_X7_pitchOf_82 (b_X7_openOn_0 v1 ((b_X7_fails_0 w0 S).2)) ((b_X7_fails_0 w0 S).2) else b_X7_pitchOf_82 (b_X7_of_0 v1 4 ((b_X7_fails_0 w0 S).2)) ((b_X7_fails_0 w0 S).2) else b_X7_pitchOf_82 (b_X7_of_0 v1 v2 ((b_X7_fails_0 w0 S).2)) ((b_X7_fails_0 w0 S).2) else (0, (b_X7_fails_0 w0 S).2)
def o_X7_pitchOf_28 (v1 : Int32) (v2 : Int32) (w0 : Int32) (S : Sx) : Prop := o_X7_fails_0 w0 S ∧ ((((b_X7_fails_0 w0 S).1) = 0 → ((4 ≤ v2 → ((v2 = 4 → (o_X7_rollerOf_0 v1 ((b_X7_fails_0 w0 S).2) ∧ True)) ∧ (¬ v2 = 4 → ((v2 = 5 → (o_X7_openOn_0 v1 ((b_X7_fails_0 w0 S).2) ∧ True)) ∧ (¬ v2 = 5 → (o_X7_of_0 v1 4 ((b_X7_fails_0 w0 S).2) ∧ True)))))) ∧ (¬ 4 ≤ v2 → (o_X7_of_0 v1 v2 ((b_X7_fails_0 w0 S).2) ∧ True)))) ∧ (¬ ((b_X7_fails_0 w0 S).1) = 0 → True))
set_option maxRecDepth 20000 in
theorem t_X7_pitchOf_28 (X : Cx p m c cX7_pitchOf 3 s args RX7 D q ad) (hr : meth.sig.returnType = some .int) (hlocks : meth.locks = false) (v1 : Int32) (v2 : Int32) (w0 : Int32) (S : Sx) (rv : Int32) (S' : Sx) (ho : o_X7_pitchOf_28 v1 v2 w0 S) (he : b_X7_pitchOf_28 v1 v2 w0 S = (rv, S')) : Jg p l e rm_X7_pitchOf s m args below meth c 0 0 (MQ below (Qi D q ad d rv S' s.heap.size) args s 0 0 (AU ad s.heap.size)) D q ad d 3 28 [(0, .ref (ad 5)), (1, .int v1), (2, .int v2)] [.int w0, .ref (ad 5)] S := by
  unfold b_X7_pitchOf_28 at he
  unfold o_X7_pitchOf_28 at ho
  have h2 := ho.1
  have ho := ho.2
  refine j_callVi (rest := []) X (c_X7_fails (cx_inj X) w0 S h2) cw_X7_70 kc25.1 (cl_25 kc25) rfl ⟨rfl, rfl, Nat.le_of_ble_eq_true rfl, Nat.le_of_ble_eq_true rfl⟩ rfl rfl (Nat.le_of_ble_eq_true rfl) ⟨Nat.le_of_ble_eq_true rfl, Nat.le_of_ble_eq_true rfl⟩ dX7_pitchOf_28 ?_
  refine j_if_eq X 36 dX7_pitchOf_31 (by decide) (fun h3 => ?_) (fun h3 => ?_)
  · rw [if_pos h3] at he
    have ho := ho.1 h3
    refine j_iload_n X 2 dX7_pitchOf_36 rfl ?_
    refine j_iconst (v := 4) X dX7_pitchOf_37 (by decide) ?_
    refine j_icmp_ge X 50 dX7_pitchOf_38 (by decide) (fun h4 => ?_) (fun h4 => ?_)
    · rw [if_pos h4] at he
      have ho := ho.1 h4
      refine j_iload_n X 2 dX7_pitchOf_50 rfl ?_
      refine j_iconst (v := 4) X dX7_pitchOf_51 (by decide) ?_
      refine j_icmp_ne X 63 dX7_pitchOf_52 (by decide) (fun h5 => ?_) (fun h5 => ?_)
      · rw [if_neg h5] at he
        have ho := ho.2 h5
        refine j_iload_n X 2 dX7_pitchOf_63 rfl ?_
        refine j_iconst (v := 5) X dX7_pitchOf_64 (by decide) ?_
        refine j_icmp_ne X 76 dX7_pitchOf_65 (by decide) (fun h6 => ?_) (fun h6 => ?_)
        · rw [if_neg h6] at he
          have ho := ho.2 h6
          refine j_aload_n X 0 dX7_pitchOf_76 rfl ?_
          refine j_iload_n X 1 dX7_pitchOf_77 rfl ?_
          refine j_iconst (v := 4) X dX7_pitchOf_78 (by decide) ?_
          have h7 := ho.1
          have ho := ho.2
          refine j_callVi (rest := []) X (c_X7_of (cx_inj X) v1 4 ((b_X7_fails_0 w0 S).2) h7) cw_X7_98 kc25.1 (cl_25 kc25) rfl ⟨rfl, rfl, Nat.le_of_ble_eq_true rfl, Nat.le_of_ble_eq_true rfl⟩ rfl rfl (Nat.le_of_ble_eq_true rfl) ⟨Nat.le_of_ble_eq_true rfl, Nat.le_of_ble_eq_true rfl⟩ dX7_pitchOf_79 ?_
          refine j_lv [] [] rfl ?_
          exact t_X7_pitchOf_82 X hr hlocks (b_X7_of_0 v1 4 ((b_X7_fails_0 w0 S).2)) ((b_X7_fails_0 w0 S).2) _ _ he
        · rw [if_pos h6] at he
          have ho := ho.1 h6
          refine j_aload_n X 0 dX7_pitchOf_68 rfl ?_
          refine j_iload_n X 1 dX7_pitchOf_69 rfl ?_
          have h8 := ho.1
          have ho := ho.2
          refine j_callVi (rest := []) X (c_X7_openOn (cx_inj X) v1 ((b_X7_fails_0 w0 S).2) h8) cw_X7_101 kc25.1 (cl_25 kc25) rfl ⟨rfl, rfl, Nat.le_of_ble_eq_true rfl, Nat.le_of_ble_eq_true rfl⟩ rfl rfl (Nat.le_of_ble_eq_true rfl) ⟨Nat.le_of_ble_eq_true rfl, Nat.le_of_ble_eq_true rfl⟩ dX7_pitchOf_70 ?_
          refine j_goto X 82 dX7_pitchOf_73 (by decide) ?_
          refine j_lv [] [] rfl ?_
          exact t_X7_pitchOf_82 X hr hlocks (b_X7_openOn_0 v1 ((b_X7_fails_0 w0 S).2)) ((b_X7_fails_0 w0 S).2) _ _ he
      · rw [if_pos h5] at he
        have ho := ho.1 h5
        refine j_aload_n X 0 dX7_pitchOf_55 rfl ?_
        refine j_iload_n X 1 dX7_pitchOf_56 rfl ?_
        have h9 := ho.1
        have ho := ho.2
        refine j_callVi (rest := []) X (c_X7_rollerOf (cx_inj X) v1 ((b_X7_fails_0 w0 S).2) h9) cw_X7_94 kc25.1 (cl_25 kc25) rfl ⟨rfl, rfl, Nat.le_of_ble_eq_true rfl, Nat.le_of_ble_eq_true rfl⟩ rfl rfl (Nat.le_of_ble_eq_true rfl) ⟨Nat.le_of_ble_eq_true rfl, Nat.le_of_ble_eq_true rfl⟩ dX7_pitchOf_57 ?_
        refine j_goto X 82 dX7_pitchOf_60 (by decide) ?_
        refine j_lv [] [] rfl ?_
        exact t_X7_pitchOf_82 X hr hlocks (b_X7_rollerOf_0 v1 ((b_X7_fails_0 w0 S).2)) ((b_X7_fails_0 w0 S).2) _ _ he
    · rw [if_neg h4] at he
      have ho := ho.2 h4
      refine j_aload_n X 0 dX7_pitchOf_41 rfl ?_
      refine j_iload_n X 1 dX7_pitchOf_42 rfl ?_
      refine j_iload_n X 2 dX7_pitchOf_43 rfl ?_
      have h10 := ho.1
      have ho := ho.2
      refine j_callVi (rest := []) X (c_X7_of (cx_inj X) v1 v2 ((b_X7_fails_0 w0 S).2) h10) cw_X7_98 kc25.1 (cl_25 kc25) rfl ⟨rfl, rfl, Nat.le_of_ble_eq_true rfl, Nat.le_of_ble_eq_true rfl⟩ rfl rfl (Nat.le_of_ble_eq_true rfl) ⟨Nat.le_of_ble_eq_true rfl, Nat.le_of_ble_eq_true rfl⟩ dX7_pitchOf_44 ?_
      refine j_goto X 82 dX7_pitchOf_47 (by decide) ?_
      refine j_lv [] [] rfl ?_
      exact t_X7_pitchOf_82 X hr hlocks (b_X7_of_0 v1 v2 ((b_X7_fails_0 w0 S).2)) ((b_X7_fails_0 w0 S).2) _ _ he
  · rw [if_neg h3] at he
    have ho := ho.2 h3
    refine j_iconst (v := 0) X dX7_pitchOf_34 (by decide) ?_
    exact j_iret X hr hlocks dX7_pitchOf_35 (congrArg Prod.fst he) (congrArg Prod.snd he)
def b_X7_pitchOf_0 (x1 : Int32) (x2 : Int32) (S : Sx) : Int32 × Sx := if (b_X7_isPitch_0 x1 S) = 0 then b_X7_pitchOf_28 x1 x2 1 S else if (b_X7_in_0 x2 0 6 S) = 0 then b_X7_pitchOf_28 x1 x2 2 S else b_X7_pitchOf_28 x1 x2 0 S
def o_X7_pitchOf_0 (x1 : Int32) (x2 : Int32) (S : Sx) : Prop := o_X7_isPitch_0 x1 S ∧ (((b_X7_isPitch_0 x1 S) = 0 → (o_X7_pitchOf_28 x1 x2 1 S)) ∧ (¬ (b_X7_isPitch_0 x1 S) = 0 → (o_X7_in_0 x2 0 6 S ∧ (((b_X7_in_0 x2 0 6 S) = 0 → (o_X7_pitchOf_28 x1 x2 2 S)) ∧ (¬ (b_X7_in_0 x2 0 6 S) = 0 → (o_X7_pitchOf_28 x1 x2 0 S))))))
set_option maxRecDepth 20000 in
theorem t_X7_pitchOf_0 (X : Cx p m c cX7_pitchOf 3 s args RX7 D q ad) (hr : meth.sig.returnType = some .int) (hlocks : meth.locks = false) (x1 : Int32) (x2 : Int32) (S : Sx) (rv : Int32) (S' : Sx) (ho : o_X7_pitchOf_0 x1 x2 S) (he : b_X7_pitchOf_0 x1 x2 S = (rv, S')) : Jg p l e rm_X7_pitchOf s m args below meth c 0 0 (MQ below (Qi D q ad d rv S' s.heap.size) args s 0 0 (AU ad s.heap.size)) D q ad d 3 0 [(0, .ref (ad 5)), (1, .int x1), (2, .int x2)] [] S := by
  unfold b_X7_pitchOf_0 at he
  unfold o_X7_pitchOf_0 at ho
  refine j_aload_n X 0 dX7_pitchOf_0 rfl ?_
  refine j_aload_n X 0 dX7_pitchOf_1 rfl ?_
  refine j_iload_n X 1 dX7_pitchOf_2 rfl ?_
  have h2 := ho.1
  have ho := ho.2
  refine j_callVi (rest := [.ref (ad 5)]) X (c_X7_isPitch (cx_inj X) x1 S h2) cw_X7_91 kc25.1 (cl_25 kc25) rfl ⟨rfl, rfl, Nat.le_of_ble_eq_true rfl, Nat.le_of_ble_eq_true rfl⟩ rfl rfl (Nat.le_of_ble_eq_true rfl) ⟨Nat.le_of_ble_eq_true rfl, Nat.le_of_ble_eq_true rfl⟩ dX7_pitchOf_3 ?_
  refine j_if_ne X 13 dX7_pitchOf_6 (by decide) (fun h3 => ?_) (fun h3 => ?_)
  · rw [if_neg h3] at he
    have ho := ho.2 h3
    refine j_iload_n X 2 dX7_pitchOf_13 rfl ?_
    refine j_iconst (v := 0) X dX7_pitchOf_14 (by decide) ?_
    refine j_bipush (v := 6) X dX7_pitchOf_15 (by decide) ?_
    have h4 := ho.1
    have ho := ho.2
    refine j_callSi (rest := [.ref (ad 5)]) X (c_X7_in (cx_inj X) x2 0 6 S h4) cw_X7_58 ⟨rfl, rfl, Nat.le_of_ble_eq_true rfl, Nat.le_of_ble_eq_true rfl⟩ rfl rfl (Nat.le_of_ble_eq_true rfl) ⟨Nat.le_of_ble_eq_true rfl, Nat.le_of_ble_eq_true rfl⟩ dX7_pitchOf_17 ?_
    refine j_if_eq X 27 dX7_pitchOf_20 (by decide) (fun h5 => ?_) (fun h5 => ?_)
    · rw [if_pos h5] at he
      have ho := ho.1 h5
      refine j_iconst (v := 2) X dX7_pitchOf_27 (by decide) ?_
      exact t_X7_pitchOf_28 X hr hlocks x1 x2 2 S _ _ ho he
    · rw [if_neg h5] at he
      have ho := ho.2 h5
      refine j_iconst (v := 0) X dX7_pitchOf_23 (by decide) ?_
      refine j_goto X 28 dX7_pitchOf_24 (by decide) ?_
      exact t_X7_pitchOf_28 X hr hlocks x1 x2 0 S _ _ ho he
  · rw [if_pos h3] at he
    have ho := ho.1 h3
    refine j_iconst (v := 1) X dX7_pitchOf_9 (by decide) ?_
    refine j_goto X 28 dX7_pitchOf_10 (by decide) ?_
    exact t_X7_pitchOf_28 X hr hlocks x1 x2 1 S _ _ ho he
theorem c_X7_pitchOf {l : Launch} {D : va_G} {q : Nat → ClassId} {ad : Nat → Nat} {d : UInt64} (hI : inj4 ad) (x1 : Int32) (x2 : Int32) (S : Sx) (ho : o_X7_pitchOf_0 x1 x2 S) : CI l yX7_pitchOf cX7_pitchOf 3 .int rm_X7_pitchOf D q ad d [.ref (ad 5), .int x1, .int x2] S (b_X7_pitchOf_0 x1 x2 S).1 (b_X7_pitchOf_0 x1 x2 S).2 := ci_of hI (by decide +kernel) (Nat.le_of_ble_eq_true rfl) rfl (fun p e s m args below meth c X hr hlocks => t_X7_pitchOf_0 X hr hlocks x1 x2 S _ _ ho (pe _))
end
/-! RX7.sign -/
abbrev rm_X7_sign : Room := { frames := 2, cells := 0, slots := 0, locals := 44 }
section
variable {p : Program} {l : Launch} {e : Env} {s : State} {m : MethodId} {args : Array Value} {below : List Frame} {meth : Method} {c : Code} {D : va_G} {q : Nat → ClassId} {ad : Nat → Nat} {d : UInt64}
def b_X7_sign_78 (w0 : Int32) (S : Sx) : Int32 × Sx := (w0, S)
def o_X7_sign_78 (w0 : Int32) (S : Sx) : Prop := cz w0 ∧ True
set_option maxRecDepth 20000 in
theorem t_X7_sign_78 (X : Cx p m c cX7_sign 2 s args RX7 D q ad) (hr : meth.sig.returnType = some .char) (hlocks : meth.locks = false) (w0 : Int32) (S : Sx) (rv : Int32) (S' : Sx) (ho : o_X7_sign_78 w0 S) (he : b_X7_sign_78 w0 S = (rv, S')) : Jg p l e rm_X7_sign s m args below meth c 0 0 (MQ below (Qi D q ad d rv S' s.heap.size) args s 0 0 (AU ad s.heap.size)) D q ad d 2 78 [] [.int w0] S := by
  unfold b_X7_sign_78 at he
  unfold o_X7_sign_78 at ho
  have h2 := ho.1
  have ho := ho.2
  exact j_zret X hr hlocks h2 dX7_sign_78 (congrArg Prod.fst he) (congrArg Prod.snd he)
def b_X7_sign_14 (v1 : Int32) (w0 : Int32) (S : Sx) : Int32 × Sx := if ((b_X7_fails_0 w0 S).1) = 0 then if (b_X7_of_0 v1 3 ((b_X7_fails_0 w0 S).2)) = 1 then (99, (b_X7_fails_0 w0 S).2) else if (b_X7_rollerOf_0 v1 ((b_X7_fails_0 w0 S).2)) < 0 then if (b_X7_openOn_0 v1 ((b_X7_fails_0 w0 S).2)) < 0 then if (b_X7_of_0 v1 0 ((b_X7_fails_0 w0 S).2)) ≤ 60 then b_X7_sign_78 100 ((b_X7_fails_0 w0 S).2) else b_X7_sign_78 119 ((b_X7_fails_0 w0 S).2) else b_X7_sign_78 105 ((b_X7_fails_0 w0 S).2) else (104, (b_X7_fails_0 w0 S).2) else (32, (b_X7_fails_0 w0 S).2)
def o_X7_sign_14 (v1 : Int32) (w0 : Int32) (S : Sx) : Prop := o_X7_fails_0 w0 S ∧ ((((b_X7_fails_0 w0 S).1) = 0 → (o_X7_of_0 v1 3 ((b_X7_fails_0 w0 S).2) ∧ (((b_X7_of_0 v1 3 ((b_X7_fails_0 w0 S).2)) = 1 → True) ∧ (¬ (b_X7_of_0 v1 3 ((b_X7_fails_0 w0 S).2)) = 1 → (o_X7_rollerOf_0 v1 ((b_X7_fails_0 w0 S).2) ∧ (((b_X7_rollerOf_0 v1 ((b_X7_fails_0 w0 S).2)) < 0 → (o_X7_openOn_0 v1 ((b_X7_fails_0 w0 S).2) ∧ (((b_X7_openOn_0 v1 ((b_X7_fails_0 w0 S).2)) < 0 → (o_X7_of_0 v1 0 ((b_X7_fails_0 w0 S).2) ∧ (((b_X7_of_0 v1 0 ((b_X7_fails_0 w0 S).2)) ≤ 60 → (o_X7_sign_78 100 ((b_X7_fails_0 w0 S).2))) ∧ (¬ (b_X7_of_0 v1 0 ((b_X7_fails_0 w0 S).2)) ≤ 60 → (o_X7_sign_78 119 ((b_X7_fails_0 w0 S).2)))))) ∧ (¬ (b_X7_openOn_0 v1 ((b_X7_fails_0 w0 S).2)) < 0 → (o_X7_sign_78 105 ((b_X7_fails_0 w0 S).2)))))) ∧ (¬ (b_X7_rollerOf_0 v1 ((b_X7_fails_0 w0 S).2)) < 0 → True))))))) ∧ (¬ ((b_X7_fails_0 w0 S).1) = 0 → True))
set_option maxRecDepth 20000 in
theorem t_X7_sign_14 (X : Cx p m c cX7_sign 2 s args RX7 D q ad) (hr : meth.sig.returnType = some .char) (hlocks : meth.locks = false) (v1 : Int32) (w0 : Int32) (S : Sx) (rv : Int32) (S' : Sx) (ho : o_X7_sign_14 v1 w0 S) (he : b_X7_sign_14 v1 w0 S = (rv, S')) : Jg p l e rm_X7_sign s m args below meth c 0 0 (MQ below (Qi D q ad d rv S' s.heap.size) args s 0 0 (AU ad s.heap.size)) D q ad d 2 14 [(0, .ref (ad 5)), (1, .int v1)] [.int w0, .ref (ad 5)] S := by
  unfold b_X7_sign_14 at he
  unfold o_X7_sign_14 at ho
  have h2 := ho.1
  have ho := ho.2
  refine j_callVi (rest := []) X (c_X7_fails (cx_inj X) w0 S h2) cw_X7_70 kc25.1 (cl_25 kc25) rfl ⟨rfl, rfl, Nat.le_of_ble_eq_true rfl, Nat.le_of_ble_eq_true rfl⟩ rfl rfl (Nat.le_of_ble_eq_true rfl) ⟨Nat.le_of_ble_eq_true rfl, Nat.le_of_ble_eq_true rfl⟩ dX7_sign_14 ?_
  refine j_if_eq X 23 dX7_sign_17 (by decide) (fun h3 => ?_) (fun h3 => ?_)
  · rw [if_pos h3] at he
    have ho := ho.1 h3
    refine j_aload_n X 0 dX7_sign_23 rfl ?_
    refine j_iload_n X 1 dX7_sign_24 rfl ?_
    refine j_iconst (v := 3) X dX7_sign_25 (by decide) ?_
    have h4 := ho.1
    have ho := ho.2
    refine j_callVi (rest := []) X (c_X7_of (cx_inj X) v1 3 ((b_X7_fails_0 w0 S).2) h4) cw_X7_98 kc25.1 (cl_25 kc25) rfl ⟨rfl, rfl, Nat.le_of_ble_eq_true rfl, Nat.le_of_ble_eq_true rfl⟩ rfl rfl (Nat.le_of_ble_eq_true rfl) ⟨Nat.le_of_ble_eq_true rfl, Nat.le_of_ble_eq_true rfl⟩ dX7_sign_26 ?_
    refine j_iconst (v := 1) X dX7_sign_29 (by decide) ?_
    refine j_icmp_ne X 36 dX7_sign_30 (by decide) (fun h5 => ?_) (fun h5 => ?_)
    · rw [if_neg h5] at he
      have ho := ho.2 h5
      refine j_aload_n X 0 dX7_sign_36 rfl ?_
      refine j_iload_n X 1 dX7_sign_37 rfl ?_
      have h6 := ho.1
      have ho := ho.2
      refine j_callVi (rest := []) X (c_X7_rollerOf (cx_inj X) v1 ((b_X7_fails_0 w0 S).2) h6) cw_X7_94 kc25.1 (cl_25 kc25) rfl ⟨rfl, rfl, Nat.le_of_ble_eq_true rfl, Nat.le_of_ble_eq_true rfl⟩ rfl rfl (Nat.le_of_ble_eq_true rfl) ⟨Nat.le_of_ble_eq_true rfl, Nat.le_of_ble_eq_true rfl⟩ dX7_sign_38 ?_
      refine j_if_lt X 47 dX7_sign_41 (by decide) (fun h7 => ?_) (fun h7 => ?_)
      · rw [if_pos h7] at he
        have ho := ho.1 h7
        refine j_aload_n X 0 dX7_sign_47 rfl ?_
        refine j_iload_n X 1 dX7_sign_48 rfl ?_
        have h8 := ho.1
        have ho := ho.2
        refine j_callVi (rest := []) X (c_X7_openOn (cx_inj X) v1 ((b_X7_fails_0 w0 S).2) h8) cw_X7_101 kc25.1 (cl_25 kc25) rfl ⟨rfl, rfl, Nat.le_of_ble_eq_true rfl, Nat.le_of_ble_eq_true rfl⟩ rfl rfl (Nat.le_of_ble_eq_true rfl) ⟨Nat.le_of_ble_eq_true rfl, Nat.le_of_ble_eq_true rfl⟩ dX7_sign_49 ?_
        refine j_if_lt X 60 dX7_sign_52 (by decide) (fun h9 => ?_) (fun h9 => ?_)
        · rw [if_pos h9] at he
          have ho := ho.1 h9
          refine j_aload_n X 0 dX7_sign_60 rfl ?_
          refine j_iload_n X 1 dX7_sign_61 rfl ?_
          refine j_iconst (v := 0) X dX7_sign_62 (by decide) ?_
          have h10 := ho.1
          have ho := ho.2
          refine j_callVi (rest := []) X (c_X7_of (cx_inj X) v1 0 ((b_X7_fails_0 w0 S).2) h10) cw_X7_98 kc25.1 (cl_25 kc25) rfl ⟨rfl, rfl, Nat.le_of_ble_eq_true rfl, Nat.le_of_ble_eq_true rfl⟩ rfl rfl (Nat.le_of_ble_eq_true rfl) ⟨Nat.le_of_ble_eq_true rfl, Nat.le_of_ble_eq_true rfl⟩ dX7_sign_63 ?_
          refine j_bipush (v := 60) X dX7_sign_66 (by decide) ?_
          refine j_icmp_le X 76 dX7_sign_68 (by decide) (fun h11 => ?_) (fun h11 => ?_)
          · rw [if_pos h11] at he
            have ho := ho.1 h11
            refine j_bipush (v := 100) X dX7_sign_76 (by decide) ?_
            refine j_lv [] [] rfl ?_
            exact t_X7_sign_78 X hr hlocks 100 ((b_X7_fails_0 w0 S).2) _ _ ho he
          · rw [if_neg h11] at he
            have ho := ho.2 h11
            refine j_bipush (v := 119) X dX7_sign_71 (by decide) ?_
            refine j_goto X 78 dX7_sign_73 (by decide) ?_
            refine j_lv [] [] rfl ?_
            exact t_X7_sign_78 X hr hlocks 119 ((b_X7_fails_0 w0 S).2) _ _ ho he
        · rw [if_neg h9] at he
          have ho := ho.2 h9
          refine j_bipush (v := 105) X dX7_sign_55 (by decide) ?_
          refine j_goto X 78 dX7_sign_57 (by decide) ?_
          refine j_lv [] [] rfl ?_
          exact t_X7_sign_78 X hr hlocks 105 ((b_X7_fails_0 w0 S).2) _ _ ho he
      · rw [if_neg h7] at he
        have ho := ho.2 h7
        refine j_bipush (v := 104) X dX7_sign_44 (by decide) ?_
        exact j_zret X hr hlocks rfl dX7_sign_46 (congrArg Prod.fst he) (congrArg Prod.snd he)
    · rw [if_pos h5] at he
      have ho := ho.1 h5
      refine j_bipush (v := 99) X dX7_sign_33 (by decide) ?_
      exact j_zret X hr hlocks rfl dX7_sign_35 (congrArg Prod.fst he) (congrArg Prod.snd he)
  · rw [if_neg h3] at he
    have ho := ho.2 h3
    refine j_bipush (v := 32) X dX7_sign_20 (by decide) ?_
    exact j_zret X hr hlocks rfl dX7_sign_22 (congrArg Prod.fst he) (congrArg Prod.snd he)
def b_X7_sign_0 (x1 : Int32) (S : Sx) : Int32 × Sx := if (b_X7_isPitch_0 x1 S) = 0 then b_X7_sign_14 x1 1 S else b_X7_sign_14 x1 0 S
def o_X7_sign_0 (x1 : Int32) (S : Sx) : Prop := o_X7_isPitch_0 x1 S ∧ (((b_X7_isPitch_0 x1 S) = 0 → (o_X7_sign_14 x1 1 S)) ∧ (¬ (b_X7_isPitch_0 x1 S) = 0 → (o_X7_sign_14 x1 0 S)))
set_option maxRecDepth 20000 in
theorem t_X7_sign_0 (X : Cx p m c cX7_sign 2 s args RX7 D q ad) (hr : meth.sig.returnType = some .char) (hlocks : meth.locks = false) (x1 : Int32) (S : Sx) (rv : Int32) (S' : Sx) (ho : o_X7_sign_0 x1 S) (he : b_X7_sign_0 x1 S = (rv, S')) : Jg p l e rm_X7_sign s m args below meth c 0 0 (MQ below (Qi D q ad d rv S' s.heap.size) args s 0 0 (AU ad s.heap.size)) D q ad d 2 0 [(0, .ref (ad 5)), (1, .int x1)] [] S := by
  unfold b_X7_sign_0 at he
  unfold o_X7_sign_0 at ho
  refine j_aload_n X 0 dX7_sign_0 rfl ?_
  refine j_aload_n X 0 dX7_sign_1 rfl ?_
  refine j_iload_n X 1 dX7_sign_2 rfl ?_
  have h2 := ho.1
  have ho := ho.2
  refine j_callVi (rest := [.ref (ad 5)]) X (c_X7_isPitch (cx_inj X) x1 S h2) cw_X7_91 kc25.1 (cl_25 kc25) rfl ⟨rfl, rfl, Nat.le_of_ble_eq_true rfl, Nat.le_of_ble_eq_true rfl⟩ rfl rfl (Nat.le_of_ble_eq_true rfl) ⟨Nat.le_of_ble_eq_true rfl, Nat.le_of_ble_eq_true rfl⟩ dX7_sign_3 ?_
  refine j_if_eq X 13 dX7_sign_6 (by decide) (fun h3 => ?_) (fun h3 => ?_)
  · rw [if_pos h3] at he
    have ho := ho.1 h3
    refine j_iconst (v := 1) X dX7_sign_13 (by decide) ?_
    exact t_X7_sign_14 X hr hlocks x1 1 S _ _ ho he
  · rw [if_neg h3] at he
    have ho := ho.2 h3
    refine j_iconst (v := 0) X dX7_sign_9 (by decide) ?_
    refine j_goto X 14 dX7_sign_10 (by decide) ?_
    exact t_X7_sign_14 X hr hlocks x1 0 S _ _ ho he
theorem c_X7_sign {l : Launch} {D : va_G} {q : Nat → ClassId} {ad : Nat → Nat} {d : UInt64} (hI : inj4 ad) (x1 : Int32) (S : Sx) (ho : o_X7_sign_0 x1 S) : CI l yX7_sign cX7_sign 2 .char rm_X7_sign D q ad d [.ref (ad 5), .int x1] S (b_X7_sign_0 x1 S).1 (b_X7_sign_0 x1 S).2 := ci_of hI (by decide +kernel) (Nat.le_of_ble_eq_true rfl) rfl (fun p e s m args below meth c X hr hlocks => t_X7_sign_0 X hr hlocks x1 S _ _ ho (pe _))
end
/-! RX7.horse -/
abbrev rm_X7_horse : Room := { frames := 2, cells := 0, slots := 0, locals := 46 }
section
variable {p : Program} {l : Launch} {e : Env} {s : State} {m : MethodId} {args : Array Value} {below : List Frame} {meth : Method} {c : Code} {D : va_G} {q : Nat → ClassId} {ad : Nat → Nat} {d : UInt64}
def b_X7_horse_123 (v3 : Int32) (S : Sx) : Int32 × Sx := (v3, S)
set_option maxRecDepth 20000 in
theorem t_X7_horse_123 (X : Cx p m c cX7_horse 5 s args RX7 D q ad) (hr : meth.sig.returnType = some .int) (hlocks : meth.locks = false) (v3 : Int32) (S : Sx) (rv : Int32) (S' : Sx) (he : b_X7_horse_123 v3 S = (rv, S')) : Jg p l e rm_X7_horse s m args below meth c 0 0 (MQ below (Qi D q ad d rv S' s.heap.size) args s 0 0 (AU ad s.heap.size)) D q ad d 5 123 [(3, .int v3)] [] S := by
  unfold b_X7_horse_123 at he
  refine j_iload_n X 0 dX7_horse_123 rfl ?_
  exact j_iret X hr hlocks dX7_horse_124 (congrArg Prod.fst he) (congrArg Prod.snd he)
def b_X7_horse_113 (v3 : Int32) (w0 : Int32) (w1 : Int32) (w2 : Int32) (S : Sx) : Int32 × Sx := b_X7_horse_123 v3 (b_X7_laysHorse_0 v3 4 (-1) (b_X7_laysHorse_0 w2 w1 w0 S))
def o_X7_horse_113 (v3 : Int32) (w0 : Int32) (w1 : Int32) (w2 : Int32) (S : Sx) : Prop := o_X7_laysHorse_0 w2 w1 w0 S ∧ (o_X7_laysHorse_0 v3 4 (-1) (b_X7_laysHorse_0 w2 w1 w0 S) ∧ True)
set_option maxRecDepth 20000 in
theorem t_X7_horse_113 (X : Cx p m c cX7_horse 5 s args RX7 D q ad) (hr : meth.sig.returnType = some .int) (hlocks : meth.locks = false) (v3 : Int32) (w0 : Int32) (w1 : Int32) (w2 : Int32) (S : Sx) (rv : Int32) (S' : Sx) (ho : o_X7_horse_113 v3 w0 w1 w2 S) (he : b_X7_horse_113 v3 w0 w1 w2 S = (rv, S')) : Jg p l e rm_X7_horse s m args below meth c 0 0 (MQ below (Qi D q ad d rv S' s.heap.size) args s 0 0 (AU ad s.heap.size)) D q ad d 5 113 [(0, .ref (ad 5)), (3, .int v3)] [.int w0, .int w1, .int w2, .ref (ad 5)] S := by
  unfold b_X7_horse_113 at he
  unfold o_X7_horse_113 at ho
  have h2 := ho.1
  have ho := ho.2
  refine j_callVv (rest := []) X (c_X7_laysHorse (cx_inj X) w2 w1 w0 S h2) cw_X7_104 kc25.1 (cl_25 kc25) rfl ⟨rfl, rfl, Nat.le_of_ble_eq_true rfl, Nat.le_of_ble_eq_true rfl⟩ rfl rfl (Nat.le_of_ble_eq_true rfl) ⟨Nat.le_of_ble_eq_true rfl, Nat.le_of_ble_eq_true rfl⟩ dX7_horse_113 ?_
  refine j_aload_n X 0 dX7_horse_116 rfl ?_
  refine j_iload_n X 1 dX7_horse_117 rfl ?_
  refine j_iconst (v := 4) X dX7_horse_118 (by decide) ?_
  refine j_iconst (v := (-1)) X dX7_horse_119 (by decide) ?_
  have h3 := ho.1
  have ho := ho.2
  refine j_callVv (rest := []) X (c_X7_laysHorse (cx_inj X) v3 4 (-1) (b_X7_laysHorse_0 w2 w1 w0 S) h3) cw_X7_104 kc25.1 (cl_25 kc25) rfl ⟨rfl, rfl, Nat.le_of_ble_eq_true rfl, Nat.le_of_ble_eq_true rfl⟩ rfl rfl (Nat.le_of_ble_eq_true rfl) ⟨Nat.le_of_ble_eq_true rfl, Nat.le_of_ble_eq_true rfl⟩ dX7_horse_120 ?_
  refine j_lv [1] [(3, .int v3)] rfl ?_
  exact t_X7_horse_123 X hr hlocks v3 (b_X7_laysHorse_0 v3 4 (-1) (b_X7_laysHorse_0 w2 w1 w0 S)) _ _ he
def b_X7_horse_73 : Nat → Int32 → Int32 → Int32 → Int32 → Sx → Int32 × Sx
  | 0, _, _, _, _, S => (0, S)
  | n + 1, v1, v2, v3, v4, S => if 6 ≤ v4 then if v2 = 0 then b_X7_horse_113 v3 0 1 v3 (b_X7_laysHorse_0 v3 0 v1 S) else b_X7_horse_113 v3 1 1 v3 (b_X7_laysHorse_0 v3 0 v1 S) else b_X7_horse_73 n v1 v2 v3 (v4 + 1) (b_X7_laysHorse_0 v3 v4 0 S)
def o_X7_horse_73 : Nat → Int32 → Int32 → Int32 → Int32 → Sx → Prop
  | 0, _, _, _, _, _ => False
  | n + 1, v1, v2, v3, v4, S => (6 ≤ v4 → (o_X7_laysHorse_0 v3 0 v1 S ∧ ((v2 = 0 → (o_X7_horse_113 v3 0 1 v3 (b_X7_laysHorse_0 v3 0 v1 S))) ∧ (¬ v2 = 0 → (o_X7_horse_113 v3 1 1 v3 (b_X7_laysHorse_0 v3 0 v1 S)))))) ∧ (¬ 6 ≤ v4 → (o_X7_laysHorse_0 v3 v4 0 S ∧ (o_X7_horse_73 n v1 v2 v3 (v4 + 1) (b_X7_laysHorse_0 v3 v4 0 S))))
set_option maxRecDepth 20000 in
theorem t_X7_horse_73 (X : Cx p m c cX7_horse 5 s args RX7 D q ad) (hr : meth.sig.returnType = some .int) (hlocks : meth.locks = false) : ∀ (n : Nat) (v1 : Int32) (v2 : Int32) (v3 : Int32) (v4 : Int32) (S : Sx) (rv : Int32) (S' : Sx) (ho : o_X7_horse_73 n v1 v2 v3 v4 S) (he : b_X7_horse_73 n v1 v2 v3 v4 S = (rv, S')), Jg p l e rm_X7_horse s m args below meth c 0 0 (MQ below (Qi D q ad d rv S' s.heap.size) args s 0 0 (AU ad s.heap.size)) D q ad d 5 73 [(0, .ref (ad 5)), (1, .int v1), (2, .int v2), (3, .int v3), (4, .int v4)] [] S := by
  intro n
  induction n with
  | zero =>
    intro v1 v2 v3 v4 S rv S' ho he
    unfold o_X7_horse_73 at ho
    exact ho.elim
  | succ n ih =>
    intro v1 v2 v3 v4 S rv S' ho he
    unfold b_X7_horse_73 at he
    unfold o_X7_horse_73 at ho
    refine j_iload X 4 dX7_horse_73 rfl ?_
    refine j_bipush (v := 6) X dX7_horse_75 (by decide) ?_
    refine j_icmp_ge X 94 dX7_horse_77 (by decide) (fun h2 => ?_) (fun h2 => ?_)
    · rw [if_pos h2] at he
      have ho := ho.1 h2
      refine j_aload_n X 0 dX7_horse_94 rfl ?_
      refine j_iload_n X 3 dX7_horse_95 rfl ?_
      refine j_iconst (v := 0) X dX7_horse_96 (by decide) ?_
      refine j_iload_n X 1 dX7_horse_97 rfl ?_
      have h3 := ho.1
      have ho := ho.2
      refine j_callVv (rest := []) X (c_X7_laysHorse (cx_inj X) v3 0 v1 S h3) cw_X7_104 kc25.1 (cl_25 kc25) rfl ⟨rfl, rfl, Nat.le_of_ble_eq_true rfl, Nat.le_of_ble_eq_true rfl⟩ rfl rfl (Nat.le_of_ble_eq_true rfl) ⟨Nat.le_of_ble_eq_true rfl, Nat.le_of_ble_eq_true rfl⟩ dX7_horse_98 ?_
      refine j_aload_n X 0 dX7_horse_101 rfl ?_
      refine j_iload_n X 3 dX7_horse_102 rfl ?_
      refine j_iconst (v := 1) X dX7_horse_103 (by decide) ?_
      refine j_iload_n X 2 dX7_horse_104 rfl ?_
      refine j_if_eq X 112 dX7_horse_105 (by decide) (fun h4 => ?_) (fun h4 => ?_)
      · rw [if_pos h4] at he
        have ho := ho.1 h4
        refine j_iconst (v := 0) X dX7_horse_112 (by decide) ?_
        refine j_lv [0, 3] [(0, .ref (ad 5)), (3, .int v3)] rfl ?_
        exact t_X7_horse_113 X hr hlocks v3 0 1 v3 (b_X7_laysHorse_0 v3 0 v1 S) _ _ ho he
      · rw [if_neg h4] at he
        have ho := ho.2 h4
        refine j_iconst (v := 1) X dX7_horse_108 (by decide) ?_
        refine j_goto X 113 dX7_horse_109 (by decide) ?_
        refine j_lv [0, 3] [(0, .ref (ad 5)), (3, .int v3)] rfl ?_
        exact t_X7_horse_113 X hr hlocks v3 1 1 v3 (b_X7_laysHorse_0 v3 0 v1 S) _ _ ho he
    · rw [if_neg h2] at he
      have ho := ho.2 h2
      refine j_aload_n X 0 dX7_horse_80 rfl ?_
      refine j_iload_n X 3 dX7_horse_81 rfl ?_
      refine j_iload X 4 dX7_horse_82 rfl ?_
      refine j_iconst (v := 0) X dX7_horse_84 (by decide) ?_
      have h5 := ho.1
      have ho := ho.2
      refine j_callVv (rest := []) X (c_X7_laysHorse (cx_inj X) v3 v4 0 S h5) cw_X7_104 kc25.1 (cl_25 kc25) rfl ⟨rfl, rfl, Nat.le_of_ble_eq_true rfl, Nat.le_of_ble_eq_true rfl⟩ rfl rfl (Nat.le_of_ble_eq_true rfl) ⟨Nat.le_of_ble_eq_true rfl, Nat.le_of_ble_eq_true rfl⟩ dX7_horse_85 ?_
      refine j_iinc X 4 (v4 + 1) [(4, .int (v4 + 1)), (0, .ref (ad 5)), (1, .int v1), (2, .int v2), (3, .int v3)] dX7_horse_88 rfl rfl (by decide) rfl ?_
      refine j_goto X 73 dX7_horse_91 (by decide) ?_
      refine j_lv [1, 2, 3, 4, 0] [(0, .ref (ad 5)), (1, .int v1), (2, .int v2), (3, .int v3), (4, .int (v4 + 1))] rfl ?_
      exact ih v1 v2 v3 (v4 + 1) (b_X7_laysHorse_0 v3 v4 0 S) _ _ ho he
def b_X7_horse_70 (v1 : Int32) (v2 : Int32) (v3 : Int32) (S : Sx) : Int32 × Sx := b_X7_horse_73 100 v1 v2 v3 0 S
def o_X7_horse_70 (v1 : Int32) (v2 : Int32) (v3 : Int32) (S : Sx) : Prop := o_X7_horse_73 100 v1 v2 v3 0 S
set_option maxRecDepth 20000 in
theorem t_X7_horse_70 (X : Cx p m c cX7_horse 5 s args RX7 D q ad) (hr : meth.sig.returnType = some .int) (hlocks : meth.locks = false) (v1 : Int32) (v2 : Int32) (v3 : Int32) (S : Sx) (rv : Int32) (S' : Sx) (ho : o_X7_horse_70 v1 v2 v3 S) (he : b_X7_horse_70 v1 v2 v3 S = (rv, S')) : Jg p l e rm_X7_horse s m args below meth c 0 0 (MQ below (Qi D q ad d rv S' s.heap.size) args s 0 0 (AU ad s.heap.size)) D q ad d 5 70 [(0, .ref (ad 5)), (1, .int v1), (2, .int v2), (3, .int v3)] [] S := by
  unfold b_X7_horse_70 at he
  unfold o_X7_horse_70 at ho
  refine j_iconst (v := 0) X dX7_horse_70 (by decide) ?_
  refine j_istore X [(4, .int 0), (0, .ref (ad 5)), (1, .int v1), (2, .int v2), (3, .int v3)] dX7_horse_71 (by decide) rfl ?_
  refine j_lv [1, 2, 3, 4, 0] [(0, .ref (ad 5)), (1, .int v1), (2, .int v2), (3, .int v3), (4, .int 0)] rfl ?_
  exact t_X7_horse_73 X hr hlocks 100 v1 v2 v3 0 S _ _ ho he
def b_X7_horse_16 (v1 : Int32) (v2 : Int32) (w0 : Int32) (S : Sx) : Int32 × Sx := if ((b_X7_fails_0 w0 S).1) = 0 then if (((b_X7_fails_0 w0 S).2) 6 ((71 : Int32).toNatClampNeg)) = 5 then ((b_X7_refuses_0 2 1 5 ((b_X7_fails_0 w0 S).2)).1, (b_X7_refuses_0 2 1 5 ((b_X7_fails_0 w0 S).2)).2) else b_X7_horse_70 v1 v2 ((b_X7_keeps_0 6 ((b_X7_fails_0 w0 S).2)) 6 ((71 : Int32).toNatClampNeg)) (up2 (b_X7_keeps_0 6 ((b_X7_fails_0 w0 S).2)) 6 ((71 : Int32).toNatClampNeg) (((b_X7_keeps_0 6 ((b_X7_fails_0 w0 S).2)) 6 ((71 : Int32).toNatClampNeg)) + 1)) else (0, (b_X7_fails_0 w0 S).2)
def o_X7_horse_16 (v1 : Int32) (v2 : Int32) (w0 : Int32) (S : Sx) : Prop := o_X7_fails_0 w0 S ∧ ((((b_X7_fails_0 w0 S).1) = 0 → (((((b_X7_fails_0 w0 S).2) 6 ((71 : Int32).toNatClampNeg)) = 5 → True) ∧ (¬ (((b_X7_fails_0 w0 S).2) 6 ((71 : Int32).toNatClampNeg)) = 5 → (o_X7_keeps_0 6 ((b_X7_fails_0 w0 S).2) ∧ (o_X7_horse_70 v1 v2 ((b_X7_keeps_0 6 ((b_X7_fails_0 w0 S).2)) 6 ((71 : Int32).toNatClampNeg)) (up2 (b_X7_keeps_0 6 ((b_X7_fails_0 w0 S).2)) 6 ((71 : Int32).toNatClampNeg) (((b_X7_keeps_0 6 ((b_X7_fails_0 w0 S).2)) 6 ((71 : Int32).toNatClampNeg)) + 1))))))) ∧ (¬ ((b_X7_fails_0 w0 S).1) = 0 → True))
set_option maxRecDepth 20000 in
theorem t_X7_horse_16 (X : Cx p m c cX7_horse 5 s args RX7 D q ad) (hr : meth.sig.returnType = some .int) (hlocks : meth.locks = false) (v1 : Int32) (v2 : Int32) (w0 : Int32) (S : Sx) (rv : Int32) (S' : Sx) (ho : o_X7_horse_16 v1 v2 w0 S) (he : b_X7_horse_16 v1 v2 w0 S = (rv, S')) : Jg p l e rm_X7_horse s m args below meth c 0 0 (MQ below (Qi D q ad d rv S' s.heap.size) args s 0 0 (AU ad s.heap.size)) D q ad d 5 16 [(0, .ref (ad 5)), (1, .int v1), (2, .int v2)] [.int w0, .ref (ad 5)] S := by
  unfold b_X7_horse_16 at he
  unfold o_X7_horse_16 at ho
  have h2 := ho.1
  have ho := ho.2
  refine j_callVi (rest := []) X (c_X7_fails (cx_inj X) w0 S h2) cw_X7_70 kc25.1 (cl_25 kc25) rfl ⟨rfl, rfl, Nat.le_of_ble_eq_true rfl, Nat.le_of_ble_eq_true rfl⟩ rfl rfl (Nat.le_of_ble_eq_true rfl) ⟨Nat.le_of_ble_eq_true rfl, Nat.le_of_ble_eq_true rfl⟩ dX7_horse_16 ?_
  refine j_if_eq X 24 dX7_horse_19 (by decide) (fun h3 => ?_) (fun h3 => ?_)
  · rw [if_pos h3] at he
    have ho := ho.1 h3
    refine j_aload_n X 0 dX7_horse_24 rfl ?_
    refine gf_25_0 X m_fl_X7_7 kc25 dX7_horse_25 ?_
    refine j_bipush (v := 71) X dX7_horse_28 (by decide) ?_
    refine j_iald X kc26.1 (cl_26 kc26) (by unfold vp_in; decide) dX7_horse_30 ?_
    refine j_iconst (v := 5) X dX7_horse_31 (by decide) ?_
    refine j_icmp_ne X 43 dX7_horse_32 (by decide) (fun h4 => ?_) (fun h4 => ?_)
    · rw [if_neg h4] at he
      have ho := ho.2 h4
      refine j_aload_n X 0 dX7_horse_43 rfl ?_
      refine j_aload_n X 0 dX7_horse_44 rfl ?_
      refine gf_25_0 X m_fl_X7_7 kc25 dX7_horse_45 ?_
      have h5 := ho.1
      have ho := ho.2
      refine j_callVv (rest := []) X (c_X7_keeps (cx_inj X) 6 (isA_of26 kc26) ((b_X7_fails_0 w0 S).2) h5) cw_X7_62 kc25.1 (cl_25 kc25) rfl ⟨rfl, rfl, Nat.le_of_ble_eq_true rfl, Nat.le_of_ble_eq_true rfl⟩ rfl rfl (Nat.le_of_ble_eq_true rfl) ⟨Nat.le_of_ble_eq_true rfl, Nat.le_of_ble_eq_true rfl⟩ dX7_horse_48 ?_
      refine j_aload_n X 0 dX7_horse_51 rfl ?_
      refine gf_25_0 X m_fl_X7_7 kc25 dX7_horse_52 ?_
      refine j_bipush (v := 71) X dX7_horse_55 (by decide) ?_
      refine j_iald X kc26.1 (cl_26 kc26) (by unfold vp_in; decide) dX7_horse_57 ?_
      refine j_istore_n X [(3, .int ((b_X7_keeps_0 6 ((b_X7_fails_0 w0 S).2)) 6 ((71 : Int32).toNatClampNeg))), (0, .ref (ad 5)), (1, .int v1), (2, .int v2)] dX7_horse_58 (by decide) rfl ?_
      refine j_aload_n X 1 dX7_horse_59 rfl ?_
      refine gf_25_0 X m_fl_X7_7 kc25 dX7_horse_60 ?_
      refine j_bipush (v := 71) X dX7_horse_63 (by decide) ?_
      refine j_dup2 X dX7_horse_65 rfl rfl ?_
      refine j_iald X kc26.1 (cl_26 kc26) (by unfold vp_in; decide) dX7_horse_66 ?_
      refine j_iconst (v := 1) X dX7_horse_67 (by decide) ?_
      refine j_iadd X dX7_horse_68 ?_
      refine j_iast X kc26.1 (fun T => cl_26 kc26) (by unfold vp_in; decide) dX7_horse_69 ?_
      refine j_lv [1, 2, 3, 0] [(0, .ref (ad 5)), (1, .int v1), (2, .int v2), (3, .int ((b_X7_keeps_0 6 ((b_X7_fails_0 w0 S).2)) 6 ((71 : Int32).toNatClampNeg)))] rfl ?_
      exact t_X7_horse_70 X hr hlocks v1 v2 ((b_X7_keeps_0 6 ((b_X7_fails_0 w0 S).2)) 6 ((71 : Int32).toNatClampNeg)) (up2 (b_X7_keeps_0 6 ((b_X7_fails_0 w0 S).2)) 6 ((71 : Int32).toNatClampNeg) (((b_X7_keeps_0 6 ((b_X7_fails_0 w0 S).2)) 6 ((71 : Int32).toNatClampNeg)) + 1)) _ _ ho he
    · rw [if_pos h4] at he
      have ho := ho.1 h4
      refine j_aload_n X 0 dX7_horse_35 rfl ?_
      refine j_iconst (v := 2) X dX7_horse_36 (by decide) ?_
      refine j_iconst (v := 1) X dX7_horse_37 (by decide) ?_
      refine j_iconst (v := 5) X dX7_horse_38 (by decide) ?_
      refine j_callVi (rest := []) X (c_X7_refuses (cx_inj X) 2 1 5 ((b_X7_fails_0 w0 S).2)) cw_X7_77 kc25.1 (cl_25 kc25) rfl ⟨rfl, rfl, Nat.le_of_ble_eq_true rfl, Nat.le_of_ble_eq_true rfl⟩ rfl rfl (Nat.le_of_ble_eq_true rfl) ⟨Nat.le_of_ble_eq_true rfl, Nat.le_of_ble_eq_true rfl⟩ dX7_horse_39 ?_
      exact j_iret X hr hlocks dX7_horse_42 (congrArg Prod.fst he) (congrArg Prod.snd he)
  · rw [if_neg h3] at he
    have ho := ho.2 h3
    refine j_iconst (v := 0) X dX7_horse_22 (by decide) ?_
    exact j_iret X hr hlocks dX7_horse_23 (congrArg Prod.fst he) (congrArg Prod.snd he)
def b_X7_horse_0 (x1 : Int32) (x2 : Int32) (S : Sx) : Int32 × Sx := if (b_X7_in_0 x1 1 9 S) = 0 then b_X7_horse_16 x1 x2 1 S else b_X7_horse_16 x1 x2 0 S
def o_X7_horse_0 (x1 : Int32) (x2 : Int32) (S : Sx) : Prop := o_X7_in_0 x1 1 9 S ∧ (((b_X7_in_0 x1 1 9 S) = 0 → (o_X7_horse_16 x1 x2 1 S)) ∧ (¬ (b_X7_in_0 x1 1 9 S) = 0 → (o_X7_horse_16 x1 x2 0 S)))
set_option maxRecDepth 20000 in
theorem t_X7_horse_0 (X : Cx p m c cX7_horse 5 s args RX7 D q ad) (hr : meth.sig.returnType = some .int) (hlocks : meth.locks = false) (x1 : Int32) (x2 : Int32) (S : Sx) (rv : Int32) (S' : Sx) (ho : o_X7_horse_0 x1 x2 S) (he : b_X7_horse_0 x1 x2 S = (rv, S')) : Jg p l e rm_X7_horse s m args below meth c 0 0 (MQ below (Qi D q ad d rv S' s.heap.size) args s 0 0 (AU ad s.heap.size)) D q ad d 5 0 [(0, .ref (ad 5)), (1, .int x1), (2, .int x2)] [] S := by
  unfold b_X7_horse_0 at he
  unfold o_X7_horse_0 at ho
  refine j_aload_n X 0 dX7_horse_0 rfl ?_
  refine j_iload_n X 1 dX7_horse_1 rfl ?_
  refine j_iconst (v := 1) X dX7_horse_2 (by decide) ?_
  refine j_bipush (v := 9) X dX7_horse_3 (by decide) ?_
  have h2 := ho.1
  have ho := ho.2
  refine j_callSi (rest := [.ref (ad 5)]) X (c_X7_in (cx_inj X) x1 1 9 S h2) cw_X7_58 ⟨rfl, rfl, Nat.le_of_ble_eq_true rfl, Nat.le_of_ble_eq_true rfl⟩ rfl rfl (Nat.le_of_ble_eq_true rfl) ⟨Nat.le_of_ble_eq_true rfl, Nat.le_of_ble_eq_true rfl⟩ dX7_horse_5 ?_
  refine j_if_eq X 15 dX7_horse_8 (by decide) (fun h3 => ?_) (fun h3 => ?_)
  · rw [if_pos h3] at he
    have ho := ho.1 h3
    refine j_iconst (v := 1) X dX7_horse_15 (by decide) ?_
    exact t_X7_horse_16 X hr hlocks x1 x2 1 S _ _ ho he
  · rw [if_neg h3] at he
    have ho := ho.2 h3
    refine j_iconst (v := 0) X dX7_horse_11 (by decide) ?_
    refine j_goto X 16 dX7_horse_12 (by decide) ?_
    exact t_X7_horse_16 X hr hlocks x1 x2 0 S _ _ ho he
theorem c_X7_horse {l : Launch} {D : va_G} {q : Nat → ClassId} {ad : Nat → Nat} {d : UInt64} (hI : inj4 ad) (x1 : Int32) (x2 : Int32) (S : Sx) (ho : o_X7_horse_0 x1 x2 S) : CI l yX7_horse cX7_horse 5 .int rm_X7_horse D q ad d [.ref (ad 5), .int x1, .int x2] S (b_X7_horse_0 x1 x2 S).1 (b_X7_horse_0 x1 x2 S).2 := ci_of hI (by decide +kernel) (Nat.le_of_ble_eq_true rfl) rfl (fun p e s m args below meth c X hr hlocks => t_X7_horse_0 X hr hlocks x1 x2 S _ _ ho (pe _))
end
/-! RX7.booted -/
abbrev rm_X7_booted : Room := { frames := 1, cells := 0, slots := 0, locals := 22 }
section
variable {p : Program} {l : Launch} {e : Env} {s : State} {m : MethodId} {args : Array Value} {below : List Frame} {meth : Method} {c : Code} {D : va_G} {q : Nat → ClassId} {ad : Nat → Nat} {d : UInt64}
def b_X7_booted_4 : Nat → Int32 → Int32 → Sx → Int32
  | 0, _, _, S => 0
  | n + 1, v1, v2, S => if (S 6 ((71 : Int32).toNatClampNeg)) ≤ v2 then v1 else b_X7_booted_4 n (v1 + (b_X7_ofHorse_0 v2 1 S)) (v2 + 1) S
def o_X7_booted_4 : Nat → Int32 → Int32 → Sx → Prop
  | 0, _, _, _ => False
  | n + 1, v1, v2, S => ((S 6 ((71 : Int32).toNatClampNeg)) ≤ v2 → True) ∧ (¬ (S 6 ((71 : Int32).toNatClampNeg)) ≤ v2 → (o_X7_ofHorse_0 v2 1 S ∧ (o_X7_booted_4 n (v1 + (b_X7_ofHorse_0 v2 1 S)) (v2 + 1) S)))
set_option maxRecDepth 20000 in
theorem t_X7_booted_4 (X : Cx p m c cX7_booted 3 s args RX7 D q ad) (hr : meth.sig.returnType = some .int) (hlocks : meth.locks = false) : ∀ (n : Nat) (v1 : Int32) (v2 : Int32) (S : Sx) (rv : Int32) (ho : o_X7_booted_4 n v1 v2 S) (he : b_X7_booted_4 n v1 v2 S = rv), Jg p l e rm_X7_booted s m args below meth c 0 0 (MQ below (Qi D q ad d rv S s.heap.size) args s 0 0 (AU ad s.heap.size)) D q ad d 3 4 [(0, .ref (ad 5)), (1, .int v1), (2, .int v2)] [] S := by
  intro n
  induction n with
  | zero =>
    intro v1 v2 S rv ho he
    unfold o_X7_booted_4 at ho
    exact ho.elim
  | succ n ih =>
    intro v1 v2 S rv ho he
    unfold b_X7_booted_4 at he
    unfold o_X7_booted_4 at ho
    refine j_iload_n X 2 dX7_booted_4 rfl ?_
    refine j_aload_n X 0 dX7_booted_5 rfl ?_
    refine gf_25_0 X m_fl_X7_7 kc25 dX7_booted_6 ?_
    refine j_bipush (v := 71) X dX7_booted_9 (by decide) ?_
    refine j_iald X kc26.1 (cl_26 kc26) (by unfold vp_in; decide) dX7_booted_11 ?_
    refine j_icmp_ge X 30 dX7_booted_12 (by decide) (fun h2 => ?_) (fun h2 => ?_)
    · rw [if_pos h2] at he
      have ho := ho.1 h2
      refine j_iload_n X 1 dX7_booted_30 rfl ?_
      exact j_iret X hr hlocks dX7_booted_31 he rfl
    · rw [if_neg h2] at he
      have ho := ho.2 h2
      refine j_iload_n X 1 dX7_booted_15 rfl ?_
      refine j_aload_n X 0 dX7_booted_16 rfl ?_
      refine j_iload_n X 2 dX7_booted_17 rfl ?_
      refine j_iconst (v := 1) X dX7_booted_18 (by decide) ?_
      have h3 := ho.1
      have ho := ho.2
      refine j_callVi (rest := [.int v1]) X (c_X7_ofHorse (cx_inj X) v2 1 S h3) cw_X7_85 kc25.1 (cl_25 kc25) rfl ⟨rfl, rfl, Nat.le_of_ble_eq_true rfl, Nat.le_of_ble_eq_true rfl⟩ rfl rfl (Nat.le_of_ble_eq_true rfl) ⟨Nat.le_of_ble_eq_true rfl, Nat.le_of_ble_eq_true rfl⟩ dX7_booted_19 ?_
      refine j_iadd X dX7_booted_22 ?_
      refine j_istore_n X [(1, .int (v1 + (b_X7_ofHorse_0 v2 1 S))), (0, .ref (ad 5)), (2, .int v2)] dX7_booted_23 (by decide) rfl ?_
      refine j_iinc X 2 (v2 + 1) [(2, .int (v2 + 1)), (1, .int (v1 + (b_X7_ofHorse_0 v2 1 S))), (0, .ref (ad 5))] dX7_booted_24 rfl rfl (by decide) rfl ?_
      refine j_goto X 4 dX7_booted_27 (by decide) ?_
      refine j_lv [2, 1, 0] [(0, .ref (ad 5)), (1, .int (v1 + (b_X7_ofHorse_0 v2 1 S))), (2, .int (v2 + 1))] rfl ?_
      exact ih (v1 + (b_X7_ofHorse_0 v2 1 S)) (v2 + 1) S _ ho he
def b_X7_booted_0  (S : Sx) : Int32 := b_X7_booted_4 100 0 0 S
def o_X7_booted_0  (S : Sx) : Prop := o_X7_booted_4 100 0 0 S
set_option maxRecDepth 20000 in
theorem t_X7_booted_0 (X : Cx p m c cX7_booted 3 s args RX7 D q ad) (hr : meth.sig.returnType = some .int) (hlocks : meth.locks = false) (S : Sx) (rv : Int32) (ho : o_X7_booted_0 S) (he : b_X7_booted_0 S = rv) : Jg p l e rm_X7_booted s m args below meth c 0 0 (MQ below (Qi D q ad d rv S s.heap.size) args s 0 0 (AU ad s.heap.size)) D q ad d 3 0 [(0, .ref (ad 5))] [] S := by
  unfold b_X7_booted_0 at he
  unfold o_X7_booted_0 at ho
  refine j_iconst (v := 0) X dX7_booted_0 (by decide) ?_
  refine j_istore_n X [(1, .int 0), (0, .ref (ad 5))] dX7_booted_1 (by decide) rfl ?_
  refine j_iconst (v := 0) X dX7_booted_2 (by decide) ?_
  refine j_istore_n X [(2, .int 0), (1, .int 0), (0, .ref (ad 5))] dX7_booted_3 (by decide) rfl ?_
  refine j_lv [2, 1, 0] [(0, .ref (ad 5)), (1, .int 0), (2, .int 0)] rfl ?_
  exact t_X7_booted_4 X hr hlocks 100 0 0 S _ ho he
theorem c_X7_booted {l : Launch} {D : va_G} {q : Nat → ClassId} {ad : Nat → Nat} {d : UInt64} (hI : inj4 ad) (S : Sx) (ho : o_X7_booted_0 S) : CI l yX7_booted cX7_booted 3 .int rm_X7_booted D q ad d [.ref (ad 5)] S (b_X7_booted_0 S) S := ci_of hI (by decide +kernel) (Nat.le_of_ble_eq_true rfl) rfl (fun p e s m args below meth c X hr hlocks => t_X7_booted_0 X hr hlocks S _ ho rfl)
end
/-! RX7.boots -/
abbrev rm_X7_boots : Room := { frames := 2, cells := 0, slots := 0, locals := 46 }
section
variable {p : Program} {l : Launch} {e : Env} {s : State} {m : MethodId} {args : Array Value} {below : List Frame} {meth : Method} {c : Code} {D : va_G} {q : Nat → ClassId} {ad : Nat → Nat} {d : UInt64}
def b_X7_boots_64 (w0 : Int32) (w1 : Int32) (w2 : Int32) (S : Sx) : Int32 × Sx := (b_X7_booted_0 (b_X7_laysHorse_0 w2 w1 w0 S), b_X7_laysHorse_0 w2 w1 w0 S)
def o_X7_boots_64 (w0 : Int32) (w1 : Int32) (w2 : Int32) (S : Sx) : Prop := o_X7_laysHorse_0 w2 w1 w0 S ∧ (o_X7_booted_0 (b_X7_laysHorse_0 w2 w1 w0 S) ∧ True)
set_option maxRecDepth 20000 in
theorem t_X7_boots_64 (X : Cx p m c cX7_boots 3 s args RX7 D q ad) (hr : meth.sig.returnType = some .int) (hlocks : meth.locks = false) (w0 : Int32) (w1 : Int32) (w2 : Int32) (S : Sx) (rv : Int32) (S' : Sx) (ho : o_X7_boots_64 w0 w1 w2 S) (he : b_X7_boots_64 w0 w1 w2 S = (rv, S')) : Jg p l e rm_X7_boots s m args below meth c 0 0 (MQ below (Qi D q ad d rv S' s.heap.size) args s 0 0 (AU ad s.heap.size)) D q ad d 3 64 [(0, .ref (ad 5))] [.int w0, .int w1, .int w2, .ref (ad 5)] S := by
  unfold b_X7_boots_64 at he
  unfold o_X7_boots_64 at ho
  have h2 := ho.1
  have ho := ho.2
  refine j_callVv (rest := []) X (c_X7_laysHorse (cx_inj X) w2 w1 w0 S h2) cw_X7_104 kc25.1 (cl_25 kc25) rfl ⟨rfl, rfl, Nat.le_of_ble_eq_true rfl, Nat.le_of_ble_eq_true rfl⟩ rfl rfl (Nat.le_of_ble_eq_true rfl) ⟨Nat.le_of_ble_eq_true rfl, Nat.le_of_ble_eq_true rfl⟩ dX7_boots_64 ?_
  refine j_aload_n X 0 dX7_boots_67 rfl ?_
  have h3 := ho.1
  have ho := ho.2
  refine j_callVi (rest := []) X (c_X7_booted (cx_inj X) (b_X7_laysHorse_0 w2 w1 w0 S) h3) cw_X7_110 kc25.1 (cl_25 kc25) rfl ⟨rfl, rfl, Nat.le_of_ble_eq_true rfl, Nat.le_of_ble_eq_true rfl⟩ rfl rfl (Nat.le_of_ble_eq_true rfl) ⟨Nat.le_of_ble_eq_true rfl, Nat.le_of_ble_eq_true rfl⟩ dX7_boots_68 ?_
  exact j_iret X hr hlocks dX7_boots_71 (congrArg Prod.fst he) (congrArg Prod.snd he)
def b_X7_boots_14 (v1 : Int32) (v2 : Int32) (w0 : Int32) (S : Sx) : Int32 × Sx := if ((b_X7_fails_0 w0 S).1) = 0 then if (b_X7_ofHorse_0 v1 3 ((b_X7_fails_0 w0 S).2)) ≤ 0 then if v2 = 0 then b_X7_boots_64 0 1 v1 (b_X7_keeps_0 6 ((b_X7_fails_0 w0 S).2)) else b_X7_boots_64 1 1 v1 (b_X7_keeps_0 6 ((b_X7_fails_0 w0 S).2)) else ((b_X7_refuses_0 2 2 (b_X7_ofHorse_0 v1 3 ((b_X7_fails_0 w0 S).2)) ((b_X7_fails_0 w0 S).2)).1, (b_X7_refuses_0 2 2 (b_X7_ofHorse_0 v1 3 ((b_X7_fails_0 w0 S).2)) ((b_X7_fails_0 w0 S).2)).2) else (0, (b_X7_fails_0 w0 S).2)
def o_X7_boots_14 (v1 : Int32) (v2 : Int32) (w0 : Int32) (S : Sx) : Prop := o_X7_fails_0 w0 S ∧ ((((b_X7_fails_0 w0 S).1) = 0 → (o_X7_ofHorse_0 v1 3 ((b_X7_fails_0 w0 S).2) ∧ (((b_X7_ofHorse_0 v1 3 ((b_X7_fails_0 w0 S).2)) ≤ 0 → (o_X7_keeps_0 6 ((b_X7_fails_0 w0 S).2) ∧ ((v2 = 0 → (o_X7_boots_64 0 1 v1 (b_X7_keeps_0 6 ((b_X7_fails_0 w0 S).2)))) ∧ (¬ v2 = 0 → (o_X7_boots_64 1 1 v1 (b_X7_keeps_0 6 ((b_X7_fails_0 w0 S).2))))))) ∧ (¬ (b_X7_ofHorse_0 v1 3 ((b_X7_fails_0 w0 S).2)) ≤ 0 → (o_X7_ofHorse_0 v1 3 ((b_X7_fails_0 w0 S).2) ∧ True))))) ∧ (¬ ((b_X7_fails_0 w0 S).1) = 0 → True))
set_option maxRecDepth 20000 in
theorem t_X7_boots_14 (X : Cx p m c cX7_boots 3 s args RX7 D q ad) (hr : meth.sig.returnType = some .int) (hlocks : meth.locks = false) (v1 : Int32) (v2 : Int32) (w0 : Int32) (S : Sx) (rv : Int32) (S' : Sx) (ho : o_X7_boots_14 v1 v2 w0 S) (he : b_X7_boots_14 v1 v2 w0 S = (rv, S')) : Jg p l e rm_X7_boots s m args below meth c 0 0 (MQ below (Qi D q ad d rv S' s.heap.size) args s 0 0 (AU ad s.heap.size)) D q ad d 3 14 [(0, .ref (ad 5)), (1, .int v1), (2, .int v2)] [.int w0, .ref (ad 5)] S := by
  unfold b_X7_boots_14 at he
  unfold o_X7_boots_14 at ho
  have h2 := ho.1
  have ho := ho.2
  refine j_callVi (rest := []) X (c_X7_fails (cx_inj X) w0 S h2) cw_X7_70 kc25.1 (cl_25 kc25) rfl ⟨rfl, rfl, Nat.le_of_ble_eq_true rfl, Nat.le_of_ble_eq_true rfl⟩ rfl rfl (Nat.le_of_ble_eq_true rfl) ⟨Nat.le_of_ble_eq_true rfl, Nat.le_of_ble_eq_true rfl⟩ dX7_boots_14 ?_
  refine j_if_eq X 22 dX7_boots_17 (by decide) (fun h3 => ?_) (fun h3 => ?_)
  · rw [if_pos h3] at he
    have ho := ho.1 h3
    refine j_aload_n X 0 dX7_boots_22 rfl ?_
    refine j_iload_n X 1 dX7_boots_23 rfl ?_
    refine j_iconst (v := 3) X dX7_boots_24 (by decide) ?_
    have h4 := ho.1
    have ho := ho.2
    refine j_callVi (rest := []) X (c_X7_ofHorse (cx_inj X) v1 3 ((b_X7_fails_0 w0 S).2) h4) cw_X7_85 kc25.1 (cl_25 kc25) rfl ⟨rfl, rfl, Nat.le_of_ble_eq_true rfl, Nat.le_of_ble_eq_true rfl⟩ rfl rfl (Nat.le_of_ble_eq_true rfl) ⟨Nat.le_of_ble_eq_true rfl, Nat.le_of_ble_eq_true rfl⟩ dX7_boots_25 ?_
    refine j_if_le X 44 dX7_boots_28 (by decide) (fun h5 => ?_) (fun h5 => ?_)
    · rw [if_pos h5] at he
      have ho := ho.1 h5
      refine j_aload_n X 0 dX7_boots_44 rfl ?_
      refine j_aload_n X 0 dX7_boots_45 rfl ?_
      refine gf_25_0 X m_fl_X7_7 kc25 dX7_boots_46 ?_
      have h6 := ho.1
      have ho := ho.2
      refine j_callVv (rest := []) X (c_X7_keeps (cx_inj X) 6 (isA_of26 kc26) ((b_X7_fails_0 w0 S).2) h6) cw_X7_62 kc25.1 (cl_25 kc25) rfl ⟨rfl, rfl, Nat.le_of_ble_eq_true rfl, Nat.le_of_ble_eq_true rfl⟩ rfl rfl (Nat.le_of_ble_eq_true rfl) ⟨Nat.le_of_ble_eq_true rfl, Nat.le_of_ble_eq_true rfl⟩ dX7_boots_49 ?_
      refine j_aload_n X 0 dX7_boots_52 rfl ?_
      refine j_iload_n X 1 dX7_boots_53 rfl ?_
      refine j_iconst (v := 1) X dX7_boots_54 (by decide) ?_
      refine j_iload_n X 2 dX7_boots_55 rfl ?_
      refine j_if_eq X 63 dX7_boots_56 (by decide) (fun h7 => ?_) (fun h7 => ?_)
      · rw [if_pos h7] at he
        have ho := ho.1 h7
        refine j_iconst (v := 0) X dX7_boots_63 (by decide) ?_
        refine j_lv [0] [(0, .ref (ad 5))] rfl ?_
        exact t_X7_boots_64 X hr hlocks 0 1 v1 (b_X7_keeps_0 6 ((b_X7_fails_0 w0 S).2)) _ _ ho he
      · rw [if_neg h7] at he
        have ho := ho.2 h7
        refine j_iconst (v := 1) X dX7_boots_59 (by decide) ?_
        refine j_goto X 64 dX7_boots_60 (by decide) ?_
        refine j_lv [0] [(0, .ref (ad 5))] rfl ?_
        exact t_X7_boots_64 X hr hlocks 1 1 v1 (b_X7_keeps_0 6 ((b_X7_fails_0 w0 S).2)) _ _ ho he
    · rw [if_neg h5] at he
      have ho := ho.2 h5
      refine j_aload_n X 0 dX7_boots_31 rfl ?_
      refine j_iconst (v := 2) X dX7_boots_32 (by decide) ?_
      refine j_iconst (v := 2) X dX7_boots_33 (by decide) ?_
      refine j_aload_n X 0 dX7_boots_34 rfl ?_
      refine j_iload_n X 1 dX7_boots_35 rfl ?_
      refine j_iconst (v := 3) X dX7_boots_36 (by decide) ?_
      have h8 := ho.1
      have ho := ho.2
      refine j_callVi (rest := [.int 2, .int 2, .ref (ad 5)]) X (c_X7_ofHorse (cx_inj X) v1 3 ((b_X7_fails_0 w0 S).2) h8) cw_X7_85 kc25.1 (cl_25 kc25) rfl ⟨rfl, rfl, Nat.le_of_ble_eq_true rfl, Nat.le_of_ble_eq_true rfl⟩ rfl rfl (Nat.le_of_ble_eq_true rfl) ⟨Nat.le_of_ble_eq_true rfl, Nat.le_of_ble_eq_true rfl⟩ dX7_boots_37 ?_
      refine j_callVi (rest := []) X (c_X7_refuses (cx_inj X) 2 2 (b_X7_ofHorse_0 v1 3 ((b_X7_fails_0 w0 S).2)) ((b_X7_fails_0 w0 S).2)) cw_X7_77 kc25.1 (cl_25 kc25) rfl ⟨rfl, rfl, Nat.le_of_ble_eq_true rfl, Nat.le_of_ble_eq_true rfl⟩ rfl rfl (Nat.le_of_ble_eq_true rfl) ⟨Nat.le_of_ble_eq_true rfl, Nat.le_of_ble_eq_true rfl⟩ dX7_boots_40 ?_
      exact j_iret X hr hlocks dX7_boots_43 (congrArg Prod.fst he) (congrArg Prod.snd he)
  · rw [if_neg h3] at he
    have ho := ho.2 h3
    refine j_iconst (v := 0) X dX7_boots_20 (by decide) ?_
    exact j_iret X hr hlocks dX7_boots_21 (congrArg Prod.fst he) (congrArg Prod.snd he)
def b_X7_boots_0 (x1 : Int32) (x2 : Int32) (S : Sx) : Int32 × Sx := if (b_X7_isHorse_0 x1 S) = 0 then b_X7_boots_14 x1 x2 1 S else b_X7_boots_14 x1 x2 0 S
def o_X7_boots_0 (x1 : Int32) (x2 : Int32) (S : Sx) : Prop := o_X7_isHorse_0 x1 S ∧ (((b_X7_isHorse_0 x1 S) = 0 → (o_X7_boots_14 x1 x2 1 S)) ∧ (¬ (b_X7_isHorse_0 x1 S) = 0 → (o_X7_boots_14 x1 x2 0 S)))
set_option maxRecDepth 20000 in
theorem t_X7_boots_0 (X : Cx p m c cX7_boots 3 s args RX7 D q ad) (hr : meth.sig.returnType = some .int) (hlocks : meth.locks = false) (x1 : Int32) (x2 : Int32) (S : Sx) (rv : Int32) (S' : Sx) (ho : o_X7_boots_0 x1 x2 S) (he : b_X7_boots_0 x1 x2 S = (rv, S')) : Jg p l e rm_X7_boots s m args below meth c 0 0 (MQ below (Qi D q ad d rv S' s.heap.size) args s 0 0 (AU ad s.heap.size)) D q ad d 3 0 [(0, .ref (ad 5)), (1, .int x1), (2, .int x2)] [] S := by
  unfold b_X7_boots_0 at he
  unfold o_X7_boots_0 at ho
  refine j_aload_n X 0 dX7_boots_0 rfl ?_
  refine j_aload_n X 0 dX7_boots_1 rfl ?_
  refine j_iload_n X 1 dX7_boots_2 rfl ?_
  have h2 := ho.1
  have ho := ho.2
  refine j_callVi (rest := [.ref (ad 5)]) X (c_X7_isHorse (cx_inj X) x1 S h2) cw_X7_107 kc25.1 (cl_25 kc25) rfl ⟨rfl, rfl, Nat.le_of_ble_eq_true rfl, Nat.le_of_ble_eq_true rfl⟩ rfl rfl (Nat.le_of_ble_eq_true rfl) ⟨Nat.le_of_ble_eq_true rfl, Nat.le_of_ble_eq_true rfl⟩ dX7_boots_3 ?_
  refine j_if_eq X 13 dX7_boots_6 (by decide) (fun h3 => ?_) (fun h3 => ?_)
  · rw [if_pos h3] at he
    have ho := ho.1 h3
    refine j_iconst (v := 1) X dX7_boots_13 (by decide) ?_
    exact t_X7_boots_14 X hr hlocks x1 x2 1 S _ _ ho he
  · rw [if_neg h3] at he
    have ho := ho.2 h3
    refine j_iconst (v := 0) X dX7_boots_9 (by decide) ?_
    refine j_goto X 14 dX7_boots_10 (by decide) ?_
    exact t_X7_boots_14 X hr hlocks x1 x2 0 S _ _ ho he
theorem c_X7_boots {l : Launch} {D : va_G} {q : Nat → ClassId} {ad : Nat → Nat} {d : UInt64} (hI : inj4 ad) (x1 : Int32) (x2 : Int32) (S : Sx) (ho : o_X7_boots_0 x1 x2 S) : CI l yX7_boots cX7_boots 3 .int rm_X7_boots D q ad d [.ref (ad 5), .int x1, .int x2] S (b_X7_boots_0 x1 x2 S).1 (b_X7_boots_0 x1 x2 S).2 := ci_of hI (by decide +kernel) (Nat.le_of_ble_eq_true rfl) rfl (fun p e s m args below meth c X hr hlocks => t_X7_boots_0 X hr hlocks x1 x2 S _ _ ho (pe _))
end
/-! RX7.horseOf -/
abbrev rm_X7_horseOf : Room := { frames := 2, cells := 0, slots := 0, locals := 43 }
section
variable {p : Program} {l : Launch} {e : Env} {s : State} {m : MethodId} {args : Array Value} {below : List Frame} {meth : Method} {c : Code} {D : va_G} {q : Nat → ClassId} {ad : Nat → Nat} {d : UInt64}
def b_X7_horseOf_43 (w0 : Int32) (S : Sx) : Int32 × Sx := (w0, S)
set_option maxRecDepth 20000 in
theorem t_X7_horseOf_43 (X : Cx p m c cX7_horseOf 3 s args RX7 D q ad) (hr : meth.sig.returnType = some .int) (hlocks : meth.locks = false) (w0 : Int32) (S : Sx) (rv : Int32) (S' : Sx) (he : b_X7_horseOf_43 w0 S = (rv, S')) : Jg p l e rm_X7_horseOf s m args below meth c 0 0 (MQ below (Qi D q ad d rv S' s.heap.size) args s 0 0 (AU ad s.heap.size)) D q ad d 3 43 [] [.int w0] S := by
  unfold b_X7_horseOf_43 at he
  exact j_iret X hr hlocks dX7_horseOf_43 (congrArg Prod.fst he) (congrArg Prod.snd he)
def b_X7_horseOf_27 (v1 : Int32) (v2 : Int32) (w0 : Int32) (S : Sx) : Int32 × Sx := if ((b_X7_fails_0 w0 S).1) = 0 then b_X7_horseOf_43 (b_X7_ofHorse_0 v1 v2 ((b_X7_fails_0 w0 S).2)) ((b_X7_fails_0 w0 S).2) else b_X7_horseOf_43 0 ((b_X7_fails_0 w0 S).2)
def o_X7_horseOf_27 (v1 : Int32) (v2 : Int32) (w0 : Int32) (S : Sx) : Prop := o_X7_fails_0 w0 S ∧ ((((b_X7_fails_0 w0 S).1) = 0 → (o_X7_ofHorse_0 v1 v2 ((b_X7_fails_0 w0 S).2) ∧ True)) ∧ (¬ ((b_X7_fails_0 w0 S).1) = 0 → True))
set_option maxRecDepth 20000 in
theorem t_X7_horseOf_27 (X : Cx p m c cX7_horseOf 3 s args RX7 D q ad) (hr : meth.sig.returnType = some .int) (hlocks : meth.locks = false) (v1 : Int32) (v2 : Int32) (w0 : Int32) (S : Sx) (rv : Int32) (S' : Sx) (ho : o_X7_horseOf_27 v1 v2 w0 S) (he : b_X7_horseOf_27 v1 v2 w0 S = (rv, S')) : Jg p l e rm_X7_horseOf s m args below meth c 0 0 (MQ below (Qi D q ad d rv S' s.heap.size) args s 0 0 (AU ad s.heap.size)) D q ad d 3 27 [(0, .ref (ad 5)), (1, .int v1), (2, .int v2)] [.int w0, .ref (ad 5)] S := by
  unfold b_X7_horseOf_27 at he
  unfold o_X7_horseOf_27 at ho
  have h2 := ho.1
  have ho := ho.2
  refine j_callVi (rest := []) X (c_X7_fails (cx_inj X) w0 S h2) cw_X7_70 kc25.1 (cl_25 kc25) rfl ⟨rfl, rfl, Nat.le_of_ble_eq_true rfl, Nat.le_of_ble_eq_true rfl⟩ rfl rfl (Nat.le_of_ble_eq_true rfl) ⟨Nat.le_of_ble_eq_true rfl, Nat.le_of_ble_eq_true rfl⟩ dX7_horseOf_27 ?_
  refine j_if_eq X 37 dX7_horseOf_30 (by decide) (fun h3 => ?_) (fun h3 => ?_)
  · rw [if_pos h3] at he
    have ho := ho.1 h3
    refine j_aload_n X 0 dX7_horseOf_37 rfl ?_
    refine j_iload_n X 1 dX7_horseOf_38 rfl ?_
    refine j_iload_n X 2 dX7_horseOf_39 rfl ?_
    have h4 := ho.1
    have ho := ho.2
    refine j_callVi (rest := []) X (c_X7_ofHorse (cx_inj X) v1 v2 ((b_X7_fails_0 w0 S).2) h4) cw_X7_85 kc25.1 (cl_25 kc25) rfl ⟨rfl, rfl, Nat.le_of_ble_eq_true rfl, Nat.le_of_ble_eq_true rfl⟩ rfl rfl (Nat.le_of_ble_eq_true rfl) ⟨Nat.le_of_ble_eq_true rfl, Nat.le_of_ble_eq_true rfl⟩ dX7_horseOf_40 ?_
    refine j_lv [] [] rfl ?_
    exact t_X7_horseOf_43 X hr hlocks (b_X7_ofHorse_0 v1 v2 ((b_X7_fails_0 w0 S).2)) ((b_X7_fails_0 w0 S).2) _ _ he
  · rw [if_neg h3] at he
    have ho := ho.2 h3
    refine j_iconst (v := 0) X dX7_horseOf_33 (by decide) ?_
    refine j_goto X 43 dX7_horseOf_34 (by decide) ?_
    refine j_lv [] [] rfl ?_
    exact t_X7_horseOf_43 X hr hlocks 0 ((b_X7_fails_0 w0 S).2) _ _ he
def b_X7_horseOf_0 (x1 : Int32) (x2 : Int32) (S : Sx) : Int32 × Sx := if (b_X7_isHorse_0 x1 S) = 0 then b_X7_horseOf_27 x1 x2 1 S else if (b_X7_in_0 x2 0 5 S) = 0 then b_X7_horseOf_27 x1 x2 2 S else b_X7_horseOf_27 x1 x2 0 S
def o_X7_horseOf_0 (x1 : Int32) (x2 : Int32) (S : Sx) : Prop := o_X7_isHorse_0 x1 S ∧ (((b_X7_isHorse_0 x1 S) = 0 → (o_X7_horseOf_27 x1 x2 1 S)) ∧ (¬ (b_X7_isHorse_0 x1 S) = 0 → (o_X7_in_0 x2 0 5 S ∧ (((b_X7_in_0 x2 0 5 S) = 0 → (o_X7_horseOf_27 x1 x2 2 S)) ∧ (¬ (b_X7_in_0 x2 0 5 S) = 0 → (o_X7_horseOf_27 x1 x2 0 S))))))
set_option maxRecDepth 20000 in
theorem t_X7_horseOf_0 (X : Cx p m c cX7_horseOf 3 s args RX7 D q ad) (hr : meth.sig.returnType = some .int) (hlocks : meth.locks = false) (x1 : Int32) (x2 : Int32) (S : Sx) (rv : Int32) (S' : Sx) (ho : o_X7_horseOf_0 x1 x2 S) (he : b_X7_horseOf_0 x1 x2 S = (rv, S')) : Jg p l e rm_X7_horseOf s m args below meth c 0 0 (MQ below (Qi D q ad d rv S' s.heap.size) args s 0 0 (AU ad s.heap.size)) D q ad d 3 0 [(0, .ref (ad 5)), (1, .int x1), (2, .int x2)] [] S := by
  unfold b_X7_horseOf_0 at he
  unfold o_X7_horseOf_0 at ho
  refine j_aload_n X 0 dX7_horseOf_0 rfl ?_
  refine j_aload_n X 0 dX7_horseOf_1 rfl ?_
  refine j_iload_n X 1 dX7_horseOf_2 rfl ?_
  have h2 := ho.1
  have ho := ho.2
  refine j_callVi (rest := [.ref (ad 5)]) X (c_X7_isHorse (cx_inj X) x1 S h2) cw_X7_107 kc25.1 (cl_25 kc25) rfl ⟨rfl, rfl, Nat.le_of_ble_eq_true rfl, Nat.le_of_ble_eq_true rfl⟩ rfl rfl (Nat.le_of_ble_eq_true rfl) ⟨Nat.le_of_ble_eq_true rfl, Nat.le_of_ble_eq_true rfl⟩ dX7_horseOf_3 ?_
  refine j_if_ne X 13 dX7_horseOf_6 (by decide) (fun h3 => ?_) (fun h3 => ?_)
  · rw [if_neg h3] at he
    have ho := ho.2 h3
    refine j_iload_n X 2 dX7_horseOf_13 rfl ?_
    refine j_iconst (v := 0) X dX7_horseOf_14 (by decide) ?_
    refine j_iconst (v := 5) X dX7_horseOf_15 (by decide) ?_
    have h4 := ho.1
    have ho := ho.2
    refine j_callSi (rest := [.ref (ad 5)]) X (c_X7_in (cx_inj X) x2 0 5 S h4) cw_X7_58 ⟨rfl, rfl, Nat.le_of_ble_eq_true rfl, Nat.le_of_ble_eq_true rfl⟩ rfl rfl (Nat.le_of_ble_eq_true rfl) ⟨Nat.le_of_ble_eq_true rfl, Nat.le_of_ble_eq_true rfl⟩ dX7_horseOf_16 ?_
    refine j_if_eq X 26 dX7_horseOf_19 (by decide) (fun h5 => ?_) (fun h5 => ?_)
    · rw [if_pos h5] at he
      have ho := ho.1 h5
      refine j_iconst (v := 2) X dX7_horseOf_26 (by decide) ?_
      exact t_X7_horseOf_27 X hr hlocks x1 x2 2 S _ _ ho he
    · rw [if_neg h5] at he
      have ho := ho.2 h5
      refine j_iconst (v := 0) X dX7_horseOf_22 (by decide) ?_
      refine j_goto X 27 dX7_horseOf_23 (by decide) ?_
      exact t_X7_horseOf_27 X hr hlocks x1 x2 0 S _ _ ho he
  · rw [if_pos h3] at he
    have ho := ho.1 h3
    refine j_iconst (v := 1) X dX7_horseOf_9 (by decide) ?_
    refine j_goto X 27 dX7_horseOf_10 (by decide) ?_
    exact t_X7_horseOf_27 X hr hlocks x1 x2 1 S _ _ ho he
theorem c_X7_horseOf {l : Launch} {D : va_G} {q : Nat → ClassId} {ad : Nat → Nat} {d : UInt64} (hI : inj4 ad) (x1 : Int32) (x2 : Int32) (S : Sx) (ho : o_X7_horseOf_0 x1 x2 S) : CI l yX7_horseOf cX7_horseOf 3 .int rm_X7_horseOf D q ad d [.ref (ad 5), .int x1, .int x2] S (b_X7_horseOf_0 x1 x2 S).1 (b_X7_horseOf_0 x1 x2 S).2 := ci_of hI (by decide +kernel) (Nat.le_of_ble_eq_true rfl) rfl (fun p e s m args below meth c X hr hlocks => t_X7_horseOf_0 X hr hlocks x1 x2 S _ _ ho (pe _))
end
/-! RX7.whyNot -/
abbrev rm_X7_whyNot : Room := { frames := 2, cells := 0, slots := 0, locals := 44 }
section
variable {p : Program} {l : Launch} {e : Env} {s : State} {m : MethodId} {args : Array Value} {below : List Frame} {meth : Method} {c : Code} {D : va_G} {q : Nat → ClassId} {ad : Nat → Nat} {d : UInt64}
def b_X7_whyNot_83 (w0 : Int32) (S : Sx) : Int32 := w0
set_option maxRecDepth 20000 in
theorem t_X7_whyNot_83 (X : Cx p m c cX7_whyNot 3 s args RX7 D q ad) (hr : meth.sig.returnType = some .int) (hlocks : meth.locks = false) (w0 : Int32) (S : Sx) (rv : Int32) (he : b_X7_whyNot_83 w0 S = rv) : Jg p l e rm_X7_whyNot s m args below meth c 0 0 (MQ below (Qi D q ad d rv S s.heap.size) args s 0 0 (AU ad s.heap.size)) D q ad d 3 83 [] [.int w0] S := by
  unfold b_X7_whyNot_83 at he
  exact j_iret X hr hlocks dX7_whyNot_83 he rfl
def b_X7_whyNot_82  (S : Sx) : Int32 := b_X7_whyNot_83 0 S
set_option maxRecDepth 20000 in
theorem t_X7_whyNot_82 (X : Cx p m c cX7_whyNot 3 s args RX7 D q ad) (hr : meth.sig.returnType = some .int) (hlocks : meth.locks = false) (S : Sx) (rv : Int32) (he : b_X7_whyNot_82 S = rv) : Jg p l e rm_X7_whyNot s m args below meth c 0 0 (MQ below (Qi D q ad d rv S s.heap.size) args s 0 0 (AU ad s.heap.size)) D q ad d 3 82 [] [] S := by
  unfold b_X7_whyNot_82 at he
  refine j_iconst (v := 0) X dX7_whyNot_82 (by decide) ?_
  exact t_X7_whyNot_83 X hr hlocks 0 S _ he
def b_X7_whyNot_0 (x1 : Int32) (x2 : Int32) (S : Sx) : Int32 := if (b_X7_ofHorse_0 x1 3 S) ≤ 0 then if (b_X7_ofHorse_0 x1 2 S) ≤ 15 then if (b_X7_rollerOf_0 x2 S) < 0 then if (b_X7_openOn_0 x2 S) < 0 then if (b_X7_of_0 x2 3 S) = 1 then 6 else if (b_X7_of_0 x2 0 S) ≤ 60 then b_X7_whyNot_82 S else if (b_X7_ofHorse_0 x1 1 S) = 0 then b_X7_whyNot_83 7 S else b_X7_whyNot_82 S else 5 else 4 else 3 else 2
def o_X7_whyNot_0 (x1 : Int32) (x2 : Int32) (S : Sx) : Prop := o_X7_ofHorse_0 x1 3 S ∧ (((b_X7_ofHorse_0 x1 3 S) ≤ 0 → (o_X7_ofHorse_0 x1 2 S ∧ (((b_X7_ofHorse_0 x1 2 S) ≤ 15 → (o_X7_rollerOf_0 x2 S ∧ (((b_X7_rollerOf_0 x2 S) < 0 → (o_X7_openOn_0 x2 S ∧ (((b_X7_openOn_0 x2 S) < 0 → (o_X7_of_0 x2 3 S ∧ (((b_X7_of_0 x2 3 S) = 1 → True) ∧ (¬ (b_X7_of_0 x2 3 S) = 1 → (o_X7_of_0 x2 0 S ∧ (((b_X7_of_0 x2 0 S) ≤ 60 → True) ∧ (¬ (b_X7_of_0 x2 0 S) ≤ 60 → (o_X7_ofHorse_0 x1 1 S ∧ True)))))))) ∧ (¬ (b_X7_openOn_0 x2 S) < 0 → True)))) ∧ (¬ (b_X7_rollerOf_0 x2 S) < 0 → True)))) ∧ (¬ (b_X7_ofHorse_0 x1 2 S) ≤ 15 → True)))) ∧ (¬ (b_X7_ofHorse_0 x1 3 S) ≤ 0 → True))
set_option maxRecDepth 20000 in
theorem t_X7_whyNot_0 (X : Cx p m c cX7_whyNot 3 s args RX7 D q ad) (hr : meth.sig.returnType = some .int) (hlocks : meth.locks = false) (x1 : Int32) (x2 : Int32) (S : Sx) (rv : Int32) (ho : o_X7_whyNot_0 x1 x2 S) (he : b_X7_whyNot_0 x1 x2 S = rv) : Jg p l e rm_X7_whyNot s m args below meth c 0 0 (MQ below (Qi D q ad d rv S s.heap.size) args s 0 0 (AU ad s.heap.size)) D q ad d 3 0 [(0, .ref (ad 5)), (1, .int x1), (2, .int x2)] [] S := by
  unfold b_X7_whyNot_0 at he
  unfold o_X7_whyNot_0 at ho
  refine j_aload_n X 0 dX7_whyNot_0 rfl ?_
  refine j_iload_n X 1 dX7_whyNot_1 rfl ?_
  refine j_iconst (v := 3) X dX7_whyNot_2 (by decide) ?_
  have h2 := ho.1
  have ho := ho.2
  refine j_callVi (rest := []) X (c_X7_ofHorse (cx_inj X) x1 3 S h2) cw_X7_85 kc25.1 (cl_25 kc25) rfl ⟨rfl, rfl, Nat.le_of_ble_eq_true rfl, Nat.le_of_ble_eq_true rfl⟩ rfl rfl (Nat.le_of_ble_eq_true rfl) ⟨Nat.le_of_ble_eq_true rfl, Nat.le_of_ble_eq_true rfl⟩ dX7_whyNot_3 ?_
  refine j_if_le X 11 dX7_whyNot_6 (by decide) (fun h3 => ?_) (fun h3 => ?_)
  · rw [if_pos h3] at he
    have ho := ho.1 h3
    refine j_aload_n X 0 dX7_whyNot_11 rfl ?_
    refine j_iload_n X 1 dX7_whyNot_12 rfl ?_
    refine j_iconst (v := 2) X dX7_whyNot_13 (by decide) ?_
    have h4 := ho.1
    have ho := ho.2
    refine j_callVi (rest := []) X (c_X7_ofHorse (cx_inj X) x1 2 S h4) cw_X7_85 kc25.1 (cl_25 kc25) rfl ⟨rfl, rfl, Nat.le_of_ble_eq_true rfl, Nat.le_of_ble_eq_true rfl⟩ rfl rfl (Nat.le_of_ble_eq_true rfl) ⟨Nat.le_of_ble_eq_true rfl, Nat.le_of_ble_eq_true rfl⟩ dX7_whyNot_14 ?_
    refine j_bipush (v := 15) X dX7_whyNot_17 (by decide) ?_
    refine j_icmp_le X 24 dX7_whyNot_19 (by decide) (fun h5 => ?_) (fun h5 => ?_)
    · rw [if_pos h5] at he
      have ho := ho.1 h5
      refine j_aload_n X 0 dX7_whyNot_24 rfl ?_
      refine j_iload_n X 2 dX7_whyNot_25 rfl ?_
      have h6 := ho.1
      have ho := ho.2
      refine j_callVi (rest := []) X (c_X7_rollerOf (cx_inj X) x2 S h6) cw_X7_94 kc25.1 (cl_25 kc25) rfl ⟨rfl, rfl, Nat.le_of_ble_eq_true rfl, Nat.le_of_ble_eq_true rfl⟩ rfl rfl (Nat.le_of_ble_eq_true rfl) ⟨Nat.le_of_ble_eq_true rfl, Nat.le_of_ble_eq_true rfl⟩ dX7_whyNot_26 ?_
      refine j_if_lt X 34 dX7_whyNot_29 (by decide) (fun h7 => ?_) (fun h7 => ?_)
      · rw [if_pos h7] at he
        have ho := ho.1 h7
        refine j_aload_n X 0 dX7_whyNot_34 rfl ?_
        refine j_iload_n X 2 dX7_whyNot_35 rfl ?_
        have h8 := ho.1
        have ho := ho.2
        refine j_callVi (rest := []) X (c_X7_openOn (cx_inj X) x2 S h8) cw_X7_101 kc25.1 (cl_25 kc25) rfl ⟨rfl, rfl, Nat.le_of_ble_eq_true rfl, Nat.le_of_ble_eq_true rfl⟩ rfl rfl (Nat.le_of_ble_eq_true rfl) ⟨Nat.le_of_ble_eq_true rfl, Nat.le_of_ble_eq_true rfl⟩ dX7_whyNot_36 ?_
        refine j_if_lt X 44 dX7_whyNot_39 (by decide) (fun h9 => ?_) (fun h9 => ?_)
        · rw [if_pos h9] at he
          have ho := ho.1 h9
          refine j_aload_n X 0 dX7_whyNot_44 rfl ?_
          refine j_iload_n X 2 dX7_whyNot_45 rfl ?_
          refine j_iconst (v := 3) X dX7_whyNot_46 (by decide) ?_
          have h10 := ho.1
          have ho := ho.2
          refine j_callVi (rest := []) X (c_X7_of (cx_inj X) x2 3 S h10) cw_X7_98 kc25.1 (cl_25 kc25) rfl ⟨rfl, rfl, Nat.le_of_ble_eq_true rfl, Nat.le_of_ble_eq_true rfl⟩ rfl rfl (Nat.le_of_ble_eq_true rfl) ⟨Nat.le_of_ble_eq_true rfl, Nat.le_of_ble_eq_true rfl⟩ dX7_whyNot_47 ?_
          refine j_iconst (v := 1) X dX7_whyNot_50 (by decide) ?_
          refine j_icmp_ne X 57 dX7_whyNot_51 (by decide) (fun h11 => ?_) (fun h11 => ?_)
          · rw [if_neg h11] at he
            have ho := ho.2 h11
            refine j_aload_n X 0 dX7_whyNot_57 rfl ?_
            refine j_iload_n X 2 dX7_whyNot_58 rfl ?_
            refine j_iconst (v := 0) X dX7_whyNot_59 (by decide) ?_
            have h12 := ho.1
            have ho := ho.2
            refine j_callVi (rest := []) X (c_X7_of (cx_inj X) x2 0 S h12) cw_X7_98 kc25.1 (cl_25 kc25) rfl ⟨rfl, rfl, Nat.le_of_ble_eq_true rfl, Nat.le_of_ble_eq_true rfl⟩ rfl rfl (Nat.le_of_ble_eq_true rfl) ⟨Nat.le_of_ble_eq_true rfl, Nat.le_of_ble_eq_true rfl⟩ dX7_whyNot_60 ?_
            refine j_bipush (v := 60) X dX7_whyNot_63 (by decide) ?_
            refine j_icmp_le X 82 dX7_whyNot_65 (by decide) (fun h13 => ?_) (fun h13 => ?_)
            · rw [if_pos h13] at he
              have ho := ho.1 h13
              refine j_lv [] [] rfl ?_
              exact t_X7_whyNot_82 X hr hlocks S _ he
            · rw [if_neg h13] at he
              have ho := ho.2 h13
              refine j_aload_n X 0 dX7_whyNot_68 rfl ?_
              refine j_iload_n X 1 dX7_whyNot_69 rfl ?_
              refine j_iconst (v := 1) X dX7_whyNot_70 (by decide) ?_
              have h14 := ho.1
              have ho := ho.2
              refine j_callVi (rest := []) X (c_X7_ofHorse (cx_inj X) x1 1 S h14) cw_X7_85 kc25.1 (cl_25 kc25) rfl ⟨rfl, rfl, Nat.le_of_ble_eq_true rfl, Nat.le_of_ble_eq_true rfl⟩ rfl rfl (Nat.le_of_ble_eq_true rfl) ⟨Nat.le_of_ble_eq_true rfl, Nat.le_of_ble_eq_true rfl⟩ dX7_whyNot_71 ?_
              refine j_if_ne X 82 dX7_whyNot_74 (by decide) (fun h15 => ?_) (fun h15 => ?_)
              · rw [if_neg h15] at he
                refine j_lv [] [] rfl ?_
                exact t_X7_whyNot_82 X hr hlocks S _ he
              · rw [if_pos h15] at he
                refine j_bipush (v := 7) X dX7_whyNot_77 (by decide) ?_
                refine j_goto X 83 dX7_whyNot_79 (by decide) ?_
                refine j_lv [] [] rfl ?_
                exact t_X7_whyNot_83 X hr hlocks 7 S _ he
          · rw [if_pos h11] at he
            have ho := ho.1 h11
            refine j_bipush (v := 6) X dX7_whyNot_54 (by decide) ?_
            exact j_iret X hr hlocks dX7_whyNot_56 he rfl
        · rw [if_neg h9] at he
          have ho := ho.2 h9
          refine j_iconst (v := 5) X dX7_whyNot_42 (by decide) ?_
          exact j_iret X hr hlocks dX7_whyNot_43 he rfl
      · rw [if_neg h7] at he
        have ho := ho.2 h7
        refine j_iconst (v := 4) X dX7_whyNot_32 (by decide) ?_
        exact j_iret X hr hlocks dX7_whyNot_33 he rfl
    · rw [if_neg h5] at he
      have ho := ho.2 h5
      refine j_iconst (v := 3) X dX7_whyNot_22 (by decide) ?_
      exact j_iret X hr hlocks dX7_whyNot_23 he rfl
  · rw [if_neg h3] at he
    have ho := ho.2 h3
    refine j_iconst (v := 2) X dX7_whyNot_9 (by decide) ?_
    exact j_iret X hr hlocks dX7_whyNot_10 he rfl
theorem c_X7_whyNot {l : Launch} {D : va_G} {q : Nat → ClassId} {ad : Nat → Nat} {d : UInt64} (hI : inj4 ad) (x1 : Int32) (x2 : Int32) (S : Sx) (ho : o_X7_whyNot_0 x1 x2 S) : CI l yX7_whyNot cX7_whyNot 3 .int rm_X7_whyNot D q ad d [.ref (ad 5), .int x1, .int x2] S (b_X7_whyNot_0 x1 x2 S) S := ci_of hI (by decide +kernel) (Nat.le_of_ble_eq_true rfl) rfl (fun p e s m args below meth c X hr hlocks => t_X7_whyNot_0 X hr hlocks x1 x2 S _ ho rfl)
end
/-! RX7.detailOf -/
abbrev rm_X7_detailOf : Room := { frames := 2, cells := 0, slots := 0, locals := 44 }
section
variable {p : Program} {l : Launch} {e : Env} {s : State} {m : MethodId} {args : Array Value} {below : List Frame} {meth : Method} {c : Code} {D : va_G} {q : Nat → ClassId} {ad : Nat → Nat} {d : UInt64}
def b_X7_detailOf_0 (x1 : Int32) (x2 : Int32) (x3 : Int32) (S : Sx) : Int32 := if x1 = 2 then b_X7_ofHorse_0 x2 3 S else (if x1 = 3 then b_X7_ofHorse_0 x2 2 S else (if x1 = 4 then b_X7_rollerOf_0 x3 S else (if x1 = 5 then b_X7_openOn_0 x3 S else (if x1 = 6 then x3 else b_X7_of_0 x3 0 S))))
def o_X7_detailOf_0 (x1 : Int32) (x2 : Int32) (x3 : Int32) (S : Sx) : Prop := (x1 = 2 → (o_X7_ofHorse_0 x2 3 S ∧ True)) ∧ (¬ x1 = 2 → ((x1 = 3 → (o_X7_ofHorse_0 x2 2 S ∧ True)) ∧ (¬ x1 = 3 → ((x1 = 4 → (o_X7_rollerOf_0 x3 S ∧ True)) ∧ (¬ x1 = 4 → ((x1 = 5 → (o_X7_openOn_0 x3 S ∧ True)) ∧ (¬ x1 = 5 → ((x1 = 6 → True) ∧ (¬ x1 = 6 → (o_X7_of_0 x3 0 S ∧ True))))))))))
set_option maxRecDepth 20000 in
theorem t_X7_detailOf_0 (X : Cx p m c cX7_detailOf 4 s args RX7 D q ad) (hr : meth.sig.returnType = some .int) (hlocks : meth.locks = false) (x1 : Int32) (x2 : Int32) (x3 : Int32) (S : Sx) (rv : Int32) (ho : o_X7_detailOf_0 x1 x2 x3 S) (he : b_X7_detailOf_0 x1 x2 x3 S = rv) : Jg p l e rm_X7_detailOf s m args below meth c 0 0 (MQ below (Qi D q ad d rv S s.heap.size) args s 0 0 (AU ad s.heap.size)) D q ad d 4 0 [(0, .ref (ad 5)), (1, .int x1), (2, .int x2), (3, .int x3)] [] S := by
  unfold b_X7_detailOf_0 at he
  unfold o_X7_detailOf_0 at ho
  refine j_iload_n X 1 dX7_detailOf_0 rfl ?_
  by_cases h7 : x1 = 2
  · rw [if_pos h7] at he
    have ho := ho.1 h7
    refine j_tableIn X 2 35 36 dX7_detailOf_1 (by rw [h7]; rfl) (by decide) (by decide) rfl (by decide) ?_
    refine j_aload_n X 0 dX7_detailOf_36 rfl ?_
    refine j_iload_n X 2 dX7_detailOf_37 rfl ?_
    refine j_iconst (v := 3) X dX7_detailOf_38 (by decide) ?_
    have h2 := ho.1
    have ho := ho.2
    refine j_callVi (rest := []) X (c_X7_ofHorse (cx_inj X) x2 3 S h2) cw_X7_85 kc25.1 (cl_25 kc25) rfl ⟨rfl, rfl, Nat.le_of_ble_eq_true rfl, Nat.le_of_ble_eq_true rfl⟩ rfl rfl (Nat.le_of_ble_eq_true rfl) ⟨Nat.le_of_ble_eq_true rfl, Nat.le_of_ble_eq_true rfl⟩ dX7_detailOf_39 ?_
    exact j_iret X hr hlocks dX7_detailOf_42 he rfl
  rw [if_neg h7] at he
  have ho := ho.2 h7
  by_cases h8 : x1 = 3
  · rw [if_pos h8] at he
    have ho := ho.1 h8
    refine j_tableIn X 3 42 43 dX7_detailOf_1 (by rw [h8]; rfl) (by decide) (by decide) rfl (by decide) ?_
    refine j_aload_n X 0 dX7_detailOf_43 rfl ?_
    refine j_iload_n X 2 dX7_detailOf_44 rfl ?_
    refine j_iconst (v := 2) X dX7_detailOf_45 (by decide) ?_
    have h3 := ho.1
    have ho := ho.2
    refine j_callVi (rest := []) X (c_X7_ofHorse (cx_inj X) x2 2 S h3) cw_X7_85 kc25.1 (cl_25 kc25) rfl ⟨rfl, rfl, Nat.le_of_ble_eq_true rfl, Nat.le_of_ble_eq_true rfl⟩ rfl rfl (Nat.le_of_ble_eq_true rfl) ⟨Nat.le_of_ble_eq_true rfl, Nat.le_of_ble_eq_true rfl⟩ dX7_detailOf_46 ?_
    exact j_iret X hr hlocks dX7_detailOf_49 he rfl
  rw [if_neg h8] at he
  have ho := ho.2 h8
  by_cases h9 : x1 = 4
  · rw [if_pos h9] at he
    have ho := ho.1 h9
    refine j_tableIn X 4 49 50 dX7_detailOf_1 (by rw [h9]; rfl) (by decide) (by decide) rfl (by decide) ?_
    refine j_aload_n X 0 dX7_detailOf_50 rfl ?_
    refine j_iload_n X 3 dX7_detailOf_51 rfl ?_
    have h4 := ho.1
    have ho := ho.2
    refine j_callVi (rest := []) X (c_X7_rollerOf (cx_inj X) x3 S h4) cw_X7_94 kc25.1 (cl_25 kc25) rfl ⟨rfl, rfl, Nat.le_of_ble_eq_true rfl, Nat.le_of_ble_eq_true rfl⟩ rfl rfl (Nat.le_of_ble_eq_true rfl) ⟨Nat.le_of_ble_eq_true rfl, Nat.le_of_ble_eq_true rfl⟩ dX7_detailOf_52 ?_
    exact j_iret X hr hlocks dX7_detailOf_55 he rfl
  rw [if_neg h9] at he
  have ho := ho.2 h9
  by_cases h10 : x1 = 5
  · rw [if_pos h10] at he
    have ho := ho.1 h10
    refine j_tableIn X 5 55 56 dX7_detailOf_1 (by rw [h10]; rfl) (by decide) (by decide) rfl (by decide) ?_
    refine j_aload_n X 0 dX7_detailOf_56 rfl ?_
    refine j_iload_n X 3 dX7_detailOf_57 rfl ?_
    have h5 := ho.1
    have ho := ho.2
    refine j_callVi (rest := []) X (c_X7_openOn (cx_inj X) x3 S h5) cw_X7_101 kc25.1 (cl_25 kc25) rfl ⟨rfl, rfl, Nat.le_of_ble_eq_true rfl, Nat.le_of_ble_eq_true rfl⟩ rfl rfl (Nat.le_of_ble_eq_true rfl) ⟨Nat.le_of_ble_eq_true rfl, Nat.le_of_ble_eq_true rfl⟩ dX7_detailOf_58 ?_
    exact j_iret X hr hlocks dX7_detailOf_61 he rfl
  rw [if_neg h10] at he
  have ho := ho.2 h10
  by_cases h11 : x1 = 6
  · rw [if_pos h11] at he
    have ho := ho.1 h11
    refine j_tableIn X 6 61 62 dX7_detailOf_1 (by rw [h11]; rfl) (by decide) (by decide) rfl (by decide) ?_
    refine j_iload_n X 3 dX7_detailOf_62 rfl ?_
    exact j_iret X hr hlocks dX7_detailOf_63 he rfl
  rw [if_neg h11] at he
  have ho := ho.2 h11
  have e12 := lv_neT (a := 2) h7 rfl
  have e13 := lv_neT (a := 3) h8 rfl
  have e14 := lv_neT (a := 4) h9 rfl
  have e15 := lv_neT (a := 5) h10 rfl
  have e16 := lv_neT (a := 6) h11 rfl
  refine j_tableOut X 64 dX7_detailOf_1 (by omega) (by decide) ?_
  refine j_aload_n X 0 dX7_detailOf_64 rfl ?_
  refine j_iload_n X 3 dX7_detailOf_65 rfl ?_
  refine j_iconst (v := 0) X dX7_detailOf_66 (by decide) ?_
  have h6 := ho.1
  have ho := ho.2
  refine j_callVi (rest := []) X (c_X7_of (cx_inj X) x3 0 S h6) cw_X7_98 kc25.1 (cl_25 kc25) rfl ⟨rfl, rfl, Nat.le_of_ble_eq_true rfl, Nat.le_of_ble_eq_true rfl⟩ rfl rfl (Nat.le_of_ble_eq_true rfl) ⟨Nat.le_of_ble_eq_true rfl, Nat.le_of_ble_eq_true rfl⟩ dX7_detailOf_67 ?_
  exact j_iret X hr hlocks dX7_detailOf_70 he rfl
theorem c_X7_detailOf {l : Launch} {D : va_G} {q : Nat → ClassId} {ad : Nat → Nat} {d : UInt64} (hI : inj4 ad) (x1 : Int32) (x2 : Int32) (x3 : Int32) (S : Sx) (ho : o_X7_detailOf_0 x1 x2 x3 S) : CI l yX7_detailOf cX7_detailOf 4 .int rm_X7_detailOf D q ad d [.ref (ad 5), .int x1, .int x2, .int x3] S (b_X7_detailOf_0 x1 x2 x3 S) S := ci_of hI (by decide +kernel) (Nat.le_of_ble_eq_true rfl) rfl (fun p e s m args below meth c X hr hlocks => t_X7_detailOf_0 X hr hlocks x1 x2 x3 S _ ho rfl)
end
/-! RX7.roll -/
abbrev rm_X7_roll : Room := { frames := 3, cells := 0, slots := 0, locals := 67 }
section
variable {p : Program} {l : Launch} {e : Env} {s : State} {m : MethodId} {args : Array Value} {below : List Frame} {meth : Method} {c : Code} {D : va_G} {q : Nat → ClassId} {ad : Nat → Nat} {d : UInt64}
def b_X7_roll_88 (v1 : Int32) (v2 : Int32) (v3 : Int32) (S : Sx) : Int32 × Sx := (b_X7_less_0 99 ((b_X7_of_0 v2 1 (b_X7_laysHorse_0 v1 4 v2 S)) + (v3 * (b_X7_ofHorse_0 v1 0 (b_X7_laysHorse_0 v1 4 v2 S)))) (b_X7_laysHorse_0 v1 4 v2 S), b_X7_laysHorse_0 v1 4 v2 S)
def o_X7_roll_88 (v1 : Int32) (v2 : Int32) (v3 : Int32) (S : Sx) : Prop := o_X7_laysHorse_0 v1 4 v2 S ∧ (o_X7_of_0 v2 1 (b_X7_laysHorse_0 v1 4 v2 S) ∧ (o_X7_ofHorse_0 v1 0 (b_X7_laysHorse_0 v1 4 v2 S) ∧ True))
set_option maxRecDepth 20000 in
theorem t_X7_roll_88 (X : Cx p m c cX7_roll 5 s args RX7 D q ad) (hr : meth.sig.returnType = some .int) (hlocks : meth.locks = false) (v1 : Int32) (v2 : Int32) (v3 : Int32) (S : Sx) (rv : Int32) (S' : Sx) (ho : o_X7_roll_88 v1 v2 v3 S) (he : b_X7_roll_88 v1 v2 v3 S = (rv, S')) : Jg p l e rm_X7_roll s m args below meth c 0 0 (MQ below (Qi D q ad d rv S' s.heap.size) args s 0 0 (AU ad s.heap.size)) D q ad d 5 88 [(0, .ref (ad 5)), (1, .int v1), (2, .int v2), (3, .int v3)] [] S := by
  unfold b_X7_roll_88 at he
  unfold o_X7_roll_88 at ho
  refine j_aload_n X 0 dX7_roll_88 rfl ?_
  refine j_iload_n X 1 dX7_roll_89 rfl ?_
  refine j_iconst (v := 4) X dX7_roll_90 (by decide) ?_
  refine j_iload_n X 2 dX7_roll_91 rfl ?_
  have h2 := ho.1
  have ho := ho.2
  refine j_callVv (rest := []) X (c_X7_laysHorse (cx_inj X) v1 4 v2 S h2) cw_X7_104 kc25.1 (cl_25 kc25) rfl ⟨rfl, rfl, Nat.le_of_ble_eq_true rfl, Nat.le_of_ble_eq_true rfl⟩ rfl rfl (Nat.le_of_ble_eq_true rfl) ⟨Nat.le_of_ble_eq_true rfl, Nat.le_of_ble_eq_true rfl⟩ dX7_roll_92 ?_
  refine j_bipush (v := 99) X dX7_roll_95 (by decide) ?_
  refine j_aload_n X 0 dX7_roll_97 rfl ?_
  refine j_iload_n X 2 dX7_roll_98 rfl ?_
  refine j_iconst (v := 1) X dX7_roll_99 (by decide) ?_
  have h3 := ho.1
  have ho := ho.2
  refine j_callVi (rest := [.int 99]) X (c_X7_of (cx_inj X) v2 1 (b_X7_laysHorse_0 v1 4 v2 S) h3) cw_X7_98 kc25.1 (cl_25 kc25) rfl ⟨rfl, rfl, Nat.le_of_ble_eq_true rfl, Nat.le_of_ble_eq_true rfl⟩ rfl rfl (Nat.le_of_ble_eq_true rfl) ⟨Nat.le_of_ble_eq_true rfl, Nat.le_of_ble_eq_true rfl⟩ dX7_roll_100 ?_
  refine j_iload_n X 3 dX7_roll_103 rfl ?_
  refine j_aload_n X 0 dX7_roll_104 rfl ?_
  refine j_iload_n X 1 dX7_roll_105 rfl ?_
  refine j_iconst (v := 0) X dX7_roll_106 (by decide) ?_
  have h4 := ho.1
  have ho := ho.2
  refine j_callVi (rest := [.int v3, .int (b_X7_of_0 v2 1 (b_X7_laysHorse_0 v1 4 v2 S)), .int 99]) X (c_X7_ofHorse (cx_inj X) v1 0 (b_X7_laysHorse_0 v1 4 v2 S) h4) cw_X7_85 kc25.1 (cl_25 kc25) rfl ⟨rfl, rfl, Nat.le_of_ble_eq_true rfl, Nat.le_of_ble_eq_true rfl⟩ rfl rfl (Nat.le_of_ble_eq_true rfl) ⟨Nat.le_of_ble_eq_true rfl, Nat.le_of_ble_eq_true rfl⟩ dX7_roll_107 ?_
  refine j_imul X dX7_roll_110 ?_
  refine j_iadd X dX7_roll_111 ?_
  refine j_callSi (rest := []) X (c_X7_less (cx_inj X) 99 ((b_X7_of_0 v2 1 (b_X7_laysHorse_0 v1 4 v2 S)) + (v3 * (b_X7_ofHorse_0 v1 0 (b_X7_laysHorse_0 v1 4 v2 S)))) (b_X7_laysHorse_0 v1 4 v2 S)) cw_X7_120 ⟨rfl, rfl, Nat.le_of_ble_eq_true rfl, Nat.le_of_ble_eq_true rfl⟩ rfl rfl (Nat.le_of_ble_eq_true rfl) ⟨Nat.le_of_ble_eq_true rfl, Nat.le_of_ble_eq_true rfl⟩ dX7_roll_112 ?_
  exact j_iret X hr hlocks dX7_roll_115 (congrArg Prod.fst he) (congrArg Prod.snd he)
def b_X7_roll_36 (v1 : Int32) (v2 : Int32) (v3 : Int32) (w0 : Int32) (S : Sx) : Int32 × Sx := if ((b_X7_fails_0 w0 S).1) = 0 then if (b_X7_whyNot_0 v1 v2 ((b_X7_fails_0 w0 S).2)) ≤ 0 then b_X7_roll_88 v1 v2 v3 (b_X7_laysHorse_0 v1 3 v3 (b_X7_keeps_0 6 ((b_X7_fails_0 w0 S).2))) else ((b_X7_refuses_0 3 (b_X7_whyNot_0 v1 v2 ((b_X7_fails_0 w0 S).2)) (b_X7_detailOf_0 (b_X7_whyNot_0 v1 v2 ((b_X7_fails_0 w0 S).2)) v1 v2 ((b_X7_fails_0 w0 S).2)) ((b_X7_fails_0 w0 S).2)).1, (b_X7_refuses_0 3 (b_X7_whyNot_0 v1 v2 ((b_X7_fails_0 w0 S).2)) (b_X7_detailOf_0 (b_X7_whyNot_0 v1 v2 ((b_X7_fails_0 w0 S).2)) v1 v2 ((b_X7_fails_0 w0 S).2)) ((b_X7_fails_0 w0 S).2)).2) else (0, (b_X7_fails_0 w0 S).2)
def o_X7_roll_36 (v1 : Int32) (v2 : Int32) (v3 : Int32) (w0 : Int32) (S : Sx) : Prop := o_X7_fails_0 w0 S ∧ ((((b_X7_fails_0 w0 S).1) = 0 → (o_X7_whyNot_0 v1 v2 ((b_X7_fails_0 w0 S).2) ∧ (((b_X7_whyNot_0 v1 v2 ((b_X7_fails_0 w0 S).2)) ≤ 0 → (o_X7_keeps_0 6 ((b_X7_fails_0 w0 S).2) ∧ (o_X7_laysHorse_0 v1 3 v3 (b_X7_keeps_0 6 ((b_X7_fails_0 w0 S).2)) ∧ (o_X7_roll_88 v1 v2 v3 (b_X7_laysHorse_0 v1 3 v3 (b_X7_keeps_0 6 ((b_X7_fails_0 w0 S).2))))))) ∧ (¬ (b_X7_whyNot_0 v1 v2 ((b_X7_fails_0 w0 S).2)) ≤ 0 → (o_X7_detailOf_0 (b_X7_whyNot_0 v1 v2 ((b_X7_fails_0 w0 S).2)) v1 v2 ((b_X7_fails_0 w0 S).2) ∧ True))))) ∧ (¬ ((b_X7_fails_0 w0 S).1) = 0 → True))
set_option maxRecDepth 20000 in
theorem t_X7_roll_36 (X : Cx p m c cX7_roll 5 s args RX7 D q ad) (hr : meth.sig.returnType = some .int) (hlocks : meth.locks = false) (v1 : Int32) (v2 : Int32) (v3 : Int32) (w0 : Int32) (S : Sx) (rv : Int32) (S' : Sx) (ho : o_X7_roll_36 v1 v2 v3 w0 S) (he : b_X7_roll_36 v1 v2 v3 w0 S = (rv, S')) : Jg p l e rm_X7_roll s m args below meth c 0 0 (MQ below (Qi D q ad d rv S' s.heap.size) args s 0 0 (AU ad s.heap.size)) D q ad d 5 36 [(0, .ref (ad 5)), (1, .int v1), (2, .int v2), (3, .int v3)] [.int w0, .ref (ad 5)] S := by
  unfold b_X7_roll_36 at he
  unfold o_X7_roll_36 at ho
  have h2 := ho.1
  have ho := ho.2
  refine j_callVi (rest := []) X (c_X7_fails (cx_inj X) w0 S h2) cw_X7_70 kc25.1 (cl_25 kc25) rfl ⟨rfl, rfl, Nat.le_of_ble_eq_true rfl, Nat.le_of_ble_eq_true rfl⟩ rfl rfl (Nat.le_of_ble_eq_true rfl) ⟨Nat.le_of_ble_eq_true rfl, Nat.le_of_ble_eq_true rfl⟩ dX7_roll_36 ?_
  refine j_if_eq X 44 dX7_roll_39 (by decide) (fun h3 => ?_) (fun h3 => ?_)
  · rw [if_pos h3] at he
    have ho := ho.1 h3
    refine j_aload_n X 0 dX7_roll_44 rfl ?_
    refine j_iload_n X 1 dX7_roll_45 rfl ?_
    refine j_iload_n X 2 dX7_roll_46 rfl ?_
    have h4 := ho.1
    have ho := ho.2
    refine j_callVi (rest := []) X (c_X7_whyNot (cx_inj X) v1 v2 ((b_X7_fails_0 w0 S).2) h4) cw_X7_114 kc25.1 (cl_25 kc25) rfl ⟨rfl, rfl, Nat.le_of_ble_eq_true rfl, Nat.le_of_ble_eq_true rfl⟩ rfl rfl (Nat.le_of_ble_eq_true rfl) ⟨Nat.le_of_ble_eq_true rfl, Nat.le_of_ble_eq_true rfl⟩ dX7_roll_47 ?_
    refine j_istore X [(4, .int (b_X7_whyNot_0 v1 v2 ((b_X7_fails_0 w0 S).2))), (0, .ref (ad 5)), (1, .int v1), (2, .int v2), (3, .int v3)] dX7_roll_50 (by decide) rfl ?_
    refine j_iload X 0 dX7_roll_52 rfl ?_
    refine j_if_le X 73 dX7_roll_54 (by decide) (fun h5 => ?_) (fun h5 => ?_)
    · rw [if_pos h5] at he
      have ho := ho.1 h5
      refine j_aload_n X 1 dX7_roll_73 rfl ?_
      refine j_aload_n X 1 dX7_roll_74 rfl ?_
      refine gf_25_0 X m_fl_X7_7 kc25 dX7_roll_75 ?_
      have h6 := ho.1
      have ho := ho.2
      refine j_callVv (rest := []) X (c_X7_keeps (cx_inj X) 6 (isA_of26 kc26) ((b_X7_fails_0 w0 S).2) h6) cw_X7_62 kc25.1 (cl_25 kc25) rfl ⟨rfl, rfl, Nat.le_of_ble_eq_true rfl, Nat.le_of_ble_eq_true rfl⟩ rfl rfl (Nat.le_of_ble_eq_true rfl) ⟨Nat.le_of_ble_eq_true rfl, Nat.le_of_ble_eq_true rfl⟩ dX7_roll_78 ?_
      refine j_aload_n X 1 dX7_roll_81 rfl ?_
      refine j_iload_n X 2 dX7_roll_82 rfl ?_
      refine j_iconst (v := 3) X dX7_roll_83 (by decide) ?_
      refine j_iload_n X 4 dX7_roll_84 rfl ?_
      have h7 := ho.1
      have ho := ho.2
      refine j_callVv (rest := []) X (c_X7_laysHorse (cx_inj X) v1 3 v3 (b_X7_keeps_0 6 ((b_X7_fails_0 w0 S).2)) h7) cw_X7_104 kc25.1 (cl_25 kc25) rfl ⟨rfl, rfl, Nat.le_of_ble_eq_true rfl, Nat.le_of_ble_eq_true rfl⟩ rfl rfl (Nat.le_of_ble_eq_true rfl) ⟨Nat.le_of_ble_eq_true rfl, Nat.le_of_ble_eq_true rfl⟩ dX7_roll_85 ?_
      refine j_lv [1, 2, 3, 4] [(0, .ref (ad 5)), (1, .int v1), (2, .int v2), (3, .int v3)] rfl ?_
      exact t_X7_roll_88 X hr hlocks v1 v2 v3 (b_X7_laysHorse_0 v1 3 v3 (b_X7_keeps_0 6 ((b_X7_fails_0 w0 S).2))) _ _ ho he
    · rw [if_neg h5] at he
      have ho := ho.2 h5
      refine j_aload_n X 1 dX7_roll_57 rfl ?_
      refine j_iconst (v := 3) X dX7_roll_58 (by decide) ?_
      refine j_iload X 0 dX7_roll_59 rfl ?_
      refine j_aload_n X 1 dX7_roll_61 rfl ?_
      refine j_iload X 0 dX7_roll_62 rfl ?_
      refine j_iload_n X 2 dX7_roll_64 rfl ?_
      refine j_iload_n X 3 dX7_roll_65 rfl ?_
      have h8 := ho.1
      have ho := ho.2
      refine j_callVi (rest := [.int (b_X7_whyNot_0 v1 v2 ((b_X7_fails_0 w0 S).2)), .int 3, .ref (ad 5)]) X (c_X7_detailOf (cx_inj X) (b_X7_whyNot_0 v1 v2 ((b_X7_fails_0 w0 S).2)) v1 v2 ((b_X7_fails_0 w0 S).2) h8) cw_X7_117 kc25.1 (cl_25 kc25) rfl ⟨rfl, rfl, Nat.le_of_ble_eq_true rfl, Nat.le_of_ble_eq_true rfl⟩ rfl rfl (Nat.le_of_ble_eq_true rfl) ⟨Nat.le_of_ble_eq_true rfl, Nat.le_of_ble_eq_true rfl⟩ dX7_roll_66 ?_
      refine j_callVi (rest := []) X (c_X7_refuses (cx_inj X) 3 (b_X7_whyNot_0 v1 v2 ((b_X7_fails_0 w0 S).2)) (b_X7_detailOf_0 (b_X7_whyNot_0 v1 v2 ((b_X7_fails_0 w0 S).2)) v1 v2 ((b_X7_fails_0 w0 S).2)) ((b_X7_fails_0 w0 S).2)) cw_X7_77 kc25.1 (cl_25 kc25) rfl ⟨rfl, rfl, Nat.le_of_ble_eq_true rfl, Nat.le_of_ble_eq_true rfl⟩ rfl rfl (Nat.le_of_ble_eq_true rfl) ⟨Nat.le_of_ble_eq_true rfl, Nat.le_of_ble_eq_true rfl⟩ dX7_roll_69 ?_
      exact j_iret X hr hlocks dX7_roll_72 (congrArg Prod.fst he) (congrArg Prod.snd he)
  · rw [if_neg h3] at he
    have ho := ho.2 h3
    refine j_iconst (v := 0) X dX7_roll_42 (by decide) ?_
    exact j_iret X hr hlocks dX7_roll_43 (congrArg Prod.fst he) (congrArg Prod.snd he)
def b_X7_roll_17 (v1 : Int32) (v2 : Int32) (v3 : Int32) (S : Sx) : Int32 × Sx := b_X7_roll_36 v1 v2 v3 1 S
def o_X7_roll_17 (v1 : Int32) (v2 : Int32) (v3 : Int32) (S : Sx) : Prop := o_X7_roll_36 v1 v2 v3 1 S
set_option maxRecDepth 20000 in
theorem t_X7_roll_17 (X : Cx p m c cX7_roll 5 s args RX7 D q ad) (hr : meth.sig.returnType = some .int) (hlocks : meth.locks = false) (v1 : Int32) (v2 : Int32) (v3 : Int32) (S : Sx) (rv : Int32) (S' : Sx) (ho : o_X7_roll_17 v1 v2 v3 S) (he : b_X7_roll_17 v1 v2 v3 S = (rv, S')) : Jg p l e rm_X7_roll s m args below meth c 0 0 (MQ below (Qi D q ad d rv S' s.heap.size) args s 0 0 (AU ad s.heap.size)) D q ad d 5 17 [(0, .ref (ad 5)), (1, .int v1), (2, .int v2), (3, .int v3)] [.ref (ad 5)] S := by
  unfold b_X7_roll_17 at he
  unfold o_X7_roll_17 at ho
  refine j_iconst (v := 1) X dX7_roll_17 (by decide) ?_
  refine j_goto X 36 dX7_roll_18 (by decide) ?_
  exact t_X7_roll_36 X hr hlocks v1 v2 v3 1 S _ _ ho he
def b_X7_roll_0 (x1 : Int32) (x2 : Int32) (x3 : Int32) (S : Sx) : Int32 × Sx := if (b_X7_isHorse_0 x1 S) = 0 then b_X7_roll_17 x1 x2 x3 S else if (b_X7_isPitch_0 x2 S) = 0 then b_X7_roll_17 x1 x2 x3 S else if (b_X7_in_0 x3 1 6 S) = 0 then b_X7_roll_36 x1 x2 x3 2 S else b_X7_roll_36 x1 x2 x3 0 S
def o_X7_roll_0 (x1 : Int32) (x2 : Int32) (x3 : Int32) (S : Sx) : Prop := o_X7_isHorse_0 x1 S ∧ (((b_X7_isHorse_0 x1 S) = 0 → (o_X7_roll_17 x1 x2 x3 S)) ∧ (¬ (b_X7_isHorse_0 x1 S) = 0 → (o_X7_isPitch_0 x2 S ∧ (((b_X7_isPitch_0 x2 S) = 0 → (o_X7_roll_17 x1 x2 x3 S)) ∧ (¬ (b_X7_isPitch_0 x2 S) = 0 → (o_X7_in_0 x3 1 6 S ∧ (((b_X7_in_0 x3 1 6 S) = 0 → (o_X7_roll_36 x1 x2 x3 2 S)) ∧ (¬ (b_X7_in_0 x3 1 6 S) = 0 → (o_X7_roll_36 x1 x2 x3 0 S)))))))))
set_option maxRecDepth 20000 in
theorem t_X7_roll_0 (X : Cx p m c cX7_roll 5 s args RX7 D q ad) (hr : meth.sig.returnType = some .int) (hlocks : meth.locks = false) (x1 : Int32) (x2 : Int32) (x3 : Int32) (S : Sx) (rv : Int32) (S' : Sx) (ho : o_X7_roll_0 x1 x2 x3 S) (he : b_X7_roll_0 x1 x2 x3 S = (rv, S')) : Jg p l e rm_X7_roll s m args below meth c 0 0 (MQ below (Qi D q ad d rv S' s.heap.size) args s 0 0 (AU ad s.heap.size)) D q ad d 5 0 [(0, .ref (ad 5)), (1, .int x1), (2, .int x2), (3, .int x3)] [] S := by
  unfold b_X7_roll_0 at he
  unfold o_X7_roll_0 at ho
  refine j_aload_n X 0 dX7_roll_0 rfl ?_
  refine j_aload_n X 0 dX7_roll_1 rfl ?_
  refine j_iload_n X 1 dX7_roll_2 rfl ?_
  have h2 := ho.1
  have ho := ho.2
  refine j_callVi (rest := [.ref (ad 5)]) X (c_X7_isHorse (cx_inj X) x1 S h2) cw_X7_107 kc25.1 (cl_25 kc25) rfl ⟨rfl, rfl, Nat.le_of_ble_eq_true rfl, Nat.le_of_ble_eq_true rfl⟩ rfl rfl (Nat.le_of_ble_eq_true rfl) ⟨Nat.le_of_ble_eq_true rfl, Nat.le_of_ble_eq_true rfl⟩ dX7_roll_3 ?_
  refine j_if_eq X 17 dX7_roll_6 (by decide) (fun h3 => ?_) (fun h3 => ?_)
  · rw [if_pos h3] at he
    have ho := ho.1 h3
    exact t_X7_roll_17 X hr hlocks x1 x2 x3 S _ _ ho he
  · rw [if_neg h3] at he
    have ho := ho.2 h3
    refine j_aload_n X 0 dX7_roll_9 rfl ?_
    refine j_iload_n X 2 dX7_roll_10 rfl ?_
    have h4 := ho.1
    have ho := ho.2
    refine j_callVi (rest := [.ref (ad 5)]) X (c_X7_isPitch (cx_inj X) x2 S h4) cw_X7_91 kc25.1 (cl_25 kc25) rfl ⟨rfl, rfl, Nat.le_of_ble_eq_true rfl, Nat.le_of_ble_eq_true rfl⟩ rfl rfl (Nat.le_of_ble_eq_true rfl) ⟨Nat.le_of_ble_eq_true rfl, Nat.le_of_ble_eq_true rfl⟩ dX7_roll_11 ?_
    refine j_if_ne X 21 dX7_roll_14 (by decide) (fun h5 => ?_) (fun h5 => ?_)
    · rw [if_neg h5] at he
      have ho := ho.2 h5
      refine j_iload_n X 3 dX7_roll_21 rfl ?_
      refine j_iconst (v := 1) X dX7_roll_22 (by decide) ?_
      refine j_bipush (v := 6) X dX7_roll_23 (by decide) ?_
      have h6 := ho.1
      have ho := ho.2
      refine j_callSi (rest := [.ref (ad 5)]) X (c_X7_in (cx_inj X) x3 1 6 S h6) cw_X7_58 ⟨rfl, rfl, Nat.le_of_ble_eq_true rfl, Nat.le_of_ble_eq_true rfl⟩ rfl rfl (Nat.le_of_ble_eq_true rfl) ⟨Nat.le_of_ble_eq_true rfl, Nat.le_of_ble_eq_true rfl⟩ dX7_roll_25 ?_
      refine j_if_eq X 35 dX7_roll_28 (by decide) (fun h7 => ?_) (fun h7 => ?_)
      · rw [if_pos h7] at he
        have ho := ho.1 h7
        refine j_iconst (v := 2) X dX7_roll_35 (by decide) ?_
        exact t_X7_roll_36 X hr hlocks x1 x2 x3 2 S _ _ ho he
      · rw [if_neg h7] at he
        have ho := ho.2 h7
        refine j_iconst (v := 0) X dX7_roll_31 (by decide) ?_
        refine j_goto X 36 dX7_roll_32 (by decide) ?_
        exact t_X7_roll_36 X hr hlocks x1 x2 x3 0 S _ _ ho he
    · rw [if_pos h5] at he
      have ho := ho.1 h5
      exact t_X7_roll_17 X hr hlocks x1 x2 x3 S _ _ ho he
theorem c_X7_roll {l : Launch} {D : va_G} {q : Nat → ClassId} {ad : Nat → Nat} {d : UInt64} (hI : inj4 ad) (x1 : Int32) (x2 : Int32) (x3 : Int32) (S : Sx) (ho : o_X7_roll_0 x1 x2 x3 S) : CI l yX7_roll cX7_roll 5 .int rm_X7_roll D q ad d [.ref (ad 5), .int x1, .int x2, .int x3] S (b_X7_roll_0 x1 x2 x3 S).1 (b_X7_roll_0 x1 x2 x3 S).2 := ci_of hI (by decide +kernel) (Nat.le_of_ble_eq_true rfl) rfl (fun p e s m args below meth c X hr hlocks => t_X7_roll_0 X hr hlocks x1 x2 x3 S _ _ ho (pe _))
end
/-! RX7.bestHorse -/
abbrev rm_X7_bestHorse : Room := { frames := 3, cells := 0, slots := 0, locals := 66 }
section
variable {p : Program} {l : Launch} {e : Env} {s : State} {m : MethodId} {args : Array Value} {below : List Frame} {meth : Method} {c : Code} {D : va_G} {q : Nat → ClassId} {ad : Nat → Nat} {d : UInt64}
def b_X7_bestHorse_126 (w0 : Int32) (S : Sx) : Int32 × Sx := (w0, S)
set_option maxRecDepth 20000 in
theorem t_X7_bestHorse_126 (X : Cx p m c cX7_bestHorse 5 s args RX7 D q ad) (hr : meth.sig.returnType = some .int) (hlocks : meth.locks = false) (w0 : Int32) (S : Sx) (rv : Int32) (S' : Sx) (he : b_X7_bestHorse_126 w0 S = (rv, S')) : Jg p l e rm_X7_bestHorse s m args below meth c 0 0 (MQ below (Qi D q ad d rv S' s.heap.size) args s 0 0 (AU ad s.heap.size)) D q ad d 5 126 [] [.int w0] S := by
  unfold b_X7_bestHorse_126 at he
  exact j_iret X hr hlocks dX7_bestHorse_126 (congrArg Prod.fst he) (congrArg Prod.snd he)
def b_X7_bestHorse_115 (v2 : Int32) (w0 : Int32) (S : Sx) : Int32 × Sx := if ((b_X7_fails_0 w0 S).1) = 0 then b_X7_bestHorse_126 v2 ((b_X7_fails_0 w0 S).2) else b_X7_bestHorse_126 0 ((b_X7_fails_0 w0 S).2)
def o_X7_bestHorse_115 (v2 : Int32) (w0 : Int32) (S : Sx) : Prop := o_X7_fails_0 w0 S ∧ True
set_option maxRecDepth 20000 in
theorem t_X7_bestHorse_115 (X : Cx p m c cX7_bestHorse 5 s args RX7 D q ad) (hr : meth.sig.returnType = some .int) (hlocks : meth.locks = false) (v2 : Int32) (w0 : Int32) (S : Sx) (rv : Int32) (S' : Sx) (ho : o_X7_bestHorse_115 v2 w0 S) (he : b_X7_bestHorse_115 v2 w0 S = (rv, S')) : Jg p l e rm_X7_bestHorse s m args below meth c 0 0 (MQ below (Qi D q ad d rv S' s.heap.size) args s 0 0 (AU ad s.heap.size)) D q ad d 5 115 [(2, .int v2)] [.int w0, .ref (ad 5)] S := by
  unfold b_X7_bestHorse_115 at he
  unfold o_X7_bestHorse_115 at ho
  have h2 := ho.1
  have ho := ho.2
  refine j_callVi (rest := []) X (c_X7_fails (cx_inj X) w0 S h2) cw_X7_70 kc25.1 (cl_25 kc25) rfl ⟨rfl, rfl, Nat.le_of_ble_eq_true rfl, Nat.le_of_ble_eq_true rfl⟩ rfl rfl (Nat.le_of_ble_eq_true rfl) ⟨Nat.le_of_ble_eq_true rfl, Nat.le_of_ble_eq_true rfl⟩ dX7_bestHorse_115 ?_
  refine j_if_eq X 125 dX7_bestHorse_118 (by decide) (fun h3 => ?_) (fun h3 => ?_)
  · rw [if_pos h3] at he
    refine j_iload_n X 0 dX7_bestHorse_125 rfl ?_
    refine j_lv [] [] rfl ?_
    exact t_X7_bestHorse_126 X hr hlocks v2 ((b_X7_fails_0 w0 S).2) _ _ he
  · rw [if_neg h3] at he
    refine j_iconst (v := 0) X dX7_bestHorse_121 (by decide) ?_
    refine j_goto X 126 dX7_bestHorse_122 (by decide) ?_
    refine j_lv [] [] rfl ?_
    exact t_X7_bestHorse_126 X hr hlocks 0 ((b_X7_fails_0 w0 S).2) _ _ he
def b_X7_bestHorse_99 (kk : Int32 → Int32 → Int32 → Sx → Int32 × Sx) (v1 : Int32) (v2 : Int32) (v3 : Int32) (S : Sx) : Int32 × Sx := kk v1 v2 (v3 + 1) S
def o_X7_bestHorse_99 (ok : Int32 → Int32 → Int32 → Sx → Prop) (v1 : Int32) (v2 : Int32) (v3 : Int32) (S : Sx) : Prop := ok v1 v2 (v3 + 1) S
set_option maxRecDepth 20000 in
theorem t_X7_bestHorse_99 (X : Cx p m c cX7_bestHorse 5 s args RX7 D q ad) (hr : meth.sig.returnType = some .int) (hlocks : meth.locks = false) (kk : Int32 → Int32 → Int32 → Sx → Int32 × Sx) (ok : Int32 → Int32 → Int32 → Sx → Prop) (hkk : ∀ (v1 : Int32) (v2 : Int32) (v3 : Int32) (S : Sx) (rv : Int32) (S' : Sx) (ho : ok v1 v2 v3 S) (he : kk v1 v2 v3 S = (rv, S')), Jg p l e rm_X7_bestHorse s m args below meth c 0 0 (MQ below (Qi D q ad d rv S' s.heap.size) args s 0 0 (AU ad s.heap.size)) D q ad d 5 26 [(0, .ref (ad 5)), (1, .int v1), (2, .int v2), (3, .int v3)] [] S) (v1 : Int32) (v2 : Int32) (v3 : Int32) (S : Sx) (rv : Int32) (S' : Sx) (ho : o_X7_bestHorse_99 ok v1 v2 v3 S) (he : b_X7_bestHorse_99 kk v1 v2 v3 S = (rv, S')) : Jg p l e rm_X7_bestHorse s m args below meth c 0 0 (MQ below (Qi D q ad d rv S' s.heap.size) args s 0 0 (AU ad s.heap.size)) D q ad d 5 99 [(0, .ref (ad 5)), (1, .int v1), (2, .int v2), (3, .int v3)] [] S := by
  unfold b_X7_bestHorse_99 at he
  unfold o_X7_bestHorse_99 at ho
  refine j_iinc X 3 (v3 + 1) [(3, .int (v3 + 1)), (0, .ref (ad 5)), (1, .int v1), (2, .int v2)] dX7_bestHorse_99 rfl rfl (by decide) rfl ?_
  refine j_goto X 26 dX7_bestHorse_102 (by decide) ?_
  refine j_lv [1, 2, 3, 0] [(0, .ref (ad 5)), (1, .int v1), (2, .int v2), (3, .int (v3 + 1))] rfl ?_
  exact hkk v1 v2 (v3 + 1) S _ _ ho he
def b_X7_bestHorse_97 (kk : Int32 → Int32 → Int32 → Sx → Int32 × Sx) (v1 : Int32) (v3 : Int32) (S : Sx) : Int32 × Sx := b_X7_bestHorse_99 kk v1 v3 v3 S
def o_X7_bestHorse_97 (ok : Int32 → Int32 → Int32 → Sx → Prop) (v1 : Int32) (v3 : Int32) (S : Sx) : Prop := o_X7_bestHorse_99 ok v1 v3 v3 S
set_option maxRecDepth 20000 in
theorem t_X7_bestHorse_97 (X : Cx p m c cX7_bestHorse 5 s args RX7 D q ad) (hr : meth.sig.returnType = some .int) (hlocks : meth.locks = false) (kk : Int32 → Int32 → Int32 → Sx → Int32 × Sx) (ok : Int32 → Int32 → Int32 → Sx → Prop) (hkk : ∀ (v1 : Int32) (v2 : Int32) (v3 : Int32) (S : Sx) (rv : Int32) (S' : Sx) (ho : ok v1 v2 v3 S) (he : kk v1 v2 v3 S = (rv, S')), Jg p l e rm_X7_bestHorse s m args below meth c 0 0 (MQ below (Qi D q ad d rv S' s.heap.size) args s 0 0 (AU ad s.heap.size)) D q ad d 5 26 [(0, .ref (ad 5)), (1, .int v1), (2, .int v2), (3, .int v3)] [] S) (v1 : Int32) (v3 : Int32) (S : Sx) (rv : Int32) (S' : Sx) (ho : o_X7_bestHorse_97 ok v1 v3 S) (he : b_X7_bestHorse_97 kk v1 v3 S = (rv, S')) : Jg p l e rm_X7_bestHorse s m args below meth c 0 0 (MQ below (Qi D q ad d rv S' s.heap.size) args s 0 0 (AU ad s.heap.size)) D q ad d 5 97 [(0, .ref (ad 5)), (1, .int v1), (3, .int v3)] [] S := by
  unfold b_X7_bestHorse_97 at he
  unfold o_X7_bestHorse_97 at ho
  refine j_iload_n X 2 dX7_bestHorse_97 rfl ?_
  refine j_istore_n X [(2, .int v3), (0, .ref (ad 5)), (1, .int v1), (3, .int v3)] dX7_bestHorse_98 (by decide) rfl ?_
  refine j_lv [1, 2, 0, 3] [(0, .ref (ad 5)), (1, .int v1), (2, .int v3), (3, .int v3)] rfl ?_
  exact t_X7_bestHorse_99 X hr hlocks kk ok hkk v1 v3 v3 S _ _ ho he
def b_X7_bestHorse_70 (kk : Int32 → Int32 → Int32 → Sx → Int32 × Sx) (v1 : Int32) (v2 : Int32) (v3 : Int32) (w0 : Int32) (S : Sx) : Int32 × Sx := if 0 < w0 then b_X7_bestHorse_97 kk v1 v3 S else if w0 = 0 then if (b_X7_ofHorse_0 v2 2 S) ≤ (b_X7_ofHorse_0 v3 2 S) then b_X7_bestHorse_99 kk v1 v2 v3 S else b_X7_bestHorse_97 kk v1 v3 S else b_X7_bestHorse_99 kk v1 v2 v3 S
def o_X7_bestHorse_70 (ok : Int32 → Int32 → Int32 → Sx → Prop) (v1 : Int32) (v2 : Int32) (v3 : Int32) (w0 : Int32) (S : Sx) : Prop := (0 < w0 → (o_X7_bestHorse_97 ok v1 v3 S)) ∧ (¬ 0 < w0 → ((w0 = 0 → (o_X7_ofHorse_0 v3 2 S ∧ (o_X7_ofHorse_0 v2 2 S ∧ (((b_X7_ofHorse_0 v2 2 S) ≤ (b_X7_ofHorse_0 v3 2 S) → (o_X7_bestHorse_99 ok v1 v2 v3 S)) ∧ (¬ (b_X7_ofHorse_0 v2 2 S) ≤ (b_X7_ofHorse_0 v3 2 S) → (o_X7_bestHorse_97 ok v1 v3 S)))))) ∧ (¬ w0 = 0 → (o_X7_bestHorse_99 ok v1 v2 v3 S))))
set_option maxRecDepth 20000 in
theorem t_X7_bestHorse_70 (X : Cx p m c cX7_bestHorse 5 s args RX7 D q ad) (hr : meth.sig.returnType = some .int) (hlocks : meth.locks = false) (kk : Int32 → Int32 → Int32 → Sx → Int32 × Sx) (ok : Int32 → Int32 → Int32 → Sx → Prop) (hkk : ∀ (v1 : Int32) (v2 : Int32) (v3 : Int32) (S : Sx) (rv : Int32) (S' : Sx) (ho : ok v1 v2 v3 S) (he : kk v1 v2 v3 S = (rv, S')), Jg p l e rm_X7_bestHorse s m args below meth c 0 0 (MQ below (Qi D q ad d rv S' s.heap.size) args s 0 0 (AU ad s.heap.size)) D q ad d 5 26 [(0, .ref (ad 5)), (1, .int v1), (2, .int v2), (3, .int v3)] [] S) (v1 : Int32) (v2 : Int32) (v3 : Int32) (w0 : Int32) (S : Sx) (rv : Int32) (S' : Sx) (ho : o_X7_bestHorse_70 ok v1 v2 v3 w0 S) (he : b_X7_bestHorse_70 kk v1 v2 v3 w0 S = (rv, S')) : Jg p l e rm_X7_bestHorse s m args below meth c 0 0 (MQ below (Qi D q ad d rv S' s.heap.size) args s 0 0 (AU ad s.heap.size)) D q ad d 5 70 [(0, .ref (ad 5)), (1, .int v1), (2, .int v2), (3, .int v3)] [.int w0] S := by
  unfold b_X7_bestHorse_70 at he
  unfold o_X7_bestHorse_70 at ho
  refine j_istore X [(4, .int w0), (0, .ref (ad 5)), (1, .int v1), (2, .int v2), (3, .int v3)] dX7_bestHorse_70 (by decide) rfl ?_
  refine j_iload X 0 dX7_bestHorse_72 rfl ?_
  refine j_if_gt X 97 dX7_bestHorse_74 (by decide) (fun h2 => ?_) (fun h2 => ?_)
  · rw [if_pos h2] at he
    have ho := ho.1 h2
    refine j_lv [1, 2, 4] [(0, .ref (ad 5)), (1, .int v1), (3, .int v3)] rfl ?_
    exact t_X7_bestHorse_97 X hr hlocks kk ok hkk v1 v3 S _ _ ho he
  · rw [if_neg h2] at he
    have ho := ho.2 h2
    refine j_iload X 0 dX7_bestHorse_77 rfl ?_
    refine j_if_ne X 99 dX7_bestHorse_79 (by decide) (fun h3 => ?_) (fun h3 => ?_)
    · rw [if_neg h3] at he
      have ho := ho.2 h3
      refine j_lv [1, 2, 3, 4] [(0, .ref (ad 5)), (1, .int v1), (2, .int v2), (3, .int v3)] rfl ?_
      exact t_X7_bestHorse_99 X hr hlocks kk ok hkk v1 v2 v3 S _ _ ho he
    · rw [if_pos h3] at he
      have ho := ho.1 h3
      refine j_aload_n X 1 dX7_bestHorse_82 rfl ?_
      refine j_iload_n X 4 dX7_bestHorse_83 rfl ?_
      refine j_iconst (v := 2) X dX7_bestHorse_84 (by decide) ?_
      have h4 := ho.1
      have ho := ho.2
      refine j_callVi (rest := []) X (c_X7_ofHorse (cx_inj X) v3 2 S h4) cw_X7_85 kc25.1 (cl_25 kc25) rfl ⟨rfl, rfl, Nat.le_of_ble_eq_true rfl, Nat.le_of_ble_eq_true rfl⟩ rfl rfl (Nat.le_of_ble_eq_true rfl) ⟨Nat.le_of_ble_eq_true rfl, Nat.le_of_ble_eq_true rfl⟩ dX7_bestHorse_85 ?_
      refine j_aload_n X 1 dX7_bestHorse_88 rfl ?_
      refine j_iload_n X 3 dX7_bestHorse_89 rfl ?_
      refine j_iconst (v := 2) X dX7_bestHorse_90 (by decide) ?_
      have h5 := ho.1
      have ho := ho.2
      refine j_callVi (rest := [.int (b_X7_ofHorse_0 v3 2 S)]) X (c_X7_ofHorse (cx_inj X) v2 2 S h5) cw_X7_85 kc25.1 (cl_25 kc25) rfl ⟨rfl, rfl, Nat.le_of_ble_eq_true rfl, Nat.le_of_ble_eq_true rfl⟩ rfl rfl (Nat.le_of_ble_eq_true rfl) ⟨Nat.le_of_ble_eq_true rfl, Nat.le_of_ble_eq_true rfl⟩ dX7_bestHorse_91 ?_
      refine j_icmp_ge X 99 dX7_bestHorse_94 (by decide) (fun h6 => ?_) (fun h6 => ?_)
      · rw [if_pos h6] at he
        have ho := ho.1 h6
        refine j_lv [1, 2, 3, 4] [(0, .ref (ad 5)), (1, .int v1), (2, .int v2), (3, .int v3)] rfl ?_
        exact t_X7_bestHorse_99 X hr hlocks kk ok hkk v1 v2 v3 S _ _ ho he
      · rw [if_neg h6] at he
        have ho := ho.2 h6
        refine j_lv [1, 2, 4] [(0, .ref (ad 5)), (1, .int v1), (3, .int v3)] rfl ?_
        exact t_X7_bestHorse_97 X hr hlocks kk ok hkk v1 v3 S _ _ ho he
def b_X7_bestHorse_26 : Nat → Int32 → Int32 → Int32 → Sx → Int32 × Sx
  | 0, _, _, _, S => (0, S)
  | n + 1, v1, v2, v3, S => if (S 6 ((71 : Int32).toNatClampNeg)) ≤ v3 then if 0 ≤ v2 then b_X7_bestHorse_115 v2 0 S else b_X7_bestHorse_115 v2 2 S else if (b_X7_whyNot_0 v3 v1 S) ≤ 0 then if 0 ≤ v2 then b_X7_bestHorse_70 (b_X7_bestHorse_26 n) v1 v2 v3 ((b_X7_ofHorse_0 v3 0 S) - (b_X7_ofHorse_0 v2 0 S)) S else b_X7_bestHorse_70 (b_X7_bestHorse_26 n) v1 v2 v3 1 S else b_X7_bestHorse_99 (b_X7_bestHorse_26 n) v1 v2 v3 S
def o_X7_bestHorse_26 : Nat → Int32 → Int32 → Int32 → Sx → Prop
  | 0, _, _, _, _ => False
  | n + 1, v1, v2, v3, S => ((S 6 ((71 : Int32).toNatClampNeg)) ≤ v3 → ((0 ≤ v2 → (o_X7_bestHorse_115 v2 0 S)) ∧ (¬ 0 ≤ v2 → (o_X7_bestHorse_115 v2 2 S)))) ∧ (¬ (S 6 ((71 : Int32).toNatClampNeg)) ≤ v3 → (o_X7_whyNot_0 v3 v1 S ∧ (((b_X7_whyNot_0 v3 v1 S) ≤ 0 → ((0 ≤ v2 → (o_X7_ofHorse_0 v3 0 S ∧ (o_X7_ofHorse_0 v2 0 S ∧ (o_X7_bestHorse_70 (o_X7_bestHorse_26 n) v1 v2 v3 ((b_X7_ofHorse_0 v3 0 S) - (b_X7_ofHorse_0 v2 0 S)) S)))) ∧ (¬ 0 ≤ v2 → (o_X7_bestHorse_70 (o_X7_bestHorse_26 n) v1 v2 v3 1 S)))) ∧ (¬ (b_X7_whyNot_0 v3 v1 S) ≤ 0 → (o_X7_bestHorse_99 (o_X7_bestHorse_26 n) v1 v2 v3 S)))))
set_option maxRecDepth 20000 in
theorem t_X7_bestHorse_26 (X : Cx p m c cX7_bestHorse 5 s args RX7 D q ad) (hr : meth.sig.returnType = some .int) (hlocks : meth.locks = false) : ∀ (n : Nat) (v1 : Int32) (v2 : Int32) (v3 : Int32) (S : Sx) (rv : Int32) (S' : Sx) (ho : o_X7_bestHorse_26 n v1 v2 v3 S) (he : b_X7_bestHorse_26 n v1 v2 v3 S = (rv, S')), Jg p l e rm_X7_bestHorse s m args below meth c 0 0 (MQ below (Qi D q ad d rv S' s.heap.size) args s 0 0 (AU ad s.heap.size)) D q ad d 5 26 [(0, .ref (ad 5)), (1, .int v1), (2, .int v2), (3, .int v3)] [] S := by
  intro n
  induction n with
  | zero =>
    intro v1 v2 v3 S rv S' ho he
    unfold o_X7_bestHorse_26 at ho
    exact ho.elim
  | succ n ih =>
    intro v1 v2 v3 S rv S' ho he
    unfold b_X7_bestHorse_26 at he
    unfold o_X7_bestHorse_26 at ho
    refine j_iload_n X 3 dX7_bestHorse_26 rfl ?_
    refine j_aload_n X 0 dX7_bestHorse_27 rfl ?_
    refine gf_25_0 X m_fl_X7_7 kc25 dX7_bestHorse_28 ?_
    refine j_bipush (v := 71) X dX7_bestHorse_31 (by decide) ?_
    refine j_iald X kc26.1 (cl_26 kc26) (by unfold vp_in; decide) dX7_bestHorse_33 ?_
    refine j_icmp_ge X 105 dX7_bestHorse_34 (by decide) (fun h2 => ?_) (fun h2 => ?_)
    · rw [if_pos h2] at he
      have ho := ho.1 h2
      refine j_aload_n X 0 dX7_bestHorse_105 rfl ?_
      refine j_iload_n X 2 dX7_bestHorse_106 rfl ?_
      refine j_if_ge X 114 dX7_bestHorse_107 (by decide) (fun h3 => ?_) (fun h3 => ?_)
      · rw [if_pos h3] at he
        have ho := ho.1 h3
        refine j_iconst (v := 0) X dX7_bestHorse_114 (by decide) ?_
        refine j_lv [2] [(2, .int v2)] rfl ?_
        exact t_X7_bestHorse_115 X hr hlocks v2 0 S _ _ ho he
      · rw [if_neg h3] at he
        have ho := ho.2 h3
        refine j_iconst (v := 2) X dX7_bestHorse_110 (by decide) ?_
        refine j_goto X 115 dX7_bestHorse_111 (by decide) ?_
        refine j_lv [2] [(2, .int v2)] rfl ?_
        exact t_X7_bestHorse_115 X hr hlocks v2 2 S _ _ ho he
    · rw [if_neg h2] at he
      have ho := ho.2 h2
      refine j_aload_n X 0 dX7_bestHorse_37 rfl ?_
      refine j_iload_n X 3 dX7_bestHorse_38 rfl ?_
      refine j_iload_n X 1 dX7_bestHorse_39 rfl ?_
      have h4 := ho.1
      have ho := ho.2
      refine j_callVi (rest := []) X (c_X7_whyNot (cx_inj X) v3 v1 S h4) cw_X7_114 kc25.1 (cl_25 kc25) rfl ⟨rfl, rfl, Nat.le_of_ble_eq_true rfl, Nat.le_of_ble_eq_true rfl⟩ rfl rfl (Nat.le_of_ble_eq_true rfl) ⟨Nat.le_of_ble_eq_true rfl, Nat.le_of_ble_eq_true rfl⟩ dX7_bestHorse_40 ?_
      refine j_if_le X 49 dX7_bestHorse_43 (by decide) (fun h5 => ?_) (fun h5 => ?_)
      · rw [if_pos h5] at he
        have ho := ho.1 h5
        refine j_iload_n X 2 dX7_bestHorse_49 rfl ?_
        refine j_if_ge X 57 dX7_bestHorse_50 (by decide) (fun h6 => ?_) (fun h6 => ?_)
        · rw [if_pos h6] at he
          have ho := ho.1 h6
          refine j_aload_n X 0 dX7_bestHorse_57 rfl ?_
          refine j_iload_n X 3 dX7_bestHorse_58 rfl ?_
          refine j_iconst (v := 0) X dX7_bestHorse_59 (by decide) ?_
          have h7 := ho.1
          have ho := ho.2
          refine j_callVi (rest := []) X (c_X7_ofHorse (cx_inj X) v3 0 S h7) cw_X7_85 kc25.1 (cl_25 kc25) rfl ⟨rfl, rfl, Nat.le_of_ble_eq_true rfl, Nat.le_of_ble_eq_true rfl⟩ rfl rfl (Nat.le_of_ble_eq_true rfl) ⟨Nat.le_of_ble_eq_true rfl, Nat.le_of_ble_eq_true rfl⟩ dX7_bestHorse_60 ?_
          refine j_aload_n X 0 dX7_bestHorse_63 rfl ?_
          refine j_iload_n X 2 dX7_bestHorse_64 rfl ?_
          refine j_iconst (v := 0) X dX7_bestHorse_65 (by decide) ?_
          have h8 := ho.1
          have ho := ho.2
          refine j_callVi (rest := [.int (b_X7_ofHorse_0 v3 0 S)]) X (c_X7_ofHorse (cx_inj X) v2 0 S h8) cw_X7_85 kc25.1 (cl_25 kc25) rfl ⟨rfl, rfl, Nat.le_of_ble_eq_true rfl, Nat.le_of_ble_eq_true rfl⟩ rfl rfl (Nat.le_of_ble_eq_true rfl) ⟨Nat.le_of_ble_eq_true rfl, Nat.le_of_ble_eq_true rfl⟩ dX7_bestHorse_66 ?_
          refine j_isub X dX7_bestHorse_69 ?_
          exact t_X7_bestHorse_70 X hr hlocks (b_X7_bestHorse_26 n) (o_X7_bestHorse_26 n) ih v1 v2 v3 ((b_X7_ofHorse_0 v3 0 S) - (b_X7_ofHorse_0 v2 0 S)) S _ _ ho he
        · rw [if_neg h6] at he
          have ho := ho.2 h6
          refine j_iconst (v := 1) X dX7_bestHorse_53 (by decide) ?_
          refine j_goto X 70 dX7_bestHorse_54 (by decide) ?_
          exact t_X7_bestHorse_70 X hr hlocks (b_X7_bestHorse_26 n) (o_X7_bestHorse_26 n) ih v1 v2 v3 1 S _ _ ho he
      · rw [if_neg h5] at he
        have ho := ho.2 h5
        refine j_goto X 99 dX7_bestHorse_46 (by decide) ?_
        exact t_X7_bestHorse_99 X hr hlocks (b_X7_bestHorse_26 n) (o_X7_bestHorse_26 n) ih v1 v2 v3 S _ _ ho he
def b_X7_bestHorse_14 (v1 : Int32) (w0 : Int32) (S : Sx) : Int32 × Sx := if ((b_X7_fails_0 w0 S).1) = 0 then b_X7_bestHorse_26 100 v1 (-1) 0 ((b_X7_fails_0 w0 S).2) else (0, (b_X7_fails_0 w0 S).2)
def o_X7_bestHorse_14 (v1 : Int32) (w0 : Int32) (S : Sx) : Prop := o_X7_fails_0 w0 S ∧ ((((b_X7_fails_0 w0 S).1) = 0 → (o_X7_bestHorse_26 100 v1 (-1) 0 ((b_X7_fails_0 w0 S).2))) ∧ (¬ ((b_X7_fails_0 w0 S).1) = 0 → True))
set_option maxRecDepth 20000 in
theorem t_X7_bestHorse_14 (X : Cx p m c cX7_bestHorse 5 s args RX7 D q ad) (hr : meth.sig.returnType = some .int) (hlocks : meth.locks = false) (v1 : Int32) (w0 : Int32) (S : Sx) (rv : Int32) (S' : Sx) (ho : o_X7_bestHorse_14 v1 w0 S) (he : b_X7_bestHorse_14 v1 w0 S = (rv, S')) : Jg p l e rm_X7_bestHorse s m args below meth c 0 0 (MQ below (Qi D q ad d rv S' s.heap.size) args s 0 0 (AU ad s.heap.size)) D q ad d 5 14 [(0, .ref (ad 5)), (1, .int v1)] [.int w0, .ref (ad 5)] S := by
  unfold b_X7_bestHorse_14 at he
  unfold o_X7_bestHorse_14 at ho
  have h2 := ho.1
  have ho := ho.2
  refine j_callVi (rest := []) X (c_X7_fails (cx_inj X) w0 S h2) cw_X7_70 kc25.1 (cl_25 kc25) rfl ⟨rfl, rfl, Nat.le_of_ble_eq_true rfl, Nat.le_of_ble_eq_true rfl⟩ rfl rfl (Nat.le_of_ble_eq_true rfl) ⟨Nat.le_of_ble_eq_true rfl, Nat.le_of_ble_eq_true rfl⟩ dX7_bestHorse_14 ?_
  refine j_if_eq X 22 dX7_bestHorse_17 (by decide) (fun h3 => ?_) (fun h3 => ?_)
  · rw [if_pos h3] at he
    have ho := ho.1 h3
    refine j_iconst (v := (-1)) X dX7_bestHorse_22 (by decide) ?_
    refine j_istore_n X [(2, .int (-1)), (0, .ref (ad 5)), (1, .int v1)] dX7_bestHorse_23 (by decide) rfl ?_
    refine j_iconst (v := 0) X dX7_bestHorse_24 (by decide) ?_
    refine j_istore_n X [(3, .int 0), (2, .int (-1)), (0, .ref (ad 5)), (1, .int v1)] dX7_bestHorse_25 (by decide) rfl ?_
    refine j_lv [2, 3, 1, 0] [(0, .ref (ad 5)), (1, .int v1), (2, .int (-1)), (3, .int 0)] rfl ?_
    exact t_X7_bestHorse_26 X hr hlocks 100 v1 (-1) 0 ((b_X7_fails_0 w0 S).2) _ _ ho he
  · rw [if_neg h3] at he
    have ho := ho.2 h3
    refine j_iconst (v := 0) X dX7_bestHorse_20 (by decide) ?_
    exact j_iret X hr hlocks dX7_bestHorse_21 (congrArg Prod.fst he) (congrArg Prod.snd he)
def b_X7_bestHorse_0 (x1 : Int32) (S : Sx) : Int32 × Sx := if (b_X7_isPitch_0 x1 S) = 0 then b_X7_bestHorse_14 x1 1 S else b_X7_bestHorse_14 x1 0 S
def o_X7_bestHorse_0 (x1 : Int32) (S : Sx) : Prop := o_X7_isPitch_0 x1 S ∧ (((b_X7_isPitch_0 x1 S) = 0 → (o_X7_bestHorse_14 x1 1 S)) ∧ (¬ (b_X7_isPitch_0 x1 S) = 0 → (o_X7_bestHorse_14 x1 0 S)))
set_option maxRecDepth 20000 in
theorem t_X7_bestHorse_0 (X : Cx p m c cX7_bestHorse 5 s args RX7 D q ad) (hr : meth.sig.returnType = some .int) (hlocks : meth.locks = false) (x1 : Int32) (S : Sx) (rv : Int32) (S' : Sx) (ho : o_X7_bestHorse_0 x1 S) (he : b_X7_bestHorse_0 x1 S = (rv, S')) : Jg p l e rm_X7_bestHorse s m args below meth c 0 0 (MQ below (Qi D q ad d rv S' s.heap.size) args s 0 0 (AU ad s.heap.size)) D q ad d 5 0 [(0, .ref (ad 5)), (1, .int x1)] [] S := by
  unfold b_X7_bestHorse_0 at he
  unfold o_X7_bestHorse_0 at ho
  refine j_aload_n X 0 dX7_bestHorse_0 rfl ?_
  refine j_aload_n X 0 dX7_bestHorse_1 rfl ?_
  refine j_iload_n X 1 dX7_bestHorse_2 rfl ?_
  have h2 := ho.1
  have ho := ho.2
  refine j_callVi (rest := [.ref (ad 5)]) X (c_X7_isPitch (cx_inj X) x1 S h2) cw_X7_91 kc25.1 (cl_25 kc25) rfl ⟨rfl, rfl, Nat.le_of_ble_eq_true rfl, Nat.le_of_ble_eq_true rfl⟩ rfl rfl (Nat.le_of_ble_eq_true rfl) ⟨Nat.le_of_ble_eq_true rfl, Nat.le_of_ble_eq_true rfl⟩ dX7_bestHorse_3 ?_
  refine j_if_eq X 13 dX7_bestHorse_6 (by decide) (fun h3 => ?_) (fun h3 => ?_)
  · rw [if_pos h3] at he
    have ho := ho.1 h3
    refine j_iconst (v := 1) X dX7_bestHorse_13 (by decide) ?_
    exact t_X7_bestHorse_14 X hr hlocks x1 1 S _ _ ho he
  · rw [if_neg h3] at he
    have ho := ho.2 h3
    refine j_iconst (v := 0) X dX7_bestHorse_9 (by decide) ?_
    refine j_goto X 14 dX7_bestHorse_10 (by decide) ?_
    exact t_X7_bestHorse_14 X hr hlocks x1 0 S _ _ ho he
theorem c_X7_bestHorse {l : Launch} {D : va_G} {q : Nat → ClassId} {ad : Nat → Nat} {d : UInt64} (hI : inj4 ad) (x1 : Int32) (S : Sx) (ho : o_X7_bestHorse_0 x1 S) : CI l yX7_bestHorse cX7_bestHorse 5 .int rm_X7_bestHorse D q ad d [.ref (ad 5), .int x1] S (b_X7_bestHorse_0 x1 S).1 (b_X7_bestHorse_0 x1 S).2 := ci_of hI (by decide +kernel) (Nat.le_of_ble_eq_true rfl) rfl (fun p e s m args below meth c X hr hlocks => t_X7_bestHorse_0 X hr hlocks x1 S _ _ ho (pe _))
end
/-! RX7.umpire -/
abbrev rm_X7_umpire : Room := { frames := 2, cells := 0, slots := 0, locals := 46 }
section
variable {p : Program} {l : Launch} {e : Env} {s : State} {m : MethodId} {args : Array Value} {below : List Frame} {meth : Method} {c : Code} {D : va_G} {q : Nat → ClassId} {ad : Nat → Nat} {d : UInt64}
def b_X7_umpire_78  (S : Sx) : Int32 × Sx := ((S 6 ((102 : Int32).toNatClampNeg)) - 1, S)
set_option maxRecDepth 20000 in
theorem t_X7_umpire_78 (X : Cx p m c cX7_umpire 2 s args RX7 D q ad) (hr : meth.sig.returnType = some .int) (hlocks : meth.locks = false) (S : Sx) (rv : Int32) (S' : Sx) (he : b_X7_umpire_78 S = (rv, S')) : Jg p l e rm_X7_umpire s m args below meth c 0 0 (MQ below (Qi D q ad d rv S' s.heap.size) args s 0 0 (AU ad s.heap.size)) D q ad d 2 78 [(0, .ref (ad 5))] [] S := by
  unfold b_X7_umpire_78 at he
  refine j_aload_n X 0 dX7_umpire_78 rfl ?_
  refine gf_25_0 X m_fl_X7_7 kc25 dX7_umpire_79 ?_
  refine j_bipush (v := 102) X dX7_umpire_82 (by decide) ?_
  refine j_iald X kc26.1 (cl_26 kc26) (by unfold vp_in; decide) dX7_umpire_84 ?_
  refine j_iconst (v := 1) X dX7_umpire_85 (by decide) ?_
  refine j_isub X dX7_umpire_86 ?_
  exact j_iret X hr hlocks dX7_umpire_87 (congrArg Prod.fst he) (congrArg Prod.snd he)
def b_X7_umpire_67  (S : Sx) : Int32 × Sx := b_X7_umpire_78 (up2 S 6 ((102 : Int32).toNatClampNeg) ((S 6 ((102 : Int32).toNatClampNeg)) + 1))
set_option maxRecDepth 20000 in
theorem t_X7_umpire_67 (X : Cx p m c cX7_umpire 2 s args RX7 D q ad) (hr : meth.sig.returnType = some .int) (hlocks : meth.locks = false) (S : Sx) (rv : Int32) (S' : Sx) (he : b_X7_umpire_67 S = (rv, S')) : Jg p l e rm_X7_umpire s m args below meth c 0 0 (MQ below (Qi D q ad d rv S' s.heap.size) args s 0 0 (AU ad s.heap.size)) D q ad d 2 67 [(0, .ref (ad 5))] [] S := by
  unfold b_X7_umpire_67 at he
  refine j_aload_n X 0 dX7_umpire_67 rfl ?_
  refine gf_25_0 X m_fl_X7_7 kc25 dX7_umpire_68 ?_
  refine j_bipush (v := 102) X dX7_umpire_71 (by decide) ?_
  refine j_dup2 X dX7_umpire_73 rfl rfl ?_
  refine j_iald X kc26.1 (cl_26 kc26) (by unfold vp_in; decide) dX7_umpire_74 ?_
  refine j_iconst (v := 1) X dX7_umpire_75 (by decide) ?_
  refine j_iadd X dX7_umpire_76 ?_
  refine j_iast X kc26.1 (fun T => cl_26 kc26) (by unfold vp_in; decide) dX7_umpire_77 ?_
  exact t_X7_umpire_78 X hr hlocks (up2 S 6 ((102 : Int32).toNatClampNeg) ((S 6 ((102 : Int32).toNatClampNeg)) + 1)) _ _ he
def b_X7_umpire_16 (v1 : Int32) (w0 : Int32) (S : Sx) : Int32 × Sx := if ((b_X7_fails_0 w0 S).1) = 0 then if (((b_X7_fails_0 w0 S).2) 6 ((102 : Int32).toNatClampNeg)) = 3 then ((b_X7_refuses_0 2 1 3 ((b_X7_fails_0 w0 S).2)).1, (b_X7_refuses_0 2 1 3 ((b_X7_fails_0 w0 S).2)).2) else b_X7_umpire_67 (up2 (b_X7_keeps_0 6 ((b_X7_fails_0 w0 S).2)) 6 ((103 + ((b_X7_keeps_0 6 ((b_X7_fails_0 w0 S).2)) 6 ((102 : Int32).toNatClampNeg))).toNatClampNeg) v1) else (0, (b_X7_fails_0 w0 S).2)
def o_X7_umpire_16 (v1 : Int32) (w0 : Int32) (S : Sx) : Prop := o_X7_fails_0 w0 S ∧ ((((b_X7_fails_0 w0 S).1) = 0 → (((((b_X7_fails_0 w0 S).2) 6 ((102 : Int32).toNatClampNeg)) = 3 → True) ∧ (¬ (((b_X7_fails_0 w0 S).2) 6 ((102 : Int32).toNatClampNeg)) = 3 → (o_X7_keeps_0 6 ((b_X7_fails_0 w0 S).2) ∧ (vp_in (103 + ((b_X7_keeps_0 6 ((b_X7_fails_0 w0 S).2)) 6 ((102 : Int32).toNatClampNeg))) 275 ∧ True))))) ∧ (¬ ((b_X7_fails_0 w0 S).1) = 0 → True))
set_option maxRecDepth 20000 in
theorem t_X7_umpire_16 (X : Cx p m c cX7_umpire 2 s args RX7 D q ad) (hr : meth.sig.returnType = some .int) (hlocks : meth.locks = false) (v1 : Int32) (w0 : Int32) (S : Sx) (rv : Int32) (S' : Sx) (ho : o_X7_umpire_16 v1 w0 S) (he : b_X7_umpire_16 v1 w0 S = (rv, S')) : Jg p l e rm_X7_umpire s m args below meth c 0 0 (MQ below (Qi D q ad d rv S' s.heap.size) args s 0 0 (AU ad s.heap.size)) D q ad d 2 16 [(0, .ref (ad 5)), (1, .int v1)] [.int w0, .ref (ad 5)] S := by
  unfold b_X7_umpire_16 at he
  unfold o_X7_umpire_16 at ho
  have h2 := ho.1
  have ho := ho.2
  refine j_callVi (rest := []) X (c_X7_fails (cx_inj X) w0 S h2) cw_X7_70 kc25.1 (cl_25 kc25) rfl ⟨rfl, rfl, Nat.le_of_ble_eq_true rfl, Nat.le_of_ble_eq_true rfl⟩ rfl rfl (Nat.le_of_ble_eq_true rfl) ⟨Nat.le_of_ble_eq_true rfl, Nat.le_of_ble_eq_true rfl⟩ dX7_umpire_16 ?_
  refine j_if_eq X 24 dX7_umpire_19 (by decide) (fun h3 => ?_) (fun h3 => ?_)
  · rw [if_pos h3] at he
    have ho := ho.1 h3
    refine j_aload_n X 0 dX7_umpire_24 rfl ?_
    refine gf_25_0 X m_fl_X7_7 kc25 dX7_umpire_25 ?_
    refine j_bipush (v := 102) X dX7_umpire_28 (by decide) ?_
    refine j_iald X kc26.1 (cl_26 kc26) (by unfold vp_in; decide) dX7_umpire_30 ?_
    refine j_iconst (v := 3) X dX7_umpire_31 (by decide) ?_
    refine j_icmp_ne X 43 dX7_umpire_32 (by decide) (fun h4 => ?_) (fun h4 => ?_)
    · rw [if_neg h4] at he
      have ho := ho.2 h4
      refine j_aload_n X 0 dX7_umpire_43 rfl ?_
      refine j_aload_n X 0 dX7_umpire_44 rfl ?_
      refine gf_25_0 X m_fl_X7_7 kc25 dX7_umpire_45 ?_
      have h5 := ho.1
      have ho := ho.2
      refine j_callVv (rest := []) X (c_X7_keeps (cx_inj X) 6 (isA_of26 kc26) ((b_X7_fails_0 w0 S).2) h5) cw_X7_62 kc25.1 (cl_25 kc25) rfl ⟨rfl, rfl, Nat.le_of_ble_eq_true rfl, Nat.le_of_ble_eq_true rfl⟩ rfl rfl (Nat.le_of_ble_eq_true rfl) ⟨Nat.le_of_ble_eq_true rfl, Nat.le_of_ble_eq_true rfl⟩ dX7_umpire_48 ?_
      refine j_aload_n X 0 dX7_umpire_51 rfl ?_
      refine gf_25_0 X m_fl_X7_7 kc25 dX7_umpire_52 ?_
      refine j_bipush (v := 103) X dX7_umpire_55 (by decide) ?_
      refine j_aload_n X 0 dX7_umpire_57 rfl ?_
      refine gf_25_0 X m_fl_X7_7 kc25 dX7_umpire_58 ?_
      refine j_bipush (v := 102) X dX7_umpire_61 (by decide) ?_
      refine j_iald X kc26.1 (cl_26 kc26) (by unfold vp_in; decide) dX7_umpire_63 ?_
      refine j_iadd X dX7_umpire_64 ?_
      refine j_iload_n X 1 dX7_umpire_65 rfl ?_
      have h6 := ho.1
      have ho := ho.2
      refine j_iast X kc26.1 (fun T => cl_26 kc26) h6 dX7_umpire_66 ?_
      refine j_lv [0] [(0, .ref (ad 5))] rfl ?_
      exact t_X7_umpire_67 X hr hlocks (up2 (b_X7_keeps_0 6 ((b_X7_fails_0 w0 S).2)) 6 ((103 + ((b_X7_keeps_0 6 ((b_X7_fails_0 w0 S).2)) 6 ((102 : Int32).toNatClampNeg))).toNatClampNeg) v1) _ _ he
    · rw [if_pos h4] at he
      have ho := ho.1 h4
      refine j_aload_n X 0 dX7_umpire_35 rfl ?_
      refine j_iconst (v := 2) X dX7_umpire_36 (by decide) ?_
      refine j_iconst (v := 1) X dX7_umpire_37 (by decide) ?_
      refine j_iconst (v := 3) X dX7_umpire_38 (by decide) ?_
      refine j_callVi (rest := []) X (c_X7_refuses (cx_inj X) 2 1 3 ((b_X7_fails_0 w0 S).2)) cw_X7_77 kc25.1 (cl_25 kc25) rfl ⟨rfl, rfl, Nat.le_of_ble_eq_true rfl, Nat.le_of_ble_eq_true rfl⟩ rfl rfl (Nat.le_of_ble_eq_true rfl) ⟨Nat.le_of_ble_eq_true rfl, Nat.le_of_ble_eq_true rfl⟩ dX7_umpire_39 ?_
      exact j_iret X hr hlocks dX7_umpire_42 (congrArg Prod.fst he) (congrArg Prod.snd he)
  · rw [if_neg h3] at he
    have ho := ho.2 h3
    refine j_iconst (v := 0) X dX7_umpire_22 (by decide) ?_
    exact j_iret X hr hlocks dX7_umpire_23 (congrArg Prod.fst he) (congrArg Prod.snd he)
def b_X7_umpire_0 (x1 : Int32) (S : Sx) : Int32 × Sx := if (b_X7_in_0 x1 1 9 S) = 0 then b_X7_umpire_16 x1 1 S else b_X7_umpire_16 x1 0 S
def o_X7_umpire_0 (x1 : Int32) (S : Sx) : Prop := o_X7_in_0 x1 1 9 S ∧ (((b_X7_in_0 x1 1 9 S) = 0 → (o_X7_umpire_16 x1 1 S)) ∧ (¬ (b_X7_in_0 x1 1 9 S) = 0 → (o_X7_umpire_16 x1 0 S)))
set_option maxRecDepth 20000 in
theorem t_X7_umpire_0 (X : Cx p m c cX7_umpire 2 s args RX7 D q ad) (hr : meth.sig.returnType = some .int) (hlocks : meth.locks = false) (x1 : Int32) (S : Sx) (rv : Int32) (S' : Sx) (ho : o_X7_umpire_0 x1 S) (he : b_X7_umpire_0 x1 S = (rv, S')) : Jg p l e rm_X7_umpire s m args below meth c 0 0 (MQ below (Qi D q ad d rv S' s.heap.size) args s 0 0 (AU ad s.heap.size)) D q ad d 2 0 [(0, .ref (ad 5)), (1, .int x1)] [] S := by
  unfold b_X7_umpire_0 at he
  unfold o_X7_umpire_0 at ho
  refine j_aload_n X 0 dX7_umpire_0 rfl ?_
  refine j_iload_n X 1 dX7_umpire_1 rfl ?_
  refine j_iconst (v := 1) X dX7_umpire_2 (by decide) ?_
  refine j_bipush (v := 9) X dX7_umpire_3 (by decide) ?_
  have h2 := ho.1
  have ho := ho.2
  refine j_callSi (rest := [.ref (ad 5)]) X (c_X7_in (cx_inj X) x1 1 9 S h2) cw_X7_58 ⟨rfl, rfl, Nat.le_of_ble_eq_true rfl, Nat.le_of_ble_eq_true rfl⟩ rfl rfl (Nat.le_of_ble_eq_true rfl) ⟨Nat.le_of_ble_eq_true rfl, Nat.le_of_ble_eq_true rfl⟩ dX7_umpire_5 ?_
  refine j_if_eq X 15 dX7_umpire_8 (by decide) (fun h3 => ?_) (fun h3 => ?_)
  · rw [if_pos h3] at he
    have ho := ho.1 h3
    refine j_iconst (v := 1) X dX7_umpire_15 (by decide) ?_
    exact t_X7_umpire_16 X hr hlocks x1 1 S _ _ ho he
  · rw [if_neg h3] at he
    have ho := ho.2 h3
    refine j_iconst (v := 0) X dX7_umpire_11 (by decide) ?_
    refine j_goto X 16 dX7_umpire_12 (by decide) ?_
    exact t_X7_umpire_16 X hr hlocks x1 0 S _ _ ho he
theorem c_X7_umpire {l : Launch} {D : va_G} {q : Nat → ClassId} {ad : Nat → Nat} {d : UInt64} (hI : inj4 ad) (x1 : Int32) (S : Sx) (ho : o_X7_umpire_0 x1 S) : CI l yX7_umpire cX7_umpire 2 .int rm_X7_umpire D q ad d [.ref (ad 5), .int x1] S (b_X7_umpire_0 x1 S).1 (b_X7_umpire_0 x1 S).2 := ci_of hI (by decide +kernel) (Nat.le_of_ble_eq_true rfl) rfl (fun p e s m args below meth c X hr hlocks => t_X7_umpire_0 X hr hlocks x1 S _ _ ho (pe _))
end
/-! RX7.calls -/
abbrev rm_X7_calls : Room := { frames := 2, cells := 0, slots := 0, locals := 44 }
section
variable {p : Program} {l : Launch} {e : Env} {s : State} {m : MethodId} {args : Array Value} {below : List Frame} {meth : Method} {c : Code} {D : va_G} {q : Nat → ClassId} {ad : Nat → Nat} {d : UInt64}
def b_X7_calls_96 (w0 : Int32) (S : Sx) : Int32 := w0
set_option maxRecDepth 20000 in
theorem t_X7_calls_96 (X : Cx p m c cX7_calls 4 s args RX7 D q ad) (hr : meth.sig.returnType = some .int) (hlocks : meth.locks = false) (w0 : Int32) (S : Sx) (rv : Int32) (he : b_X7_calls_96 w0 S = rv) : Jg p l e rm_X7_calls s m args below meth c 0 0 (MQ below (Qi D q ad d rv S s.heap.size) args s 0 0 (AU ad s.heap.size)) D q ad d 4 96 [] [.int w0] S := by
  unfold b_X7_calls_96 at he
  exact j_iret X hr hlocks dX7_calls_96 he rfl
def b_X7_calls_0 (x1 : Int32) (x2 : Int32) (S : Sx) : Int32 := if (b_X7_of_0 x2 3 S) = 1 then 6 else if (b_X7_rollerOf_0 x2 S) < 0 then if (b_X7_hourOfDay_0 S) = (S 6 ((1 : Int32).toNatClampNeg)) then 4 else if (S 6 ((2 + (b_X7_hourOfDay_0 S)).toNatClampNeg)) ≤ 0 then if 3 ≤ (S 6 ((26 + (b_X7_hourOfDay_0 S)).toNatClampNeg)) then if (b_X7_of_0 x2 0 S) ≤ (60 - (5 * (S 6 ((103 + x1).toNatClampNeg)))) then b_X7_calls_96 0 S else b_X7_calls_96 1 S else 2 else 3 else 5
def o_X7_calls_0 (x1 : Int32) (x2 : Int32) (S : Sx) : Prop := o_X7_of_0 x2 3 S ∧ (((b_X7_of_0 x2 3 S) = 1 → True) ∧ (¬ (b_X7_of_0 x2 3 S) = 1 → (o_X7_rollerOf_0 x2 S ∧ (((b_X7_rollerOf_0 x2 S) < 0 → (((b_X7_hourOfDay_0 S) = (S 6 ((1 : Int32).toNatClampNeg)) → True) ∧ (¬ (b_X7_hourOfDay_0 S) = (S 6 ((1 : Int32).toNatClampNeg)) → (vp_in (2 + (b_X7_hourOfDay_0 S)) 275 ∧ (((S 6 ((2 + (b_X7_hourOfDay_0 S)).toNatClampNeg)) ≤ 0 → (vp_in (26 + (b_X7_hourOfDay_0 S)) 275 ∧ ((3 ≤ (S 6 ((26 + (b_X7_hourOfDay_0 S)).toNatClampNeg)) → (o_X7_of_0 x2 0 S ∧ (vp_in (103 + x1) 275 ∧ True))) ∧ (¬ 3 ≤ (S 6 ((26 + (b_X7_hourOfDay_0 S)).toNatClampNeg)) → True)))) ∧ (¬ (S 6 ((2 + (b_X7_hourOfDay_0 S)).toNatClampNeg)) ≤ 0 → True)))))) ∧ (¬ (b_X7_rollerOf_0 x2 S) < 0 → True)))))
set_option maxRecDepth 20000 in
theorem t_X7_calls_0 (X : Cx p m c cX7_calls 4 s args RX7 D q ad) (hr : meth.sig.returnType = some .int) (hlocks : meth.locks = false) (x1 : Int32) (x2 : Int32) (S : Sx) (rv : Int32) (ho : o_X7_calls_0 x1 x2 S) (he : b_X7_calls_0 x1 x2 S = rv) : Jg p l e rm_X7_calls s m args below meth c 0 0 (MQ below (Qi D q ad d rv S s.heap.size) args s 0 0 (AU ad s.heap.size)) D q ad d 4 0 [(0, .ref (ad 5)), (1, .int x1), (2, .int x2)] [] S := by
  unfold b_X7_calls_0 at he
  unfold o_X7_calls_0 at ho
  refine j_aload_n X 0 dX7_calls_0 rfl ?_
  refine j_callVi (rest := []) X (c_X7_hourOfDay (cx_inj X) S) cw_X7_123 kc25.1 (cl_25 kc25) rfl ⟨rfl, rfl, Nat.le_of_ble_eq_true rfl, Nat.le_of_ble_eq_true rfl⟩ rfl rfl (Nat.le_of_ble_eq_true rfl) ⟨Nat.le_of_ble_eq_true rfl, Nat.le_of_ble_eq_true rfl⟩ dX7_calls_1 ?_
  refine j_istore_n X [(3, .int (b_X7_hourOfDay_0 S)), (0, .ref (ad 5)), (1, .int x1), (2, .int x2)] dX7_calls_4 (by decide) rfl ?_
  refine j_aload_n X 1 dX7_calls_5 rfl ?_
  refine j_iload_n X 3 dX7_calls_6 rfl ?_
  refine j_iconst (v := 3) X dX7_calls_7 (by decide) ?_
  have h2 := ho.1
  have ho := ho.2
  refine j_callVi (rest := []) X (c_X7_of (cx_inj X) x2 3 S h2) cw_X7_98 kc25.1 (cl_25 kc25) rfl ⟨rfl, rfl, Nat.le_of_ble_eq_true rfl, Nat.le_of_ble_eq_true rfl⟩ rfl rfl (Nat.le_of_ble_eq_true rfl) ⟨Nat.le_of_ble_eq_true rfl, Nat.le_of_ble_eq_true rfl⟩ dX7_calls_8 ?_
  refine j_iconst (v := 1) X dX7_calls_11 (by decide) ?_
  refine j_icmp_ne X 18 dX7_calls_12 (by decide) (fun h3 => ?_) (fun h3 => ?_)
  · rw [if_neg h3] at he
    have ho := ho.2 h3
    refine j_aload_n X 1 dX7_calls_18 rfl ?_
    refine j_iload_n X 3 dX7_calls_19 rfl ?_
    have h4 := ho.1
    have ho := ho.2
    refine j_callVi (rest := []) X (c_X7_rollerOf (cx_inj X) x2 S h4) cw_X7_94 kc25.1 (cl_25 kc25) rfl ⟨rfl, rfl, Nat.le_of_ble_eq_true rfl, Nat.le_of_ble_eq_true rfl⟩ rfl rfl (Nat.le_of_ble_eq_true rfl) ⟨Nat.le_of_ble_eq_true rfl, Nat.le_of_ble_eq_true rfl⟩ dX7_calls_20 ?_
    refine j_if_lt X 28 dX7_calls_23 (by decide) (fun h5 => ?_) (fun h5 => ?_)
    · rw [if_pos h5] at he
      have ho := ho.1 h5
      refine j_iload_n X 0 dX7_calls_28 rfl ?_
      refine j_aload_n X 1 dX7_calls_29 rfl ?_
      refine gf_25_0 X m_fl_X7_7 kc25 dX7_calls_30 ?_
      refine j_iconst (v := 1) X dX7_calls_33 (by decide) ?_
      refine j_iald X kc26.1 (cl_26 kc26) (by unfold vp_in; decide) dX7_calls_34 ?_
      refine j_icmp_ne X 40 dX7_calls_35 (by decide) (fun h6 => ?_) (fun h6 => ?_)
      · rw [if_neg h6] at he
        have ho := ho.2 h6
        refine j_aload_n X 1 dX7_calls_40 rfl ?_
        refine gf_25_0 X m_fl_X7_7 kc25 dX7_calls_41 ?_
        refine j_iconst (v := 2) X dX7_calls_44 (by decide) ?_
        refine j_iload_n X 0 dX7_calls_45 rfl ?_
        refine j_iadd X dX7_calls_46 ?_
        have h7 := ho.1
        have ho := ho.2
        refine j_iald X kc26.1 (cl_26 kc26) h7 dX7_calls_47 ?_
        refine j_if_le X 53 dX7_calls_48 (by decide) (fun h8 => ?_) (fun h8 => ?_)
        · rw [if_pos h8] at he
          have ho := ho.1 h8
          refine j_aload_n X 1 dX7_calls_53 rfl ?_
          refine gf_25_0 X m_fl_X7_7 kc25 dX7_calls_54 ?_
          refine j_bipush (v := 26) X dX7_calls_57 (by decide) ?_
          refine j_iload_n X 0 dX7_calls_59 rfl ?_
          refine j_iadd X dX7_calls_60 ?_
          have h9 := ho.1
          have ho := ho.2
          refine j_iald X kc26.1 (cl_26 kc26) h9 dX7_calls_61 ?_
          refine j_iconst (v := 3) X dX7_calls_62 (by decide) ?_
          refine j_icmp_ge X 68 dX7_calls_63 (by decide) (fun h10 => ?_) (fun h10 => ?_)
          · rw [if_pos h10] at he
            have ho := ho.1 h10
            refine j_aload_n X 1 dX7_calls_68 rfl ?_
            refine j_iload_n X 3 dX7_calls_69 rfl ?_
            refine j_iconst (v := 0) X dX7_calls_70 (by decide) ?_
            have h11 := ho.1
            have ho := ho.2
            refine j_callVi (rest := []) X (c_X7_of (cx_inj X) x2 0 S h11) cw_X7_98 kc25.1 (cl_25 kc25) rfl ⟨rfl, rfl, Nat.le_of_ble_eq_true rfl, Nat.le_of_ble_eq_true rfl⟩ rfl rfl (Nat.le_of_ble_eq_true rfl) ⟨Nat.le_of_ble_eq_true rfl, Nat.le_of_ble_eq_true rfl⟩ dX7_calls_71 ?_
            refine j_bipush (v := 60) X dX7_calls_74 (by decide) ?_
            refine j_iconst (v := 5) X dX7_calls_76 (by decide) ?_
            refine j_aload_n X 1 dX7_calls_77 rfl ?_
            refine gf_25_0 X m_fl_X7_7 kc25 dX7_calls_78 ?_
            refine j_bipush (v := 103) X dX7_calls_81 (by decide) ?_
            refine j_iload_n X 2 dX7_calls_83 rfl ?_
            refine j_iadd X dX7_calls_84 ?_
            have h12 := ho.1
            have ho := ho.2
            refine j_iald X kc26.1 (cl_26 kc26) h12 dX7_calls_85 ?_
            refine j_imul X dX7_calls_86 ?_
            refine j_isub X dX7_calls_87 ?_
            refine j_icmp_le X 95 dX7_calls_88 (by decide) (fun h13 => ?_) (fun h13 => ?_)
            · rw [if_pos h13] at he
              refine j_iconst (v := 0) X dX7_calls_95 (by decide) ?_
              refine j_lv [] [] rfl ?_
              exact t_X7_calls_96 X hr hlocks 0 S _ he
            · rw [if_neg h13] at he
              refine j_iconst (v := 1) X dX7_calls_91 (by decide) ?_
              refine j_goto X 96 dX7_calls_92 (by decide) ?_
              refine j_lv [] [] rfl ?_
              exact t_X7_calls_96 X hr hlocks 1 S _ he
          · rw [if_neg h10] at he
            have ho := ho.2 h10
            refine j_iconst (v := 2) X dX7_calls_66 (by decide) ?_
            exact j_iret X hr hlocks dX7_calls_67 he rfl
        · rw [if_neg h8] at he
          have ho := ho.2 h8
          refine j_iconst (v := 3) X dX7_calls_51 (by decide) ?_
          exact j_iret X hr hlocks dX7_calls_52 he rfl
      · rw [if_pos h6] at he
        have ho := ho.1 h6
        refine j_iconst (v := 4) X dX7_calls_38 (by decide) ?_
        exact j_iret X hr hlocks dX7_calls_39 he rfl
    · rw [if_neg h5] at he
      have ho := ho.2 h5
      refine j_iconst (v := 5) X dX7_calls_26 (by decide) ?_
      exact j_iret X hr hlocks dX7_calls_27 he rfl
  · rw [if_pos h3] at he
    have ho := ho.1 h3
    refine j_bipush (v := 6) X dX7_calls_15 (by decide) ?_
    exact j_iret X hr hlocks dX7_calls_17 he rfl
theorem c_X7_calls {l : Launch} {D : va_G} {q : Nat → ClassId} {ad : Nat → Nat} {d : UInt64} (hI : inj4 ad) (x1 : Int32) (x2 : Int32) (S : Sx) (ho : o_X7_calls_0 x1 x2 S) : CI l yX7_calls cX7_calls 4 .int rm_X7_calls D q ad d [.ref (ad 5), .int x1, .int x2] S (b_X7_calls_0 x1 x2 S) S := ci_of hI (by decide +kernel) (Nat.le_of_ble_eq_true rfl) rfl (fun p e s m args below meth c X hr hlocks => t_X7_calls_0 X hr hlocks x1 x2 S _ ho rfl)
end

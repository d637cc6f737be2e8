/-! RX0.rollingHorses -/
abbrev rm_X0_rollingHorses : Room := { frames := 1, cells := 0, slots := 0, locals := 20 }
section
variable {p : Program} {l : Launch} {e : Env} {s : State} {m : MethodId} {args : Array Value} {below : List Frame} {meth : Method} {c : Code} {D : va_G} {q : Nat → ClassId} {ad : Nat → Nat} {d : UInt64}
def b_X0_rollingHorses_30 (kk : Nat → Int32 → Int32 → Sx → Int32) (j0 : Nat) (v2 : Int32) (w0 : Int32) (w1 : Int32) (S : Sx) : Int32 := kk j0 (w1 + w0) (v2 + 1) S
def o_X0_rollingHorses_30 (ok : Nat → Int32 → Int32 → Sx → Prop) (j0 : Nat) (v2 : Int32) (w0 : Int32) (w1 : Int32) (S : Sx) : Prop := ok j0 (w1 + w0) (v2 + 1) S
set_option maxRecDepth 20000 in
theorem t_X0_rollingHorses_30 (X : Cx p m c cX0_rollingHorses 3 s args RX0 D q ad) (hr : meth.sig.returnType = some .int) (hlocks : meth.locks = false) (kk : Nat → Int32 → Int32 → Sx → Int32) (ok : Nat → Int32 → Int32 → Sx → Prop) (hkk : ∀ (j0 : Nat) (hj0 : isK 0 j0) (v1 : Int32) (v2 : Int32) (S : Sx) (rv : Int32) (ho : ok j0 v1 v2 S) (he : kk j0 v1 v2 S = rv), Jg p l e rm_X0_rollingHorses s m args below meth c 0 0 (MQ below (Qi D q ad d rv S s.heap.size) args s 0 0 (AU ad s.heap.size)) D q ad d 3 4 [(0, .ref (ad j0)), (1, .int v1), (2, .int v2)] [] S) (j0 : Nat) (hj0 : isK 0 j0) (v2 : Int32) (w0 : Int32) (w1 : Int32) (S : Sx) (rv : Int32) (ho : o_X0_rollingHorses_30 ok j0 v2 w0 w1 S) (he : b_X0_rollingHorses_30 kk j0 v2 w0 w1 S = rv) : Jg p l e rm_X0_rollingHorses s m args below meth c 0 0 (MQ below (Qi D q ad d rv S s.heap.size) args s 0 0 (AU ad s.heap.size)) D q ad d 3 30 [(0, .ref (ad j0)), (2, .int v2)] [.int w0, .int w1] S := by
  unfold b_X0_rollingHorses_30 at he
  unfold o_X0_rollingHorses_30 at ho
  refine j_iadd X dX0_rollingHorses_30 ?_
  refine j_istore_n X [(1, .int (w1 + w0)), (0, .ref (ad j0)), (2, .int v2)] dX0_rollingHorses_31 (by decide) rfl ?_
  refine j_iinc X 2 (v2 + 1) [(2, .int (v2 + 1)), (1, .int (w1 + w0)), (0, .ref (ad j0))] dX0_rollingHorses_32 rfl rfl (by decide) rfl ?_
  refine j_goto X 4 dX0_rollingHorses_35 (by decide) ?_
  refine j_lv [2, 1, 0] [(0, .ref (ad j0)), (1, .int (w1 + w0)), (2, .int (v2 + 1))] rfl ?_
  exact hkk j0 hj0 (w1 + w0) (v2 + 1) S _ ho he
def b_X0_rollingHorses_4 : Nat → Nat → Int32 → Int32 → Sx → Int32
  | 0, _, _, _, S => 0
  | n + 1, j0, v1, v2, S => if (S j0 6) ≤ v2 then v1 else if (b_X1_isRolling_0 (j0 + 11 + v2.toNatClampNeg) S) = 0 then b_X0_rollingHorses_30 (b_X0_rollingHorses_4 n) j0 v2 0 v1 S else b_X0_rollingHorses_30 (b_X0_rollingHorses_4 n) j0 v2 1 v1 S
def o_X0_rollingHorses_4 : Nat → Nat → Int32 → Int32 → Sx → Prop
  | 0, _, _, _, _ => False
  | n + 1, j0, v1, v2, S => ((S j0 6) ≤ v2 → True) ∧ (¬ (S j0 6) ≤ v2 → (vp_in v2 5 ∧ (o_X1_isRolling_0 (j0 + 11 + v2.toNatClampNeg) S ∧ (((b_X1_isRolling_0 (j0 + 11 + v2.toNatClampNeg) S) = 0 → (o_X0_rollingHorses_30 (o_X0_rollingHorses_4 n) j0 v2 0 v1 S)) ∧ (¬ (b_X1_isRolling_0 (j0 + 11 + v2.toNatClampNeg) S) = 0 → (o_X0_rollingHorses_30 (o_X0_rollingHorses_4 n) j0 v2 1 v1 S))))))
set_option maxRecDepth 20000 in
theorem t_X0_rollingHorses_4 (X : Cx p m c cX0_rollingHorses 3 s args RX0 D q ad) (hr : meth.sig.returnType = some .int) (hlocks : meth.locks = false) : ∀ (n : Nat) (j0 : Nat) (hj0 : isK 0 j0) (v1 : Int32) (v2 : Int32) (S : Sx) (rv : Int32) (ho : o_X0_rollingHorses_4 n j0 v1 v2 S) (he : b_X0_rollingHorses_4 n j0 v1 v2 S = rv), Jg p l e rm_X0_rollingHorses s m args below meth c 0 0 (MQ below (Qi D q ad d rv S s.heap.size) args s 0 0 (AU ad s.heap.size)) D q ad d 3 4 [(0, .ref (ad j0)), (1, .int v1), (2, .int v2)] [] S := by
  intro n
  induction n with
  | zero =>
    intro j0 hj0 v1 v2 S rv ho he
    unfold o_X0_rollingHorses_4 at ho
    exact ho.elim
  | succ n ih =>
    intro j0 hj0 v1 v2 S rv ho he
    unfold b_X0_rollingHorses_4 at he
    unfold o_X0_rollingHorses_4 at ho
    refine j_iload_n X 2 dX0_rollingHorses_4 rfl ?_
    refine j_aload_n X 0 dX0_rollingHorses_5 rfl ?_
    refine gf_0_6 X m_fl_X0_58 hj0 dX0_rollingHorses_6 ?_
    refine j_icmp_ge X 38 dX0_rollingHorses_9 (by decide) (fun h2 => ?_) (fun h2 => ?_)
    · rw [if_pos h2] at he
      have ho := ho.1 h2
      refine j_iload_n X 1 dX0_rollingHorses_38 rfl ?_
      exact j_iret X hr hlocks dX0_rollingHorses_39 he rfl
    · rw [if_neg h2] at he
      have ho := ho.2 h2
      refine j_iload_n X 1 dX0_rollingHorses_12 rfl ?_
      refine j_aload_n X 0 dX0_rollingHorses_13 rfl ?_
      refine gf_0_7 X m_fl_X0_30 hj0 dX0_rollingHorses_14 ?_
      refine j_iload_n X 2 dX0_rollingHorses_17 rfl ?_
      have h3 := ho.1
      have ho := ho.2
      refine j_aald (a := ad (j0 + 11 + v2.toNatClampNeg)) X 2 (k0_5 hj0).1 (cl_5 (k0_5 hj0)) rfl h3 rfl dX0_rollingHorses_18 ?_
      have hk4 : isK 8 (j0 + 11 + v2.toNatClampNeg) := k0_8 hj0 (vlt h3)
      have h5 := ho.1
      have ho := ho.2
      refine j_callVi (rest := [.int v1]) X (c_X1_isRolling (cx_inj X) (j0 + 11 + v2.toNatClampNeg) hk4 S h5) cw_X0_129 hk4.1 (cl_8 hk4) rfl ⟨rfl, rfl, Nat.le_of_ble_eq_true rfl, Nat.le_of_ble_eq_true rfl⟩ rfl rfl (Nat.le_of_ble_eq_true rfl) ⟨Nat.le_of_ble_eq_true rfl, Nat.le_of_ble_eq_true rfl⟩ dX0_rollingHorses_19 ?_
      refine j_if_eq X 29 dX0_rollingHorses_22 (by decide) (fun h6 => ?_) (fun h6 => ?_)
      · rw [if_pos h6] at he
        have ho := ho.1 h6
        refine j_iconst (v := 0) X dX0_rollingHorses_29 (by decide) ?_
        refine j_lv [0, 2] [(0, .ref (ad j0)), (2, .int v2)] rfl ?_
        exact t_X0_rollingHorses_30 X hr hlocks (b_X0_rollingHorses_4 n) (o_X0_rollingHorses_4 n) ih j0 hj0 v2 0 v1 S _ ho he
      · rw [if_neg h6] at he
        have ho := ho.2 h6
        refine j_iconst (v := 1) X dX0_rollingHorses_25 (by decide) ?_
        refine j_goto X 30 dX0_rollingHorses_26 (by decide) ?_
        refine j_lv [0, 2] [(0, .ref (ad j0)), (2, .int v2)] rfl ?_
        exact t_X0_rollingHorses_30 X hr hlocks (b_X0_rollingHorses_4 n) (o_X0_rollingHorses_4 n) ih j0 hj0 v2 1 v1 S _ ho he
def b_X0_rollingHorses_0 (this : Nat) (S : Sx) : Int32 := b_X0_rollingHorses_4 100 this 0 0 S
def o_X0_rollingHorses_0 (this : Nat) (S : Sx) : Prop := o_X0_rollingHorses_4 100 this 0 0 S
set_option maxRecDepth 20000 in
theorem t_X0_rollingHorses_0 (X : Cx p m c cX0_rollingHorses 3 s args RX0 D q ad) (hr : meth.sig.returnType = some .int) (hlocks : meth.locks = false) (this : Nat) (hthis : isK 0 this) (S : Sx) (rv : Int32) (ho : o_X0_rollingHorses_0 this S) (he : b_X0_rollingHorses_0 this S = rv) : Jg p l e rm_X0_rollingHorses s m args below meth c 0 0 (MQ below (Qi D q ad d rv S s.heap.size) args s 0 0 (AU ad s.heap.size)) D q ad d 3 0 [(0, .ref (ad this))] [] S := by
  unfold b_X0_rollingHorses_0 at he
  unfold o_X0_rollingHorses_0 at ho
  refine j_iconst (v := 0) X dX0_rollingHorses_0 (by decide) ?_
  refine j_istore_n X [(1, .int 0), (0, .ref (ad this))] dX0_rollingHorses_1 (by decide) rfl ?_
  refine j_iconst (v := 0) X dX0_rollingHorses_2 (by decide) ?_
  refine j_istore_n X [(2, .int 0), (1, .int 0), (0, .ref (ad this))] dX0_rollingHorses_3 (by decide) rfl ?_
  refine j_lv [2, 1, 0] [(0, .ref (ad this)), (1, .int 0), (2, .int 0)] rfl ?_
  exact t_X0_rollingHorses_4 X hr hlocks 100 this hthis 0 0 S _ ho he
theorem c_X0_rollingHorses {l : Launch} {D : va_G} {q : Nat → ClassId} {ad : Nat → Nat} {d : UInt64} (hI : inj4 ad) (this : Nat) (hthis : isK 0 this) (S : Sx) (ho : o_X0_rollingHorses_0 this S) : CI l yX0_rollingHorses cX0_rollingHorses 3 .int rm_X0_rollingHorses D q ad d [.ref (ad this)] S (b_X0_rollingHorses_0 this S) S := ci_of hI (by decide +kernel) (Nat.le_of_ble_eq_true rfl) rfl (fun p e s m args below meth c X hr hlocks => t_X0_rollingHorses_0 X hr hlocks this hthis S _ ho rfl)
end
/-! RX0.bootedHorses -/
abbrev rm_X0_bootedHorses : Room := { frames := 0, cells := 0, slots := 0, locals := 0 }
section
variable {p : Program} {l : Launch} {e : Env} {s : State} {m : MethodId} {args : Array Value} {below : List Frame} {meth : Method} {c : Code} {D : va_G} {q : Nat → ClassId} {ad : Nat → Nat} {d : UInt64}
def b_X0_bootedHorses_30 (kk : Nat → Int32 → Int32 → Sx → Int32) (j0 : Nat) (v2 : Int32) (w0 : Int32) (w1 : Int32) (S : Sx) : Int32 := kk j0 (w1 + w0) (v2 + 1) S
def o_X0_bootedHorses_30 (ok : Nat → Int32 → Int32 → Sx → Prop) (j0 : Nat) (v2 : Int32) (w0 : Int32) (w1 : Int32) (S : Sx) : Prop := ok j0 (w1 + w0) (v2 + 1) S
set_option maxRecDepth 20000 in
theorem t_X0_bootedHorses_30 (X : Cx p m c cX0_bootedHorses 3 s args RX0 D q ad) (hr : meth.sig.returnType = some .int) (hlocks : meth.locks = false) (kk : Nat → Int32 → Int32 → Sx → Int32) (ok : Nat → Int32 → Int32 → Sx → Prop) (hkk : ∀ (j0 : Nat) (hj0 : isK 0 j0) (v1 : Int32) (v2 : Int32) (S : Sx) (rv : Int32) (ho : ok j0 v1 v2 S) (he : kk j0 v1 v2 S = rv), Jg p l e rm_X0_bootedHorses s m args below meth c 0 0 (MQ below (Qi D q ad d rv S s.heap.size) args s 0 0 (AU ad s.heap.size)) D q ad d 3 4 [(0, .ref (ad j0)), (1, .int v1), (2, .int v2)] [] S) (j0 : Nat) (hj0 : isK 0 j0) (v2 : Int32) (w0 : Int32) (w1 : Int32) (S : Sx) (rv : Int32) (ho : o_X0_bootedHorses_30 ok j0 v2 w0 w1 S) (he : b_X0_bootedHorses_30 kk j0 v2 w0 w1 S = rv) : Jg p l e rm_X0_bootedHorses s m args below meth c 0 0 (MQ below (Qi D q ad d rv S s.heap.size) args s 0 0 (AU ad s.heap.size)) D q ad d 3 30 [(0, .ref (ad j0)), (2, .int v2)] [.int w0, .int w1] S := by
  unfold b_X0_bootedHorses_30 at he
  unfold o_X0_bootedHorses_30 at ho
  refine j_iadd X dX0_bootedHorses_30 ?_
  refine j_istore_n X [(1, .int (w1 + w0)), (0, .ref (ad j0)), (2, .int v2)] dX0_bootedHorses_31 (by decide) rfl ?_
  refine j_iinc X 2 (v2 + 1) [(2, .int (v2 + 1)), (1, .int (w1 + w0)), (0, .ref (ad j0))] dX0_bootedHorses_32 rfl rfl (by decide) rfl ?_
  refine j_goto X 4 dX0_bootedHorses_35 (by decide) ?_
  refine j_lv [2, 1, 0] [(0, .ref (ad j0)), (1, .int (w1 + w0)), (2, .int (v2 + 1))] rfl ?_
  exact hkk j0 hj0 (w1 + w0) (v2 + 1) S _ ho he
def b_X0_bootedHorses_4 : Nat → Nat → Int32 → Int32 → Sx → Int32
  | 0, _, _, _, S => 0
  | n + 1, j0, v1, v2, S => if (S j0 6) ≤ v2 then v1 else if (nb (S (j0 + 11 + v2.toNatClampNeg) 1)) = 0 then b_X0_bootedHorses_30 (b_X0_bootedHorses_4 n) j0 v2 0 v1 S else b_X0_bootedHorses_30 (b_X0_bootedHorses_4 n) j0 v2 1 v1 S
def o_X0_bootedHorses_4 : Nat → Nat → Int32 → Int32 → Sx → Prop
  | 0, _, _, _, _ => False
  | n + 1, j0, v1, v2, S => ((S j0 6) ≤ v2 → True) ∧ (¬ (S j0 6) ≤ v2 → (vp_in v2 5 ∧ (((nb (S (j0 + 11 + v2.toNatClampNeg) 1)) = 0 → (o_X0_bootedHorses_30 (o_X0_bootedHorses_4 n) j0 v2 0 v1 S)) ∧ (¬ (nb (S (j0 + 11 + v2.toNatClampNeg) 1)) = 0 → (o_X0_bootedHorses_30 (o_X0_bootedHorses_4 n) j0 v2 1 v1 S)))))
set_option maxRecDepth 20000 in
theorem t_X0_bootedHorses_4 (X : Cx p m c cX0_bootedHorses 3 s args RX0 D q ad) (hr : meth.sig.returnType = some .int) (hlocks : meth.locks = false) : ∀ (n : Nat) (j0 : Nat) (hj0 : isK 0 j0) (v1 : Int32) (v2 : Int32) (S : Sx) (rv : Int32) (ho : o_X0_bootedHorses_4 n j0 v1 v2 S) (he : b_X0_bootedHorses_4 n j0 v1 v2 S = rv), Jg p l e rm_X0_bootedHorses s m args below meth c 0 0 (MQ below (Qi D q ad d rv S s.heap.size) args s 0 0 (AU ad s.heap.size)) D q ad d 3 4 [(0, .ref (ad j0)), (1, .int v1), (2, .int v2)] [] S := by
  intro n
  induction n with
  | zero =>
    intro j0 hj0 v1 v2 S rv ho he
    unfold o_X0_bootedHorses_4 at ho
    exact ho.elim
  | succ n ih =>
    intro j0 hj0 v1 v2 S rv ho he
    unfold b_X0_bootedHorses_4 at he
    unfold o_X0_bootedHorses_4 at ho
    refine j_iload_n X 2 dX0_bootedHorses_4 rfl ?_
    refine j_aload_n X 0 dX0_bootedHorses_5 rfl ?_
    refine gf_0_6 X m_fl_X0_58 hj0 dX0_bootedHorses_6 ?_
    refine j_icmp_ge X 38 dX0_bootedHorses_9 (by decide) (fun h2 => ?_) (fun h2 => ?_)
    · rw [if_pos h2] at he
      have ho := ho.1 h2
      refine j_iload_n X 1 dX0_bootedHorses_38 rfl ?_
      exact j_iret X hr hlocks dX0_bootedHorses_39 he rfl
    · rw [if_neg h2] at he
      have ho := ho.2 h2
      refine j_iload_n X 1 dX0_bootedHorses_12 rfl ?_
      refine j_aload_n X 0 dX0_bootedHorses_13 rfl ?_
      refine gf_0_7 X m_fl_X0_30 hj0 dX0_bootedHorses_14 ?_
      refine j_iload_n X 2 dX0_bootedHorses_17 rfl ?_
      have h3 := ho.1
      have ho := ho.2
      refine j_aald (a := ad (j0 + 11 + v2.toNatClampNeg)) X 2 (k0_5 hj0).1 (cl_5 (k0_5 hj0)) rfl h3 rfl dX0_bootedHorses_18 ?_
      have hk4 : isK 8 (j0 + 11 + v2.toNatClampNeg) := k0_8 hj0 (vlt h3)
      refine gf_8_1 X m_fl_X0_145 hk4 dX0_bootedHorses_19 ?_
      refine j_if_eq X 29 dX0_bootedHorses_22 (by decide) (fun h5 => ?_) (fun h5 => ?_)
      · rw [if_pos h5] at he
        have ho := ho.1 h5
        refine j_iconst (v := 0) X dX0_bootedHorses_29 (by decide) ?_
        refine j_lv [0, 2] [(0, .ref (ad j0)), (2, .int v2)] rfl ?_
        exact t_X0_bootedHorses_30 X hr hlocks (b_X0_bootedHorses_4 n) (o_X0_bootedHorses_4 n) ih j0 hj0 v2 0 v1 S _ ho he
      · rw [if_neg h5] at he
        have ho := ho.2 h5
        refine j_iconst (v := 1) X dX0_bootedHorses_25 (by decide) ?_
        refine j_goto X 30 dX0_bootedHorses_26 (by decide) ?_
        refine j_lv [0, 2] [(0, .ref (ad j0)), (2, .int v2)] rfl ?_
        exact t_X0_bootedHorses_30 X hr hlocks (b_X0_bootedHorses_4 n) (o_X0_bootedHorses_4 n) ih j0 hj0 v2 1 v1 S _ ho he
def b_X0_bootedHorses_0 (this : Nat) (S : Sx) : Int32 := b_X0_bootedHorses_4 100 this 0 0 S
def o_X0_bootedHorses_0 (this : Nat) (S : Sx) : Prop := o_X0_bootedHorses_4 100 this 0 0 S
set_option maxRecDepth 20000 in
theorem t_X0_bootedHorses_0 (X : Cx p m c cX0_bootedHorses 3 s args RX0 D q ad) (hr : meth.sig.returnType = some .int) (hlocks : meth.locks = false) (this : Nat) (hthis : isK 0 this) (S : Sx) (rv : Int32) (ho : o_X0_bootedHorses_0 this S) (he : b_X0_bootedHorses_0 this S = rv) : Jg p l e rm_X0_bootedHorses s m args below meth c 0 0 (MQ below (Qi D q ad d rv S s.heap.size) args s 0 0 (AU ad s.heap.size)) D q ad d 3 0 [(0, .ref (ad this))] [] S := by
  unfold b_X0_bootedHorses_0 at he
  unfold o_X0_bootedHorses_0 at ho
  refine j_iconst (v := 0) X dX0_bootedHorses_0 (by decide) ?_
  refine j_istore_n X [(1, .int 0), (0, .ref (ad this))] dX0_bootedHorses_1 (by decide) rfl ?_
  refine j_iconst (v := 0) X dX0_bootedHorses_2 (by decide) ?_
  refine j_istore_n X [(2, .int 0), (1, .int 0), (0, .ref (ad this))] dX0_bootedHorses_3 (by decide) rfl ?_
  refine j_lv [2, 1, 0] [(0, .ref (ad this)), (1, .int 0), (2, .int 0)] rfl ?_
  exact t_X0_bootedHorses_4 X hr hlocks 100 this hthis 0 0 S _ ho he
theorem c_X0_bootedHorses {l : Launch} {D : va_G} {q : Nat → ClassId} {ad : Nat → Nat} {d : UInt64} (hI : inj4 ad) (this : Nat) (hthis : isK 0 this) (S : Sx) (ho : o_X0_bootedHorses_0 this S) : CI l yX0_bootedHorses cX0_bootedHorses 3 .int rm_X0_bootedHorses D q ad d [.ref (ad this)] S (b_X0_bootedHorses_0 this S) S := ci_of hI (by decide +kernel) (Nat.le_of_ble_eq_true rfl) rfl (fun p e s m args below meth c X hr hlocks => t_X0_bootedHorses_0 X hr hlocks this hthis S _ ho rfl)
end
/-! RX0.hoursOfHorses -/
abbrev rm_X0_hoursOfHorses : Room := { frames := 0, cells := 0, slots := 0, locals := 0 }
section
variable {p : Program} {l : Launch} {e : Env} {s : State} {m : MethodId} {args : Array Value} {below : List Frame} {meth : Method} {c : Code} {D : va_G} {q : Nat → ClassId} {ad : Nat → Nat} {d : UInt64}
def b_X0_hoursOfHorses_4 : Nat → Nat → Int32 → Int32 → Sx → Int32
  | 0, _, _, _, S => 0
  | n + 1, j0, v1, v2, S => if (S j0 6) ≤ v2 then v1 else b_X0_hoursOfHorses_4 n j0 (v1 + (S (j0 + 11 + v2.toNatClampNeg) 5)) (v2 + 1) S
def o_X0_hoursOfHorses_4 : Nat → Nat → Int32 → Int32 → Sx → Prop
  | 0, _, _, _, _ => False
  | n + 1, j0, v1, v2, S => ((S j0 6) ≤ v2 → True) ∧ (¬ (S j0 6) ≤ v2 → (vp_in v2 5 ∧ (o_X0_hoursOfHorses_4 n j0 (v1 + (S (j0 + 11 + v2.toNatClampNeg) 5)) (v2 + 1) S)))
set_option maxRecDepth 20000 in
theorem t_X0_hoursOfHorses_4 (X : Cx p m c cX0_hoursOfHorses 3 s args RX0 D q ad) (hr : meth.sig.returnType = some .int) (hlocks : meth.locks = false) : ∀ (n : Nat) (j0 : Nat) (hj0 : isK 0 j0) (v1 : Int32) (v2 : Int32) (S : Sx) (rv : Int32) (ho : o_X0_hoursOfHorses_4 n j0 v1 v2 S) (he : b_X0_hoursOfHorses_4 n j0 v1 v2 S = rv), Jg p l e rm_X0_hoursOfHorses s m args below meth c 0 0 (MQ below (Qi D q ad d rv S s.heap.size) args s 0 0 (AU ad s.heap.size)) D q ad d 3 4 [(0, .ref (ad j0)), (1, .int v1), (2, .int v2)] [] S := by
  intro n
  induction n with
  | zero =>
    intro j0 hj0 v1 v2 S rv ho he
    unfold o_X0_hoursOfHorses_4 at ho
    exact ho.elim
  | succ n ih =>
    intro j0 hj0 v1 v2 S rv ho he
    unfold b_X0_hoursOfHorses_4 at he
    unfold o_X0_hoursOfHorses_4 at ho
    refine j_iload_n X 2 dX0_hoursOfHorses_4 rfl ?_
    refine j_aload_n X 0 dX0_hoursOfHorses_5 rfl ?_
    refine gf_0_6 X m_fl_X0_58 hj0 dX0_hoursOfHorses_6 ?_
    refine j_icmp_ge X 30 dX0_hoursOfHorses_9 (by decide) (fun h2 => ?_) (fun h2 => ?_)
    · rw [if_pos h2] at he
      have ho := ho.1 h2
      refine j_iload_n X 1 dX0_hoursOfHorses_30 rfl ?_
      exact j_iret X hr hlocks dX0_hoursOfHorses_31 he rfl
    · rw [if_neg h2] at he
      have ho := ho.2 h2
      refine j_iload_n X 1 dX0_hoursOfHorses_12 rfl ?_
      refine j_aload_n X 0 dX0_hoursOfHorses_13 rfl ?_
      refine gf_0_7 X m_fl_X0_30 hj0 dX0_hoursOfHorses_14 ?_
      refine j_iload_n X 2 dX0_hoursOfHorses_17 rfl ?_
      have h3 := ho.1
      have ho := ho.2
      refine j_aald (a := ad (j0 + 11 + v2.toNatClampNeg)) X 2 (k0_5 hj0).1 (cl_5 (k0_5 hj0)) rfl h3 rfl dX0_hoursOfHorses_18 ?_
      have hk4 : isK 8 (j0 + 11 + v2.toNatClampNeg) := k0_8 hj0 (vlt h3)
      refine gf_8_5 X m_fl_X0_215 hk4 dX0_hoursOfHorses_19 ?_
      refine j_iadd X dX0_hoursOfHorses_22 ?_
      refine j_istore_n X [(1, .int (v1 + (S (j0 + 11 + v2.toNatClampNeg) 5))), (0, .ref (ad j0)), (2, .int v2)] dX0_hoursOfHorses_23 (by decide) rfl ?_
      refine j_iinc X 2 (v2 + 1) [(2, .int (v2 + 1)), (1, .int (v1 + (S (j0 + 11 + v2.toNatClampNeg) 5))), (0, .ref (ad j0))] dX0_hoursOfHorses_24 rfl rfl (by decide) rfl ?_
      refine j_goto X 4 dX0_hoursOfHorses_27 (by decide) ?_
      refine j_lv [2, 1, 0] [(0, .ref (ad j0)), (1, .int (v1 + (S (j0 + 11 + v2.toNatClampNeg) 5))), (2, .int (v2 + 1))] rfl ?_
      exact ih j0 hj0 (v1 + (S (j0 + 11 + v2.toNatClampNeg) 5)) (v2 + 1) S _ ho he
def b_X0_hoursOfHorses_0 (this : Nat) (S : Sx) : Int32 := b_X0_hoursOfHorses_4 100 this 0 0 S
def o_X0_hoursOfHorses_0 (this : Nat) (S : Sx) : Prop := o_X0_hoursOfHorses_4 100 this 0 0 S
set_option maxRecDepth 20000 in
theorem t_X0_hoursOfHorses_0 (X : Cx p m c cX0_hoursOfHorses 3 s args RX0 D q ad) (hr : meth.sig.returnType = some .int) (hlocks : meth.locks = false) (this : Nat) (hthis : isK 0 this) (S : Sx) (rv : Int32) (ho : o_X0_hoursOfHorses_0 this S) (he : b_X0_hoursOfHorses_0 this S = rv) : Jg p l e rm_X0_hoursOfHorses s m args below meth c 0 0 (MQ below (Qi D q ad d rv S s.heap.size) args s 0 0 (AU ad s.heap.size)) D q ad d 3 0 [(0, .ref (ad this))] [] S := by
  unfold b_X0_hoursOfHorses_0 at he
  unfold o_X0_hoursOfHorses_0 at ho
  refine j_iconst (v := 0) X dX0_hoursOfHorses_0 (by decide) ?_
  refine j_istore_n X [(1, .int 0), (0, .ref (ad this))] dX0_hoursOfHorses_1 (by decide) rfl ?_
  refine j_iconst (v := 0) X dX0_hoursOfHorses_2 (by decide) ?_
  refine j_istore_n X [(2, .int 0), (1, .int 0), (0, .ref (ad this))] dX0_hoursOfHorses_3 (by decide) rfl ?_
  refine j_lv [2, 1, 0] [(0, .ref (ad this)), (1, .int 0), (2, .int 0)] rfl ?_
  exact t_X0_hoursOfHorses_4 X hr hlocks 100 this hthis 0 0 S _ ho he
theorem c_X0_hoursOfHorses {l : Launch} {D : va_G} {q : Nat → ClassId} {ad : Nat → Nat} {d : UInt64} (hI : inj4 ad) (this : Nat) (hthis : isK 0 this) (S : Sx) (ho : o_X0_hoursOfHorses_0 this S) : CI l yX0_hoursOfHorses cX0_hoursOfHorses 3 .int rm_X0_hoursOfHorses D q ad d [.ref (ad this)] S (b_X0_hoursOfHorses_0 this S) S := ci_of hI (by decide +kernel) (Nat.le_of_ble_eq_true rfl) rfl (fun p e s m args below meth c X hr hlocks => t_X0_hoursOfHorses_0 X hr hlocks this hthis S _ ho rfl)
end
/-! RX0.inningsOver -/
abbrev rm_X0_inningsOver : Room := { frames := 1, cells := 0, slots := 0, locals := 20 }
section
variable {p : Program} {l : Launch} {e : Env} {s : State} {m : MethodId} {args : Array Value} {below : List Frame} {meth : Method} {c : Code} {D : va_G} {q : Nat → ClassId} {ad : Nat → Nat} {d : UInt64}
def b_X0_inningsOver_30 (kk : Nat → Int32 → Int32 → Sx → Int32) (j0 : Nat) (v2 : Int32) (w0 : Int32) (w1 : Int32) (S : Sx) : Int32 := kk j0 (w1 + w0) (v2 + 1) S
def o_X0_inningsOver_30 (ok : Nat → Int32 → Int32 → Sx → Prop) (j0 : Nat) (v2 : Int32) (w0 : Int32) (w1 : Int32) (S : Sx) : Prop := ok j0 (w1 + w0) (v2 + 1) S
set_option maxRecDepth 20000 in
theorem t_X0_inningsOver_30 (X : Cx p m c cX0_inningsOver 3 s args RX0 D q ad) (hr : meth.sig.returnType = some .int) (hlocks : meth.locks = false) (kk : Nat → Int32 → Int32 → Sx → Int32) (ok : Nat → Int32 → Int32 → Sx → Prop) (hkk : ∀ (j0 : Nat) (hj0 : isK 0 j0) (v1 : Int32) (v2 : Int32) (S : Sx) (rv : Int32) (ho : ok j0 v1 v2 S) (he : kk j0 v1 v2 S = rv), Jg p l e rm_X0_inningsOver s m args below meth c 0 0 (MQ below (Qi D q ad d rv S s.heap.size) args s 0 0 (AU ad s.heap.size)) D q ad d 3 4 [(0, .ref (ad j0)), (1, .int v1), (2, .int v2)] [] S) (j0 : Nat) (hj0 : isK 0 j0) (v2 : Int32) (w0 : Int32) (w1 : Int32) (S : Sx) (rv : Int32) (ho : o_X0_inningsOver_30 ok j0 v2 w0 w1 S) (he : b_X0_inningsOver_30 kk j0 v2 w0 w1 S = rv) : Jg p l e rm_X0_inningsOver s m args below meth c 0 0 (MQ below (Qi D q ad d rv S s.heap.size) args s 0 0 (AU ad s.heap.size)) D q ad d 3 30 [(0, .ref (ad j0)), (2, .int v2)] [.int w0, .int w1] S := by
  unfold b_X0_inningsOver_30 at he
  unfold o_X0_inningsOver_30 at ho
  refine j_iadd X dX0_inningsOver_30 ?_
  refine j_istore_n X [(1, .int (w1 + w0)), (0, .ref (ad j0)), (2, .int v2)] dX0_inningsOver_31 (by decide) rfl ?_
  refine j_iinc X 2 (v2 + 1) [(2, .int (v2 + 1)), (1, .int (w1 + w0)), (0, .ref (ad j0))] dX0_inningsOver_32 rfl rfl (by decide) rfl ?_
  refine j_goto X 4 dX0_inningsOver_35 (by decide) ?_
  refine j_lv [2, 1, 0] [(0, .ref (ad j0)), (1, .int (w1 + w0)), (2, .int (v2 + 1))] rfl ?_
  exact hkk j0 hj0 (w1 + w0) (v2 + 1) S _ ho he
def b_X0_inningsOver_4 : Nat → Nat → Int32 → Int32 → Sx → Int32
  | 0, _, _, _, S => 0
  | n + 1, j0, v1, v2, S => if (S j0 10) ≤ v2 then v1 else if (b_X2_isOver_0 (j0 + 16 + v2.toNatClampNeg) S) = 0 then b_X0_inningsOver_30 (b_X0_inningsOver_4 n) j0 v2 0 v1 S else b_X0_inningsOver_30 (b_X0_inningsOver_4 n) j0 v2 1 v1 S
def o_X0_inningsOver_4 : Nat → Nat → Int32 → Int32 → Sx → Prop
  | 0, _, _, _, _ => False
  | n + 1, j0, v1, v2, S => ((S j0 10) ≤ v2 → True) ∧ (¬ (S j0 10) ≤ v2 → (vp_in v2 12 ∧ (o_X2_isOver_0 (j0 + 16 + v2.toNatClampNeg) S ∧ (((b_X2_isOver_0 (j0 + 16 + v2.toNatClampNeg) S) = 0 → (o_X0_inningsOver_30 (o_X0_inningsOver_4 n) j0 v2 0 v1 S)) ∧ (¬ (b_X2_isOver_0 (j0 + 16 + v2.toNatClampNeg) S) = 0 → (o_X0_inningsOver_30 (o_X0_inningsOver_4 n) j0 v2 1 v1 S))))))
set_option maxRecDepth 20000 in
theorem t_X0_inningsOver_4 (X : Cx p m c cX0_inningsOver 3 s args RX0 D q ad) (hr : meth.sig.returnType = some .int) (hlocks : meth.locks = false) : ∀ (n : Nat) (j0 : Nat) (hj0 : isK 0 j0) (v1 : Int32) (v2 : Int32) (S : Sx) (rv : Int32) (ho : o_X0_inningsOver_4 n j0 v1 v2 S) (he : b_X0_inningsOver_4 n j0 v1 v2 S = rv), Jg p l e rm_X0_inningsOver s m args below meth c 0 0 (MQ below (Qi D q ad d rv S s.heap.size) args s 0 0 (AU ad s.heap.size)) D q ad d 3 4 [(0, .ref (ad j0)), (1, .int v1), (2, .int v2)] [] S := by
  intro n
  induction n with
  | zero =>
    intro j0 hj0 v1 v2 S rv ho he
    unfold o_X0_inningsOver_4 at ho
    exact ho.elim
  | succ n ih =>
    intro j0 hj0 v1 v2 S rv ho he
    unfold b_X0_inningsOver_4 at he
    unfold o_X0_inningsOver_4 at ho
    refine j_iload_n X 2 dX0_inningsOver_4 rfl ?_
    refine j_aload_n X 0 dX0_inningsOver_5 rfl ?_
    refine gf_0_10 X m_fl_X0_64 hj0 dX0_inningsOver_6 ?_
    refine j_icmp_ge X 38 dX0_inningsOver_9 (by decide) (fun h2 => ?_) (fun h2 => ?_)
    · rw [if_pos h2] at he
      have ho := ho.1 h2
      refine j_iload_n X 1 dX0_inningsOver_38 rfl ?_
      exact j_iret X hr hlocks dX0_inningsOver_39 he rfl
    · rw [if_neg h2] at he
      have ho := ho.2 h2
      refine j_iload_n X 1 dX0_inningsOver_12 rfl ?_
      refine j_aload_n X 0 dX0_inningsOver_13 rfl ?_
      refine gf_0_11 X m_fl_X0_39 hj0 dX0_inningsOver_14 ?_
      refine j_iload_n X 2 dX0_inningsOver_17 rfl ?_
      have h3 := ho.1
      have ho := ho.2
      refine j_aald (a := ad (j0 + 16 + v2.toNatClampNeg)) X 3 (k0_6 hj0).1 (cl_6 (k0_6 hj0)) rfl h3 rfl dX0_inningsOver_18 ?_
      have hk4 : isK 9 (j0 + 16 + v2.toNatClampNeg) := k0_9 hj0 (vlt h3)
      have h5 := ho.1
      have ho := ho.2
      refine j_callVi (rest := [.int v1]) X (c_X2_isOver (cx_inj X) (j0 + 16 + v2.toNatClampNeg) hk4 S h5) cw_X0_84 hk4.1 (cl_9 hk4) rfl ⟨rfl, rfl, Nat.le_of_ble_eq_true rfl, Nat.le_of_ble_eq_true rfl⟩ rfl rfl (Nat.le_of_ble_eq_true rfl) ⟨Nat.le_of_ble_eq_true rfl, Nat.le_of_ble_eq_true rfl⟩ dX0_inningsOver_19 ?_
      refine j_if_eq X 29 dX0_inningsOver_22 (by decide) (fun h6 => ?_) (fun h6 => ?_)
      · rw [if_pos h6] at he
        have ho := ho.1 h6
        refine j_iconst (v := 0) X dX0_inningsOver_29 (by decide) ?_
        refine j_lv [0, 2] [(0, .ref (ad j0)), (2, .int v2)] rfl ?_
        exact t_X0_inningsOver_30 X hr hlocks (b_X0_inningsOver_4 n) (o_X0_inningsOver_4 n) ih j0 hj0 v2 0 v1 S _ ho he
      · rw [if_neg h6] at he
        have ho := ho.2 h6
        refine j_iconst (v := 1) X dX0_inningsOver_25 (by decide) ?_
        refine j_goto X 30 dX0_inningsOver_26 (by decide) ?_
        refine j_lv [0, 2] [(0, .ref (ad j0)), (2, .int v2)] rfl ?_
        exact t_X0_inningsOver_30 X hr hlocks (b_X0_inningsOver_4 n) (o_X0_inningsOver_4 n) ih j0 hj0 v2 1 v1 S _ ho he
def b_X0_inningsOver_0 (this : Nat) (S : Sx) : Int32 := b_X0_inningsOver_4 100 this 0 0 S
def o_X0_inningsOver_0 (this : Nat) (S : Sx) : Prop := o_X0_inningsOver_4 100 this 0 0 S
set_option maxRecDepth 20000 in
theorem t_X0_inningsOver_0 (X : Cx p m c cX0_inningsOver 3 s args RX0 D q ad) (hr : meth.sig.returnType = some .int) (hlocks : meth.locks = false) (this : Nat) (hthis : isK 0 this) (S : Sx) (rv : Int32) (ho : o_X0_inningsOver_0 this S) (he : b_X0_inningsOver_0 this S = rv) : Jg p l e rm_X0_inningsOver s m args below meth c 0 0 (MQ below (Qi D q ad d rv S s.heap.size) args s 0 0 (AU ad s.heap.size)) D q ad d 3 0 [(0, .ref (ad this))] [] S := by
  unfold b_X0_inningsOver_0 at he
  unfold o_X0_inningsOver_0 at ho
  refine j_iconst (v := 0) X dX0_inningsOver_0 (by decide) ?_
  refine j_istore_n X [(1, .int 0), (0, .ref (ad this))] dX0_inningsOver_1 (by decide) rfl ?_
  refine j_iconst (v := 0) X dX0_inningsOver_2 (by decide) ?_
  refine j_istore_n X [(2, .int 0), (1, .int 0), (0, .ref (ad this))] dX0_inningsOver_3 (by decide) rfl ?_
  refine j_lv [2, 1, 0] [(0, .ref (ad this)), (1, .int 0), (2, .int 0)] rfl ?_
  exact t_X0_inningsOver_4 X hr hlocks 100 this hthis 0 0 S _ ho he
theorem c_X0_inningsOver {l : Launch} {D : va_G} {q : Nat → ClassId} {ad : Nat → Nat} {d : UInt64} (hI : inj4 ad) (this : Nat) (hthis : isK 0 this) (S : Sx) (ho : o_X0_inningsOver_0 this S) : CI l yX0_inningsOver cX0_inningsOver 3 .int rm_X0_inningsOver D q ad d [.ref (ad this)] S (b_X0_inningsOver_0 this S) S := ci_of hI (by decide +kernel) (Nat.le_of_ble_eq_true rfl) rfl (fun p e s m args below meth c X hr hlocks => t_X0_inningsOver_0 X hr hlocks this hthis S _ ho rfl)
end
/-! RX0.ballsInInnings -/
abbrev rm_X0_ballsInInnings : Room := { frames := 0, cells := 0, slots := 0, locals := 0 }
section
variable {p : Program} {l : Launch} {e : Env} {s : State} {m : MethodId} {args : Array Value} {below : List Frame} {meth : Method} {c : Code} {D : va_G} {q : Nat → ClassId} {ad : Nat → Nat} {d : UInt64}
def b_X0_ballsInInnings_4 : Nat → Nat → Int32 → Int32 → Sx → Int32
  | 0, _, _, _, S => 0
  | n + 1, j0, v1, v2, S => if (S j0 10) ≤ v2 then v1 else b_X0_ballsInInnings_4 n j0 (v1 + (S (j0 + 16 + v2.toNatClampNeg) 3)) (v2 + 1) S
def o_X0_ballsInInnings_4 : Nat → Nat → Int32 → Int32 → Sx → Prop
  | 0, _, _, _, _ => False
  | n + 1, j0, v1, v2, S => ((S j0 10) ≤ v2 → True) ∧ (¬ (S j0 10) ≤ v2 → (vp_in v2 12 ∧ (o_X0_ballsInInnings_4 n j0 (v1 + (S (j0 + 16 + v2.toNatClampNeg) 3)) (v2 + 1) S)))
set_option maxRecDepth 20000 in
theorem t_X0_ballsInInnings_4 (X : Cx p m c cX0_ballsInInnings 3 s args RX0 D q ad) (hr : meth.sig.returnType = some .int) (hlocks : meth.locks = false) : ∀ (n : Nat) (j0 : Nat) (hj0 : isK 0 j0) (v1 : Int32) (v2 : Int32) (S : Sx) (rv : Int32) (ho : o_X0_ballsInInnings_4 n j0 v1 v2 S) (he : b_X0_ballsInInnings_4 n j0 v1 v2 S = rv), Jg p l e rm_X0_ballsInInnings s m args below meth c 0 0 (MQ below (Qi D q ad d rv S s.heap.size) args s 0 0 (AU ad s.heap.size)) D q ad d 3 4 [(0, .ref (ad j0)), (1, .int v1), (2, .int v2)] [] S := by
  intro n
  induction n with
  | zero =>
    intro j0 hj0 v1 v2 S rv ho he
    unfold o_X0_ballsInInnings_4 at ho
    exact ho.elim
  | succ n ih =>
    intro j0 hj0 v1 v2 S rv ho he
    unfold b_X0_ballsInInnings_4 at he
    unfold o_X0_ballsInInnings_4 at ho
    refine j_iload_n X 2 dX0_ballsInInnings_4 rfl ?_
    refine j_aload_n X 0 dX0_ballsInInnings_5 rfl ?_
    refine gf_0_10 X m_fl_X0_64 hj0 dX0_ballsInInnings_6 ?_
    refine j_icmp_ge X 30 dX0_ballsInInnings_9 (by decide) (fun h2 => ?_) (fun h2 => ?_)
    · rw [if_pos h2] at he
      have ho := ho.1 h2
      refine j_iload_n X 1 dX0_ballsInInnings_30 rfl ?_
      exact j_iret X hr hlocks dX0_ballsInInnings_31 he rfl
    · rw [if_neg h2] at he
      have ho := ho.2 h2
      refine j_iload_n X 1 dX0_ballsInInnings_12 rfl ?_
      refine j_aload_n X 0 dX0_ballsInInnings_13 rfl ?_
      refine gf_0_11 X m_fl_X0_39 hj0 dX0_ballsInInnings_14 ?_
      refine j_iload_n X 2 dX0_ballsInInnings_17 rfl ?_
      have h3 := ho.1
      have ho := ho.2
      refine j_aald (a := ad (j0 + 16 + v2.toNatClampNeg)) X 3 (k0_6 hj0).1 (cl_6 (k0_6 hj0)) rfl h3 rfl dX0_ballsInInnings_18 ?_
      have hk4 : isK 9 (j0 + 16 + v2.toNatClampNeg) := k0_9 hj0 (vlt h3)
      refine gf_9_3 X m_fl_X0_169 hk4 dX0_ballsInInnings_19 ?_
      refine j_iadd X dX0_ballsInInnings_22 ?_
      refine j_istore_n X [(1, .int (v1 + (S (j0 + 16 + v2.toNatClampNeg) 3))), (0, .ref (ad j0)), (2, .int v2)] dX0_ballsInInnings_23 (by decide) rfl ?_
      refine j_iinc X 2 (v2 + 1) [(2, .int (v2 + 1)), (1, .int (v1 + (S (j0 + 16 + v2.toNatClampNeg) 3))), (0, .ref (ad j0))] dX0_ballsInInnings_24 rfl rfl (by decide) rfl ?_
      refine j_goto X 4 dX0_ballsInInnings_27 (by decide) ?_
      refine j_lv [2, 1, 0] [(0, .ref (ad j0)), (1, .int (v1 + (S (j0 + 16 + v2.toNatClampNeg) 3))), (2, .int (v2 + 1))] rfl ?_
      exact ih j0 hj0 (v1 + (S (j0 + 16 + v2.toNatClampNeg) 3)) (v2 + 1) S _ ho he
def b_X0_ballsInInnings_0 (this : Nat) (S : Sx) : Int32 := b_X0_ballsInInnings_4 100 this 0 0 S
def o_X0_ballsInInnings_0 (this : Nat) (S : Sx) : Prop := o_X0_ballsInInnings_4 100 this 0 0 S
set_option maxRecDepth 20000 in
theorem t_X0_ballsInInnings_0 (X : Cx p m c cX0_ballsInInnings 3 s args RX0 D q ad) (hr : meth.sig.returnType = some .int) (hlocks : meth.locks = false) (this : Nat) (hthis : isK 0 this) (S : Sx) (rv : Int32) (ho : o_X0_ballsInInnings_0 this S) (he : b_X0_ballsInInnings_0 this S = rv) : Jg p l e rm_X0_ballsInInnings s m args below meth c 0 0 (MQ below (Qi D q ad d rv S s.heap.size) args s 0 0 (AU ad s.heap.size)) D q ad d 3 0 [(0, .ref (ad this))] [] S := by
  unfold b_X0_ballsInInnings_0 at he
  unfold o_X0_ballsInInnings_0 at ho
  refine j_iconst (v := 0) X dX0_ballsInInnings_0 (by decide) ?_
  refine j_istore_n X [(1, .int 0), (0, .ref (ad this))] dX0_ballsInInnings_1 (by decide) rfl ?_
  refine j_iconst (v := 0) X dX0_ballsInInnings_2 (by decide) ?_
  refine j_istore_n X [(2, .int 0), (1, .int 0), (0, .ref (ad this))] dX0_ballsInInnings_3 (by decide) rfl ?_
  refine j_lv [2, 1, 0] [(0, .ref (ad this)), (1, .int 0), (2, .int 0)] rfl ?_
  exact t_X0_ballsInInnings_4 X hr hlocks 100 this hthis 0 0 S _ ho he
theorem c_X0_ballsInInnings {l : Launch} {D : va_G} {q : Nat → ClassId} {ad : Nat → Nat} {d : UInt64} (hI : inj4 ad) (this : Nat) (hthis : isK 0 this) (S : Sx) (ho : o_X0_ballsInInnings_0 this S) : CI l yX0_ballsInInnings cX0_ballsInInnings 3 .int rm_X0_ballsInInnings D q ad d [.ref (ad this)] S (b_X0_ballsInInnings_0 this S) S := ci_of hI (by decide +kernel) (Nat.le_of_ble_eq_true rfl) rfl (fun p e s m args below meth c X hr hlocks => t_X0_ballsInInnings_0 X hr hlocks this hthis S _ ho rfl)
end
/-! RX0.runsInInnings -/
abbrev rm_X0_runsInInnings : Room := { frames := 0, cells := 0, slots := 0, locals := 0 }
section
variable {p : Program} {l : Launch} {e : Env} {s : State} {m : MethodId} {args : Array Value} {below : List Frame} {meth : Method} {c : Code} {D : va_G} {q : Nat → ClassId} {ad : Nat → Nat} {d : UInt64}
def b_X0_runsInInnings_4 : Nat → Nat → Int32 → Int32 → Sx → Int32
  | 0, _, _, _, S => 0
  | n + 1, j0, v1, v2, S => if (S j0 10) ≤ v2 then v1 else b_X0_runsInInnings_4 n j0 (v1 + (S (j0 + 16 + v2.toNatClampNeg) 4)) (v2 + 1) S
def o_X0_runsInInnings_4 : Nat → Nat → Int32 → Int32 → Sx → Prop
  | 0, _, _, _, _ => False
  | n + 1, j0, v1, v2, S => ((S j0 10) ≤ v2 → True) ∧ (¬ (S j0 10) ≤ v2 → (vp_in v2 12 ∧ (o_X0_runsInInnings_4 n j0 (v1 + (S (j0 + 16 + v2.toNatClampNeg) 4)) (v2 + 1) S)))
set_option maxRecDepth 20000 in
theorem t_X0_runsInInnings_4 (X : Cx p m c cX0_runsInInnings 3 s args RX0 D q ad) (hr : meth.sig.returnType = some .int) (hlocks : meth.locks = false) : ∀ (n : Nat) (j0 : Nat) (hj0 : isK 0 j0) (v1 : Int32) (v2 : Int32) (S : Sx) (rv : Int32) (ho : o_X0_runsInInnings_4 n j0 v1 v2 S) (he : b_X0_runsInInnings_4 n j0 v1 v2 S = rv), Jg p l e rm_X0_runsInInnings s m args below meth c 0 0 (MQ below (Qi D q ad d rv S s.heap.size) args s 0 0 (AU ad s.heap.size)) D q ad d 3 4 [(0, .ref (ad j0)), (1, .int v1), (2, .int v2)] [] S := by
  intro n
  induction n with
  | zero =>
    intro j0 hj0 v1 v2 S rv ho he
    unfold o_X0_runsInInnings_4 at ho
    exact ho.elim
  | succ n ih =>
    intro j0 hj0 v1 v2 S rv ho he
    unfold b_X0_runsInInnings_4 at he
    unfold o_X0_runsInInnings_4 at ho
    refine j_iload_n X 2 dX0_runsInInnings_4 rfl ?_
    refine j_aload_n X 0 dX0_runsInInnings_5 rfl ?_
    refine gf_0_10 X m_fl_X0_64 hj0 dX0_runsInInnings_6 ?_
    refine j_icmp_ge X 30 dX0_runsInInnings_9 (by decide) (fun h2 => ?_) (fun h2 => ?_)
    · rw [if_pos h2] at he
      have ho := ho.1 h2
      refine j_iload_n X 1 dX0_runsInInnings_30 rfl ?_
      exact j_iret X hr hlocks dX0_runsInInnings_31 he rfl
    · rw [if_neg h2] at he
      have ho := ho.2 h2
      refine j_iload_n X 1 dX0_runsInInnings_12 rfl ?_
      refine j_aload_n X 0 dX0_runsInInnings_13 rfl ?_
      refine gf_0_11 X m_fl_X0_39 hj0 dX0_runsInInnings_14 ?_
      refine j_iload_n X 2 dX0_runsInInnings_17 rfl ?_
      have h3 := ho.1
      have ho := ho.2
      refine j_aald (a := ad (j0 + 16 + v2.toNatClampNeg)) X 3 (k0_6 hj0).1 (cl_6 (k0_6 hj0)) rfl h3 rfl dX0_runsInInnings_18 ?_
      have hk4 : isK 9 (j0 + 16 + v2.toNatClampNeg) := k0_9 hj0 (vlt h3)
      refine gf_9_4 X m_fl_X0_175 hk4 dX0_runsInInnings_19 ?_
      refine j_iadd X dX0_runsInInnings_22 ?_
      refine j_istore_n X [(1, .int (v1 + (S (j0 + 16 + v2.toNatClampNeg) 4))), (0, .ref (ad j0)), (2, .int v2)] dX0_runsInInnings_23 (by decide) rfl ?_
      refine j_iinc X 2 (v2 + 1) [(2, .int (v2 + 1)), (1, .int (v1 + (S (j0 + 16 + v2.toNatClampNeg) 4))), (0, .ref (ad j0))] dX0_runsInInnings_24 rfl rfl (by decide) rfl ?_
      refine j_goto X 4 dX0_runsInInnings_27 (by decide) ?_
      refine j_lv [2, 1, 0] [(0, .ref (ad j0)), (1, .int (v1 + (S (j0 + 16 + v2.toNatClampNeg) 4))), (2, .int (v2 + 1))] rfl ?_
      exact ih j0 hj0 (v1 + (S (j0 + 16 + v2.toNatClampNeg) 4)) (v2 + 1) S _ ho he
def b_X0_runsInInnings_0 (this : Nat) (S : Sx) : Int32 := b_X0_runsInInnings_4 100 this 0 0 S
def o_X0_runsInInnings_0 (this : Nat) (S : Sx) : Prop := o_X0_runsInInnings_4 100 this 0 0 S
set_option maxRecDepth 20000 in
theorem t_X0_runsInInnings_0 (X : Cx p m c cX0_runsInInnings 3 s args RX0 D q ad) (hr : meth.sig.returnType = some .int) (hlocks : meth.locks = false) (this : Nat) (hthis : isK 0 this) (S : Sx) (rv : Int32) (ho : o_X0_runsInInnings_0 this S) (he : b_X0_runsInInnings_0 this S = rv) : Jg p l e rm_X0_runsInInnings s m args below meth c 0 0 (MQ below (Qi D q ad d rv S s.heap.size) args s 0 0 (AU ad s.heap.size)) D q ad d 3 0 [(0, .ref (ad this))] [] S := by
  unfold b_X0_runsInInnings_0 at he
  unfold o_X0_runsInInnings_0 at ho
  refine j_iconst (v := 0) X dX0_runsInInnings_0 (by decide) ?_
  refine j_istore_n X [(1, .int 0), (0, .ref (ad this))] dX0_runsInInnings_1 (by decide) rfl ?_
  refine j_iconst (v := 0) X dX0_runsInInnings_2 (by decide) ?_
  refine j_istore_n X [(2, .int 0), (1, .int 0), (0, .ref (ad this))] dX0_runsInInnings_3 (by decide) rfl ?_
  refine j_lv [2, 1, 0] [(0, .ref (ad this)), (1, .int 0), (2, .int 0)] rfl ?_
  exact t_X0_runsInInnings_4 X hr hlocks 100 this hthis 0 0 S _ ho he
theorem c_X0_runsInInnings {l : Launch} {D : va_G} {q : Nat → ClassId} {ad : Nat → Nat} {d : UInt64} (hI : inj4 ad) (this : Nat) (hthis : isK 0 this) (S : Sx) (ho : o_X0_runsInInnings_0 this S) : CI l yX0_runsInInnings cX0_runsInInnings 3 .int rm_X0_runsInInnings D q ad d [.ref (ad this)] S (b_X0_runsInInnings_0 this S) S := ci_of hI (by decide +kernel) (Nat.le_of_ble_eq_true rfl) rfl (fun p e s m args below meth c X hr hlocks => t_X0_runsInInnings_0 X hr hlocks this hthis S _ ho rfl)
end
/-! RX0.wicketsInInnings -/
abbrev rm_X0_wicketsInInnings : Room := { frames := 0, cells := 0, slots := 0, locals := 0 }
section
variable {p : Program} {l : Launch} {e : Env} {s : State} {m : MethodId} {args : Array Value} {below : List Frame} {meth : Method} {c : Code} {D : va_G} {q : Nat → ClassId} {ad : Nat → Nat} {d : UInt64}
def b_X0_wicketsInInnings_4 : Nat → Nat → Int32 → Int32 → Sx → Int32
  | 0, _, _, _, S => 0
  | n + 1, j0, v1, v2, S => if (S j0 10) ≤ v2 then v1 else b_X0_wicketsInInnings_4 n j0 (v1 + (S (j0 + 16 + v2.toNatClampNeg) 5)) (v2 + 1) S
def o_X0_wicketsInInnings_4 : Nat → Nat → Int32 → Int32 → Sx → Prop
  | 0, _, _, _, _ => False
  | n + 1, j0, v1, v2, S => ((S j0 10) ≤ v2 → True) ∧ (¬ (S j0 10) ≤ v2 → (vp_in v2 12 ∧ (o_X0_wicketsInInnings_4 n j0 (v1 + (S (j0 + 16 + v2.toNatClampNeg) 5)) (v2 + 1) S)))
set_option maxRecDepth 20000 in
theorem t_X0_wicketsInInnings_4 (X : Cx p m c cX0_wicketsInInnings 3 s args RX0 D q ad) (hr : meth.sig.returnType = some .int) (hlocks : meth.locks = false) : ∀ (n : Nat) (j0 : Nat) (hj0 : isK 0 j0) (v1 : Int32) (v2 : Int32) (S : Sx) (rv : Int32) (ho : o_X0_wicketsInInnings_4 n j0 v1 v2 S) (he : b_X0_wicketsInInnings_4 n j0 v1 v2 S = rv), Jg p l e rm_X0_wicketsInInnings s m args below meth c 0 0 (MQ below (Qi D q ad d rv S s.heap.size) args s 0 0 (AU ad s.heap.size)) D q ad d 3 4 [(0, .ref (ad j0)), (1, .int v1), (2, .int v2)] [] S := by
  intro n
  induction n with
  | zero =>
    intro j0 hj0 v1 v2 S rv ho he
    unfold o_X0_wicketsInInnings_4 at ho
    exact ho.elim
  | succ n ih =>
    intro j0 hj0 v1 v2 S rv ho he
    unfold b_X0_wicketsInInnings_4 at he
    unfold o_X0_wicketsInInnings_4 at ho
    refine j_iload_n X 2 dX0_wicketsInInnings_4 rfl ?_
    refine j_aload_n X 0 dX0_wicketsInInnings_5 rfl ?_
    refine gf_0_10 X m_fl_X0_64 hj0 dX0_wicketsInInnings_6 ?_
    refine j_icmp_ge X 30 dX0_wicketsInInnings_9 (by decide) (fun h2 => ?_) (fun h2 => ?_)
    · rw [if_pos h2] at he
      have ho := ho.1 h2
      refine j_iload_n X 1 dX0_wicketsInInnings_30 rfl ?_
      exact j_iret X hr hlocks dX0_wicketsInInnings_31 he rfl
    · rw [if_neg h2] at he
      have ho := ho.2 h2
      refine j_iload_n X 1 dX0_wicketsInInnings_12 rfl ?_
      refine j_aload_n X 0 dX0_wicketsInInnings_13 rfl ?_
      refine gf_0_11 X m_fl_X0_39 hj0 dX0_wicketsInInnings_14 ?_
      refine j_iload_n X 2 dX0_wicketsInInnings_17 rfl ?_
      have h3 := ho.1
      have ho := ho.2
      refine j_aald (a := ad (j0 + 16 + v2.toNatClampNeg)) X 3 (k0_6 hj0).1 (cl_6 (k0_6 hj0)) rfl h3 rfl dX0_wicketsInInnings_18 ?_
      have hk4 : isK 9 (j0 + 16 + v2.toNatClampNeg) := k0_9 hj0 (vlt h3)
      refine gf_9_5 X m_fl_X0_218 hk4 dX0_wicketsInInnings_19 ?_
      refine j_iadd X dX0_wicketsInInnings_22 ?_
      refine j_istore_n X [(1, .int (v1 + (S (j0 + 16 + v2.toNatClampNeg) 5))), (0, .ref (ad j0)), (2, .int v2)] dX0_wicketsInInnings_23 (by decide) rfl ?_
      refine j_iinc X 2 (v2 + 1) [(2, .int (v2 + 1)), (1, .int (v1 + (S (j0 + 16 + v2.toNatClampNeg) 5))), (0, .ref (ad j0))] dX0_wicketsInInnings_24 rfl rfl (by decide) rfl ?_
      refine j_goto X 4 dX0_wicketsInInnings_27 (by decide) ?_
      refine j_lv [2, 1, 0] [(0, .ref (ad j0)), (1, .int (v1 + (S (j0 + 16 + v2.toNatClampNeg) 5))), (2, .int (v2 + 1))] rfl ?_
      exact ih j0 hj0 (v1 + (S (j0 + 16 + v2.toNatClampNeg) 5)) (v2 + 1) S _ ho he
def b_X0_wicketsInInnings_0 (this : Nat) (S : Sx) : Int32 := b_X0_wicketsInInnings_4 100 this 0 0 S
def o_X0_wicketsInInnings_0 (this : Nat) (S : Sx) : Prop := o_X0_wicketsInInnings_4 100 this 0 0 S
set_option maxRecDepth 20000 in
theorem t_X0_wicketsInInnings_0 (X : Cx p m c cX0_wicketsInInnings 3 s args RX0 D q ad) (hr : meth.sig.returnType = some .int) (hlocks : meth.locks = false) (this : Nat) (hthis : isK 0 this) (S : Sx) (rv : Int32) (ho : o_X0_wicketsInInnings_0 this S) (he : b_X0_wicketsInInnings_0 this S = rv) : Jg p l e rm_X0_wicketsInInnings s m args below meth c 0 0 (MQ below (Qi D q ad d rv S s.heap.size) args s 0 0 (AU ad s.heap.size)) D q ad d 3 0 [(0, .ref (ad this))] [] S := by
  unfold b_X0_wicketsInInnings_0 at he
  unfold o_X0_wicketsInInnings_0 at ho
  refine j_iconst (v := 0) X dX0_wicketsInInnings_0 (by decide) ?_
  refine j_istore_n X [(1, .int 0), (0, .ref (ad this))] dX0_wicketsInInnings_1 (by decide) rfl ?_
  refine j_iconst (v := 0) X dX0_wicketsInInnings_2 (by decide) ?_
  refine j_istore_n X [(2, .int 0), (1, .int 0), (0, .ref (ad this))] dX0_wicketsInInnings_3 (by decide) rfl ?_
  refine j_lv [2, 1, 0] [(0, .ref (ad this)), (1, .int 0), (2, .int 0)] rfl ?_
  exact t_X0_wicketsInInnings_4 X hr hlocks 100 this hthis 0 0 S _ ho he
theorem c_X0_wicketsInInnings {l : Launch} {D : va_G} {q : Nat → ClassId} {ad : Nat → Nat} {d : UInt64} (hI : inj4 ad) (this : Nat) (hthis : isK 0 this) (S : Sx) (ho : o_X0_wicketsInInnings_0 this S) : CI l yX0_wicketsInInnings cX0_wicketsInInnings 3 .int rm_X0_wicketsInInnings D q ad d [.ref (ad this)] S (b_X0_wicketsInInnings_0 this S) S := ci_of hI (by decide +kernel) (Nat.le_of_ble_eq_true rfl) rfl (fun p e s m args below meth c X hr hlocks => t_X0_wicketsInInnings_0 X hr hlocks this hthis S _ ho rfl)
end
/-! RX2.runsByWorth -/
abbrev rm_X2_runsByWorth : Room := { frames := 0, cells := 0, slots := 0, locals := 0 }
section
variable {p : Program} {l : Launch} {e : Env} {s : State} {m : MethodId} {args : Array Value} {below : List Frame} {meth : Method} {c : Code} {D : va_G} {q : Nat → ClassId} {ad : Nat → Nat} {d : UInt64}
def b_X2_runsByWorth_26 (kk : Nat → Int32 → Int32 → Sx → Int32) (j0 : Nat) (v1 : Int32) (v2 : Int32) (S : Sx) : Int32 := kk j0 v1 (v2 + 1) S
def o_X2_runsByWorth_26 (ok : Nat → Int32 → Int32 → Sx → Prop) (j0 : Nat) (v1 : Int32) (v2 : Int32) (S : Sx) : Prop := ok j0 v1 (v2 + 1) S
set_option maxRecDepth 20000 in
theorem t_X2_runsByWorth_26 (X : Cx p m c cX2_runsByWorth 3 s args RX2 D q ad) (hr : meth.sig.returnType = some .int) (hlocks : meth.locks = false) (kk : Nat → Int32 → Int32 → Sx → Int32) (ok : Nat → Int32 → Int32 → Sx → Prop) (hkk : ∀ (j0 : Nat) (hj0 : isK 9 j0) (v1 : Int32) (v2 : Int32) (S : Sx) (rv : Int32) (ho : ok j0 v1 v2 S) (he : kk j0 v1 v2 S = rv), Jg p l e rm_X2_runsByWorth s m args below meth c 0 0 (MQ below (Qi D q ad d rv S s.heap.size) args s 0 0 (AU ad s.heap.size)) D q ad d 3 4 [(0, .ref (ad j0)), (1, .int v1), (2, .int v2)] [] S) (j0 : Nat) (hj0 : isK 9 j0) (v1 : Int32) (v2 : Int32) (S : Sx) (rv : Int32) (ho : o_X2_runsByWorth_26 ok j0 v1 v2 S) (he : b_X2_runsByWorth_26 kk j0 v1 v2 S = rv) : Jg p l e rm_X2_runsByWorth s m args below meth c 0 0 (MQ below (Qi D q ad d rv S s.heap.size) args s 0 0 (AU ad s.heap.size)) D q ad d 3 26 [(0, .ref (ad j0)), (1, .int v1), (2, .int v2)] [] S := by
  unfold b_X2_runsByWorth_26 at he
  unfold o_X2_runsByWorth_26 at ho
  refine j_iinc X 2 (v2 + 1) [(2, .int (v2 + 1)), (0, .ref (ad j0)), (1, .int v1)] dX2_runsByWorth_26 rfl rfl (by decide) rfl ?_
  refine j_goto X 4 dX2_runsByWorth_29 (by decide) ?_
  refine j_lv [1, 2, 0] [(0, .ref (ad j0)), (1, .int v1), (2, .int (v2 + 1))] rfl ?_
  exact hkk j0 hj0 v1 (v2 + 1) S _ ho he
def b_X2_runsByWorth_4 : Nat → Nat → Int32 → Int32 → Sx → Int32
  | 0, _, _, _, S => 0
  | n + 1, j0, v1, v2, S => if 7 ≤ v2 then v1 else if v2 = 5 then b_X2_runsByWorth_26 (b_X2_runsByWorth_4 n) j0 v1 v2 S else b_X2_runsByWorth_26 (b_X2_runsByWorth_4 n) j0 (v1 + (v2 * (S (j0 + 12) v2.toNatClampNeg))) v2 S
def o_X2_runsByWorth_4 : Nat → Nat → Int32 → Int32 → Sx → Prop
  | 0, _, _, _, _ => False
  | n + 1, j0, v1, v2, S => (7 ≤ v2 → True) ∧ (¬ 7 ≤ v2 → ((v2 = 5 → (o_X2_runsByWorth_26 (o_X2_runsByWorth_4 n) j0 v1 v2 S)) ∧ (¬ v2 = 5 → (vp_in v2 7 ∧ (o_X2_runsByWorth_26 (o_X2_runsByWorth_4 n) j0 (v1 + (v2 * (S (j0 + 12) v2.toNatClampNeg))) v2 S)))))
set_option maxRecDepth 20000 in
theorem t_X2_runsByWorth_4 (X : Cx p m c cX2_runsByWorth 3 s args RX2 D q ad) (hr : meth.sig.returnType = some .int) (hlocks : meth.locks = false) : ∀ (n : Nat) (j0 : Nat) (hj0 : isK 9 j0) (v1 : Int32) (v2 : Int32) (S : Sx) (rv : Int32) (ho : o_X2_runsByWorth_4 n j0 v1 v2 S) (he : b_X2_runsByWorth_4 n j0 v1 v2 S = rv), Jg p l e rm_X2_runsByWorth s m args below meth c 0 0 (MQ below (Qi D q ad d rv S s.heap.size) args s 0 0 (AU ad s.heap.size)) D q ad d 3 4 [(0, .ref (ad j0)), (1, .int v1), (2, .int v2)] [] S := by
  intro n
  induction n with
  | zero =>
    intro j0 hj0 v1 v2 S rv ho he
    unfold o_X2_runsByWorth_4 at ho
    exact ho.elim
  | succ n ih =>
    intro j0 hj0 v1 v2 S rv ho he
    unfold b_X2_runsByWorth_4 at he
    unfold o_X2_runsByWorth_4 at ho
    refine j_iload_n X 2 dX2_runsByWorth_4 rfl ?_
    refine j_bipush (v := 7) X dX2_runsByWorth_5 (by decide) ?_
    refine j_icmp_ge X 32 dX2_runsByWorth_7 (by decide) (fun h2 => ?_) (fun h2 => ?_)
    · rw [if_pos h2] at he
      have ho := ho.1 h2
      refine j_iload_n X 1 dX2_runsByWorth_32 rfl ?_
      exact j_iret X hr hlocks dX2_runsByWorth_33 he rfl
    · rw [if_neg h2] at he
      have ho := ho.2 h2
      refine j_iload_n X 2 dX2_runsByWorth_10 rfl ?_
      refine j_iconst (v := 5) X dX2_runsByWorth_11 (by decide) ?_
      refine j_icmp_eq X 26 dX2_runsByWorth_12 (by decide) (fun h3 => ?_) (fun h3 => ?_)
      · rw [if_pos h3] at he
        have ho := ho.1 h3
        exact t_X2_runsByWorth_26 X hr hlocks (b_X2_runsByWorth_4 n) (o_X2_runsByWorth_4 n) ih j0 hj0 v1 v2 S _ ho he
      · rw [if_neg h3] at he
        have ho := ho.2 h3
        refine j_iload_n X 1 dX2_runsByWorth_15 rfl ?_
        refine j_iload_n X 2 dX2_runsByWorth_16 rfl ?_
        refine j_aload_n X 0 dX2_runsByWorth_17 rfl ?_
        refine gf_9_7 X m_fl_X2_9 hj0 dX2_runsByWorth_18 ?_
        refine j_iload_n X 2 dX2_runsByWorth_21 rfl ?_
        have h4 := ho.1
        have ho := ho.2
        refine j_iald X (k9_10 hj0).1 (cl_10 (k9_10 hj0)) h4 dX2_runsByWorth_22 ?_
        refine j_imul X dX2_runsByWorth_23 ?_
        refine j_iadd X dX2_runsByWorth_24 ?_
        refine j_istore_n X [(1, .int (v1 + (v2 * (S (j0 + 12) v2.toNatClampNeg)))), (0, .ref (ad j0)), (2, .int v2)] dX2_runsByWorth_25 (by decide) rfl ?_
        refine j_lv [1, 0, 2] [(0, .ref (ad j0)), (1, .int (v1 + (v2 * (S (j0 + 12) v2.toNatClampNeg)))), (2, .int v2)] rfl ?_
        exact t_X2_runsByWorth_26 X hr hlocks (b_X2_runsByWorth_4 n) (o_X2_runsByWorth_4 n) ih j0 hj0 (v1 + (v2 * (S (j0 + 12) v2.toNatClampNeg))) v2 S _ ho he
def b_X2_runsByWorth_0 (this : Nat) (S : Sx) : Int32 := b_X2_runsByWorth_4 100 this 0 0 S
def o_X2_runsByWorth_0 (this : Nat) (S : Sx) : Prop := o_X2_runsByWorth_4 100 this 0 0 S
set_option maxRecDepth 20000 in
theorem t_X2_runsByWorth_0 (X : Cx p m c cX2_runsByWorth 3 s args RX2 D q ad) (hr : meth.sig.returnType = some .int) (hlocks : meth.locks = false) (this : Nat) (hthis : isK 9 this) (S : Sx) (rv : Int32) (ho : o_X2_runsByWorth_0 this S) (he : b_X2_runsByWorth_0 this S = rv) : Jg p l e rm_X2_runsByWorth s m args below meth c 0 0 (MQ below (Qi D q ad d rv S s.heap.size) args s 0 0 (AU ad s.heap.size)) D q ad d 3 0 [(0, .ref (ad this))] [] S := by
  unfold b_X2_runsByWorth_0 at he
  unfold o_X2_runsByWorth_0 at ho
  refine j_iconst (v := 0) X dX2_runsByWorth_0 (by decide) ?_
  refine j_istore_n X [(1, .int 0), (0, .ref (ad this))] dX2_runsByWorth_1 (by decide) rfl ?_
  refine j_iconst (v := 0) X dX2_runsByWorth_2 (by decide) ?_
  refine j_istore_n X [(2, .int 0), (1, .int 0), (0, .ref (ad this))] dX2_runsByWorth_3 (by decide) rfl ?_
  refine j_lv [2, 1, 0] [(0, .ref (ad this)), (1, .int 0), (2, .int 0)] rfl ?_
  exact t_X2_runsByWorth_4 X hr hlocks 100 this hthis 0 0 S _ ho he
theorem c_X2_runsByWorth {l : Launch} {D : va_G} {q : Nat → ClassId} {ad : Nat → Nat} {d : UInt64} (hI : inj4 ad) (this : Nat) (hthis : isK 9 this) (S : Sx) (ho : o_X2_runsByWorth_0 this S) : CI l yX2_runsByWorth cX2_runsByWorth 3 .int rm_X2_runsByWorth D q ad d [.ref (ad this)] S (b_X2_runsByWorth_0 this S) S := ci_of hI (by decide +kernel) (Nat.le_of_ble_eq_true rfl) rfl (fun p e s m args below meth c X hr hlocks => t_X2_runsByWorth_0 X hr hlocks this hthis S _ ho rfl)
end
/-! RX2.ballsByWorth -/
abbrev rm_X2_ballsByWorth : Room := { frames := 0, cells := 0, slots := 0, locals := 0 }
section
variable {p : Program} {l : Launch} {e : Env} {s : State} {m : MethodId} {args : Array Value} {below : List Frame} {meth : Method} {c : Code} {D : va_G} {q : Nat → ClassId} {ad : Nat → Nat} {d : UInt64}
def b_X2_ballsByWorth_4 : Nat → Nat → Int32 → Int32 → Sx → Int32
  | 0, _, _, _, S => 0
  | n + 1, j0, v1, v2, S => if 7 ≤ v2 then v1 else b_X2_ballsByWorth_4 n j0 (v1 + (S (j0 + 12) v2.toNatClampNeg)) (v2 + 1) S
def o_X2_ballsByWorth_4 : Nat → Nat → Int32 → Int32 → Sx → Prop
  | 0, _, _, _, _ => False
  | n + 1, j0, v1, v2, S => (7 ≤ v2 → True) ∧ (¬ 7 ≤ v2 → (vp_in v2 7 ∧ (o_X2_ballsByWorth_4 n j0 (v1 + (S (j0 + 12) v2.toNatClampNeg)) (v2 + 1) S)))
set_option maxRecDepth 20000 in
theorem t_X2_ballsByWorth_4 (X : Cx p m c cX2_ballsByWorth 3 s args RX2 D q ad) (hr : meth.sig.returnType = some .int) (hlocks : meth.locks = false) : ∀ (n : Nat) (j0 : Nat) (hj0 : isK 9 j0) (v1 : Int32) (v2 : Int32) (S : Sx) (rv : Int32) (ho : o_X2_ballsByWorth_4 n j0 v1 v2 S) (he : b_X2_ballsByWorth_4 n j0 v1 v2 S = rv), Jg p l e rm_X2_ballsByWorth s m args below meth c 0 0 (MQ below (Qi D q ad d rv S s.heap.size) args s 0 0 (AU ad s.heap.size)) D q ad d 3 4 [(0, .ref (ad j0)), (1, .int v1), (2, .int v2)] [] S := by
  intro n
  induction n with
  | zero =>
    intro j0 hj0 v1 v2 S rv ho he
    unfold o_X2_ballsByWorth_4 at ho
    exact ho.elim
  | succ n ih =>
    intro j0 hj0 v1 v2 S rv ho he
    unfold b_X2_ballsByWorth_4 at he
    unfold o_X2_ballsByWorth_4 at ho
    refine j_iload_n X 2 dX2_ballsByWorth_4 rfl ?_
    refine j_bipush (v := 7) X dX2_ballsByWorth_5 (by decide) ?_
    refine j_icmp_ge X 25 dX2_ballsByWorth_7 (by decide) (fun h2 => ?_) (fun h2 => ?_)
    · rw [if_pos h2] at he
      have ho := ho.1 h2
      refine j_iload_n X 1 dX2_ballsByWorth_25 rfl ?_
      exact j_iret X hr hlocks dX2_ballsByWorth_26 he rfl
    · rw [if_neg h2] at he
      have ho := ho.2 h2
      refine j_iload_n X 1 dX2_ballsByWorth_10 rfl ?_
      refine j_aload_n X 0 dX2_ballsByWorth_11 rfl ?_
      refine gf_9_7 X m_fl_X2_9 hj0 dX2_ballsByWorth_12 ?_
      refine j_iload_n X 2 dX2_ballsByWorth_15 rfl ?_
      have h3 := ho.1
      have ho := ho.2
      refine j_iald X (k9_10 hj0).1 (cl_10 (k9_10 hj0)) h3 dX2_ballsByWorth_16 ?_
      refine j_iadd X dX2_ballsByWorth_17 ?_
      refine j_istore_n X [(1, .int (v1 + (S (j0 + 12) v2.toNatClampNeg))), (0, .ref (ad j0)), (2, .int v2)] dX2_ballsByWorth_18 (by decide) rfl ?_
      refine j_iinc X 2 (v2 + 1) [(2, .int (v2 + 1)), (1, .int (v1 + (S (j0 + 12) v2.toNatClampNeg))), (0, .ref (ad j0))] dX2_ballsByWorth_19 rfl rfl (by decide) rfl ?_
      refine j_goto X 4 dX2_ballsByWorth_22 (by decide) ?_
      refine j_lv [2, 1, 0] [(0, .ref (ad j0)), (1, .int (v1 + (S (j0 + 12) v2.toNatClampNeg))), (2, .int (v2 + 1))] rfl ?_
      exact ih j0 hj0 (v1 + (S (j0 + 12) v2.toNatClampNeg)) (v2 + 1) S _ ho he
def b_X2_ballsByWorth_0 (this : Nat) (S : Sx) : Int32 := b_X2_ballsByWorth_4 100 this 0 0 S
def o_X2_ballsByWorth_0 (this : Nat) (S : Sx) : Prop := o_X2_ballsByWorth_4 100 this 0 0 S
set_option maxRecDepth 20000 in
theorem t_X2_ballsByWorth_0 (X : Cx p m c cX2_ballsByWorth 3 s args RX2 D q ad) (hr : meth.sig.returnType = some .int) (hlocks : meth.locks = false) (this : Nat) (hthis : isK 9 this) (S : Sx) (rv : Int32) (ho : o_X2_ballsByWorth_0 this S) (he : b_X2_ballsByWorth_0 this S = rv) : Jg p l e rm_X2_ballsByWorth s m args below meth c 0 0 (MQ below (Qi D q ad d rv S s.heap.size) args s 0 0 (AU ad s.heap.size)) D q ad d 3 0 [(0, .ref (ad this))] [] S := by
  unfold b_X2_ballsByWorth_0 at he
  unfold o_X2_ballsByWorth_0 at ho
  refine j_iconst (v := 0) X dX2_ballsByWorth_0 (by decide) ?_
  refine j_istore_n X [(1, .int 0), (0, .ref (ad this))] dX2_ballsByWorth_1 (by decide) rfl ?_
  refine j_iconst (v := 0) X dX2_ballsByWorth_2 (by decide) ?_
  refine j_istore_n X [(2, .int 0), (1, .int 0), (0, .ref (ad this))] dX2_ballsByWorth_3 (by decide) rfl ?_
  refine j_lv [2, 1, 0] [(0, .ref (ad this)), (1, .int 0), (2, .int 0)] rfl ?_
  exact t_X2_ballsByWorth_4 X hr hlocks 100 this hthis 0 0 S _ ho he
theorem c_X2_ballsByWorth {l : Launch} {D : va_G} {q : Nat → ClassId} {ad : Nat → Nat} {d : UInt64} (hI : inj4 ad) (this : Nat) (hthis : isK 9 this) (S : Sx) (ho : o_X2_ballsByWorth_0 this S) : CI l yX2_ballsByWorth cX2_ballsByWorth 3 .int rm_X2_ballsByWorth D q ad d [.ref (ad this)] S (b_X2_ballsByWorth_0 this S) S := ci_of hI (by decide +kernel) (Nat.le_of_ble_eq_true rfl) rfl (fun p e s m args below meth c X hr hlocks => t_X2_ballsByWorth_0 X hr hlocks this hthis S _ ho rfl)
end
/-! RX2.isWellCounted -/
abbrev rm_X2_isWellCounted : Room := { frames := 1, cells := 0, slots := 0, locals := 22 }
section
variable {p : Program} {l : Launch} {e : Env} {s : State} {m : MethodId} {args : Array Value} {below : List Frame} {meth : Method} {c : Code} {D : va_G} {q : Nat → ClassId} {ad : Nat → Nat} {d : UInt64}
def b_X2_isWellCounted_40 (w0 : Int32) (S : Sx) : Int32 := w0
def o_X2_isWellCounted_40 (w0 : Int32) (S : Sx) : Prop := bz w0 ∧ True
set_option maxRecDepth 20000 in
theorem t_X2_isWellCounted_40 (X : Cx p m c cX2_isWellCounted 1 s args RX2 D q ad) (hr : meth.sig.returnType = some .boolean) (hlocks : meth.locks = false) (w0 : Int32) (S : Sx) (rv : Int32) (ho : o_X2_isWellCounted_40 w0 S) (he : b_X2_isWellCounted_40 w0 S = rv) : Jg p l e rm_X2_isWellCounted s m args below meth c 0 0 (MQ below (Qi D q ad d rv S s.heap.size) args s 0 0 (AU ad s.heap.size)) D q ad d 1 40 [] [.int w0] S := by
  unfold b_X2_isWellCounted_40 at he
  unfold o_X2_isWellCounted_40 at ho
  have h2 := ho.1
  have ho := ho.2
  exact j_zret X hr hlocks (bz_narrow h2) dX2_isWellCounted_40 he rfl
def b_X2_isWellCounted_39  (S : Sx) : Int32 := b_X2_isWellCounted_40 0 S
def o_X2_isWellCounted_39  (S : Sx) : Prop := o_X2_isWellCounted_40 0 S
set_option maxRecDepth 20000 in
theorem t_X2_isWellCounted_39 (X : Cx p m c cX2_isWellCounted 1 s args RX2 D q ad) (hr : meth.sig.returnType = some .boolean) (hlocks : meth.locks = false) (S : Sx) (rv : Int32) (ho : o_X2_isWellCounted_39 S) (he : b_X2_isWellCounted_39 S = rv) : Jg p l e rm_X2_isWellCounted s m args below meth c 0 0 (MQ below (Qi D q ad d rv S s.heap.size) args s 0 0 (AU ad s.heap.size)) D q ad d 1 39 [] [] S := by
  unfold b_X2_isWellCounted_39 at he
  unfold o_X2_isWellCounted_39 at ho
  refine j_iconst (v := 0) X dX2_isWellCounted_39 (by decide) ?_
  exact t_X2_isWellCounted_40 X hr hlocks 0 S _ ho he
def b_X2_isWellCounted_0 (this : Nat) (S : Sx) : Int32 := if (S this 4) = (b_X2_runsByWorth_0 this S) then if (S this 5) = (S (this + 12) ((5 : Int32).toNatClampNeg)) then if (S this 3) = (b_X2_ballsByWorth_0 this S) then b_X2_isWellCounted_40 1 S else b_X2_isWellCounted_39 S else b_X2_isWellCounted_39 S else b_X2_isWellCounted_39 S
def o_X2_isWellCounted_0 (this : Nat) (S : Sx) : Prop := o_X2_runsByWorth_0 this S ∧ (((S this 4) = (b_X2_runsByWorth_0 this S) → (((S this 5) = (S (this + 12) ((5 : Int32).toNatClampNeg)) → (o_X2_ballsByWorth_0 this S ∧ (((S this 3) = (b_X2_ballsByWorth_0 this S) → (o_X2_isWellCounted_40 1 S)) ∧ (¬ (S this 3) = (b_X2_ballsByWorth_0 this S) → (o_X2_isWellCounted_39 S))))) ∧ (¬ (S this 5) = (S (this + 12) ((5 : Int32).toNatClampNeg)) → (o_X2_isWellCounted_39 S)))) ∧ (¬ (S this 4) = (b_X2_runsByWorth_0 this S) → (o_X2_isWellCounted_39 S)))
set_option maxRecDepth 20000 in
theorem t_X2_isWellCounted_0 (X : Cx p m c cX2_isWellCounted 1 s args RX2 D q ad) (hr : meth.sig.returnType = some .boolean) (hlocks : meth.locks = false) (this : Nat) (hthis : isK 9 this) (S : Sx) (rv : Int32) (ho : o_X2_isWellCounted_0 this S) (he : b_X2_isWellCounted_0 this S = rv) : Jg p l e rm_X2_isWellCounted s m args below meth c 0 0 (MQ below (Qi D q ad d rv S s.heap.size) args s 0 0 (AU ad s.heap.size)) D q ad d 1 0 [(0, .ref (ad this))] [] S := by
  unfold b_X2_isWellCounted_0 at he
  unfold o_X2_isWellCounted_0 at ho
  refine j_aload_n X 0 dX2_isWellCounted_0 rfl ?_
  refine gf_9_4 X m_fl_X2_28 hthis dX2_isWellCounted_1 ?_
  refine j_aload_n X 0 dX2_isWellCounted_4 rfl ?_
  have h2 := ho.1
  have ho := ho.2
  refine j_callVi (rest := [.int (S this 4)]) X (c_X2_runsByWorth (cx_inj X) this hthis S h2) cw_X2_64 hthis.1 (cl_9 hthis) rfl ⟨rfl, rfl, Nat.le_of_ble_eq_true rfl, Nat.le_of_ble_eq_true rfl⟩ rfl rfl (Nat.le_of_ble_eq_true rfl) ⟨Nat.le_of_ble_eq_true rfl, Nat.le_of_ble_eq_true rfl⟩ dX2_isWellCounted_5 ?_
  refine j_icmp_ne X 39 dX2_isWellCounted_8 (by decide) (fun h3 => ?_) (fun h3 => ?_)
  · rw [if_neg h3] at he
    have ho := ho.2 h3
    refine j_lv [] [] rfl ?_
    exact t_X2_isWellCounted_39 X hr hlocks S _ ho he
  · rw [if_pos h3] at he
    have ho := ho.1 h3
    refine j_aload_n X 0 dX2_isWellCounted_11 rfl ?_
    refine gf_9_5 X m_fl_X2_31 hthis dX2_isWellCounted_12 ?_
    refine j_aload_n X 0 dX2_isWellCounted_15 rfl ?_
    refine gf_9_7 X m_fl_X2_9 hthis dX2_isWellCounted_16 ?_
    refine j_iconst (v := 5) X dX2_isWellCounted_19 (by decide) ?_
    refine j_iald X (k9_10 hthis).1 (cl_10 (k9_10 hthis)) (by unfold vp_in; decide) dX2_isWellCounted_20 ?_
    refine j_icmp_ne X 39 dX2_isWellCounted_21 (by decide) (fun h4 => ?_) (fun h4 => ?_)
    · rw [if_neg h4] at he
      have ho := ho.2 h4
      refine j_lv [] [] rfl ?_
      exact t_X2_isWellCounted_39 X hr hlocks S _ ho he
    · rw [if_pos h4] at he
      have ho := ho.1 h4
      refine j_aload_n X 0 dX2_isWellCounted_24 rfl ?_
      refine gf_9_3 X m_fl_X2_25 hthis dX2_isWellCounted_25 ?_
      refine j_aload_n X 0 dX2_isWellCounted_28 rfl ?_
      have h5 := ho.1
      have ho := ho.2
      refine j_callVi (rest := [.int (S this 3)]) X (c_X2_ballsByWorth (cx_inj X) this hthis S h5) cw_X2_68 hthis.1 (cl_9 hthis) rfl ⟨rfl, rfl, Nat.le_of_ble_eq_true rfl, Nat.le_of_ble_eq_true rfl⟩ rfl rfl (Nat.le_of_ble_eq_true rfl) ⟨Nat.le_of_ble_eq_true rfl, Nat.le_of_ble_eq_true rfl⟩ dX2_isWellCounted_29 ?_
      refine j_icmp_ne X 39 dX2_isWellCounted_32 (by decide) (fun h6 => ?_) (fun h6 => ?_)
      · rw [if_neg h6] at he
        have ho := ho.2 h6
        refine j_lv [] [] rfl ?_
        exact t_X2_isWellCounted_39 X hr hlocks S _ ho he
      · rw [if_pos h6] at he
        have ho := ho.1 h6
        refine j_iconst (v := 1) X dX2_isWellCounted_35 (by decide) ?_
        refine j_goto X 40 dX2_isWellCounted_36 (by decide) ?_
        refine j_lv [] [] rfl ?_
        exact t_X2_isWellCounted_40 X hr hlocks 1 S _ ho he
theorem c_X2_isWellCounted {l : Launch} {D : va_G} {q : Nat → ClassId} {ad : Nat → Nat} {d : UInt64} (hI : inj4 ad) (this : Nat) (hthis : isK 9 this) (S : Sx) (ho : o_X2_isWellCounted_0 this S) : CI l yX2_isWellCounted cX2_isWellCounted 1 .boolean rm_X2_isWellCounted D q ad d [.ref (ad this)] S (b_X2_isWellCounted_0 this S) S := ci_of hI (by decide +kernel) (Nat.le_of_ble_eq_true rfl) rfl (fun p e s m args below meth c X hr hlocks => t_X2_isWellCounted_0 X hr hlocks this hthis S _ ho rfl)
end
/-! RX0.areInningsWell -/
abbrev rm_X0_areInningsWell : Room := { frames := 2, cells := 0, slots := 0, locals := 42 }
section
variable {p : Program} {l : Launch} {e : Env} {s : State} {m : MethodId} {args : Array Value} {below : List Frame} {meth : Method} {c : Code} {D : va_G} {q : Nat → ClassId} {ad : Nat → Nat} {d : UInt64}
def b_X0_areInningsWell_2 : Nat → Nat → Int32 → Sx → Int32
  | 0, _, _, S => 0
  | n + 1, j0, v1, S => if (S j0 10) ≤ v1 then 1 else if (b_X2_isWellCounted_0 (j0 + 16 + v1.toNatClampNeg) S) = 0 then 0 else b_X0_areInningsWell_2 n j0 (v1 + 1) S
def o_X0_areInningsWell_2 : Nat → Nat → Int32 → Sx → Prop
  | 0, _, _, _ => False
  | n + 1, j0, v1, S => ((S j0 10) ≤ v1 → True) ∧ (¬ (S j0 10) ≤ v1 → (vp_in v1 12 ∧ (o_X2_isWellCounted_0 (j0 + 16 + v1.toNatClampNeg) S ∧ (((b_X2_isWellCounted_0 (j0 + 16 + v1.toNatClampNeg) S) = 0 → True) ∧ (¬ (b_X2_isWellCounted_0 (j0 + 16 + v1.toNatClampNeg) S) = 0 → (o_X0_areInningsWell_2 n j0 (v1 + 1) S))))))
set_option maxRecDepth 20000 in
theorem t_X0_areInningsWell_2 (X : Cx p m c cX0_areInningsWell 2 s args RX0 D q ad) (hr : meth.sig.returnType = some .boolean) (hlocks : meth.locks = false) : ∀ (n : Nat) (j0 : Nat) (hj0 : isK 0 j0) (v1 : Int32) (S : Sx) (rv : Int32) (ho : o_X0_areInningsWell_2 n j0 v1 S) (he : b_X0_areInningsWell_2 n j0 v1 S = rv), Jg p l e rm_X0_areInningsWell s m args below meth c 0 0 (MQ below (Qi D q ad d rv S s.heap.size) args s 0 0 (AU ad s.heap.size)) D q ad d 2 2 [(0, .ref (ad j0)), (1, .int v1)] [] S := by
  intro n
  induction n with
  | zero =>
    intro j0 hj0 v1 S rv ho he
    unfold o_X0_areInningsWell_2 at ho
    exact ho.elim
  | succ n ih =>
    intro j0 hj0 v1 S rv ho he
    unfold b_X0_areInningsWell_2 at he
    unfold o_X0_areInningsWell_2 at ho
    refine j_iload_n X 1 dX0_areInningsWell_2 rfl ?_
    refine j_aload_n X 0 dX0_areInningsWell_3 rfl ?_
    refine gf_0_10 X m_fl_X0_64 hj0 dX0_areInningsWell_4 ?_
    refine j_icmp_ge X 30 dX0_areInningsWell_7 (by decide) (fun h2 => ?_) (fun h2 => ?_)
    · rw [if_pos h2] at he
      have ho := ho.1 h2
      refine j_iconst (v := 1) X dX0_areInningsWell_30 (by decide) ?_
      exact j_zret X hr hlocks (bz_narrow bz_1) dX0_areInningsWell_31 he rfl
    · rw [if_neg h2] at he
      have ho := ho.2 h2
      refine j_aload_n X 0 dX0_areInningsWell_10 rfl ?_
      refine gf_0_11 X m_fl_X0_39 hj0 dX0_areInningsWell_11 ?_
      refine j_iload_n X 1 dX0_areInningsWell_14 rfl ?_
      have h3 := ho.1
      have ho := ho.2
      refine j_aald (a := ad (j0 + 16 + v1.toNatClampNeg)) X 3 (k0_6 hj0).1 (cl_6 (k0_6 hj0)) rfl h3 rfl dX0_areInningsWell_15 ?_
      have hk4 : isK 9 (j0 + 16 + v1.toNatClampNeg) := k0_9 hj0 (vlt h3)
      have h5 := ho.1
      have ho := ho.2
      refine j_callVi (rest := []) X (c_X2_isWellCounted (cx_inj X) (j0 + 16 + v1.toNatClampNeg) hk4 S h5) cw_X0_221 hk4.1 (cl_9 hk4) rfl ⟨rfl, rfl, Nat.le_of_ble_eq_true rfl, Nat.le_of_ble_eq_true rfl⟩ rfl rfl (Nat.le_of_ble_eq_true rfl) ⟨Nat.le_of_ble_eq_true rfl, Nat.le_of_ble_eq_true rfl⟩ dX0_areInningsWell_16 ?_
      refine j_if_ne X 24 dX0_areInningsWell_19 (by decide) (fun h6 => ?_) (fun h6 => ?_)
      · rw [if_neg h6] at he
        have ho := ho.2 h6
        refine j_iinc X 1 (v1 + 1) [(1, .int (v1 + 1)), (0, .ref (ad j0))] dX0_areInningsWell_24 rfl rfl (by decide) rfl ?_
        refine j_goto X 2 dX0_areInningsWell_27 (by decide) ?_
        refine j_lv [1, 0] [(0, .ref (ad j0)), (1, .int (v1 + 1))] rfl ?_
        exact ih j0 hj0 (v1 + 1) S _ ho he
      · rw [if_pos h6] at he
        have ho := ho.1 h6
        refine j_iconst (v := 0) X dX0_areInningsWell_22 (by decide) ?_
        exact j_zret X hr hlocks (bz_narrow bz_0) dX0_areInningsWell_23 he rfl
def b_X0_areInningsWell_0 (this : Nat) (S : Sx) : Int32 := b_X0_areInningsWell_2 100 this 0 S
def o_X0_areInningsWell_0 (this : Nat) (S : Sx) : Prop := o_X0_areInningsWell_2 100 this 0 S
set_option maxRecDepth 20000 in
theorem t_X0_areInningsWell_0 (X : Cx p m c cX0_areInningsWell 2 s args RX0 D q ad) (hr : meth.sig.returnType = some .boolean) (hlocks : meth.locks = false) (this : Nat) (hthis : isK 0 this) (S : Sx) (rv : Int32) (ho : o_X0_areInningsWell_0 this S) (he : b_X0_areInningsWell_0 this S = rv) : Jg p l e rm_X0_areInningsWell s m args below meth c 0 0 (MQ below (Qi D q ad d rv S s.heap.size) args s 0 0 (AU ad s.heap.size)) D q ad d 2 0 [(0, .ref (ad this))] [] S := by
  unfold b_X0_areInningsWell_0 at he
  unfold o_X0_areInningsWell_0 at ho
  refine j_iconst (v := 0) X dX0_areInningsWell_0 (by decide) ?_
  refine j_istore_n X [(1, .int 0), (0, .ref (ad this))] dX0_areInningsWell_1 (by decide) rfl ?_
  refine j_lv [1, 0] [(0, .ref (ad this)), (1, .int 0)] rfl ?_
  exact t_X0_areInningsWell_2 X hr hlocks 100 this hthis 0 S _ ho he
theorem c_X0_areInningsWell {l : Launch} {D : va_G} {q : Nat → ClassId} {ad : Nat → Nat} {d : UInt64} (hI : inj4 ad) (this : Nat) (hthis : isK 0 this) (S : Sx) (ho : o_X0_areInningsWell_0 this S) : CI l yX0_areInningsWell cX0_areInningsWell 2 .boolean rm_X0_areInningsWell D q ad d [.ref (ad this)] S (b_X0_areInningsWell_0 this S) S := ci_of hI (by decide +kernel) (Nat.le_of_ble_eq_true rfl) rfl (fun p e s m args below meth c X hr hlocks => t_X0_areInningsWell_0 X hr hlocks this hthis S _ ho rfl)
end
/-! RX0.ballsOfInningsOn -/
abbrev rm_X0_ballsOfInningsOn : Room := { frames := 0, cells := 0, slots := 0, locals := 0 }
section
variable {p : Program} {l : Launch} {e : Env} {s : State} {m : MethodId} {args : Array Value} {below : List Frame} {meth : Method} {c : Code} {D : va_G} {q : Nat → ClassId} {ad : Nat → Nat} {d : UInt64}
def b_X0_ballsOfInningsOn_39 (kk : Nat → Int32 → Int32 → Int32 → Sx → Int32) (j0 : Nat) (v1 : Int32) (v3 : Int32) (w0 : Int32) (w1 : Int32) (S : Sx) : Int32 := kk j0 v1 (w1 + w0) (v3 + 1) S
def o_X0_ballsOfInningsOn_39 (ok : Nat → Int32 → Int32 → Int32 → Sx → Prop) (j0 : Nat) (v1 : Int32) (v3 : Int32) (w0 : Int32) (w1 : Int32) (S : Sx) : Prop := ok j0 v1 (w1 + w0) (v3 + 1) S
set_option maxRecDepth 20000 in
theorem t_X0_ballsOfInningsOn_39 (X : Cx p m c cX0_ballsOfInningsOn 4 s args RX0 D q ad) (hr : meth.sig.returnType = some .int) (hlocks : meth.locks = false) (kk : Nat → Int32 → Int32 → Int32 → Sx → Int32) (ok : Nat → Int32 → Int32 → Int32 → Sx → Prop) (hkk : ∀ (j0 : Nat) (hj0 : isK 0 j0) (v1 : Int32) (v2 : Int32) (v3 : Int32) (S : Sx) (rv : Int32) (ho : ok j0 v1 v2 v3 S) (he : kk j0 v1 v2 v3 S = rv), Jg p l e rm_X0_ballsOfInningsOn s m args below meth c 0 0 (MQ below (Qi D q ad d rv S s.heap.size) args s 0 0 (AU ad s.heap.size)) D q ad d 4 4 [(0, .ref (ad j0)), (1, .int v1), (2, .int v2), (3, .int v3)] [] S) (j0 : Nat) (hj0 : isK 0 j0) (v1 : Int32) (v3 : Int32) (w0 : Int32) (w1 : Int32) (S : Sx) (rv : Int32) (ho : o_X0_ballsOfInningsOn_39 ok j0 v1 v3 w0 w1 S) (he : b_X0_ballsOfInningsOn_39 kk j0 v1 v3 w0 w1 S = rv) : Jg p l e rm_X0_ballsOfInningsOn s m args below meth c 0 0 (MQ below (Qi D q ad d rv S s.heap.size) args s 0 0 (AU ad s.heap.size)) D q ad d 4 39 [(0, .ref (ad j0)), (1, .int v1), (3, .int v3)] [.int w0, .int w1] S := by
  unfold b_X0_ballsOfInningsOn_39 at he
  unfold o_X0_ballsOfInningsOn_39 at ho
  refine j_iadd X dX0_ballsOfInningsOn_39 ?_
  refine j_istore_n X [(2, .int (w1 + w0)), (0, .ref (ad j0)), (1, .int v1), (3, .int v3)] dX0_ballsOfInningsOn_40 (by decide) rfl ?_
  refine j_iinc X 3 (v3 + 1) [(3, .int (v3 + 1)), (2, .int (w1 + w0)), (0, .ref (ad j0)), (1, .int v1)] dX0_ballsOfInningsOn_41 rfl rfl (by decide) rfl ?_
  refine j_goto X 4 dX0_ballsOfInningsOn_44 (by decide) ?_
  refine j_lv [2, 3, 1, 0] [(0, .ref (ad j0)), (1, .int v1), (2, .int (w1 + w0)), (3, .int (v3 + 1))] rfl ?_
  exact hkk j0 hj0 v1 (w1 + w0) (v3 + 1) S _ ho he
def b_X0_ballsOfInningsOn_4 : Nat → Nat → Int32 → Int32 → Int32 → Sx → Int32
  | 0, _, _, _, _, S => 0
  | n + 1, j0, v1, v2, v3, S => if (S j0 10) ≤ v3 then v2 else if (S (j0 + 16 + v3.toNatClampNeg) 0) = v1 then b_X0_ballsOfInningsOn_39 (b_X0_ballsOfInningsOn_4 n) j0 v1 v3 (S (j0 + 16 + v3.toNatClampNeg) 3) v2 S else b_X0_ballsOfInningsOn_39 (b_X0_ballsOfInningsOn_4 n) j0 v1 v3 0 v2 S
def o_X0_ballsOfInningsOn_4 : Nat → Nat → Int32 → Int32 → Int32 → Sx → Prop
  | 0, _, _, _, _, _ => False
  | n + 1, j0, v1, v2, v3, S => ((S j0 10) ≤ v3 → True) ∧ (¬ (S j0 10) ≤ v3 → (vp_in v3 12 ∧ (((S (j0 + 16 + v3.toNatClampNeg) 0) = v1 → (vp_in v3 12 ∧ (o_X0_ballsOfInningsOn_39 (o_X0_ballsOfInningsOn_4 n) j0 v1 v3 (S (j0 + 16 + v3.toNatClampNeg) 3) v2 S))) ∧ (¬ (S (j0 + 16 + v3.toNatClampNeg) 0) = v1 → (o_X0_ballsOfInningsOn_39 (o_X0_ballsOfInningsOn_4 n) j0 v1 v3 0 v2 S)))))
set_option maxRecDepth 20000 in
theorem t_X0_ballsOfInningsOn_4 (X : Cx p m c cX0_ballsOfInningsOn 4 s args RX0 D q ad) (hr : meth.sig.returnType = some .int) (hlocks : meth.locks = false) : ∀ (n : Nat) (j0 : Nat) (hj0 : isK 0 j0) (v1 : Int32) (v2 : Int32) (v3 : Int32) (S : Sx) (rv : Int32) (ho : o_X0_ballsOfInningsOn_4 n j0 v1 v2 v3 S) (he : b_X0_ballsOfInningsOn_4 n j0 v1 v2 v3 S = rv), Jg p l e rm_X0_ballsOfInningsOn s m args below meth c 0 0 (MQ below (Qi D q ad d rv S s.heap.size) args s 0 0 (AU ad s.heap.size)) D q ad d 4 4 [(0, .ref (ad j0)), (1, .int v1), (2, .int v2), (3, .int v3)] [] S := by
  intro n
  induction n with
  | zero =>
    intro j0 hj0 v1 v2 v3 S rv ho he
    unfold o_X0_ballsOfInningsOn_4 at ho
    exact ho.elim
  | succ n ih =>
    intro j0 hj0 v1 v2 v3 S rv ho he
    unfold b_X0_ballsOfInningsOn_4 at he
    unfold o_X0_ballsOfInningsOn_4 at ho
    refine j_iload_n X 3 dX0_ballsOfInningsOn_4 rfl ?_
    refine j_aload_n X 0 dX0_ballsOfInningsOn_5 rfl ?_
    refine gf_0_10 X m_fl_X0_64 hj0 dX0_ballsOfInningsOn_6 ?_
    refine j_icmp_ge X 47 dX0_ballsOfInningsOn_9 (by decide) (fun h2 => ?_) (fun h2 => ?_)
    · rw [if_pos h2] at he
      have ho := ho.1 h2
      refine j_iload_n X 2 dX0_ballsOfInningsOn_47 rfl ?_
      exact j_iret X hr hlocks dX0_ballsOfInningsOn_48 he rfl
    · rw [if_neg h2] at he
      have ho := ho.2 h2
      refine j_iload_n X 2 dX0_ballsOfInningsOn_12 rfl ?_
      refine j_aload_n X 0 dX0_ballsOfInningsOn_13 rfl ?_
      refine gf_0_11 X m_fl_X0_39 hj0 dX0_ballsOfInningsOn_14 ?_
      refine j_iload_n X 3 dX0_ballsOfInningsOn_17 rfl ?_
      have h3 := ho.1
      have ho := ho.2
      refine j_aald (a := ad (j0 + 16 + v3.toNatClampNeg)) X 3 (k0_6 hj0).1 (cl_6 (k0_6 hj0)) rfl h3 rfl dX0_ballsOfInningsOn_18 ?_
      have hk4 : isK 9 (j0 + 16 + v3.toNatClampNeg) := k0_9 hj0 (vlt h3)
      refine gf_9_0 X m_fl_X0_83 hk4 dX0_ballsOfInningsOn_19 ?_
      refine j_iload_n X 1 dX0_ballsOfInningsOn_22 rfl ?_
      refine j_icmp_ne X 38 dX0_ballsOfInningsOn_23 (by decide) (fun h5 => ?_) (fun h5 => ?_)
      · rw [if_neg h5] at he
        have ho := ho.2 h5
        refine j_iconst (v := 0) X dX0_ballsOfInningsOn_38 (by decide) ?_
        refine j_lv [0, 1, 3] [(0, .ref (ad j0)), (1, .int v1), (3, .int v3)] rfl ?_
        exact t_X0_ballsOfInningsOn_39 X hr hlocks (b_X0_ballsOfInningsOn_4 n) (o_X0_ballsOfInningsOn_4 n) ih j0 hj0 v1 v3 0 v2 S _ ho he
      · rw [if_pos h5] at he
        have ho := ho.1 h5
        refine j_aload_n X 0 dX0_ballsOfInningsOn_26 rfl ?_
        refine gf_0_11 X m_fl_X0_39 hj0 dX0_ballsOfInningsOn_27 ?_
        refine j_iload_n X 3 dX0_ballsOfInningsOn_30 rfl ?_
        have h6 := ho.1
        have ho := ho.2
        refine j_aald (a := ad (j0 + 16 + v3.toNatClampNeg)) X 3 (k0_6 hj0).1 (cl_6 (k0_6 hj0)) rfl h6 rfl dX0_ballsOfInningsOn_31 ?_
        have hk7 : isK 9 (j0 + 16 + v3.toNatClampNeg) := k0_9 hj0 (vlt h6)
        refine gf_9_3 X m_fl_X0_169 hk7 dX0_ballsOfInningsOn_32 ?_
        refine j_goto X 39 dX0_ballsOfInningsOn_35 (by decide) ?_
        refine j_lv [0, 1, 3] [(0, .ref (ad j0)), (1, .int v1), (3, .int v3)] rfl ?_
        exact t_X0_ballsOfInningsOn_39 X hr hlocks (b_X0_ballsOfInningsOn_4 n) (o_X0_ballsOfInningsOn_4 n) ih j0 hj0 v1 v3 (S (j0 + 16 + v3.toNatClampNeg) 3) v2 S _ ho he
def b_X0_ballsOfInningsOn_0 (this : Nat) (x1 : Int32) (S : Sx) : Int32 := b_X0_ballsOfInningsOn_4 100 this x1 0 0 S
def o_X0_ballsOfInningsOn_0 (this : Nat) (x1 : Int32) (S : Sx) : Prop := o_X0_ballsOfInningsOn_4 100 this x1 0 0 S
set_option maxRecDepth 20000 in
theorem t_X0_ballsOfInningsOn_0 (X : Cx p m c cX0_ballsOfInningsOn 4 s args RX0 D q ad) (hr : meth.sig.returnType = some .int) (hlocks : meth.locks = false) (this : Nat) (hthis : isK 0 this) (x1 : Int32) (S : Sx) (rv : Int32) (ho : o_X0_ballsOfInningsOn_0 this x1 S) (he : b_X0_ballsOfInningsOn_0 this x1 S = rv) : Jg p l e rm_X0_ballsOfInningsOn s m args below meth c 0 0 (MQ below (Qi D q ad d rv S s.heap.size) args s 0 0 (AU ad s.heap.size)) D q ad d 4 0 [(0, .ref (ad this)), (1, .int x1)] [] S := by
  unfold b_X0_ballsOfInningsOn_0 at he
  unfold o_X0_ballsOfInningsOn_0 at ho
  refine j_iconst (v := 0) X dX0_ballsOfInningsOn_0 (by decide) ?_
  refine j_istore_n X [(2, .int 0), (0, .ref (ad this)), (1, .int x1)] dX0_ballsOfInningsOn_1 (by decide) rfl ?_
  refine j_iconst (v := 0) X dX0_ballsOfInningsOn_2 (by decide) ?_
  refine j_istore_n X [(3, .int 0), (2, .int 0), (0, .ref (ad this)), (1, .int x1)] dX0_ballsOfInningsOn_3 (by decide) rfl ?_
  refine j_lv [2, 3, 1, 0] [(0, .ref (ad this)), (1, .int x1), (2, .int 0), (3, .int 0)] rfl ?_
  exact t_X0_ballsOfInningsOn_4 X hr hlocks 100 this hthis x1 0 0 S _ ho he
theorem c_X0_ballsOfInningsOn {l : Launch} {D : va_G} {q : Nat → ClassId} {ad : Nat → Nat} {d : UInt64} (hI : inj4 ad) (this : Nat) (hthis : isK 0 this) (x1 : Int32) (S : Sx) (ho : o_X0_ballsOfInningsOn_0 this x1 S) : CI l yX0_ballsOfInningsOn cX0_ballsOfInningsOn 4 .int rm_X0_ballsOfInningsOn D q ad d [.ref (ad this), .int x1] S (b_X0_ballsOfInningsOn_0 this x1 S) S := ci_of hI (by decide +kernel) (Nat.le_of_ble_eq_true rfl) rfl (fun p e s m args below meth c X hr hlocks => t_X0_ballsOfInningsOn_0 X hr hlocks this hthis x1 S _ ho rfl)
end
/-! RX0.arePitchesWell -/
abbrev rm_X0_arePitchesWell : Room := { frames := 2, cells := 0, slots := 0, locals := 42 }
section
variable {p : Program} {l : Launch} {e : Env} {s : State} {m : MethodId} {args : Array Value} {below : List Frame} {meth : Method} {c : Code} {D : va_G} {q : Nat → ClassId} {ad : Nat → Nat} {d : UInt64}
def b_X0_arePitchesWell_55  (S : Sx) : Int32 := 0
set_option maxRecDepth 20000 in
theorem t_X0_arePitchesWell_55 (X : Cx p m c cX0_arePitchesWell 3 s args RX0 D q ad) (hr : meth.sig.returnType = some .boolean) (hlocks : meth.locks = false) (S : Sx) (rv : Int32) (he : b_X0_arePitchesWell_55 S = rv) : Jg p l e rm_X0_arePitchesWell s m args below meth c 0 0 (MQ below (Qi D q ad d rv S s.heap.size) args s 0 0 (AU ad s.heap.size)) D q ad d 3 55 [] [] S := by
  unfold b_X0_arePitchesWell_55 at he
  refine j_iconst (v := 0) X dX0_arePitchesWell_55 (by decide) ?_
  exact j_zret X hr hlocks (bz_narrow bz_0) dX0_arePitchesWell_56 he rfl
def b_X0_arePitchesWell_33 (kk : Nat → Int32 → Sx → Int32) (j0 : Nat) (v1 : Int32) (w0 : Int32) (S : Sx) : Int32 := if w0 = 0 then if (S (j0 + 7 + v1.toNatClampNeg) 4) = (b_X0_ballsOfInningsOn_0 j0 v1 S) then kk j0 (v1 + 1) S else b_X0_arePitchesWell_55 S else b_X0_arePitchesWell_55 S
def o_X0_arePitchesWell_33 (ok : Nat → Int32 → Sx → Prop) (j0 : Nat) (v1 : Int32) (w0 : Int32) (S : Sx) : Prop := (w0 = 0 → (vp_in v1 4 ∧ (o_X0_ballsOfInningsOn_0 j0 v1 S ∧ (((S (j0 + 7 + v1.toNatClampNeg) 4) = (b_X0_ballsOfInningsOn_0 j0 v1 S) → (ok j0 (v1 + 1) S)) ∧ (¬ (S (j0 + 7 + v1.toNatClampNeg) 4) = (b_X0_ballsOfInningsOn_0 j0 v1 S) → True))))) ∧ (¬ w0 = 0 → True)
set_option maxRecDepth 20000 in
theorem t_X0_arePitchesWell_33 (X : Cx p m c cX0_arePitchesWell 3 s args RX0 D q ad) (hr : meth.sig.returnType = some .boolean) (hlocks : meth.locks = false) (kk : Nat → Int32 → Sx → Int32) (ok : Nat → Int32 → Sx → Prop) (hkk : ∀ (j0 : Nat) (hj0 : isK 0 j0) (v1 : Int32) (S : Sx) (rv : Int32) (ho : ok j0 v1 S) (he : kk j0 v1 S = rv), Jg p l e rm_X0_arePitchesWell s m args below meth c 0 0 (MQ below (Qi D q ad d rv S s.heap.size) args s 0 0 (AU ad s.heap.size)) D q ad d 3 2 [(0, .ref (ad j0)), (1, .int v1)] [] S) (j0 : Nat) (hj0 : isK 0 j0) (v1 : Int32) (w0 : Int32) (S : Sx) (rv : Int32) (ho : o_X0_arePitchesWell_33 ok j0 v1 w0 S) (he : b_X0_arePitchesWell_33 kk j0 v1 w0 S = rv) : Jg p l e rm_X0_arePitchesWell s m args below meth c 0 0 (MQ below (Qi D q ad d rv S s.heap.size) args s 0 0 (AU ad s.heap.size)) D q ad d 3 33 [(0, .ref (ad j0)), (1, .int v1)] [.int w0] S := by
  unfold b_X0_arePitchesWell_33 at he
  unfold o_X0_arePitchesWell_33 at ho
  refine j_istore_n X [(2, .int w0), (0, .ref (ad j0)), (1, .int v1)] dX0_arePitchesWell_33 (by decide) rfl ?_
  refine j_iload_n X 0 dX0_arePitchesWell_34 rfl ?_
  refine j_if_ne X 55 dX0_arePitchesWell_35 (by decide) (fun h2 => ?_) (fun h2 => ?_)
  · rw [if_neg h2] at he
    have ho := ho.2 h2
    refine j_lv [] [] rfl ?_
    exact t_X0_arePitchesWell_55 X hr hlocks S _ he
  · rw [if_pos h2] at he
    have ho := ho.1 h2
    refine j_aload_n X 1 dX0_arePitchesWell_38 rfl ?_
    refine gf_0_5 X m_fl_X0_24 hj0 dX0_arePitchesWell_39 ?_
    refine j_iload_n X 2 dX0_arePitchesWell_42 rfl ?_
    have h3 := ho.1
    have ho := ho.2
    refine j_aald (a := ad (j0 + 7 + v1.toNatClampNeg)) X 1 (k0_4 hj0).1 (cl_4 (k0_4 hj0)) rfl h3 rfl dX0_arePitchesWell_43 ?_
    have hk4 : isK 7 (j0 + 7 + v1.toNatClampNeg) := k0_7 hj0 (vlt h3)
    refine gf_7_4 X m_fl_X0_224 hk4 dX0_arePitchesWell_44 ?_
    refine j_aload_n X 1 dX0_arePitchesWell_47 rfl ?_
    refine j_iload_n X 2 dX0_arePitchesWell_48 rfl ?_
    have h5 := ho.1
    have ho := ho.2
    refine j_callVi (rest := [.int (S (j0 + 7 + v1.toNatClampNeg) 4)]) X (c_X0_ballsOfInningsOn (cx_inj X) j0 hj0 v1 S h5) cw_X0_227 hj0.1 (cl_0 hj0) rfl ⟨rfl, rfl, Nat.le_of_ble_eq_true rfl, Nat.le_of_ble_eq_true rfl⟩ rfl rfl (Nat.le_of_ble_eq_true rfl) ⟨Nat.le_of_ble_eq_true rfl, Nat.le_of_ble_eq_true rfl⟩ dX0_arePitchesWell_49 ?_
    refine j_icmp_eq X 57 dX0_arePitchesWell_52 (by decide) (fun h6 => ?_) (fun h6 => ?_)
    · rw [if_pos h6] at he
      have ho := ho.1 h6
      refine j_iinc X 2 (v1 + 1) [(1, .int (v1 + 1)), (2, .int w0), (0, .ref (ad j0))] dX0_arePitchesWell_57 rfl rfl (by decide) rfl ?_
      refine j_goto X 2 dX0_arePitchesWell_60 (by decide) ?_
      refine j_lv [2, 0] [(0, .ref (ad j0)), (1, .int (v1 + 1))] rfl ?_
      exact hkk j0 hj0 (v1 + 1) S _ ho he
    · rw [if_neg h6] at he
      have ho := ho.2 h6
      refine j_lv [] [] rfl ?_
      exact t_X0_arePitchesWell_55 X hr hlocks S _ he
def b_X0_arePitchesWell_32 (kk : Nat → Int32 → Sx → Int32) (j0 : Nat) (v1 : Int32) (S : Sx) : Int32 := b_X0_arePitchesWell_33 kk j0 v1 0 S
def o_X0_arePitchesWell_32 (ok : Nat → Int32 → Sx → Prop) (j0 : Nat) (v1 : Int32) (S : Sx) : Prop := o_X0_arePitchesWell_33 ok j0 v1 0 S
set_option maxRecDepth 20000 in
theorem t_X0_arePitchesWell_32 (X : Cx p m c cX0_arePitchesWell 3 s args RX0 D q ad) (hr : meth.sig.returnType = some .boolean) (hlocks : meth.locks = false) (kk : Nat → Int32 → Sx → Int32) (ok : Nat → Int32 → Sx → Prop) (hkk : ∀ (j0 : Nat) (hj0 : isK 0 j0) (v1 : Int32) (S : Sx) (rv : Int32) (ho : ok j0 v1 S) (he : kk j0 v1 S = rv), Jg p l e rm_X0_arePitchesWell s m args below meth c 0 0 (MQ below (Qi D q ad d rv S s.heap.size) args s 0 0 (AU ad s.heap.size)) D q ad d 3 2 [(0, .ref (ad j0)), (1, .int v1)] [] S) (j0 : Nat) (hj0 : isK 0 j0) (v1 : Int32) (S : Sx) (rv : Int32) (ho : o_X0_arePitchesWell_32 ok j0 v1 S) (he : b_X0_arePitchesWell_32 kk j0 v1 S = rv) : Jg p l e rm_X0_arePitchesWell s m args below meth c 0 0 (MQ below (Qi D q ad d rv S s.heap.size) args s 0 0 (AU ad s.heap.size)) D q ad d 3 32 [(0, .ref (ad j0)), (1, .int v1)] [] S := by
  unfold b_X0_arePitchesWell_32 at he
  unfold o_X0_arePitchesWell_32 at ho
  refine j_iconst (v := 0) X dX0_arePitchesWell_32 (by decide) ?_
  exact t_X0_arePitchesWell_33 X hr hlocks kk ok hkk j0 hj0 v1 0 S _ ho he
def b_X0_arePitchesWell_2 : Nat → Nat → Int32 → Sx → Int32
  | 0, _, _, S => 0
  | n + 1, j0, v1, S => if (S j0 4) ≤ v1 then 1 else if (b_X0_rollerOf_0 j0 v1 S) = (-1) then b_X0_arePitchesWell_32 (b_X0_arePitchesWell_2 n) j0 v1 S else if (b_X0_playedOn_0 j0 v1 S) = (-1) then b_X0_arePitchesWell_32 (b_X0_arePitchesWell_2 n) j0 v1 S else b_X0_arePitchesWell_33 (b_X0_arePitchesWell_2 n) j0 v1 1 S
def o_X0_arePitchesWell_2 : Nat → Nat → Int32 → Sx → Prop
  | 0, _, _, _ => False
  | n + 1, j0, v1, S => ((S j0 4) ≤ v1 → True) ∧ (¬ (S j0 4) ≤ v1 → (o_X0_rollerOf_0 j0 v1 S ∧ (((b_X0_rollerOf_0 j0 v1 S) = (-1) → (o_X0_arePitchesWell_32 (o_X0_arePitchesWell_2 n) j0 v1 S)) ∧ (¬ (b_X0_rollerOf_0 j0 v1 S) = (-1) → (o_X0_playedOn_0 j0 v1 S ∧ (((b_X0_playedOn_0 j0 v1 S) = (-1) → (o_X0_arePitchesWell_32 (o_X0_arePitchesWell_2 n) j0 v1 S)) ∧ (¬ (b_X0_playedOn_0 j0 v1 S) = (-1) → (o_X0_arePitchesWell_33 (o_X0_arePitchesWell_2 n) j0 v1 1 S))))))))
set_option maxRecDepth 20000 in
theorem t_X0_arePitchesWell_2 (X : Cx p m c cX0_arePitchesWell 3 s args RX0 D q ad) (hr : meth.sig.returnType = some .boolean) (hlocks : meth.locks = false) : ∀ (n : Nat) (j0 : Nat) (hj0 : isK 0 j0) (v1 : Int32) (S : Sx) (rv : Int32) (ho : o_X0_arePitchesWell_2 n j0 v1 S) (he : b_X0_arePitchesWell_2 n j0 v1 S = rv), Jg p l e rm_X0_arePitchesWell s m args below meth c 0 0 (MQ below (Qi D q ad d rv S s.heap.size) args s 0 0 (AU ad s.heap.size)) D q ad d 3 2 [(0, .ref (ad j0)), (1, .int v1)] [] S := by
  intro n
  induction n with
  | zero =>
    intro j0 hj0 v1 S rv ho he
    unfold o_X0_arePitchesWell_2 at ho
    exact ho.elim
  | succ n ih =>
    intro j0 hj0 v1 S rv ho he
    unfold b_X0_arePitchesWell_2 at he
    unfold o_X0_arePitchesWell_2 at ho
    refine j_iload_n X 1 dX0_arePitchesWell_2 rfl ?_
    refine j_aload_n X 0 dX0_arePitchesWell_3 rfl ?_
    refine gf_0_4 X m_fl_X0_55 hj0 dX0_arePitchesWell_4 ?_
    refine j_icmp_ge X 63 dX0_arePitchesWell_7 (by decide) (fun h2 => ?_) (fun h2 => ?_)
    · rw [if_pos h2] at he
      have ho := ho.1 h2
      refine j_iconst (v := 1) X dX0_arePitchesWell_63 (by decide) ?_
      exact j_zret X hr hlocks (bz_narrow bz_1) dX0_arePitchesWell_64 he rfl
    · rw [if_neg h2] at he
      have ho := ho.2 h2
      refine j_aload_n X 0 dX0_arePitchesWell_10 rfl ?_
      refine j_iload_n X 1 dX0_arePitchesWell_11 rfl ?_
      have h3 := ho.1
      have ho := ho.2
      refine j_callVi (rest := []) X (c_X0_rollerOf (cx_inj X) j0 hj0 v1 S h3) cw_X0_98 hj0.1 (cl_0 hj0) rfl ⟨rfl, rfl, Nat.le_of_ble_eq_true rfl, Nat.le_of_ble_eq_true rfl⟩ rfl rfl (Nat.le_of_ble_eq_true rfl) ⟨Nat.le_of_ble_eq_true rfl, Nat.le_of_ble_eq_true rfl⟩ dX0_arePitchesWell_12 ?_
      refine j_iconst (v := (-1)) X dX0_arePitchesWell_15 (by decide) ?_
      refine j_icmp_eq X 32 dX0_arePitchesWell_16 (by decide) (fun h4 => ?_) (fun h4 => ?_)
      · rw [if_pos h4] at he
        have ho := ho.1 h4
        exact t_X0_arePitchesWell_32 X hr hlocks (b_X0_arePitchesWell_2 n) (o_X0_arePitchesWell_2 n) ih j0 hj0 v1 S _ ho he
      · rw [if_neg h4] at he
        have ho := ho.2 h4
        refine j_aload_n X 0 dX0_arePitchesWell_19 rfl ?_
        refine j_iload_n X 1 dX0_arePitchesWell_20 rfl ?_
        have h5 := ho.1
        have ho := ho.2
        refine j_callVi (rest := []) X (c_X0_playedOn (cx_inj X) j0 hj0 v1 S h5) cw_X0_120 hj0.1 (cl_0 hj0) rfl ⟨rfl, rfl, Nat.le_of_ble_eq_true rfl, Nat.le_of_ble_eq_true rfl⟩ rfl rfl (Nat.le_of_ble_eq_true rfl) ⟨Nat.le_of_ble_eq_true rfl, Nat.le_of_ble_eq_true rfl⟩ dX0_arePitchesWell_21 ?_
        refine j_iconst (v := (-1)) X dX0_arePitchesWell_24 (by decide) ?_
        refine j_icmp_eq X 32 dX0_arePitchesWell_25 (by decide) (fun h6 => ?_) (fun h6 => ?_)
        · rw [if_pos h6] at he
          have ho := ho.1 h6
          exact t_X0_arePitchesWell_32 X hr hlocks (b_X0_arePitchesWell_2 n) (o_X0_arePitchesWell_2 n) ih j0 hj0 v1 S _ ho he
        · rw [if_neg h6] at he
          have ho := ho.2 h6
          refine j_iconst (v := 1) X dX0_arePitchesWell_28 (by decide) ?_
          refine j_goto X 33 dX0_arePitchesWell_29 (by decide) ?_
          exact t_X0_arePitchesWell_33 X hr hlocks (b_X0_arePitchesWell_2 n) (o_X0_arePitchesWell_2 n) ih j0 hj0 v1 1 S _ ho he
def b_X0_arePitchesWell_0 (this : Nat) (S : Sx) : Int32 := b_X0_arePitchesWell_2 100 this 0 S
def o_X0_arePitchesWell_0 (this : Nat) (S : Sx) : Prop := o_X0_arePitchesWell_2 100 this 0 S
set_option maxRecDepth 20000 in
theorem t_X0_arePitchesWell_0 (X : Cx p m c cX0_arePitchesWell 3 s args RX0 D q ad) (hr : meth.sig.returnType = some .boolean) (hlocks : meth.locks = false) (this : Nat) (hthis : isK 0 this) (S : Sx) (rv : Int32) (ho : o_X0_arePitchesWell_0 this S) (he : b_X0_arePitchesWell_0 this S = rv) : Jg p l e rm_X0_arePitchesWell s m args below meth c 0 0 (MQ below (Qi D q ad d rv S s.heap.size) args s 0 0 (AU ad s.heap.size)) D q ad d 3 0 [(0, .ref (ad this))] [] S := by
  unfold b_X0_arePitchesWell_0 at he
  unfold o_X0_arePitchesWell_0 at ho
  refine j_iconst (v := 0) X dX0_arePitchesWell_0 (by decide) ?_
  refine j_istore_n X [(1, .int 0), (0, .ref (ad this))] dX0_arePitchesWell_1 (by decide) rfl ?_
  refine j_lv [1, 0] [(0, .ref (ad this)), (1, .int 0)] rfl ?_
  exact t_X0_arePitchesWell_2 X hr hlocks 100 this hthis 0 S _ ho he
theorem c_X0_arePitchesWell {l : Launch} {D : va_G} {q : Nat → ClassId} {ad : Nat → Nat} {d : UInt64} (hI : inj4 ad) (this : Nat) (hthis : isK 0 this) (S : Sx) (ho : o_X0_arePitchesWell_0 this S) : CI l yX0_arePitchesWell cX0_arePitchesWell 3 .boolean rm_X0_arePitchesWell D q ad d [.ref (ad this)] S (b_X0_arePitchesWell_0 this S) S := ci_of hI (by decide +kernel) (Nat.le_of_ble_eq_true rfl) rfl (fun p e s m args below meth c X hr hlocks => t_X0_arePitchesWell_0 X hr hlocks this hthis S _ ho rfl)
end
/-! RX3.signAhead -/
abbrev rm_X3_signAhead : Room := { frames := 0, cells := 0, slots := 0, locals := 0 }
section
variable {p : Program} {l : Launch} {e : Env} {s : State} {m : MethodId} {args : Array Value} {below : List Frame} {meth : Method} {c : Code} {D : va_G} {q : Nat → ClassId} {ad : Nat → Nat} {d : UInt64}
def b_X3_signAhead_24 (w0 : Int32) (S : Sx) : Int32 := w0
set_option maxRecDepth 20000 in
theorem t_X3_signAhead_24 (X : Cx p m c cX3_signAhead 1 s args RX3 D q ad) (hr : meth.sig.returnType = some .int) (hlocks : meth.locks = false) (w0 : Int32) (S : Sx) (rv : Int32) (he : b_X3_signAhead_24 w0 S = rv) : Jg p l e rm_X3_signAhead s m args below meth c 0 0 (MQ below (Qi D q ad d rv S s.heap.size) args s 0 0 (AU ad s.heap.size)) D q ad d 1 24 [] [.int w0] S := by
  unfold b_X3_signAhead_24 at he
  exact j_iret X hr hlocks dX3_signAhead_24 he rfl
def b_X3_signAhead_0  (S : Sx) : Int32 := if (S 3 1) ≤ (S 3 4) then b_X3_signAhead_24 (-1) S else b_X3_signAhead_24 (S 4 ((S 3 4).toNatClampNeg)) S
def o_X3_signAhead_0  (S : Sx) : Prop := ((S 3 1) ≤ (S 3 4) → True) ∧ (¬ (S 3 1) ≤ (S 3 4) → (vp_in (S 3 4) 60 ∧ True))
set_option maxRecDepth 20000 in
theorem t_X3_signAhead_0 (X : Cx p m c cX3_signAhead 1 s args RX3 D q ad) (hr : meth.sig.returnType = some .int) (hlocks : meth.locks = false) (S : Sx) (rv : Int32) (ho : o_X3_signAhead_0 S) (he : b_X3_signAhead_0 S = rv) : Jg p l e rm_X3_signAhead s m args below meth c 0 0 (MQ below (Qi D q ad d rv S s.heap.size) args s 0 0 (AU ad s.heap.size)) D q ad d 1 0 [(0, .ref (ad 3))] [] S := by
  unfold b_X3_signAhead_0 at he
  unfold o_X3_signAhead_0 at ho
  refine j_aload_n X 0 dX3_signAhead_0 rfl ?_
  refine gf_23_4 X m_fl_X3_19 kc23 dX3_signAhead_1 ?_
  refine j_aload_n X 0 dX3_signAhead_4 rfl ?_
  refine gf_23_1 X m_fl_X3_41 kc23 dX3_signAhead_5 ?_
  refine j_icmp_ge X 23 dX3_signAhead_8 (by decide) (fun h2 => ?_) (fun h2 => ?_)
  · rw [if_pos h2] at he
    have ho := ho.1 h2
    refine j_iconst (v := (-1)) X dX3_signAhead_23 (by decide) ?_
    refine j_lv [] [] rfl ?_
    exact t_X3_signAhead_24 X hr hlocks (-1) S _ he
  · rw [if_neg h2] at he
    have ho := ho.2 h2
    refine j_aload_n X 0 dX3_signAhead_11 rfl ?_
    refine gf_23_0 X m_fl_X3_9 kc23 dX3_signAhead_12 ?_
    refine j_aload_n X 0 dX3_signAhead_15 rfl ?_
    refine gf_23_4 X m_fl_X3_19 kc23 dX3_signAhead_16 ?_
    have h3 := ho.1
    have ho := ho.2
    refine j_cald X kc24.1 (cl_24 kc24) h3 dX3_signAhead_19 ?_
    refine j_goto X 24 dX3_signAhead_20 (by decide) ?_
    refine j_lv [] [] rfl ?_
    exact t_X3_signAhead_24 X hr hlocks (S 4 ((S 3 4).toNatClampNeg)) S _ he
theorem c_X3_signAhead {l : Launch} {D : va_G} {q : Nat → ClassId} {ad : Nat → Nat} {d : UInt64} (hI : inj4 ad) (S : Sx) (ho : o_X3_signAhead_0 S) : CI l yX3_signAhead cX3_signAhead 1 .int rm_X3_signAhead D q ad d [.ref (ad 3)] S (b_X3_signAhead_0 S) S := ci_of hI (by decide +kernel) (Nat.le_of_ble_eq_true rfl) rfl (fun p e s m args below meth c X hr hlocks => t_X3_signAhead_0 X hr hlocks S _ ho rfl)
end
/-! RX3.findDigit -/
abbrev rm_X3_findDigit : Room := { frames := 1, cells := 0, slots := 0, locals := 20 }
section
variable {p : Program} {l : Launch} {e : Env} {s : State} {m : MethodId} {args : Array Value} {below : List Frame} {meth : Method} {c : Code} {D : va_G} {q : Nat → ClassId} {ad : Nat → Nat} {d : UInt64}
def b_X3_findDigit_17  (S : Sx) : Int32 × Sx := ((-1), S)
set_option maxRecDepth 20000 in
theorem t_X3_findDigit_17 (X : Cx p m c cX3_findDigit 2 s args RX3 D q ad) (hr : meth.sig.returnType = some .int) (hlocks : meth.locks = false) (S : Sx) (rv : Int32) (S' : Sx) (he : b_X3_findDigit_17 S = (rv, S')) : Jg p l e rm_X3_findDigit s m args below meth c 0 0 (MQ below (Qi D q ad d rv S' s.heap.size) args s 0 0 (AU ad s.heap.size)) D q ad d 2 17 [] [] S := by
  unfold b_X3_findDigit_17 at he
  refine j_iconst (v := (-1)) X dX3_findDigit_17 (by decide) ?_
  exact j_iret X hr hlocks dX3_findDigit_18 (congrArg Prod.fst he) (congrArg Prod.snd he)
def b_X3_findDigit_0  (S : Sx) : Int32 × Sx := if (b_X3_signAhead_0 S) < 48 then b_X3_findDigit_17 S else if (b_X3_signAhead_0 S) ≤ 57 then ((b_X3_signAhead_0 S) - 48, up2 S 3 4 ((S 3 4) + 1)) else b_X3_findDigit_17 S
def o_X3_findDigit_0  (S : Sx) : Prop := o_X3_signAhead_0 S ∧ True
set_option maxRecDepth 20000 in
theorem t_X3_findDigit_0 (X : Cx p m c cX3_findDigit 2 s args RX3 D q ad) (hr : meth.sig.returnType = some .int) (hlocks : meth.locks = false) (S : Sx) (rv : Int32) (S' : Sx) (ho : o_X3_findDigit_0 S) (he : b_X3_findDigit_0 S = (rv, S')) : Jg p l e rm_X3_findDigit s m args below meth c 0 0 (MQ below (Qi D q ad d rv S' s.heap.size) args s 0 0 (AU ad s.heap.size)) D q ad d 2 0 [(0, .ref (ad 3))] [] S := by
  unfold b_X3_findDigit_0 at he
  unfold o_X3_findDigit_0 at ho
  refine j_aload_n X 0 dX3_findDigit_0 rfl ?_
  have h2 := ho.1
  have ho := ho.2
  refine j_callVi (rest := []) X (c_X3_signAhead (cx_inj X) S h2) cw_X3_44 kc23.1 (cl_23 kc23) rfl ⟨rfl, rfl, Nat.le_of_ble_eq_true rfl, Nat.le_of_ble_eq_true rfl⟩ rfl rfl (Nat.le_of_ble_eq_true rfl) ⟨Nat.le_of_ble_eq_true rfl, Nat.le_of_ble_eq_true rfl⟩ dX3_findDigit_1 ?_
  refine j_istore_n X [(1, .int (b_X3_signAhead_0 S)), (0, .ref (ad 3))] dX3_findDigit_4 (by decide) rfl ?_
  refine j_iload_n X 0 dX3_findDigit_5 rfl ?_
  refine j_bipush (v := 48) X dX3_findDigit_6 (by decide) ?_
  refine j_icmp_lt X 17 dX3_findDigit_8 (by decide) (fun h3 => ?_) (fun h3 => ?_)
  · rw [if_pos h3] at he
    refine j_lv [] [] rfl ?_
    exact t_X3_findDigit_17 X hr hlocks S _ _ he
  · rw [if_neg h3] at he
    refine j_iload_n X 0 dX3_findDigit_11 rfl ?_
    refine j_bipush (v := 57) X dX3_findDigit_12 (by decide) ?_
    refine j_icmp_le X 19 dX3_findDigit_14 (by decide) (fun h4 => ?_) (fun h4 => ?_)
    · rw [if_pos h4] at he
      refine j_aload_n X 1 dX3_findDigit_19 rfl ?_
      refine j_dup X dX3_findDigit_20 rfl ?_
      refine gf_23_4 X m_fl_X3_19 kc23 dX3_findDigit_21 ?_
      refine j_iconst (v := 1) X dX3_findDigit_24 (by decide) ?_
      refine j_iadd X dX3_findDigit_25 ?_
      refine pf_23_4 X m_fl_X3_19 kc23 dX3_findDigit_26 ?_
      refine j_iload_n X 0 dX3_findDigit_29 rfl ?_
      refine j_bipush (v := 48) X dX3_findDigit_30 (by decide) ?_
      refine j_isub X dX3_findDigit_32 ?_
      exact j_iret X hr hlocks dX3_findDigit_33 (congrArg Prod.fst he) (congrArg Prod.snd he)
    · rw [if_neg h4] at he
      refine j_lv [] [] rfl ?_
      exact t_X3_findDigit_17 X hr hlocks S _ _ he
theorem c_X3_findDigit {l : Launch} {D : va_G} {q : Nat → ClassId} {ad : Nat → Nat} {d : UInt64} (hI : inj4 ad) (S : Sx) (ho : o_X3_findDigit_0 S) : CI l yX3_findDigit cX3_findDigit 2 .int rm_X3_findDigit D q ad d [.ref (ad 3)] S (b_X3_findDigit_0 S).1 (b_X3_findDigit_0 S).2 := ci_of hI (by decide +kernel) (Nat.le_of_ble_eq_true rfl) rfl (fun p e s m args below meth c X hr hlocks => t_X3_findDigit_0 X hr hlocks S _ _ ho (pe _))
end
/-! RX3.skip -/
abbrev rm_X3_skip : Room := { frames := 1, cells := 0, slots := 0, locals := 20 }
section
variable {p : Program} {l : Launch} {e : Env} {s : State} {m : MethodId} {args : Array Value} {below : List Frame} {meth : Method} {c : Code} {D : va_G} {q : Nat → ClassId} {ad : Nat → Nat} {d : UInt64}
def b_X3_skip_0 (x1 : Int32) (S : Sx) : Int32 × Sx := if (b_X3_signAhead_0 S) = x1 then (1, up2 S 3 4 ((S 3 4) + 1)) else (0, S)
def o_X3_skip_0 (x1 : Int32) (S : Sx) : Prop := o_X3_signAhead_0 S ∧ True
set_option maxRecDepth 20000 in
theorem t_X3_skip_0 (X : Cx p m c cX3_skip 2 s args RX3 D q ad) (hr : meth.sig.returnType = some .boolean) (hlocks : meth.locks = false) (x1 : Int32) (S : Sx) (rv : Int32) (S' : Sx) (ho : o_X3_skip_0 x1 S) (he : b_X3_skip_0 x1 S = (rv, S')) : Jg p l e rm_X3_skip s m args below meth c 0 0 (MQ below (Qi D q ad d rv S' s.heap.size) args s 0 0 (AU ad s.heap.size)) D q ad d 2 0 [(0, .ref (ad 3)), (1, .int x1)] [] S := by
  unfold b_X3_skip_0 at he
  unfold o_X3_skip_0 at ho
  refine j_aload_n X 0 dX3_skip_0 rfl ?_
  have h2 := ho.1
  have ho := ho.2
  refine j_callVi (rest := []) X (c_X3_signAhead (cx_inj X) S h2) cw_X3_44 kc23.1 (cl_23 kc23) rfl ⟨rfl, rfl, Nat.le_of_ble_eq_true rfl, Nat.le_of_ble_eq_true rfl⟩ rfl rfl (Nat.le_of_ble_eq_true rfl) ⟨Nat.le_of_ble_eq_true rfl, Nat.le_of_ble_eq_true rfl⟩ dX3_skip_1 ?_
  refine j_iload_n X 1 dX3_skip_4 rfl ?_
  refine j_icmp_eq X 10 dX3_skip_5 (by decide) (fun h3 => ?_) (fun h3 => ?_)
  · rw [if_pos h3] at he
    refine j_aload_n X 0 dX3_skip_10 rfl ?_
    refine j_dup X dX3_skip_11 rfl ?_
    refine gf_23_4 X m_fl_X3_19 kc23 dX3_skip_12 ?_
    refine j_iconst (v := 1) X dX3_skip_15 (by decide) ?_
    refine j_iadd X dX3_skip_16 ?_
    refine pf_23_4 X m_fl_X3_19 kc23 dX3_skip_17 ?_
    refine j_iconst (v := 1) X dX3_skip_20 (by decide) ?_
    exact j_zret X hr hlocks (bz_narrow bz_1) dX3_skip_21 (congrArg Prod.fst he) (congrArg Prod.snd he)
  · rw [if_neg h3] at he
    refine j_iconst (v := 0) X dX3_skip_8 (by decide) ?_
    exact j_zret X hr hlocks (bz_narrow bz_0) dX3_skip_9 (congrArg Prod.fst he) (congrArg Prod.snd he)
theorem c_X3_skip {l : Launch} {D : va_G} {q : Nat → ClassId} {ad : Nat → Nat} {d : UInt64} (hI : inj4 ad) (x1 : Int32) (S : Sx) (ho : o_X3_skip_0 x1 S) : CI l yX3_skip cX3_skip 2 .boolean rm_X3_skip D q ad d [.ref (ad 3), .int x1] S (b_X3_skip_0 x1 S).1 (b_X3_skip_0 x1 S).2 := ci_of hI (by decide +kernel) (Nat.le_of_ble_eq_true rfl) rfl (fun p e s m args below meth c X hr hlocks => t_X3_skip_0 X hr hlocks x1 S _ _ ho (pe _))
end
/-! RX3.findRollNumbers -/
abbrev rm_X3_findRollNumbers : Room := { frames := 2, cells := 0, slots := 0, locals := 41 }
section
variable {p : Program} {l : Launch} {e : Env} {s : State} {m : MethodId} {args : Array Value} {below : List Frame} {meth : Method} {c : Code} {D : va_G} {q : Nat → ClassId} {ad : Nat → Nat} {d : UInt64}
def b_X3_findRollNumbers_25  (S : Sx) : Int32 × Sx := (0, S)
set_option maxRecDepth 20000 in
theorem t_X3_findRollNumbers_25 (X : Cx p m c cX3_findRollNumbers 1 s args RX3 D q ad) (hr : meth.sig.returnType = some .boolean) (hlocks : meth.locks = false) (S : Sx) (rv : Int32) (S' : Sx) (he : b_X3_findRollNumbers_25 S = (rv, S')) : Jg p l e rm_X3_findRollNumbers s m args below meth c 0 0 (MQ below (Qi D q ad d rv S' s.heap.size) args s 0 0 (AU ad s.heap.size)) D q ad d 1 25 [] [] S := by
  unfold b_X3_findRollNumbers_25 at he
  refine j_iconst (v := 0) X dX3_findRollNumbers_25 (by decide) ?_
  exact j_zret X hr hlocks (bz_narrow bz_0) dX3_findRollNumbers_26 (congrArg Prod.fst he) (congrArg Prod.snd he)
def b_X3_findRollNumbers_52  (S : Sx) : Int32 × Sx := (0, S)
set_option maxRecDepth 20000 in
theorem t_X3_findRollNumbers_52 (X : Cx p m c cX3_findRollNumbers 1 s args RX3 D q ad) (hr : meth.sig.returnType = some .boolean) (hlocks : meth.locks = false) (S : Sx) (rv : Int32) (S' : Sx) (he : b_X3_findRollNumbers_52 S = (rv, S')) : Jg p l e rm_X3_findRollNumbers s m args below meth c 0 0 (MQ below (Qi D q ad d rv S' s.heap.size) args s 0 0 (AU ad s.heap.size)) D q ad d 1 52 [] [] S := by
  unfold b_X3_findRollNumbers_52 at he
  refine j_iconst (v := 0) X dX3_findRollNumbers_52 (by decide) ?_
  exact j_zret X hr hlocks (bz_narrow bz_0) dX3_findRollNumbers_53 (congrArg Prod.fst he) (congrArg Prod.snd he)
def b_X3_findRollNumbers_75 (w0 : Int32) (S : Sx) : Int32 × Sx := (w0, S)
def o_X3_findRollNumbers_75 (w0 : Int32) (S : Sx) : Prop := bz w0 ∧ True
set_option maxRecDepth 20000 in
theorem t_X3_findRollNumbers_75 (X : Cx p m c cX3_findRollNumbers 1 s args RX3 D q ad) (hr : meth.sig.returnType = some .boolean) (hlocks : meth.locks = false) (w0 : Int32) (S : Sx) (rv : Int32) (S' : Sx) (ho : o_X3_findRollNumbers_75 w0 S) (he : b_X3_findRollNumbers_75 w0 S = (rv, S')) : Jg p l e rm_X3_findRollNumbers s m args below meth c 0 0 (MQ below (Qi D q ad d rv S' s.heap.size) args s 0 0 (AU ad s.heap.size)) D q ad d 1 75 [] [.int w0] S := by
  unfold b_X3_findRollNumbers_75 at he
  unfold o_X3_findRollNumbers_75 at ho
  have h2 := ho.1
  have ho := ho.2
  exact j_zret X hr hlocks (bz_narrow h2) dX3_findRollNumbers_75 (congrArg Prod.fst he) (congrArg Prod.snd he)
def b_X3_findRollNumbers_59 (w0 : Int32) (S : Sx) : Int32 × Sx := if ((up2 S 3 8 w0) 3 8) = (-1) then b_X3_findRollNumbers_75 0 (up2 S 3 8 w0) else b_X3_findRollNumbers_75 1 (up2 S 3 8 w0)
def o_X3_findRollNumbers_59 (w0 : Int32) (S : Sx) : Prop := (((up2 S 3 8 w0) 3 8) = (-1) → (o_X3_findRollNumbers_75 0 (up2 S 3 8 w0))) ∧ (¬ ((up2 S 3 8 w0) 3 8) = (-1) → (o_X3_findRollNumbers_75 1 (up2 S 3 8 w0)))
set_option maxRecDepth 20000 in
theorem t_X3_findRollNumbers_59 (X : Cx p m c cX3_findRollNumbers 1 s args RX3 D q ad) (hr : meth.sig.returnType = some .boolean) (hlocks : meth.locks = false) (w0 : Int32) (S : Sx) (rv : Int32) (S' : Sx) (ho : o_X3_findRollNumbers_59 w0 S) (he : b_X3_findRollNumbers_59 w0 S = (rv, S')) : Jg p l e rm_X3_findRollNumbers s m args below meth c 0 0 (MQ below (Qi D q ad d rv S' s.heap.size) args s 0 0 (AU ad s.heap.size)) D q ad d 1 59 [(0, .ref (ad 3))] [.int w0, .ref (ad 3)] S := by
  unfold b_X3_findRollNumbers_59 at he
  unfold o_X3_findRollNumbers_59 at ho
  refine pf_23_8 X m_fl_X3_69 kc23 dX3_findRollNumbers_59 ?_
  refine j_aload_n X 0 dX3_findRollNumbers_62 rfl ?_
  refine gf_23_8 X m_fl_X3_69 kc23 dX3_findRollNumbers_63 ?_
  refine j_iconst (v := (-1)) X dX3_findRollNumbers_66 (by decide) ?_
  refine j_icmp_eq X 74 dX3_findRollNumbers_67 (by decide) (fun h2 => ?_) (fun h2 => ?_)
  · rw [if_pos h2] at he
    have ho := ho.1 h2
    refine j_iconst (v := 0) X dX3_findRollNumbers_74 (by decide) ?_
    refine j_lv [] [] rfl ?_
    exact t_X3_findRollNumbers_75 X hr hlocks 0 (up2 S 3 8 w0) _ _ ho he
  · rw [if_neg h2] at he
    have ho := ho.2 h2
    refine j_iconst (v := 1) X dX3_findRollNumbers_70 (by decide) ?_
    refine j_goto X 75 dX3_findRollNumbers_71 (by decide) ?_
    refine j_lv [] [] rfl ?_
    exact t_X3_findRollNumbers_75 X hr hlocks 1 (up2 S 3 8 w0) _ _ ho he
def b_X3_findRollNumbers_32 (w0 : Int32) (S : Sx) : Int32 × Sx := if ((up2 S 3 7 w0) 3 7) = (-1) then b_X3_findRollNumbers_52 (up2 S 3 7 w0) else if ((b_X3_skip_0 43 (up2 S 3 7 w0)).1) = 0 then b_X3_findRollNumbers_52 ((b_X3_skip_0 43 (up2 S 3 7 w0)).2) else b_X3_findRollNumbers_59 ((b_X3_findDigit_0 ((b_X3_skip_0 43 (up2 S 3 7 w0)).2)).1) ((b_X3_findDigit_0 ((b_X3_skip_0 43 (up2 S 3 7 w0)).2)).2)
def o_X3_findRollNumbers_32 (w0 : Int32) (S : Sx) : Prop := (((up2 S 3 7 w0) 3 7) = (-1) → True) ∧ (¬ ((up2 S 3 7 w0) 3 7) = (-1) → (o_X3_skip_0 43 (up2 S 3 7 w0) ∧ ((((b_X3_skip_0 43 (up2 S 3 7 w0)).1) = 0 → True) ∧ (¬ ((b_X3_skip_0 43 (up2 S 3 7 w0)).1) = 0 → (o_X3_findDigit_0 ((b_X3_skip_0 43 (up2 S 3 7 w0)).2) ∧ (o_X3_findRollNumbers_59 ((b_X3_findDigit_0 ((b_X3_skip_0 43 (up2 S 3 7 w0)).2)).1) ((b_X3_findDigit_0 ((b_X3_skip_0 43 (up2 S 3 7 w0)).2)).2)))))))
set_option maxRecDepth 20000 in
theorem t_X3_findRollNumbers_32 (X : Cx p m c cX3_findRollNumbers 1 s args RX3 D q ad) (hr : meth.sig.returnType = some .boolean) (hlocks : meth.locks = false) (w0 : Int32) (S : Sx) (rv : Int32) (S' : Sx) (ho : o_X3_findRollNumbers_32 w0 S) (he : b_X3_findRollNumbers_32 w0 S = (rv, S')) : Jg p l e rm_X3_findRollNumbers s m args below meth c 0 0 (MQ below (Qi D q ad d rv S' s.heap.size) args s 0 0 (AU ad s.heap.size)) D q ad d 1 32 [(0, .ref (ad 3))] [.int w0, .ref (ad 3)] S := by
  unfold b_X3_findRollNumbers_32 at he
  unfold o_X3_findRollNumbers_32 at ho
  refine pf_23_7 X m_fl_X3_66 kc23 dX3_findRollNumbers_32 ?_
  refine j_aload_n X 0 dX3_findRollNumbers_35 rfl ?_
  refine gf_23_7 X m_fl_X3_66 kc23 dX3_findRollNumbers_36 ?_
  refine j_iconst (v := (-1)) X dX3_findRollNumbers_39 (by decide) ?_
  refine j_icmp_eq X 52 dX3_findRollNumbers_40 (by decide) (fun h2 => ?_) (fun h2 => ?_)
  · rw [if_pos h2] at he
    have ho := ho.1 h2
    refine j_lv [] [] rfl ?_
    exact t_X3_findRollNumbers_52 X hr hlocks (up2 S 3 7 w0) _ _ he
  · rw [if_neg h2] at he
    have ho := ho.2 h2
    refine j_aload_n X 0 dX3_findRollNumbers_43 rfl ?_
    refine j_bipush (v := 43) X dX3_findRollNumbers_44 (by decide) ?_
    have h3 := ho.1
    have ho := ho.2
    refine j_callVi (rest := []) X (c_X3_skip (cx_inj X) 43 (up2 S 3 7 w0) h3) cw_X3_37 kc23.1 (cl_23 kc23) rfl ⟨rfl, rfl, Nat.le_of_ble_eq_true rfl, Nat.le_of_ble_eq_true rfl⟩ rfl rfl (Nat.le_of_ble_eq_true rfl) ⟨Nat.le_of_ble_eq_true rfl, Nat.le_of_ble_eq_true rfl⟩ dX3_findRollNumbers_46 ?_
    refine j_if_ne X 54 dX3_findRollNumbers_49 (by decide) (fun h4 => ?_) (fun h4 => ?_)
    · rw [if_neg h4] at he
      have ho := ho.2 h4
      refine j_aload_n X 0 dX3_findRollNumbers_54 rfl ?_
      refine j_aload_n X 0 dX3_findRollNumbers_55 rfl ?_
      have h5 := ho.1
      have ho := ho.2
      refine j_callVi (rest := [.ref (ad 3)]) X (c_X3_findDigit (cx_inj X) ((b_X3_skip_0 43 (up2 S 3 7 w0)).2) h5) cw_X3_57 kc23.1 (cl_23 kc23) rfl ⟨rfl, rfl, Nat.le_of_ble_eq_true rfl, Nat.le_of_ble_eq_true rfl⟩ rfl rfl (Nat.le_of_ble_eq_true rfl) ⟨Nat.le_of_ble_eq_true rfl, Nat.le_of_ble_eq_true rfl⟩ dX3_findRollNumbers_56 ?_
      exact t_X3_findRollNumbers_59 X hr hlocks ((b_X3_findDigit_0 ((b_X3_skip_0 43 (up2 S 3 7 w0)).2)).1) ((b_X3_findDigit_0 ((b_X3_skip_0 43 (up2 S 3 7 w0)).2)).2) _ _ ho he
    · rw [if_pos h4] at he
      have ho := ho.1 h4
      refine j_lv [] [] rfl ?_
      exact t_X3_findRollNumbers_52 X hr hlocks ((b_X3_skip_0 43 (up2 S 3 7 w0)).2) _ _ he
def b_X3_findRollNumbers_8  (S : Sx) : Int32 × Sx := if (S 3 6) = (-1) then b_X3_findRollNumbers_25 S else if ((b_X3_skip_0 58 S).1) = 0 then b_X3_findRollNumbers_25 ((b_X3_skip_0 58 S).2) else b_X3_findRollNumbers_32 ((b_X3_findDigit_0 ((b_X3_skip_0 58 S).2)).1) ((b_X3_findDigit_0 ((b_X3_skip_0 58 S).2)).2)
def o_X3_findRollNumbers_8  (S : Sx) : Prop := ((S 3 6) = (-1) → True) ∧ (¬ (S 3 6) = (-1) → (o_X3_skip_0 58 S ∧ ((((b_X3_skip_0 58 S).1) = 0 → True) ∧ (¬ ((b_X3_skip_0 58 S).1) = 0 → (o_X3_findDigit_0 ((b_X3_skip_0 58 S).2) ∧ (o_X3_findRollNumbers_32 ((b_X3_findDigit_0 ((b_X3_skip_0 58 S).2)).1) ((b_X3_findDigit_0 ((b_X3_skip_0 58 S).2)).2)))))))
set_option maxRecDepth 20000 in
theorem t_X3_findRollNumbers_8 (X : Cx p m c cX3_findRollNumbers 1 s args RX3 D q ad) (hr : meth.sig.returnType = some .boolean) (hlocks : meth.locks = false) (S : Sx) (rv : Int32) (S' : Sx) (ho : o_X3_findRollNumbers_8 S) (he : b_X3_findRollNumbers_8 S = (rv, S')) : Jg p l e rm_X3_findRollNumbers s m args below meth c 0 0 (MQ below (Qi D q ad d rv S' s.heap.size) args s 0 0 (AU ad s.heap.size)) D q ad d 1 8 [(0, .ref (ad 3))] [] S := by
  unfold b_X3_findRollNumbers_8 at he
  unfold o_X3_findRollNumbers_8 at ho
  refine j_aload_n X 0 dX3_findRollNumbers_8 rfl ?_
  refine gf_23_6 X m_fl_X3_60 kc23 dX3_findRollNumbers_9 ?_
  refine j_iconst (v := (-1)) X dX3_findRollNumbers_12 (by decide) ?_
  refine j_icmp_eq X 25 dX3_findRollNumbers_13 (by decide) (fun h2 => ?_) (fun h2 => ?_)
  · rw [if_pos h2] at he
    have ho := ho.1 h2
    refine j_lv [] [] rfl ?_
    exact t_X3_findRollNumbers_25 X hr hlocks S _ _ he
  · rw [if_neg h2] at he
    have ho := ho.2 h2
    refine j_aload_n X 0 dX3_findRollNumbers_16 rfl ?_
    refine j_bipush (v := 58) X dX3_findRollNumbers_17 (by decide) ?_
    have h3 := ho.1
    have ho := ho.2
    refine j_callVi (rest := []) X (c_X3_skip (cx_inj X) 58 S h3) cw_X3_37 kc23.1 (cl_23 kc23) rfl ⟨rfl, rfl, Nat.le_of_ble_eq_true rfl, Nat.le_of_ble_eq_true rfl⟩ rfl rfl (Nat.le_of_ble_eq_true rfl) ⟨Nat.le_of_ble_eq_true rfl, Nat.le_of_ble_eq_true rfl⟩ dX3_findRollNumbers_19 ?_
    refine j_if_ne X 27 dX3_findRollNumbers_22 (by decide) (fun h4 => ?_) (fun h4 => ?_)
    · rw [if_neg h4] at he
      have ho := ho.2 h4
      refine j_aload_n X 0 dX3_findRollNumbers_27 rfl ?_
      refine j_aload_n X 0 dX3_findRollNumbers_28 rfl ?_
      have h5 := ho.1
      have ho := ho.2
      refine j_callVi (rest := [.ref (ad 3)]) X (c_X3_findDigit (cx_inj X) ((b_X3_skip_0 58 S).2) h5) cw_X3_57 kc23.1 (cl_23 kc23) rfl ⟨rfl, rfl, Nat.le_of_ble_eq_true rfl, Nat.le_of_ble_eq_true rfl⟩ rfl rfl (Nat.le_of_ble_eq_true rfl) ⟨Nat.le_of_ble_eq_true rfl, Nat.le_of_ble_eq_true rfl⟩ dX3_findRollNumbers_29 ?_
      exact t_X3_findRollNumbers_32 X hr hlocks ((b_X3_findDigit_0 ((b_X3_skip_0 58 S).2)).1) ((b_X3_findDigit_0 ((b_X3_skip_0 58 S).2)).2) _ _ ho he
    · rw [if_pos h4] at he
      have ho := ho.1 h4
      refine j_lv [] [] rfl ?_
      exact t_X3_findRollNumbers_25 X hr hlocks ((b_X3_skip_0 58 S).2) _ _ he
def b_X3_findRollNumbers_0  (S : Sx) : Int32 × Sx := b_X3_findRollNumbers_8 (up2 ((b_X3_findDigit_0 S).2) 3 6 ((b_X3_findDigit_0 S).1))
def o_X3_findRollNumbers_0  (S : Sx) : Prop := o_X3_findDigit_0 S ∧ (o_X3_findRollNumbers_8 (up2 ((b_X3_findDigit_0 S).2) 3 6 ((b_X3_findDigit_0 S).1)))
set_option maxRecDepth 20000 in
theorem t_X3_findRollNumbers_0 (X : Cx p m c cX3_findRollNumbers 1 s args RX3 D q ad) (hr : meth.sig.returnType = some .boolean) (hlocks : meth.locks = false) (S : Sx) (rv : Int32) (S' : Sx) (ho : o_X3_findRollNumbers_0 S) (he : b_X3_findRollNumbers_0 S = (rv, S')) : Jg p l e rm_X3_findRollNumbers s m args below meth c 0 0 (MQ below (Qi D q ad d rv S' s.heap.size) args s 0 0 (AU ad s.heap.size)) D q ad d 1 0 [(0, .ref (ad 3))] [] S := by
  unfold b_X3_findRollNumbers_0 at he
  unfold o_X3_findRollNumbers_0 at ho
  refine j_aload_n X 0 dX3_findRollNumbers_0 rfl ?_
  refine j_aload_n X 0 dX3_findRollNumbers_1 rfl ?_
  have h2 := ho.1
  have ho := ho.2
  refine j_callVi (rest := [.ref (ad 3)]) X (c_X3_findDigit (cx_inj X) S h2) cw_X3_57 kc23.1 (cl_23 kc23) rfl ⟨rfl, rfl, Nat.le_of_ble_eq_true rfl, Nat.le_of_ble_eq_true rfl⟩ rfl rfl (Nat.le_of_ble_eq_true rfl) ⟨Nat.le_of_ble_eq_true rfl, Nat.le_of_ble_eq_true rfl⟩ dX3_findRollNumbers_2 ?_
  refine pf_23_6 X m_fl_X3_60 kc23 dX3_findRollNumbers_5 ?_
  exact t_X3_findRollNumbers_8 X hr hlocks (up2 ((b_X3_findDigit_0 S).2) 3 6 ((b_X3_findDigit_0 S).1)) _ _ ho he
theorem c_X3_findRollNumbers {l : Launch} {D : va_G} {q : Nat → ClassId} {ad : Nat → Nat} {d : UInt64} (hI : inj4 ad) (S : Sx) (ho : o_X3_findRollNumbers_0 S) : CI l yX3_findRollNumbers cX3_findRollNumbers 1 .boolean rm_X3_findRollNumbers D q ad d [.ref (ad 3)] S (b_X3_findRollNumbers_0 S).1 (b_X3_findRollNumbers_0 S).2 := ci_of hI (by decide +kernel) (Nat.le_of_ble_eq_true rfl) rfl (fun p e s m args below meth c X hr hlocks => t_X3_findRollNumbers_0 X hr hlocks S _ _ ho (pe _))
end
/-! RX3.findNumber -/
abbrev rm_X3_findNumber : Room := { frames := 2, cells := 0, slots := 0, locals := 41 }
section
variable {p : Program} {l : Launch} {e : Env} {s : State} {m : MethodId} {args : Array Value} {below : List Frame} {meth : Method} {c : Code} {D : va_G} {q : Nat → ClassId} {ad : Nat → Nat} {d : UInt64}
def b_X3_findNumber_32 (w0 : Int32) (S : Sx) : Int32 × Sx := (w0, S)
set_option maxRecDepth 20000 in
theorem t_X3_findNumber_32 (X : Cx p m c cX3_findNumber 3 s args RX3 D q ad) (hr : meth.sig.returnType = some .int) (hlocks : meth.locks = false) (w0 : Int32) (S : Sx) (rv : Int32) (S' : Sx) (he : b_X3_findNumber_32 w0 S = (rv, S')) : Jg p l e rm_X3_findNumber s m args below meth c 0 0 (MQ below (Qi D q ad d rv S' s.heap.size) args s 0 0 (AU ad s.heap.size)) D q ad d 3 32 [] [.int w0] S := by
  unfold b_X3_findNumber_32 at he
  exact j_iret X hr hlocks dX3_findNumber_32 (congrArg Prod.fst he) (congrArg Prod.snd he)
def b_X3_findNumber_16 (v1 : Int32) (w0 : Int32) (S : Sx) : Int32 × Sx := if w0 = (-1) then b_X3_findNumber_32 v1 S else b_X3_findNumber_32 ((v1 * 10) + w0) S
set_option maxRecDepth 20000 in
theorem t_X3_findNumber_16 (X : Cx p m c cX3_findNumber 3 s args RX3 D q ad) (hr : meth.sig.returnType = some .int) (hlocks : meth.locks = false) (v1 : Int32) (w0 : Int32) (S : Sx) (rv : Int32) (S' : Sx) (he : b_X3_findNumber_16 v1 w0 S = (rv, S')) : Jg p l e rm_X3_findNumber s m args below meth c 0 0 (MQ below (Qi D q ad d rv S' s.heap.size) args s 0 0 (AU ad s.heap.size)) D q ad d 3 16 [(1, .int v1)] [.int w0] S := by
  unfold b_X3_findNumber_16 at he
  refine j_istore_n X [(2, .int w0), (1, .int v1)] dX3_findNumber_16 (by decide) rfl ?_
  refine j_iload_n X 0 dX3_findNumber_17 rfl ?_
  refine j_iconst (v := (-1)) X dX3_findNumber_18 (by decide) ?_
  refine j_icmp_ne X 26 dX3_findNumber_19 (by decide) (fun h2 => ?_) (fun h2 => ?_)
  · rw [if_neg h2] at he
    refine j_iload_n X 1 dX3_findNumber_26 rfl ?_
    refine j_bipush (v := 10) X dX3_findNumber_27 (by decide) ?_
    refine j_imul X dX3_findNumber_29 ?_
    refine j_iload_n X 0 dX3_findNumber_30 rfl ?_
    refine j_iadd X dX3_findNumber_31 ?_
    refine j_lv [] [] rfl ?_
    exact t_X3_findNumber_32 X hr hlocks ((v1 * 10) + w0) S _ _ he
  · rw [if_pos h2] at he
    refine j_iload_n X 1 dX3_findNumber_22 rfl ?_
    refine j_goto X 32 dX3_findNumber_23 (by decide) ?_
    refine j_lv [] [] rfl ?_
    exact t_X3_findNumber_32 X hr hlocks v1 S _ _ he
def b_X3_findNumber_0  (S : Sx) : Int32 × Sx := if ((b_X3_findDigit_0 S).1) = (-1) then ((-1), (b_X3_findDigit_0 S).2) else b_X3_findNumber_16 ((b_X3_findDigit_0 S).1) ((b_X3_findDigit_0 ((b_X3_findDigit_0 S).2)).1) ((b_X3_findDigit_0 ((b_X3_findDigit_0 S).2)).2)
def o_X3_findNumber_0  (S : Sx) : Prop := o_X3_findDigit_0 S ∧ ((((b_X3_findDigit_0 S).1) = (-1) → True) ∧ (¬ ((b_X3_findDigit_0 S).1) = (-1) → (o_X3_findDigit_0 ((b_X3_findDigit_0 S).2) ∧ True)))
set_option maxRecDepth 20000 in
theorem t_X3_findNumber_0 (X : Cx p m c cX3_findNumber 3 s args RX3 D q ad) (hr : meth.sig.returnType = some .int) (hlocks : meth.locks = false) (S : Sx) (rv : Int32) (S' : Sx) (ho : o_X3_findNumber_0 S) (he : b_X3_findNumber_0 S = (rv, S')) : Jg p l e rm_X3_findNumber s m args below meth c 0 0 (MQ below (Qi D q ad d rv S' s.heap.size) args s 0 0 (AU ad s.heap.size)) D q ad d 3 0 [(0, .ref (ad 3))] [] S := by
  unfold b_X3_findNumber_0 at he
  unfold o_X3_findNumber_0 at ho
  refine j_aload_n X 0 dX3_findNumber_0 rfl ?_
  have h2 := ho.1
  have ho := ho.2
  refine j_callVi (rest := []) X (c_X3_findDigit (cx_inj X) S h2) cw_X3_57 kc23.1 (cl_23 kc23) rfl ⟨rfl, rfl, Nat.le_of_ble_eq_true rfl, Nat.le_of_ble_eq_true rfl⟩ rfl rfl (Nat.le_of_ble_eq_true rfl) ⟨Nat.le_of_ble_eq_true rfl, Nat.le_of_ble_eq_true rfl⟩ dX3_findNumber_1 ?_
  refine j_istore_n X [(1, .int ((b_X3_findDigit_0 S).1)), (0, .ref (ad 3))] dX3_findNumber_4 (by decide) rfl ?_
  refine j_iload_n X 0 dX3_findNumber_5 rfl ?_
  refine j_iconst (v := (-1)) X dX3_findNumber_6 (by decide) ?_
  refine j_icmp_ne X 12 dX3_findNumber_7 (by decide) (fun h3 => ?_) (fun h3 => ?_)
  · rw [if_neg h3] at he
    have ho := ho.2 h3
    refine j_aload_n X 1 dX3_findNumber_12 rfl ?_
    have h4 := ho.1
    have ho := ho.2
    refine j_callVi (rest := []) X (c_X3_findDigit (cx_inj X) ((b_X3_findDigit_0 S).2) h4) cw_X3_57 kc23.1 (cl_23 kc23) rfl ⟨rfl, rfl, Nat.le_of_ble_eq_true rfl, Nat.le_of_ble_eq_true rfl⟩ rfl rfl (Nat.le_of_ble_eq_true rfl) ⟨Nat.le_of_ble_eq_true rfl, Nat.le_of_ble_eq_true rfl⟩ dX3_findNumber_13 ?_
    refine j_lv [0] [(1, .int ((b_X3_findDigit_0 S).1))] rfl ?_
    exact t_X3_findNumber_16 X hr hlocks ((b_X3_findDigit_0 S).1) ((b_X3_findDigit_0 ((b_X3_findDigit_0 S).2)).1) ((b_X3_findDigit_0 ((b_X3_findDigit_0 S).2)).2) _ _ he
  · rw [if_pos h3] at he
    have ho := ho.1 h3
    refine j_iconst (v := (-1)) X dX3_findNumber_10 (by decide) ?_
    exact j_iret X hr hlocks dX3_findNumber_11 (congrArg Prod.fst he) (congrArg Prod.snd he)
theorem c_X3_findNumber {l : Launch} {D : va_G} {q : Nat → ClassId} {ad : Nat → Nat} {d : UInt64} (hI : inj4 ad) (S : Sx) (ho : o_X3_findNumber_0 S) : CI l yX3_findNumber cX3_findNumber 3 .int rm_X3_findNumber D q ad d [.ref (ad 3)] S (b_X3_findNumber_0 S).1 (b_X3_findNumber_0 S).2 := ci_of hI (by decide +kernel) (Nat.le_of_ble_eq_true rfl) rfl (fun p e s m args below meth c X hr hlocks => t_X3_findNumber_0 X hr hlocks S _ _ ho (pe _))
end
/-! RX3.findBowlNumbers -/
abbrev rm_X3_findBowlNumbers : Room := { frames := 3, cells := 0, slots := 0, locals := 63 }
section
variable {p : Program} {l : Launch} {e : Env} {s : State} {m : MethodId} {args : Array Value} {below : List Frame} {meth : Method} {c : Code} {D : va_G} {q : Nat → ClassId} {ad : Nat → Nat} {d : UInt64}
def b_X3_findBowlNumbers_25  (S : Sx) : Int32 × Sx := (0, S)
set_option maxRecDepth 20000 in
theorem t_X3_findBowlNumbers_25 (X : Cx p m c cX3_findBowlNumbers 1 s args RX3 D q ad) (hr : meth.sig.returnType = some .boolean) (hlocks : meth.locks = false) (S : Sx) (rv : Int32) (S' : Sx) (he : b_X3_findBowlNumbers_25 S = (rv, S')) : Jg p l e rm_X3_findBowlNumbers s m args below meth c 0 0 (MQ below (Qi D q ad d rv S' s.heap.size) args s 0 0 (AU ad s.heap.size)) D q ad d 1 25 [] [] S := by
  unfold b_X3_findBowlNumbers_25 at he
  refine j_iconst (v := 0) X dX3_findBowlNumbers_25 (by decide) ?_
  exact j_zret X hr hlocks (bz_narrow bz_0) dX3_findBowlNumbers_26 (congrArg Prod.fst he) (congrArg Prod.snd he)
def b_X3_findBowlNumbers_48 (w0 : Int32) (S : Sx) : Int32 × Sx := (w0, S)
def o_X3_findBowlNumbers_48 (w0 : Int32) (S : Sx) : Prop := bz w0 ∧ True
set_option maxRecDepth 20000 in
theorem t_X3_findBowlNumbers_48 (X : Cx p m c cX3_findBowlNumbers 1 s args RX3 D q ad) (hr : meth.sig.returnType = some .boolean) (hlocks : meth.locks = false) (w0 : Int32) (S : Sx) (rv : Int32) (S' : Sx) (ho : o_X3_findBowlNumbers_48 w0 S) (he : b_X3_findBowlNumbers_48 w0 S = (rv, S')) : Jg p l e rm_X3_findBowlNumbers s m args below meth c 0 0 (MQ below (Qi D q ad d rv S' s.heap.size) args s 0 0 (AU ad s.heap.size)) D q ad d 1 48 [] [.int w0] S := by
  unfold b_X3_findBowlNumbers_48 at he
  unfold o_X3_findBowlNumbers_48 at ho
  have h2 := ho.1
  have ho := ho.2
  exact j_zret X hr hlocks (bz_narrow h2) dX3_findBowlNumbers_48 (congrArg Prod.fst he) (congrArg Prod.snd he)
def b_X3_findBowlNumbers_32 (w0 : Int32) (S : Sx) : Int32 × Sx := if ((up2 S 3 7 w0) 3 7) = (-1) then b_X3_findBowlNumbers_48 0 (up2 S 3 7 w0) else b_X3_findBowlNumbers_48 1 (up2 S 3 7 w0)
def o_X3_findBowlNumbers_32 (w0 : Int32) (S : Sx) : Prop := (((up2 S 3 7 w0) 3 7) = (-1) → (o_X3_findBowlNumbers_48 0 (up2 S 3 7 w0))) ∧ (¬ ((up2 S 3 7 w0) 3 7) = (-1) → (o_X3_findBowlNumbers_48 1 (up2 S 3 7 w0)))
set_option maxRecDepth 20000 in
theorem t_X3_findBowlNumbers_32 (X : Cx p m c cX3_findBowlNumbers 1 s args RX3 D q ad) (hr : meth.sig.returnType = some .boolean) (hlocks : meth.locks = false) (w0 : Int32) (S : Sx) (rv : Int32) (S' : Sx) (ho : o_X3_findBowlNumbers_32 w0 S) (he : b_X3_findBowlNumbers_32 w0 S = (rv, S')) : Jg p l e rm_X3_findBowlNumbers s m args below meth c 0 0 (MQ below (Qi D q ad d rv S' s.heap.size) args s 0 0 (AU ad s.heap.size)) D q ad d 1 32 [(0, .ref (ad 3))] [.int w0, .ref (ad 3)] S := by
  unfold b_X3_findBowlNumbers_32 at he
  unfold o_X3_findBowlNumbers_32 at ho
  refine pf_23_7 X m_fl_X3_66 kc23 dX3_findBowlNumbers_32 ?_
  refine j_aload_n X 0 dX3_findBowlNumbers_35 rfl ?_
  refine gf_23_7 X m_fl_X3_66 kc23 dX3_findBowlNumbers_36 ?_
  refine j_iconst (v := (-1)) X dX3_findBowlNumbers_39 (by decide) ?_
  refine j_icmp_eq X 47 dX3_findBowlNumbers_40 (by decide) (fun h2 => ?_) (fun h2 => ?_)
  · rw [if_pos h2] at he
    have ho := ho.1 h2
    refine j_iconst (v := 0) X dX3_findBowlNumbers_47 (by decide) ?_
    refine j_lv [] [] rfl ?_
    exact t_X3_findBowlNumbers_48 X hr hlocks 0 (up2 S 3 7 w0) _ _ ho he
  · rw [if_neg h2] at he
    have ho := ho.2 h2
    refine j_iconst (v := 1) X dX3_findBowlNumbers_43 (by decide) ?_
    refine j_goto X 48 dX3_findBowlNumbers_44 (by decide) ?_
    refine j_lv [] [] rfl ?_
    exact t_X3_findBowlNumbers_48 X hr hlocks 1 (up2 S 3 7 w0) _ _ ho he
def b_X3_findBowlNumbers_8  (S : Sx) : Int32 × Sx := if (S 3 6) = (-1) then b_X3_findBowlNumbers_25 S else if ((b_X3_skip_0 42 S).1) = 0 then b_X3_findBowlNumbers_25 ((b_X3_skip_0 42 S).2) else b_X3_findBowlNumbers_32 ((b_X3_findNumber_0 ((b_X3_skip_0 42 S).2)).1) ((b_X3_findNumber_0 ((b_X3_skip_0 42 S).2)).2)
def o_X3_findBowlNumbers_8  (S : Sx) : Prop := ((S 3 6) = (-1) → True) ∧ (¬ (S 3 6) = (-1) → (o_X3_skip_0 42 S ∧ ((((b_X3_skip_0 42 S).1) = 0 → True) ∧ (¬ ((b_X3_skip_0 42 S).1) = 0 → (o_X3_findNumber_0 ((b_X3_skip_0 42 S).2) ∧ (o_X3_findBowlNumbers_32 ((b_X3_findNumber_0 ((b_X3_skip_0 42 S).2)).1) ((b_X3_findNumber_0 ((b_X3_skip_0 42 S).2)).2)))))))
set_option maxRecDepth 20000 in
theorem t_X3_findBowlNumbers_8 (X : Cx p m c cX3_findBowlNumbers 1 s args RX3 D q ad) (hr : meth.sig.returnType = some .boolean) (hlocks : meth.locks = false) (S : Sx) (rv : Int32) (S' : Sx) (ho : o_X3_findBowlNumbers_8 S) (he : b_X3_findBowlNumbers_8 S = (rv, S')) : Jg p l e rm_X3_findBowlNumbers s m args below meth c 0 0 (MQ below (Qi D q ad d rv S' s.heap.size) args s 0 0 (AU ad s.heap.size)) D q ad d 1 8 [(0, .ref (ad 3))] [] S := by
  unfold b_X3_findBowlNumbers_8 at he
  unfold o_X3_findBowlNumbers_8 at ho
  refine j_aload_n X 0 dX3_findBowlNumbers_8 rfl ?_
  refine gf_23_6 X m_fl_X3_60 kc23 dX3_findBowlNumbers_9 ?_
  refine j_iconst (v := (-1)) X dX3_findBowlNumbers_12 (by decide) ?_
  refine j_icmp_eq X 25 dX3_findBowlNumbers_13 (by decide) (fun h2 => ?_) (fun h2 => ?_)
  · rw [if_pos h2] at he
    have ho := ho.1 h2
    refine j_lv [] [] rfl ?_
    exact t_X3_findBowlNumbers_25 X hr hlocks S _ _ he
  · rw [if_neg h2] at he
    have ho := ho.2 h2
    refine j_aload_n X 0 dX3_findBowlNumbers_16 rfl ?_
    refine j_bipush (v := 42) X dX3_findBowlNumbers_17 (by decide) ?_
    have h3 := ho.1
    have ho := ho.2
    refine j_callVi (rest := []) X (c_X3_skip (cx_inj X) 42 S h3) cw_X3_37 kc23.1 (cl_23 kc23) rfl ⟨rfl, rfl, Nat.le_of_ble_eq_true rfl, Nat.le_of_ble_eq_true rfl⟩ rfl rfl (Nat.le_of_ble_eq_true rfl) ⟨Nat.le_of_ble_eq_true rfl, Nat.le_of_ble_eq_true rfl⟩ dX3_findBowlNumbers_19 ?_
    refine j_if_ne X 27 dX3_findBowlNumbers_22 (by decide) (fun h4 => ?_) (fun h4 => ?_)
    · rw [if_neg h4] at he
      have ho := ho.2 h4
      refine j_aload_n X 0 dX3_findBowlNumbers_27 rfl ?_
      refine j_aload_n X 0 dX3_findBowlNumbers_28 rfl ?_
      have h5 := ho.1
      have ho := ho.2
      refine j_callVi (rest := [.ref (ad 3)]) X (c_X3_findNumber (cx_inj X) ((b_X3_skip_0 42 S).2) h5) cw_X3_63 kc23.1 (cl_23 kc23) rfl ⟨rfl, rfl, Nat.le_of_ble_eq_true rfl, Nat.le_of_ble_eq_true rfl⟩ rfl rfl (Nat.le_of_ble_eq_true rfl) ⟨Nat.le_of_ble_eq_true rfl, Nat.le_of_ble_eq_true rfl⟩ dX3_findBowlNumbers_29 ?_
      exact t_X3_findBowlNumbers_32 X hr hlocks ((b_X3_findNumber_0 ((b_X3_skip_0 42 S).2)).1) ((b_X3_findNumber_0 ((b_X3_skip_0 42 S).2)).2) _ _ ho he
    · rw [if_pos h4] at he
      have ho := ho.1 h4
      refine j_lv [] [] rfl ?_
      exact t_X3_findBowlNumbers_25 X hr hlocks ((b_X3_skip_0 42 S).2) _ _ he
def b_X3_findBowlNumbers_0  (S : Sx) : Int32 × Sx := b_X3_findBowlNumbers_8 (up2 ((b_X3_findNumber_0 S).2) 3 6 ((b_X3_findNumber_0 S).1))
def o_X3_findBowlNumbers_0  (S : Sx) : Prop := o_X3_findNumber_0 S ∧ (o_X3_findBowlNumbers_8 (up2 ((b_X3_findNumber_0 S).2) 3 6 ((b_X3_findNumber_0 S).1)))
set_option maxRecDepth 20000 in
theorem t_X3_findBowlNumbers_0 (X : Cx p m c cX3_findBowlNumbers 1 s args RX3 D q ad) (hr : meth.sig.returnType = some .boolean) (hlocks : meth.locks = false) (S : Sx) (rv : Int32) (S' : Sx) (ho : o_X3_findBowlNumbers_0 S) (he : b_X3_findBowlNumbers_0 S = (rv, S')) : Jg p l e rm_X3_findBowlNumbers s m args below meth c 0 0 (MQ below (Qi D q ad d rv S' s.heap.size) args s 0 0 (AU ad s.heap.size)) D q ad d 1 0 [(0, .ref (ad 3))] [] S := by
  unfold b_X3_findBowlNumbers_0 at he
  unfold o_X3_findBowlNumbers_0 at ho
  refine j_aload_n X 0 dX3_findBowlNumbers_0 rfl ?_
  refine j_aload_n X 0 dX3_findBowlNumbers_1 rfl ?_
  have h2 := ho.1
  have ho := ho.2
  refine j_callVi (rest := [.ref (ad 3)]) X (c_X3_findNumber (cx_inj X) S h2) cw_X3_63 kc23.1 (cl_23 kc23) rfl ⟨rfl, rfl, Nat.le_of_ble_eq_true rfl, Nat.le_of_ble_eq_true rfl⟩ rfl rfl (Nat.le_of_ble_eq_true rfl) ⟨Nat.le_of_ble_eq_true rfl, Nat.le_of_ble_eq_true rfl⟩ dX3_findBowlNumbers_2 ?_
  refine pf_23_6 X m_fl_X3_60 kc23 dX3_findBowlNumbers_5 ?_
  exact t_X3_findBowlNumbers_8 X hr hlocks (up2 ((b_X3_findNumber_0 S).2) 3 6 ((b_X3_findNumber_0 S).1)) _ _ ho he
theorem c_X3_findBowlNumbers {l : Launch} {D : va_G} {q : Nat → ClassId} {ad : Nat → Nat} {d : UInt64} (hI : inj4 ad) (S : Sx) (ho : o_X3_findBowlNumbers_0 S) : CI l yX3_findBowlNumbers cX3_findBowlNumbers 1 .boolean rm_X3_findBowlNumbers D q ad d [.ref (ad 3)] S (b_X3_findBowlNumbers_0 S).1 (b_X3_findBowlNumbers_0 S).2 := ci_of hI (by decide +kernel) (Nat.le_of_ble_eq_true rfl) rfl (fun p e s m args below meth c X hr hlocks => t_X3_findBowlNumbers_0 X hr hlocks S _ _ ho (pe _))
end
/-! RX3.findOrder -/
abbrev rm_X3_findOrder : Room := { frames := 4, cells := 0, slots := 0, locals := 83 }
section
variable {p : Program} {l : Launch} {e : Env} {s : State} {m : MethodId} {args : Array Value} {below : List Frame} {meth : Method} {c : Code} {D : va_G} {q : Nat → ClassId} {ad : Nat → Nat} {d : UInt64}
def b_X3_findOrder_118  (S : Sx) : Int32 × Sx := ((b_X3_findRollNumbers_0 S).1, (b_X3_findRollNumbers_0 S).2)
def o_X3_findOrder_118  (S : Sx) : Prop := o_X3_findRollNumbers_0 S ∧ (bz ((b_X3_findRollNumbers_0 S).1) ∧ True)
set_option maxRecDepth 20000 in
theorem t_X3_findOrder_118 (X : Cx p m c cX3_findOrder 1 s args RX3 D q ad) (hr : meth.sig.returnType = some .boolean) (hlocks : meth.locks = false) (S : Sx) (rv : Int32) (S' : Sx) (ho : o_X3_findOrder_118 S) (he : b_X3_findOrder_118 S = (rv, S')) : Jg p l e rm_X3_findOrder s m args below meth c 0 0 (MQ below (Qi D q ad d rv S' s.heap.size) args s 0 0 (AU ad s.heap.size)) D q ad d 1 118 [(0, .ref (ad 3))] [] S := by
  unfold b_X3_findOrder_118 at he
  unfold o_X3_findOrder_118 at ho
  refine j_aload_n X 0 dX3_findOrder_118 rfl ?_
  have h2 := ho.1
  have ho := ho.2
  refine j_callVi (rest := []) X (c_X3_findRollNumbers (cx_inj X) S h2) cw_X3_51 kc23.1 (cl_23 kc23) rfl ⟨rfl, rfl, Nat.le_of_ble_eq_true rfl, Nat.le_of_ble_eq_true rfl⟩ rfl rfl (Nat.le_of_ble_eq_true rfl) ⟨Nat.le_of_ble_eq_true rfl, Nat.le_of_ble_eq_true rfl⟩ dX3_findOrder_119 ?_
  have h3 := ho.1
  have ho := ho.2
  exact j_zret X hr hlocks (bz_narrow h3) dX3_findOrder_122 (congrArg Prod.fst he) (congrArg Prod.snd he)
def b_X3_findOrder_201 (w0 : Int32) (S : Sx) : Int32 × Sx := (w0, S)
def o_X3_findOrder_201 (w0 : Int32) (S : Sx) : Prop := bz w0 ∧ True
set_option maxRecDepth 20000 in
theorem t_X3_findOrder_201 (X : Cx p m c cX3_findOrder 1 s args RX3 D q ad) (hr : meth.sig.returnType = some .boolean) (hlocks : meth.locks = false) (w0 : Int32) (S : Sx) (rv : Int32) (S' : Sx) (ho : o_X3_findOrder_201 w0 S) (he : b_X3_findOrder_201 w0 S = (rv, S')) : Jg p l e rm_X3_findOrder s m args below meth c 0 0 (MQ below (Qi D q ad d rv S' s.heap.size) args s 0 0 (AU ad s.heap.size)) D q ad d 1 201 [] [.int w0] S := by
  unfold b_X3_findOrder_201 at he
  unfold o_X3_findOrder_201 at ho
  have h2 := ho.1
  have ho := ho.2
  exact j_zret X hr hlocks (bz_narrow h2) dX3_findOrder_201 (congrArg Prod.fst he) (congrArg Prod.snd he)
def b_X3_findOrder_188  (S : Sx) : Int32 × Sx := if (S 3 6) = (-1) then b_X3_findOrder_201 0 S else b_X3_findOrder_201 1 S
def o_X3_findOrder_188  (S : Sx) : Prop := ((S 3 6) = (-1) → (o_X3_findOrder_201 0 S)) ∧ (¬ (S 3 6) = (-1) → (o_X3_findOrder_201 1 S))
set_option maxRecDepth 20000 in
theorem t_X3_findOrder_188 (X : Cx p m c cX3_findOrder 1 s args RX3 D q ad) (hr : meth.sig.returnType = some .boolean) (hlocks : meth.locks = false) (S : Sx) (rv : Int32) (S' : Sx) (ho : o_X3_findOrder_188 S) (he : b_X3_findOrder_188 S = (rv, S')) : Jg p l e rm_X3_findOrder s m args below meth c 0 0 (MQ below (Qi D q ad d rv S' s.heap.size) args s 0 0 (AU ad s.heap.size)) D q ad d 1 188 [(0, .ref (ad 3))] [] S := by
  unfold b_X3_findOrder_188 at he
  unfold o_X3_findOrder_188 at ho
  refine j_aload_n X 0 dX3_findOrder_188 rfl ?_
  refine gf_23_6 X m_fl_X3_60 kc23 dX3_findOrder_189 ?_
  refine j_iconst (v := (-1)) X dX3_findOrder_192 (by decide) ?_
  refine j_icmp_eq X 200 dX3_findOrder_193 (by decide) (fun h2 => ?_) (fun h2 => ?_)
  · rw [if_pos h2] at he
    have ho := ho.1 h2
    refine j_iconst (v := 0) X dX3_findOrder_200 (by decide) ?_
    refine j_lv [] [] rfl ?_
    exact t_X3_findOrder_201 X hr hlocks 0 S _ _ ho he
  · rw [if_neg h2] at he
    have ho := ho.2 h2
    refine j_iconst (v := 1) X dX3_findOrder_196 (by decide) ?_
    refine j_goto X 201 dX3_findOrder_197 (by decide) ?_
    refine j_lv [] [] rfl ?_
    exact t_X3_findOrder_201 X hr hlocks 1 S _ _ ho he
def b_X3_findOrder_180  (S : Sx) : Int32 × Sx := b_X3_findOrder_188 (up2 ((b_X3_findNumber_0 S).2) 3 6 ((b_X3_findNumber_0 S).1))
def o_X3_findOrder_180  (S : Sx) : Prop := o_X3_findNumber_0 S ∧ (o_X3_findOrder_188 (up2 ((b_X3_findNumber_0 S).2) 3 6 ((b_X3_findNumber_0 S).1)))
set_option maxRecDepth 20000 in
theorem t_X3_findOrder_180 (X : Cx p m c cX3_findOrder 1 s args RX3 D q ad) (hr : meth.sig.returnType = some .boolean) (hlocks : meth.locks = false) (S : Sx) (rv : Int32) (S' : Sx) (ho : o_X3_findOrder_180 S) (he : b_X3_findOrder_180 S = (rv, S')) : Jg p l e rm_X3_findOrder s m args below meth c 0 0 (MQ below (Qi D q ad d rv S' s.heap.size) args s 0 0 (AU ad s.heap.size)) D q ad d 1 180 [(0, .ref (ad 3))] [] S := by
  unfold b_X3_findOrder_180 at he
  unfold o_X3_findOrder_180 at ho
  refine j_aload_n X 0 dX3_findOrder_180 rfl ?_
  refine j_aload_n X 0 dX3_findOrder_181 rfl ?_
  have h2 := ho.1
  have ho := ho.2
  refine j_callVi (rest := [.ref (ad 3)]) X (c_X3_findNumber (cx_inj X) S h2) cw_X3_63 kc23.1 (cl_23 kc23) rfl ⟨rfl, rfl, Nat.le_of_ble_eq_true rfl, Nat.le_of_ble_eq_true rfl⟩ rfl rfl (Nat.le_of_ble_eq_true rfl) ⟨Nat.le_of_ble_eq_true rfl, Nat.le_of_ble_eq_true rfl⟩ dX3_findOrder_182 ?_
  refine pf_23_6 X m_fl_X3_60 kc23 dX3_findOrder_185 ?_
  exact t_X3_findOrder_188 X hr hlocks (up2 ((b_X3_findNumber_0 S).2) 3 6 ((b_X3_findNumber_0 S).1)) _ _ ho he
def b_X3_findOrder_169 (w0 : Int32) (S : Sx) : Int32 × Sx := (w0, S)
def o_X3_findOrder_169 (w0 : Int32) (S : Sx) : Prop := bz w0 ∧ True
set_option maxRecDepth 20000 in
theorem t_X3_findOrder_169 (X : Cx p m c cX3_findOrder 1 s args RX3 D q ad) (hr : meth.sig.returnType = some .boolean) (hlocks : meth.locks = false) (w0 : Int32) (S : Sx) (rv : Int32) (S' : Sx) (ho : o_X3_findOrder_169 w0 S) (he : b_X3_findOrder_169 w0 S = (rv, S')) : Jg p l e rm_X3_findOrder s m args below meth c 0 0 (MQ below (Qi D q ad d rv S' s.heap.size) args s 0 0 (AU ad s.heap.size)) D q ad d 1 169 [] [.int w0] S := by
  unfold b_X3_findOrder_169 at he
  unfold o_X3_findOrder_169 at ho
  have h2 := ho.1
  have ho := ho.2
  exact j_zret X hr hlocks (bz_narrow h2) dX3_findOrder_169 (congrArg Prod.fst he) (congrArg Prod.snd he)
def b_X3_findOrder_156  (S : Sx) : Int32 × Sx := if (S 3 6) = (-1) then b_X3_findOrder_169 0 S else b_X3_findOrder_169 1 S
def o_X3_findOrder_156  (S : Sx) : Prop := ((S 3 6) = (-1) → (o_X3_findOrder_169 0 S)) ∧ (¬ (S 3 6) = (-1) → (o_X3_findOrder_169 1 S))
set_option maxRecDepth 20000 in
theorem t_X3_findOrder_156 (X : Cx p m c cX3_findOrder 1 s args RX3 D q ad) (hr : meth.sig.returnType = some .boolean) (hlocks : meth.locks = false) (S : Sx) (rv : Int32) (S' : Sx) (ho : o_X3_findOrder_156 S) (he : b_X3_findOrder_156 S = (rv, S')) : Jg p l e rm_X3_findOrder s m args below meth c 0 0 (MQ below (Qi D q ad d rv S' s.heap.size) args s 0 0 (AU ad s.heap.size)) D q ad d 1 156 [(0, .ref (ad 3))] [] S := by
  unfold b_X3_findOrder_156 at he
  unfold o_X3_findOrder_156 at ho
  refine j_aload_n X 0 dX3_findOrder_156 rfl ?_
  refine gf_23_6 X m_fl_X3_60 kc23 dX3_findOrder_157 ?_
  refine j_iconst (v := (-1)) X dX3_findOrder_160 (by decide) ?_
  refine j_icmp_eq X 168 dX3_findOrder_161 (by decide) (fun h2 => ?_) (fun h2 => ?_)
  · rw [if_pos h2] at he
    have ho := ho.1 h2
    refine j_iconst (v := 0) X dX3_findOrder_168 (by decide) ?_
    refine j_lv [] [] rfl ?_
    exact t_X3_findOrder_169 X hr hlocks 0 S _ _ ho he
  · rw [if_neg h2] at he
    have ho := ho.2 h2
    refine j_iconst (v := 1) X dX3_findOrder_164 (by decide) ?_
    refine j_goto X 169 dX3_findOrder_165 (by decide) ?_
    refine j_lv [] [] rfl ?_
    exact t_X3_findOrder_169 X hr hlocks 1 S _ _ ho he
def b_X3_findOrder_148  (S : Sx) : Int32 × Sx := b_X3_findOrder_156 (up2 ((b_X3_findDigit_0 S).2) 3 6 ((b_X3_findDigit_0 S).1))
def o_X3_findOrder_148  (S : Sx) : Prop := o_X3_findDigit_0 S ∧ (o_X3_findOrder_156 (up2 ((b_X3_findDigit_0 S).2) 3 6 ((b_X3_findDigit_0 S).1)))
set_option maxRecDepth 20000 in
theorem t_X3_findOrder_148 (X : Cx p m c cX3_findOrder 1 s args RX3 D q ad) (hr : meth.sig.returnType = some .boolean) (hlocks : meth.locks = false) (S : Sx) (rv : Int32) (S' : Sx) (ho : o_X3_findOrder_148 S) (he : b_X3_findOrder_148 S = (rv, S')) : Jg p l e rm_X3_findOrder s m args below meth c 0 0 (MQ below (Qi D q ad d rv S' s.heap.size) args s 0 0 (AU ad s.heap.size)) D q ad d 1 148 [(0, .ref (ad 3))] [] S := by
  unfold b_X3_findOrder_148 at he
  unfold o_X3_findOrder_148 at ho
  refine j_aload_n X 0 dX3_findOrder_148 rfl ?_
  refine j_aload_n X 0 dX3_findOrder_149 rfl ?_
  have h2 := ho.1
  have ho := ho.2
  refine j_callVi (rest := [.ref (ad 3)]) X (c_X3_findDigit (cx_inj X) S h2) cw_X3_57 kc23.1 (cl_23 kc23) rfl ⟨rfl, rfl, Nat.le_of_ble_eq_true rfl, Nat.le_of_ble_eq_true rfl⟩ rfl rfl (Nat.le_of_ble_eq_true rfl) ⟨Nat.le_of_ble_eq_true rfl, Nat.le_of_ble_eq_true rfl⟩ dX3_findOrder_150 ?_
  refine pf_23_6 X m_fl_X3_60 kc23 dX3_findOrder_153 ?_
  exact t_X3_findOrder_156 X hr hlocks (up2 ((b_X3_findDigit_0 S).2) 3 6 ((b_X3_findDigit_0 S).1)) _ _ ho he
def b_X3_findOrder_133  (S : Sx) : Int32 × Sx := ((b_X3_findBowlNumbers_0 S).1, (b_X3_findBowlNumbers_0 S).2)
def o_X3_findOrder_133  (S : Sx) : Prop := o_X3_findBowlNumbers_0 S ∧ (bz ((b_X3_findBowlNumbers_0 S).1) ∧ True)
set_option maxRecDepth 20000 in
theorem t_X3_findOrder_133 (X : Cx p m c cX3_findOrder 1 s args RX3 D q ad) (hr : meth.sig.returnType = some .boolean) (hlocks : meth.locks = false) (S : Sx) (rv : Int32) (S' : Sx) (ho : o_X3_findOrder_133 S) (he : b_X3_findOrder_133 S = (rv, S')) : Jg p l e rm_X3_findOrder s m args below meth c 0 0 (MQ below (Qi D q ad d rv S' s.heap.size) args s 0 0 (AU ad s.heap.size)) D q ad d 1 133 [(0, .ref (ad 3))] [] S := by
  unfold b_X3_findOrder_133 at he
  unfold o_X3_findOrder_133 at ho
  refine j_aload_n X 0 dX3_findOrder_133 rfl ?_
  have h2 := ho.1
  have ho := ho.2
  refine j_callVi (rest := []) X (c_X3_findBowlNumbers (cx_inj X) S h2) cw_X3_54 kc23.1 (cl_23 kc23) rfl ⟨rfl, rfl, Nat.le_of_ble_eq_true rfl, Nat.le_of_ble_eq_true rfl⟩ rfl rfl (Nat.le_of_ble_eq_true rfl) ⟨Nat.le_of_ble_eq_true rfl, Nat.le_of_ble_eq_true rfl⟩ dX3_findOrder_134 ?_
  have h3 := ho.1
  have ho := ho.2
  exact j_zret X hr hlocks (bz_narrow h3) dX3_findOrder_137 (congrArg Prod.fst he) (congrArg Prod.snd he)
def b_X3_findOrder_0  (S : Sx) : Int32 × Sx := if ((up2 S 3 5 (b_X3_signAhead_0 S)) 3 5) = 98 then b_X3_findOrder_133 (up2 (up2 S 3 5 (b_X3_signAhead_0 S)) 3 4 (((up2 S 3 5 (b_X3_signAhead_0 S)) 3 4) + 1)) else (if ((up2 S 3 5 (b_X3_signAhead_0 S)) 3 5) = 99 then b_X3_findOrder_148 (up2 (up2 S 3 5 (b_X3_signAhead_0 S)) 3 4 (((up2 S 3 5 (b_X3_signAhead_0 S)) 3 4) + 1)) else (if ((up2 S 3 5 (b_X3_signAhead_0 S)) 3 5) = 100 then (0, up2 S 3 5 (b_X3_signAhead_0 S)) else (if ((up2 S 3 5 (b_X3_signAhead_0 S)) 3 5) = 101 then b_X3_findOrder_180 (up2 (up2 S 3 5 (b_X3_signAhead_0 S)) 3 4 (((up2 S 3 5 (b_X3_signAhead_0 S)) 3 4) + 1)) else (if ((up2 S 3 5 (b_X3_signAhead_0 S)) 3 5) = 102 then (0, up2 S 3 5 (b_X3_signAhead_0 S)) else (if ((up2 S 3 5 (b_X3_signAhead_0 S)) 3 5) = 103 then (0, up2 S 3 5 (b_X3_signAhead_0 S)) else (if ((up2 S 3 5 (b_X3_signAhead_0 S)) 3 5) = 104 then b_X3_findOrder_180 (up2 (up2 S 3 5 (b_X3_signAhead_0 S)) 3 4 (((up2 S 3 5 (b_X3_signAhead_0 S)) 3 4) + 1)) else (if ((up2 S 3 5 (b_X3_signAhead_0 S)) 3 5) = 105 then (0, up2 S 3 5 (b_X3_signAhead_0 S)) else (if ((up2 S 3 5 (b_X3_signAhead_0 S)) 3 5) = 106 then (0, up2 S 3 5 (b_X3_signAhead_0 S)) else (if ((up2 S 3 5 (b_X3_signAhead_0 S)) 3 5) = 107 then (0, up2 S 3 5 (b_X3_signAhead_0 S)) else (if ((up2 S 3 5 (b_X3_signAhead_0 S)) 3 5) = 108 then (0, up2 S 3 5 (b_X3_signAhead_0 S)) else (if ((up2 S 3 5 (b_X3_signAhead_0 S)) 3 5) = 109 then (0, up2 S 3 5 (b_X3_signAhead_0 S)) else (if ((up2 S 3 5 (b_X3_signAhead_0 S)) 3 5) = 110 then (0, up2 S 3 5 (b_X3_signAhead_0 S)) else (if ((up2 S 3 5 (b_X3_signAhead_0 S)) 3 5) = 111 then (0, up2 S 3 5 (b_X3_signAhead_0 S)) else (if ((up2 S 3 5 (b_X3_signAhead_0 S)) 3 5) = 112 then (0, up2 S 3 5 (b_X3_signAhead_0 S)) else (if ((up2 S 3 5 (b_X3_signAhead_0 S)) 3 5) = 113 then (0, up2 S 3 5 (b_X3_signAhead_0 S)) else (if ((up2 S 3 5 (b_X3_signAhead_0 S)) 3 5) = 114 then b_X3_findOrder_118 (up2 (up2 S 3 5 (b_X3_signAhead_0 S)) 3 4 (((up2 S 3 5 (b_X3_signAhead_0 S)) 3 4) + 1)) else (if ((up2 S 3 5 (b_X3_signAhead_0 S)) 3 5) = 115 then (0, up2 S 3 5 (b_X3_signAhead_0 S)) else (if ((up2 S 3 5 (b_X3_signAhead_0 S)) 3 5) = 116 then (0, up2 S 3 5 (b_X3_signAhead_0 S)) else (if ((up2 S 3 5 (b_X3_signAhead_0 S)) 3 5) = 117 then b_X3_findOrder_148 (up2 (up2 S 3 5 (b_X3_signAhead_0 S)) 3 4 (((up2 S 3 5 (b_X3_signAhead_0 S)) 3 4) + 1)) else (0, up2 S 3 5 (b_X3_signAhead_0 S)))))))))))))))))))))
def o_X3_findOrder_0  (S : Sx) : Prop := o_X3_signAhead_0 S ∧ ((((up2 S 3 5 (b_X3_signAhead_0 S)) 3 5) = 98 → (o_X3_findOrder_133 (up2 (up2 S 3 5 (b_X3_signAhead_0 S)) 3 4 (((up2 S 3 5 (b_X3_signAhead_0 S)) 3 4) + 1)))) ∧ (¬ ((up2 S 3 5 (b_X3_signAhead_0 S)) 3 5) = 98 → ((((up2 S 3 5 (b_X3_signAhead_0 S)) 3 5) = 99 → (o_X3_findOrder_148 (up2 (up2 S 3 5 (b_X3_signAhead_0 S)) 3 4 (((up2 S 3 5 (b_X3_signAhead_0 S)) 3 4) + 1)))) ∧ (¬ ((up2 S 3 5 (b_X3_signAhead_0 S)) 3 5) = 99 → ((((up2 S 3 5 (b_X3_signAhead_0 S)) 3 5) = 100 → True) ∧ (¬ ((up2 S 3 5 (b_X3_signAhead_0 S)) 3 5) = 100 → ((((up2 S 3 5 (b_X3_signAhead_0 S)) 3 5) = 101 → (o_X3_findOrder_180 (up2 (up2 S 3 5 (b_X3_signAhead_0 S)) 3 4 (((up2 S 3 5 (b_X3_signAhead_0 S)) 3 4) + 1)))) ∧ (¬ ((up2 S 3 5 (b_X3_signAhead_0 S)) 3 5) = 101 → ((((up2 S 3 5 (b_X3_signAhead_0 S)) 3 5) = 102 → True) ∧ (¬ ((up2 S 3 5 (b_X3_signAhead_0 S)) 3 5) = 102 → ((((up2 S 3 5 (b_X3_signAhead_0 S)) 3 5) = 103 → True) ∧ (¬ ((up2 S 3 5 (b_X3_signAhead_0 S)) 3 5) = 103 → ((((up2 S 3 5 (b_X3_signAhead_0 S)) 3 5) = 104 → (o_X3_findOrder_180 (up2 (up2 S 3 5 (b_X3_signAhead_0 S)) 3 4 (((up2 S 3 5 (b_X3_signAhead_0 S)) 3 4) + 1)))) ∧ (¬ ((up2 S 3 5 (b_X3_signAhead_0 S)) 3 5) = 104 → ((((up2 S 3 5 (b_X3_signAhead_0 S)) 3 5) = 105 → True) ∧ (¬ ((up2 S 3 5 (b_X3_signAhead_0 S)) 3 5) = 105 → ((((up2 S 3 5 (b_X3_signAhead_0 S)) 3 5) = 106 → True) ∧ (¬ ((up2 S 3 5 (b_X3_signAhead_0 S)) 3 5) = 106 → ((((up2 S 3 5 (b_X3_signAhead_0 S)) 3 5) = 107 → True) ∧ (¬ ((up2 S 3 5 (b_X3_signAhead_0 S)) 3 5) = 107 → ((((up2 S 3 5 (b_X3_signAhead_0 S)) 3 5) = 108 → True) ∧ (¬ ((up2 S 3 5 (b_X3_signAhead_0 S)) 3 5) = 108 → ((((up2 S 3 5 (b_X3_signAhead_0 S)) 3 5) = 109 → True) ∧ (¬ ((up2 S 3 5 (b_X3_signAhead_0 S)) 3 5) = 109 → ((((up2 S 3 5 (b_X3_signAhead_0 S)) 3 5) = 110 → True) ∧ (¬ ((up2 S 3 5 (b_X3_signAhead_0 S)) 3 5) = 110 → ((((up2 S 3 5 (b_X3_signAhead_0 S)) 3 5) = 111 → True) ∧ (¬ ((up2 S 3 5 (b_X3_signAhead_0 S)) 3 5) = 111 → ((((up2 S 3 5 (b_X3_signAhead_0 S)) 3 5) = 112 → True) ∧ (¬ ((up2 S 3 5 (b_X3_signAhead_0 S)) 3 5) = 112 → ((((up2 S 3 5 (b_X3_signAhead_0 S)) 3 5) = 113 → True) ∧ (¬ ((up2 S 3 5 (b_X3_signAhead_0 S)) 3 5) = 113 → ((((up2 S 3 5 (b_X3_signAhead_0 S)) 3 5) = 114 → (o_X3_findOrder_118 (up2 (up2 S 3 5 (b_X3_signAhead_0 S)) 3 4 (((up2 S 3 5 (b_X3_signAhead_0 S)) 3 4) + 1)))) ∧ (¬ ((up2 S 3 5 (b_X3_signAhead_0 S)) 3 5) = 114 → ((((up2 S 3 5 (b_X3_signAhead_0 S)) 3 5) = 115 → True) ∧ (¬ ((up2 S 3 5 (b_X3_signAhead_0 S)) 3 5) = 115 → ((((up2 S 3 5 (b_X3_signAhead_0 S)) 3 5) = 116 → True) ∧ (¬ ((up2 S 3 5 (b_X3_signAhead_0 S)) 3 5) = 116 → ((((up2 S 3 5 (b_X3_signAhead_0 S)) 3 5) = 117 → (o_X3_findOrder_148 (up2 (up2 S 3 5 (b_X3_signAhead_0 S)) 3 4 (((up2 S 3 5 (b_X3_signAhead_0 S)) 3 4) + 1)))) ∧ (¬ ((up2 S 3 5 (b_X3_signAhead_0 S)) 3 5) = 117 → True))))))))))))))))))))))))))))))))))))))))
set_option maxRecDepth 20000 in
theorem t_X3_findOrder_0 (X : Cx p m c cX3_findOrder 1 s args RX3 D q ad) (hr : meth.sig.returnType = some .boolean) (hlocks : meth.locks = false) (S : Sx) (rv : Int32) (S' : Sx) (ho : o_X3_findOrder_0 S) (he : b_X3_findOrder_0 S = (rv, S')) : Jg p l e rm_X3_findOrder s m args below meth c 0 0 (MQ below (Qi D q ad d rv S' s.heap.size) args s 0 0 (AU ad s.heap.size)) D q ad d 1 0 [(0, .ref (ad 3))] [] S := by
  unfold b_X3_findOrder_0 at he
  unfold o_X3_findOrder_0 at ho
  refine j_aload_n X 0 dX3_findOrder_0 rfl ?_
  refine j_aload_n X 0 dX3_findOrder_1 rfl ?_
  have h2 := ho.1
  have ho := ho.2
  refine j_callVi (rest := [.ref (ad 3)]) X (c_X3_signAhead (cx_inj X) S h2) cw_X3_44 kc23.1 (cl_23 kc23) rfl ⟨rfl, rfl, Nat.le_of_ble_eq_true rfl, Nat.le_of_ble_eq_true rfl⟩ rfl rfl (Nat.le_of_ble_eq_true rfl) ⟨Nat.le_of_ble_eq_true rfl, Nat.le_of_ble_eq_true rfl⟩ dX3_findOrder_2 ?_
  refine pf_23_5 X m_fl_X3_48 kc23 dX3_findOrder_5 ?_
  refine j_aload_n X 0 dX3_findOrder_8 rfl ?_
  refine gf_23_5 X m_fl_X3_48 kc23 dX3_findOrder_9 ?_
  by_cases h3 : ((up2 S 3 5 (b_X3_signAhead_0 S)) 3 5) = 98
  · rw [if_pos h3] at he
    have ho := ho.1 h3
    refine j_tableIn X 98 111 123 dX3_findOrder_12 (by rw [h3]; rfl) (by decide) (by decide) rfl (by decide) ?_
    refine j_aload_n X 0 dX3_findOrder_123 rfl ?_
    refine j_dup X dX3_findOrder_124 rfl ?_
    refine gf_23_4 X m_fl_X3_19 kc23 dX3_findOrder_125 ?_
    refine j_iconst (v := 1) X dX3_findOrder_128 (by decide) ?_
    refine j_iadd X dX3_findOrder_129 ?_
    refine pf_23_4 X m_fl_X3_19 kc23 dX3_findOrder_130 ?_
    exact t_X3_findOrder_133 X hr hlocks (up2 (up2 S 3 5 (b_X3_signAhead_0 S)) 3 4 (((up2 S 3 5 (b_X3_signAhead_0 S)) 3 4) + 1)) _ _ ho he
  rw [if_neg h3] at he
  have ho := ho.2 h3
  by_cases h4 : ((up2 S 3 5 (b_X3_signAhead_0 S)) 3 5) = 99
  · rw [if_pos h4] at he
    have ho := ho.1 h4
    refine j_tableIn X 99 126 138 dX3_findOrder_12 (by rw [h4]; rfl) (by decide) (by decide) rfl (by decide) ?_
    refine j_aload_n X 0 dX3_findOrder_138 rfl ?_
    refine j_dup X dX3_findOrder_139 rfl ?_
    refine gf_23_4 X m_fl_X3_19 kc23 dX3_findOrder_140 ?_
    refine j_iconst (v := 1) X dX3_findOrder_143 (by decide) ?_
    refine j_iadd X dX3_findOrder_144 ?_
    refine pf_23_4 X m_fl_X3_19 kc23 dX3_findOrder_145 ?_
    exact t_X3_findOrder_148 X hr hlocks (up2 (up2 S 3 5 (b_X3_signAhead_0 S)) 3 4 (((up2 S 3 5 (b_X3_signAhead_0 S)) 3 4) + 1)) _ _ ho he
  rw [if_neg h4] at he
  have ho := ho.2 h4
  by_cases h5 : ((up2 S 3 5 (b_X3_signAhead_0 S)) 3 5) = 100
  · rw [if_pos h5] at he
    have ho := ho.1 h5
    refine j_tableIn X 100 190 202 dX3_findOrder_12 (by rw [h5]; rfl) (by decide) (by decide) rfl (by decide) ?_
    refine j_iconst (v := 0) X dX3_findOrder_202 (by decide) ?_
    exact j_zret X hr hlocks (bz_narrow bz_0) dX3_findOrder_203 (congrArg Prod.fst he) (congrArg Prod.snd he)
  rw [if_neg h5] at he
  have ho := ho.2 h5
  by_cases h6 : ((up2 S 3 5 (b_X3_signAhead_0 S)) 3 5) = 101
  · rw [if_pos h6] at he
    have ho := ho.1 h6
    refine j_tableIn X 101 158 170 dX3_findOrder_12 (by rw [h6]; rfl) (by decide) (by decide) rfl (by decide) ?_
    refine j_aload_n X 0 dX3_findOrder_170 rfl ?_
    refine j_dup X dX3_findOrder_171 rfl ?_
    refine gf_23_4 X m_fl_X3_19 kc23 dX3_findOrder_172 ?_
    refine j_iconst (v := 1) X dX3_findOrder_175 (by decide) ?_
    refine j_iadd X dX3_findOrder_176 ?_
    refine pf_23_4 X m_fl_X3_19 kc23 dX3_findOrder_177 ?_
    exact t_X3_findOrder_180 X hr hlocks (up2 (up2 S 3 5 (b_X3_signAhead_0 S)) 3 4 (((up2 S 3 5 (b_X3_signAhead_0 S)) 3 4) + 1)) _ _ ho he
  rw [if_neg h6] at he
  have ho := ho.2 h6
  by_cases h7 : ((up2 S 3 5 (b_X3_signAhead_0 S)) 3 5) = 102
  · rw [if_pos h7] at he
    have ho := ho.1 h7
    refine j_tableIn X 102 190 202 dX3_findOrder_12 (by rw [h7]; rfl) (by decide) (by decide) rfl (by decide) ?_
    refine j_iconst (v := 0) X dX3_findOrder_202 (by decide) ?_
    exact j_zret X hr hlocks (bz_narrow bz_0) dX3_findOrder_203 (congrArg Prod.fst he) (congrArg Prod.snd he)
  rw [if_neg h7] at he
  have ho := ho.2 h7
  by_cases h8 : ((up2 S 3 5 (b_X3_signAhead_0 S)) 3 5) = 103
  · rw [if_pos h8] at he
    have ho := ho.1 h8
    refine j_tableIn X 103 190 202 dX3_findOrder_12 (by rw [h8]; rfl) (by decide) (by decide) rfl (by decide) ?_
    refine j_iconst (v := 0) X dX3_findOrder_202 (by decide) ?_
    exact j_zret X hr hlocks (bz_narrow bz_0) dX3_findOrder_203 (congrArg Prod.fst he) (congrArg Prod.snd he)
  rw [if_neg h8] at he
  have ho := ho.2 h8
  by_cases h9 : ((up2 S 3 5 (b_X3_signAhead_0 S)) 3 5) = 104
  · rw [if_pos h9] at he
    have ho := ho.1 h9
    refine j_tableIn X 104 158 170 dX3_findOrder_12 (by rw [h9]; rfl) (by decide) (by decide) rfl (by decide) ?_
    refine j_aload_n X 0 dX3_findOrder_170 rfl ?_
    refine j_dup X dX3_findOrder_171 rfl ?_
    refine gf_23_4 X m_fl_X3_19 kc23 dX3_findOrder_172 ?_
    refine j_iconst (v := 1) X dX3_findOrder_175 (by decide) ?_
    refine j_iadd X dX3_findOrder_176 ?_
    refine pf_23_4 X m_fl_X3_19 kc23 dX3_findOrder_177 ?_
    exact t_X3_findOrder_180 X hr hlocks (up2 (up2 S 3 5 (b_X3_signAhead_0 S)) 3 4 (((up2 S 3 5 (b_X3_signAhead_0 S)) 3 4) + 1)) _ _ ho he
  rw [if_neg h9] at he
  have ho := ho.2 h9
  by_cases h10 : ((up2 S 3 5 (b_X3_signAhead_0 S)) 3 5) = 105
  · rw [if_pos h10] at he
    have ho := ho.1 h10
    refine j_tableIn X 105 190 202 dX3_findOrder_12 (by rw [h10]; rfl) (by decide) (by decide) rfl (by decide) ?_
    refine j_iconst (v := 0) X dX3_findOrder_202 (by decide) ?_
    exact j_zret X hr hlocks (bz_narrow bz_0) dX3_findOrder_203 (congrArg Prod.fst he) (congrArg Prod.snd he)
  rw [if_neg h10] at he
  have ho := ho.2 h10
  by_cases h11 : ((up2 S 3 5 (b_X3_signAhead_0 S)) 3 5) = 106
  · rw [if_pos h11] at he
    have ho := ho.1 h11
    refine j_tableIn X 106 190 202 dX3_findOrder_12 (by rw [h11]; rfl) (by decide) (by decide) rfl (by decide) ?_
    refine j_iconst (v := 0) X dX3_findOrder_202 (by decide) ?_
    exact j_zret X hr hlocks (bz_narrow bz_0) dX3_findOrder_203 (congrArg Prod.fst he) (congrArg Prod.snd he)
  rw [if_neg h11] at he
  have ho := ho.2 h11
  by_cases h12 : ((up2 S 3 5 (b_X3_signAhead_0 S)) 3 5) = 107
  · rw [if_pos h12] at he
    have ho := ho.1 h12
    refine j_tableIn X 107 190 202 dX3_findOrder_12 (by rw [h12]; rfl) (by decide) (by decide) rfl (by decide) ?_
    refine j_iconst (v := 0) X dX3_findOrder_202 (by decide) ?_
    exact j_zret X hr hlocks (bz_narrow bz_0) dX3_findOrder_203 (congrArg Prod.fst he) (congrArg Prod.snd he)
  rw [if_neg h12] at he
  have ho := ho.2 h12
  by_cases h13 : ((up2 S 3 5 (b_X3_signAhead_0 S)) 3 5) = 108
  · rw [if_pos h13] at he
    have ho := ho.1 h13
    refine j_tableIn X 108 190 202 dX3_findOrder_12 (by rw [h13]; rfl) (by decide) (by decide) rfl (by decide) ?_
    refine j_iconst (v := 0) X dX3_findOrder_202 (by decide) ?_
    exact j_zret X hr hlocks (bz_narrow bz_0) dX3_findOrder_203 (congrArg Prod.fst he) (congrArg Prod.snd he)
  rw [if_neg h13] at he
  have ho := ho.2 h13
  by_cases h14 : ((up2 S 3 5 (b_X3_signAhead_0 S)) 3 5) = 109
  · rw [if_pos h14] at he
    have ho := ho.1 h14
    refine j_tableIn X 109 190 202 dX3_findOrder_12 (by rw [h14]; rfl) (by decide) (by decide) rfl (by decide) ?_
    refine j_iconst (v := 0) X dX3_findOrder_202 (by decide) ?_
    exact j_zret X hr hlocks (bz_narrow bz_0) dX3_findOrder_203 (congrArg Prod.fst he) (congrArg Prod.snd he)
  rw [if_neg h14] at he
  have ho := ho.2 h14
  by_cases h15 : ((up2 S 3 5 (b_X3_signAhead_0 S)) 3 5) = 110
  · rw [if_pos h15] at he
    have ho := ho.1 h15
    refine j_tableIn X 110 190 202 dX3_findOrder_12 (by rw [h15]; rfl) (by decide) (by decide) rfl (by decide) ?_
    refine j_iconst (v := 0) X dX3_findOrder_202 (by decide) ?_
    exact j_zret X hr hlocks (bz_narrow bz_0) dX3_findOrder_203 (congrArg Prod.fst he) (congrArg Prod.snd he)
  rw [if_neg h15] at he
  have ho := ho.2 h15
  by_cases h16 : ((up2 S 3 5 (b_X3_signAhead_0 S)) 3 5) = 111
  · rw [if_pos h16] at he
    have ho := ho.1 h16
    refine j_tableIn X 111 190 202 dX3_findOrder_12 (by rw [h16]; rfl) (by decide) (by decide) rfl (by decide) ?_
    refine j_iconst (v := 0) X dX3_findOrder_202 (by decide) ?_
    exact j_zret X hr hlocks (bz_narrow bz_0) dX3_findOrder_203 (congrArg Prod.fst he) (congrArg Prod.snd he)
  rw [if_neg h16] at he
  have ho := ho.2 h16
  by_cases h17 : ((up2 S 3 5 (b_X3_signAhead_0 S)) 3 5) = 112
  · rw [if_pos h17] at he
    have ho := ho.1 h17
    refine j_tableIn X 112 190 202 dX3_findOrder_12 (by rw [h17]; rfl) (by decide) (by decide) rfl (by decide) ?_
    refine j_iconst (v := 0) X dX3_findOrder_202 (by decide) ?_
    exact j_zret X hr hlocks (bz_narrow bz_0) dX3_findOrder_203 (congrArg Prod.fst he) (congrArg Prod.snd he)
  rw [if_neg h17] at he
  have ho := ho.2 h17
  by_cases h18 : ((up2 S 3 5 (b_X3_signAhead_0 S)) 3 5) = 113
  · rw [if_pos h18] at he
    have ho := ho.1 h18
    refine j_tableIn X 113 190 202 dX3_findOrder_12 (by rw [h18]; rfl) (by decide) (by decide) rfl (by decide) ?_
    refine j_iconst (v := 0) X dX3_findOrder_202 (by decide) ?_
    exact j_zret X hr hlocks (bz_narrow bz_0) dX3_findOrder_203 (congrArg Prod.fst he) (congrArg Prod.snd he)
  rw [if_neg h18] at he
  have ho := ho.2 h18
  by_cases h19 : ((up2 S 3 5 (b_X3_signAhead_0 S)) 3 5) = 114
  · rw [if_pos h19] at he
    have ho := ho.1 h19
    refine j_tableIn X 114 96 108 dX3_findOrder_12 (by rw [h19]; rfl) (by decide) (by decide) rfl (by decide) ?_
    refine j_aload_n X 0 dX3_findOrder_108 rfl ?_
    refine j_dup X dX3_findOrder_109 rfl ?_
    refine gf_23_4 X m_fl_X3_19 kc23 dX3_findOrder_110 ?_
    refine j_iconst (v := 1) X dX3_findOrder_113 (by decide) ?_
    refine j_iadd X dX3_findOrder_114 ?_
    refine pf_23_4 X m_fl_X3_19 kc23 dX3_findOrder_115 ?_
    exact t_X3_findOrder_118 X hr hlocks (up2 (up2 S 3 5 (b_X3_signAhead_0 S)) 3 4 (((up2 S 3 5 (b_X3_signAhead_0 S)) 3 4) + 1)) _ _ ho he
  rw [if_neg h19] at he
  have ho := ho.2 h19
  by_cases h20 : ((up2 S 3 5 (b_X3_signAhead_0 S)) 3 5) = 115
  · rw [if_pos h20] at he
    have ho := ho.1 h20
    refine j_tableIn X 115 190 202 dX3_findOrder_12 (by rw [h20]; rfl) (by decide) (by decide) rfl (by decide) ?_
    refine j_iconst (v := 0) X dX3_findOrder_202 (by decide) ?_
    exact j_zret X hr hlocks (bz_narrow bz_0) dX3_findOrder_203 (congrArg Prod.fst he) (congrArg Prod.snd he)
  rw [if_neg h20] at he
  have ho := ho.2 h20
  by_cases h21 : ((up2 S 3 5 (b_X3_signAhead_0 S)) 3 5) = 116
  · rw [if_pos h21] at he
    have ho := ho.1 h21
    refine j_tableIn X 116 190 202 dX3_findOrder_12 (by rw [h21]; rfl) (by decide) (by decide) rfl (by decide) ?_
    refine j_iconst (v := 0) X dX3_findOrder_202 (by decide) ?_
    exact j_zret X hr hlocks (bz_narrow bz_0) dX3_findOrder_203 (congrArg Prod.fst he) (congrArg Prod.snd he)
  rw [if_neg h21] at he
  have ho := ho.2 h21
  by_cases h22 : ((up2 S 3 5 (b_X3_signAhead_0 S)) 3 5) = 117
  · rw [if_pos h22] at he
    have ho := ho.1 h22
    refine j_tableIn X 117 126 138 dX3_findOrder_12 (by rw [h22]; rfl) (by decide) (by decide) rfl (by decide) ?_
    refine j_aload_n X 0 dX3_findOrder_138 rfl ?_
    refine j_dup X dX3_findOrder_139 rfl ?_
    refine gf_23_4 X m_fl_X3_19 kc23 dX3_findOrder_140 ?_
    refine j_iconst (v := 1) X dX3_findOrder_143 (by decide) ?_
    refine j_iadd X dX3_findOrder_144 ?_
    refine pf_23_4 X m_fl_X3_19 kc23 dX3_findOrder_145 ?_
    exact t_X3_findOrder_148 X hr hlocks (up2 (up2 S 3 5 (b_X3_signAhead_0 S)) 3 4 (((up2 S 3 5 (b_X3_signAhead_0 S)) 3 4) + 1)) _ _ ho he
  rw [if_neg h22] at he
  have ho := ho.2 h22
  have e23 := lv_neT (a := 98) h3 rfl
  have e24 := lv_neT (a := 99) h4 rfl
  have e25 := lv_neT (a := 100) h5 rfl
  have e26 := lv_neT (a := 101) h6 rfl
  have e27 := lv_neT (a := 102) h7 rfl
  have e28 := lv_neT (a := 103) h8 rfl
  have e29 := lv_neT (a := 104) h9 rfl
  have e30 := lv_neT (a := 105) h10 rfl
  have e31 := lv_neT (a := 106) h11 rfl
  have e32 := lv_neT (a := 107) h12 rfl
  have e33 := lv_neT (a := 108) h13 rfl
  have e34 := lv_neT (a := 109) h14 rfl
  have e35 := lv_neT (a := 110) h15 rfl
  have e36 := lv_neT (a := 111) h16 rfl
  have e37 := lv_neT (a := 112) h17 rfl
  have e38 := lv_neT (a := 113) h18 rfl
  have e39 := lv_neT (a := 114) h19 rfl
  have e40 := lv_neT (a := 115) h20 rfl
  have e41 := lv_neT (a := 116) h21 rfl
  have e42 := lv_neT (a := 117) h22 rfl
  refine j_tableOut X 202 dX3_findOrder_12 (by omega) (by decide) ?_
  refine j_iconst (v := 0) X dX3_findOrder_202 (by decide) ?_
  exact j_zret X hr hlocks (bz_narrow bz_0) dX3_findOrder_203 (congrArg Prod.fst he) (congrArg Prod.snd he)
theorem c_X3_findOrder {l : Launch} {D : va_G} {q : Nat → ClassId} {ad : Nat → Nat} {d : UInt64} (hI : inj4 ad) (S : Sx) (ho : o_X3_findOrder_0 S) : CI l yX3_findOrder cX3_findOrder 1 .boolean rm_X3_findOrder D q ad d [.ref (ad 3)] S (b_X3_findOrder_0 S).1 (b_X3_findOrder_0 S).2 := ci_of hI (by decide +kernel) (Nat.le_of_ble_eq_true rfl) rfl (fun p e s m args below meth c X hr hlocks => t_X3_findOrder_0 X hr hlocks S _ _ ho (pe _))
end

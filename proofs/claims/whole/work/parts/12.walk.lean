/-! RX0.endVerdict -/
abbrev rm_X0_endVerdict : Room := { frames := 2, cells := 0, slots := 0, locals := 42 }
section
variable {p : Program} {l : Launch} {e : Env} {s : State} {m : MethodId} {args : Array Value} {below : List Frame} {meth : Method} {c : Code} {D : va_G} {q : Nat → ClassId} {ad : Nat → Nat} {d : UInt64}
def b_X0_endVerdict_34 (w0 : Int32) (S : Sx) : Int32 := w0
set_option maxRecDepth 20000 in
theorem t_X0_endVerdict_34 (X : Cx p m c cX0_endVerdict 3 s args RX0 D q ad) (hr : meth.sig.returnType = some .int) (hlocks : meth.locks = false) (w0 : Int32) (S : Sx) (rv : Int32) (he : b_X0_endVerdict_34 w0 S = rv) : Jg p l e rm_X0_endVerdict s m args below meth c 0 0 (MQ below (Qi D q ad d rv S s.heap.size) args s 0 0 (AU ad s.heap.size)) D q ad d 3 34 [] [.int w0] S := by
  unfold b_X0_endVerdict_34 at he
  exact j_iret X hr hlocks dX0_endVerdict_34 he rfl
def b_X0_endVerdict_0 (this : Nat) (x1 : Int32) (S : Sx) : Int32 := if (b_X0_playedVerdict_0 this x1 S) = 0 then if (b_X2_isOver_0 (this + 16 + x1.toNatClampNeg) S) = 0 then b_X0_endVerdict_34 0 S else b_X0_endVerdict_34 (b_X6_refused_0 9 x1 S) S else b_X0_playedVerdict_0 this x1 S
def o_X0_endVerdict_0 (this : Nat) (x1 : Int32) (S : Sx) : Prop := ((b_X0_playedVerdict_0 this x1 S) = 0 → (vp_in x1 12 ∧ (o_X2_isOver_0 (this + 16 + x1.toNatClampNeg) S ∧ True))) ∧ (¬ (b_X0_playedVerdict_0 this x1 S) = 0 → True)
set_option maxRecDepth 20000 in
theorem t_X0_endVerdict_0 (X : Cx p m c cX0_endVerdict 3 s args RX0 D q ad) (hr : meth.sig.returnType = some .int) (hlocks : meth.locks = false) (this : Nat) (hthis : isK 0 this) (x1 : Int32) (S : Sx) (rv : Int32) (ho : o_X0_endVerdict_0 this x1 S) (he : b_X0_endVerdict_0 this x1 S = rv) : Jg p l e rm_X0_endVerdict s m args below meth c 0 0 (MQ below (Qi D q ad d rv S s.heap.size) args s 0 0 (AU ad s.heap.size)) D q ad d 3 0 [(0, .ref (ad this)), (1, .int x1)] [] S := by
  unfold b_X0_endVerdict_0 at he
  unfold o_X0_endVerdict_0 at ho
  refine j_aload_n X 0 dX0_endVerdict_0 rfl ?_
  refine j_iload_n X 1 dX0_endVerdict_1 rfl ?_
  refine j_callVi (rest := []) X (c_X0_playedVerdict (cx_inj X) this hthis x1 S) cw_X0_157 hthis.1 (cl_0 hthis) rfl ⟨rfl, rfl, Nat.le_of_ble_eq_true rfl, Nat.le_of_ble_eq_true rfl⟩ rfl rfl (Nat.le_of_ble_eq_true rfl) ⟨Nat.le_of_ble_eq_true rfl, Nat.le_of_ble_eq_true rfl⟩ dX0_endVerdict_2 ?_
  refine j_istore_n X [(2, .int (b_X0_playedVerdict_0 this x1 S)), (0, .ref (ad this)), (1, .int x1)] dX0_endVerdict_5 (by decide) rfl ?_
  refine j_iload_n X 0 dX0_endVerdict_6 rfl ?_
  refine j_if_eq X 12 dX0_endVerdict_7 (by decide) (fun h2 => ?_) (fun h2 => ?_)
  · rw [if_pos h2] at he
    have ho := ho.1 h2
    refine j_aload_n X 1 dX0_endVerdict_12 rfl ?_
    refine gf_0_11 X m_fl_X0_39 hthis dX0_endVerdict_13 ?_
    refine j_iload_n X 2 dX0_endVerdict_16 rfl ?_
    have h3 := ho.1
    have ho := ho.2
    refine j_aald (a := ad (this + 16 + x1.toNatClampNeg)) X 3 (k0_6 hthis).1 (cl_6 (k0_6 hthis)) rfl h3 rfl dX0_endVerdict_17 ?_
    have hk4 : isK 9 (this + 16 + x1.toNatClampNeg) := k0_9 hthis (vlt h3)
    have h5 := ho.1
    have ho := ho.2
    refine j_callVi (rest := []) X (c_X2_isOver (cx_inj X) (this + 16 + x1.toNatClampNeg) hk4 S h5) cw_X0_84 hk4.1 (cl_9 hk4) rfl ⟨rfl, rfl, Nat.le_of_ble_eq_true rfl, Nat.le_of_ble_eq_true rfl⟩ rfl rfl (Nat.le_of_ble_eq_true rfl) ⟨Nat.le_of_ble_eq_true rfl, Nat.le_of_ble_eq_true rfl⟩ dX0_endVerdict_18 ?_
    refine j_if_eq X 33 dX0_endVerdict_21 (by decide) (fun h6 => ?_) (fun h6 => ?_)
    · rw [if_pos h6] at he
      refine j_iconst (v := 0) X dX0_endVerdict_33 (by decide) ?_
      refine j_lv [] [] rfl ?_
      exact t_X0_endVerdict_34 X hr hlocks 0 S _ he
    · rw [if_neg h6] at he
      refine j_bipush (v := 9) X dX0_endVerdict_24 (by decide) ?_
      refine j_iload_n X 2 dX0_endVerdict_26 rfl ?_
      refine j_callNi (rest := []) X (c_X6_refused (cx_inj X) 9 x1 S) cw_X0_117 ⟨rfl, rfl, Nat.le_of_ble_eq_true rfl, Nat.le_of_ble_eq_true rfl⟩ rfl rfl (Nat.le_of_ble_eq_true rfl) ⟨Nat.le_of_ble_eq_true rfl, Nat.le_of_ble_eq_true rfl⟩ dX0_endVerdict_27 ?_
      refine j_goto X 34 dX0_endVerdict_30 (by decide) ?_
      refine j_lv [] [] rfl ?_
      exact t_X0_endVerdict_34 X hr hlocks (b_X6_refused_0 9 x1 S) S _ he
  · rw [if_neg h2] at he
    have ho := ho.2 h2
    refine j_iload_n X 0 dX0_endVerdict_10 rfl ?_
    exact j_iret X hr hlocks dX0_endVerdict_11 he rfl
theorem c_X0_endVerdict {l : Launch} {D : va_G} {q : Nat → ClassId} {ad : Nat → Nat} {d : UInt64} (hI : inj4 ad) (this : Nat) (hthis : isK 0 this) (x1 : Int32) (S : Sx) (ho : o_X0_endVerdict_0 this x1 S) : CI l yX0_endVerdict cX0_endVerdict 3 .int rm_X0_endVerdict D q ad d [.ref (ad this), .int x1] S (b_X0_endVerdict_0 this x1 S) S := ci_of hI (by decide +kernel) (Nat.le_of_ble_eq_true rfl) rfl (fun p e s m args below meth c X hr hlocks => t_X0_endVerdict_0 X hr hlocks this hthis x1 S _ ho rfl)
end
/-! RX0.bowlVerdict -/
abbrev rm_X0_bowlVerdict : Room := { frames := 3, cells := 0, slots := 0, locals := 68 }
section
variable {p : Program} {l : Launch} {e : Env} {s : State} {m : MethodId} {args : Array Value} {below : List Frame} {meth : Method} {c : Code} {D : va_G} {q : Nat → ClassId} {ad : Nat → Nat} {d : UInt64}
def b_X0_bowlVerdict_74 (w0 : Int32) (S : Sx) : Int32 := w0
set_option maxRecDepth 20000 in
theorem t_X0_bowlVerdict_74 (X : Cx p m c cX0_bowlVerdict 6 s args RX0 D q ad) (hr : meth.sig.returnType = some .int) (hlocks : meth.locks = false) (w0 : Int32) (S : Sx) (rv : Int32) (he : b_X0_bowlVerdict_74 w0 S = rv) : Jg p l e rm_X0_bowlVerdict s m args below meth c 0 0 (MQ below (Qi D q ad d rv S s.heap.size) args s 0 0 (AU ad s.heap.size)) D q ad d 6 74 [] [.int w0] S := by
  unfold b_X0_bowlVerdict_74 at he
  exact j_iret X hr hlocks dX0_bowlVerdict_74 he rfl
def b_X0_bowlVerdict_17 (j0 : Nat) (v1 : Int32) (v2 : Int32) (v3 : Int32) (S : Sx) : Int32 := if v3 = 0 then if v2 ≤ ((S (j0 + 16 + v1.toNatClampNeg) 2) - (S (j0 + 16 + v1.toNatClampNeg) 3)) then b_X0_bowlVerdict_74 (b_X0_callVerdict_0 j0 (S (j0 + 16 + v1.toNatClampNeg) 1) (S (j0 + 16 + v1.toNatClampNeg) 0) S) S else b_X0_bowlVerdict_74 (b_X6_refused_0 10 ((S (j0 + 16 + v1.toNatClampNeg) 2) - (S (j0 + 16 + v1.toNatClampNeg) 3)) S) S else v3
def o_X0_bowlVerdict_17 (j0 : Nat) (v1 : Int32) (v2 : Int32) (v3 : Int32) (S : Sx) : Prop := (v3 = 0 → (vp_in v1 12 ∧ ((v2 ≤ ((S (j0 + 16 + v1.toNatClampNeg) 2) - (S (j0 + 16 + v1.toNatClampNeg) 3)) → (o_X0_callVerdict_0 j0 (S (j0 + 16 + v1.toNatClampNeg) 1) (S (j0 + 16 + v1.toNatClampNeg) 0) S ∧ True)) ∧ (¬ v2 ≤ ((S (j0 + 16 + v1.toNatClampNeg) 2) - (S (j0 + 16 + v1.toNatClampNeg) 3)) → True)))) ∧ (¬ v3 = 0 → True)
set_option maxRecDepth 20000 in
theorem t_X0_bowlVerdict_17 (X : Cx p m c cX0_bowlVerdict 6 s args RX0 D q ad) (hr : meth.sig.returnType = some .int) (hlocks : meth.locks = false) (j0 : Nat) (hj0 : isK 0 j0) (v1 : Int32) (v2 : Int32) (v3 : Int32) (S : Sx) (rv : Int32) (ho : o_X0_bowlVerdict_17 j0 v1 v2 v3 S) (he : b_X0_bowlVerdict_17 j0 v1 v2 v3 S = rv) : Jg p l e rm_X0_bowlVerdict s m args below meth c 0 0 (MQ below (Qi D q ad d rv S s.heap.size) args s 0 0 (AU ad s.heap.size)) D q ad d 6 17 [(0, .ref (ad j0)), (1, .int v1), (2, .int v2), (3, .int v3)] [] S := by
  unfold b_X0_bowlVerdict_17 at he
  unfold o_X0_bowlVerdict_17 at ho
  refine j_iload_n X 3 dX0_bowlVerdict_17 rfl ?_
  refine j_if_eq X 23 dX0_bowlVerdict_18 (by decide) (fun h2 => ?_) (fun h2 => ?_)
  · rw [if_pos h2] at he
    have ho := ho.1 h2
    refine j_aload_n X 0 dX0_bowlVerdict_23 rfl ?_
    refine gf_0_11 X m_fl_X0_39 hj0 dX0_bowlVerdict_24 ?_
    refine j_iload_n X 1 dX0_bowlVerdict_27 rfl ?_
    have h3 := ho.1
    have ho := ho.2
    refine j_aald (a := ad (j0 + 16 + v1.toNatClampNeg)) X 3 (k0_6 hj0).1 (cl_6 (k0_6 hj0)) rfl h3 rfl dX0_bowlVerdict_28 ?_
    have hk4 : isK 9 (j0 + 16 + v1.toNatClampNeg) := k0_9 hj0 (vlt h3)
    refine j_astore X [(4, .ref (ad (j0 + 16 + v1.toNatClampNeg))), (0, .ref (ad j0)), (1, .int v1), (2, .int v2), (3, .int v3)] dX0_bowlVerdict_29 (by decide) rfl ?_
    refine j_aload X 0 dX0_bowlVerdict_31 rfl ?_
    refine gf_9_2 X m_fl_X0_166 hk4 dX0_bowlVerdict_33 ?_
    refine j_aload X 0 dX0_bowlVerdict_36 rfl ?_
    refine gf_9_3 X m_fl_X0_169 hk4 dX0_bowlVerdict_38 ?_
    refine j_isub X dX0_bowlVerdict_41 ?_
    refine j_istore X [(5, .int ((S (j0 + 16 + v1.toNatClampNeg) 2) - (S (j0 + 16 + v1.toNatClampNeg) 3))), (4, .ref (ad (j0 + 16 + v1.toNatClampNeg))), (0, .ref (ad j0)), (1, .int v1), (2, .int v2), (3, .int v3)] dX0_bowlVerdict_42 (by decide) rfl ?_
    refine j_iload X 0 dX0_bowlVerdict_44 rfl ?_
    refine j_iload_n X 4 dX0_bowlVerdict_46 rfl ?_
    refine j_icmp_ge X 60 dX0_bowlVerdict_47 (by decide) (fun h5 => ?_) (fun h5 => ?_)
    · rw [if_pos h5] at he
      have ho := ho.1 h5
      refine j_aload_n X 2 dX0_bowlVerdict_60 rfl ?_
      refine j_aload X 1 dX0_bowlVerdict_61 rfl ?_
      refine gf_9_1 X m_fl_X0_172 hk4 dX0_bowlVerdict_63 ?_
      refine j_aload X 1 dX0_bowlVerdict_66 rfl ?_
      refine gf_9_0 X m_fl_X0_83 hk4 dX0_bowlVerdict_68 ?_
      have h6 := ho.1
      have ho := ho.2
      refine j_callVi (rest := []) X (c_X0_callVerdict (cx_inj X) j0 hj0 (S (j0 + 16 + v1.toNatClampNeg) 1) (S (j0 + 16 + v1.toNatClampNeg) 0) S h6) cw_X0_154 hj0.1 (cl_0 hj0) rfl ⟨rfl, rfl, Nat.le_of_ble_eq_true rfl, Nat.le_of_ble_eq_true rfl⟩ rfl rfl (Nat.le_of_ble_eq_true rfl) ⟨Nat.le_of_ble_eq_true rfl, Nat.le_of_ble_eq_true rfl⟩ dX0_bowlVerdict_71 ?_
      refine j_lv [] [] rfl ?_
      exact t_X0_bowlVerdict_74 X hr hlocks (b_X0_callVerdict_0 j0 (S (j0 + 16 + v1.toNatClampNeg) 1) (S (j0 + 16 + v1.toNatClampNeg) 0) S) S _ he
    · rw [if_neg h5] at he
      have ho := ho.2 h5
      refine j_bipush (v := 10) X dX0_bowlVerdict_50 (by decide) ?_
      refine j_iload X 0 dX0_bowlVerdict_52 rfl ?_
      refine j_callNi (rest := []) X (c_X6_refused (cx_inj X) 10 ((S (j0 + 16 + v1.toNatClampNeg) 2) - (S (j0 + 16 + v1.toNatClampNeg) 3)) S) cw_X0_117 ⟨rfl, rfl, Nat.le_of_ble_eq_true rfl, Nat.le_of_ble_eq_true rfl⟩ rfl rfl (Nat.le_of_ble_eq_true rfl) ⟨Nat.le_of_ble_eq_true rfl, Nat.le_of_ble_eq_true rfl⟩ dX0_bowlVerdict_54 ?_
      refine j_goto X 74 dX0_bowlVerdict_57 (by decide) ?_
      refine j_lv [] [] rfl ?_
      exact t_X0_bowlVerdict_74 X hr hlocks (b_X6_refused_0 10 ((S (j0 + 16 + v1.toNatClampNeg) 2) - (S (j0 + 16 + v1.toNatClampNeg) 3)) S) S _ he
  · rw [if_neg h2] at he
    have ho := ho.2 h2
    refine j_iload_n X 3 dX0_bowlVerdict_21 rfl ?_
    exact j_iret X hr hlocks dX0_bowlVerdict_22 he rfl
def b_X0_bowlVerdict_0 (this : Nat) (x1 : Int32) (x2 : Int32) (S : Sx) : Int32 := if (b_X0_ballsVerdict_0 this x1 x2 S) = 0 then b_X0_bowlVerdict_17 this x1 x2 (b_X0_endVerdict_0 this x1 S) S else b_X0_bowlVerdict_17 this x1 x2 (b_X0_ballsVerdict_0 this x1 x2 S) S
def o_X0_bowlVerdict_0 (this : Nat) (x1 : Int32) (x2 : Int32) (S : Sx) : Prop := ((b_X0_ballsVerdict_0 this x1 x2 S) = 0 → (o_X0_endVerdict_0 this x1 S ∧ (o_X0_bowlVerdict_17 this x1 x2 (b_X0_endVerdict_0 this x1 S) S))) ∧ (¬ (b_X0_ballsVerdict_0 this x1 x2 S) = 0 → (o_X0_bowlVerdict_17 this x1 x2 (b_X0_ballsVerdict_0 this x1 x2 S) S))
set_option maxRecDepth 20000 in
theorem t_X0_bowlVerdict_0 (X : Cx p m c cX0_bowlVerdict 6 s args RX0 D q ad) (hr : meth.sig.returnType = some .int) (hlocks : meth.locks = false) (this : Nat) (hthis : isK 0 this) (x1 : Int32) (x2 : Int32) (S : Sx) (rv : Int32) (ho : o_X0_bowlVerdict_0 this x1 x2 S) (he : b_X0_bowlVerdict_0 this x1 x2 S = rv) : Jg p l e rm_X0_bowlVerdict s m args below meth c 0 0 (MQ below (Qi D q ad d rv S s.heap.size) args s 0 0 (AU ad s.heap.size)) D q ad d 6 0 [(0, .ref (ad this)), (1, .int x1), (2, .int x2)] [] S := by
  unfold b_X0_bowlVerdict_0 at he
  unfold o_X0_bowlVerdict_0 at ho
  refine j_aload_n X 0 dX0_bowlVerdict_0 rfl ?_
  refine j_iload_n X 1 dX0_bowlVerdict_1 rfl ?_
  refine j_iload_n X 2 dX0_bowlVerdict_2 rfl ?_
  refine j_callVi (rest := []) X (c_X0_ballsVerdict (cx_inj X) this hthis x1 x2 S) cw_X0_160 hthis.1 (cl_0 hthis) rfl ⟨rfl, rfl, Nat.le_of_ble_eq_true rfl, Nat.le_of_ble_eq_true rfl⟩ rfl rfl (Nat.le_of_ble_eq_true rfl) ⟨Nat.le_of_ble_eq_true rfl, Nat.le_of_ble_eq_true rfl⟩ dX0_bowlVerdict_3 ?_
  refine j_istore_n X [(3, .int (b_X0_ballsVerdict_0 this x1 x2 S)), (0, .ref (ad this)), (1, .int x1), (2, .int x2)] dX0_bowlVerdict_6 (by decide) rfl ?_
  refine j_iload_n X 0 dX0_bowlVerdict_7 rfl ?_
  refine j_if_ne X 17 dX0_bowlVerdict_8 (by decide) (fun h2 => ?_) (fun h2 => ?_)
  · rw [if_neg h2] at he
    have ho := ho.2 h2
    refine j_lv [1, 2, 3, 0] [(0, .ref (ad this)), (1, .int x1), (2, .int x2), (3, .int (b_X0_ballsVerdict_0 this x1 x2 S))] rfl ?_
    exact t_X0_bowlVerdict_17 X hr hlocks this hthis x1 x2 (b_X0_ballsVerdict_0 this x1 x2 S) S _ ho he
  · rw [if_pos h2] at he
    have ho := ho.1 h2
    refine j_aload_n X 1 dX0_bowlVerdict_11 rfl ?_
    refine j_iload_n X 2 dX0_bowlVerdict_12 rfl ?_
    have h3 := ho.1
    have ho := ho.2
    refine j_callVi (rest := []) X (c_X0_endVerdict (cx_inj X) this hthis x1 S h3) cw_X0_163 hthis.1 (cl_0 hthis) rfl ⟨rfl, rfl, Nat.le_of_ble_eq_true rfl, Nat.le_of_ble_eq_true rfl⟩ rfl rfl (Nat.le_of_ble_eq_true rfl) ⟨Nat.le_of_ble_eq_true rfl, Nat.le_of_ble_eq_true rfl⟩ dX0_bowlVerdict_13 ?_
    refine j_istore_n X [(3, .int (b_X0_endVerdict_0 this x1 S)), (0, .ref (ad this)), (1, .int x1), (2, .int x2)] dX0_bowlVerdict_16 (by decide) rfl ?_
    refine j_lv [1, 2, 3, 0] [(0, .ref (ad this)), (1, .int x1), (2, .int x2), (3, .int (b_X0_endVerdict_0 this x1 S))] rfl ?_
    exact t_X0_bowlVerdict_17 X hr hlocks this hthis x1 x2 (b_X0_endVerdict_0 this x1 S) S _ ho he
theorem c_X0_bowlVerdict {l : Launch} {D : va_G} {q : Nat → ClassId} {ad : Nat → Nat} {d : UInt64} (hI : inj4 ad) (this : Nat) (hthis : isK 0 this) (x1 : Int32) (x2 : Int32) (S : Sx) (ho : o_X0_bowlVerdict_0 this x1 x2 S) : CI l yX0_bowlVerdict cX0_bowlVerdict 6 .int rm_X0_bowlVerdict D q ad d [.ref (ad this), .int x1, .int x2] S (b_X0_bowlVerdict_0 this x1 x2 S) S := ci_of hI (by decide +kernel) (Nat.le_of_ble_eq_true rfl) rfl (fun p e s m args below meth c X hr hlocks => t_X0_bowlVerdict_0 X hr hlocks this hthis x1 x2 S _ ho rfl)
end
/-! RX0.beginRolling -/
abbrev rm_X0_beginRolling : Room := { frames := 0, cells := 0, slots := 0, locals := 0 }
section
variable {p : Program} {l : Launch} {e : Env} {s : State} {m : MethodId} {args : Array Value} {below : List Frame} {meth : Method} {c : Code} {D : va_G} {q : Nat → ClassId} {ad : Nat → Nat} {d : UInt64}
def b_X0_beginRolling_10 (j0 : Nat) (v1 : Int32) (v3 : Int32) (S : Sx) : Sx := up2 S (j0 + 11 + v1.toNatClampNeg) 3 v3
def o_X0_beginRolling_10 (j0 : Nat) (v1 : Int32) (v3 : Int32) (S : Sx) : Prop := vp_in v1 5 ∧ True
set_option maxRecDepth 20000 in
theorem t_X0_beginRolling_10 (X : Cx p m c cX0_beginRolling 4 s args RX0 D q ad) (hr : meth.sig.returnType = none) (hlocks : meth.locks = false) (j0 : Nat) (hj0 : isK 0 j0) (v1 : Int32) (v3 : Int32) (S : Sx) (S' : Sx) (ho : o_X0_beginRolling_10 j0 v1 v3 S) (he : b_X0_beginRolling_10 j0 v1 v3 S = S') : Jg p l e rm_X0_beginRolling s m args below meth c 0 0 (MQ below (Qv D q ad d S' s.heap.size) args s 0 0 (AU ad s.heap.size)) D q ad d 4 10 [(0, .ref (ad j0)), (1, .int v1), (3, .int v3)] [] S := by
  unfold b_X0_beginRolling_10 at he
  unfold o_X0_beginRolling_10 at ho
  refine j_aload_n X 0 dX0_beginRolling_10 rfl ?_
  refine gf_0_7 X m_fl_X0_30 hj0 dX0_beginRolling_11 ?_
  refine j_iload_n X 1 dX0_beginRolling_14 rfl ?_
  have h2 := ho.1
  have ho := ho.2
  refine j_aald (a := ad (j0 + 11 + v1.toNatClampNeg)) X 2 (k0_5 hj0).1 (cl_5 (k0_5 hj0)) rfl h2 rfl dX0_beginRolling_15 ?_
  have hk3 : isK 8 (j0 + 11 + v1.toNatClampNeg) := k0_8 hj0 (vlt h2)
  refine j_iload_n X 2 dX0_beginRolling_16 rfl ?_
  refine pf_8_3 X m_fl_X0_77 hk3 dX0_beginRolling_17 ?_
  exact j_vret X hr hlocks dX0_beginRolling_20 he
def b_X0_beginRolling_0 (this : Nat) (x1 : Int32) (x2 : Int32) (x3 : Int32) (S : Sx) : Sx := b_X0_beginRolling_10 this x1 x3 (up2 S (this + 11 + x1.toNatClampNeg) 4 x2)
def o_X0_beginRolling_0 (this : Nat) (x1 : Int32) (x2 : Int32) (x3 : Int32) (S : Sx) : Prop := vp_in x1 5 ∧ (o_X0_beginRolling_10 this x1 x3 (up2 S (this + 11 + x1.toNatClampNeg) 4 x2))
set_option maxRecDepth 20000 in
theorem t_X0_beginRolling_0 (X : Cx p m c cX0_beginRolling 4 s args RX0 D q ad) (hr : meth.sig.returnType = none) (hlocks : meth.locks = false) (this : Nat) (hthis : isK 0 this) (x1 : Int32) (x2 : Int32) (x3 : Int32) (S : Sx) (S' : Sx) (ho : o_X0_beginRolling_0 this x1 x2 x3 S) (he : b_X0_beginRolling_0 this x1 x2 x3 S = S') : Jg p l e rm_X0_beginRolling s m args below meth c 0 0 (MQ below (Qv D q ad d S' s.heap.size) args s 0 0 (AU ad s.heap.size)) D q ad d 4 0 [(0, .ref (ad this)), (1, .int x1), (2, .int x2), (3, .int x3)] [] S := by
  unfold b_X0_beginRolling_0 at he
  unfold o_X0_beginRolling_0 at ho
  refine j_aload_n X 0 dX0_beginRolling_0 rfl ?_
  refine gf_0_7 X m_fl_X0_30 hthis dX0_beginRolling_1 ?_
  refine j_iload_n X 1 dX0_beginRolling_4 rfl ?_
  have h2 := ho.1
  have ho := ho.2
  refine j_aald (a := ad (this + 11 + x1.toNatClampNeg)) X 2 (k0_5 hthis).1 (cl_5 (k0_5 hthis)) rfl h2 rfl dX0_beginRolling_5 ?_
  have hk3 : isK 8 (this + 11 + x1.toNatClampNeg) := k0_8 hthis (vlt h2)
  refine j_iload_n X 2 dX0_beginRolling_6 rfl ?_
  refine pf_8_4 X m_fl_X0_80 hk3 dX0_beginRolling_7 ?_
  refine j_lv [0, 1, 3] [(0, .ref (ad this)), (1, .int x1), (3, .int x3)] rfl ?_
  exact t_X0_beginRolling_10 X hr hlocks this hthis x1 x3 (up2 S (this + 11 + x1.toNatClampNeg) 4 x2) _ ho he
theorem c_X0_beginRolling {l : Launch} {D : va_G} {q : Nat → ClassId} {ad : Nat → Nat} {d : UInt64} (hI : inj4 ad) (this : Nat) (hthis : isK 0 this) (x1 : Int32) (x2 : Int32) (x3 : Int32) (S : Sx) (ho : o_X0_beginRolling_0 this x1 x2 x3 S) : CV l yX0_beginRolling cX0_beginRolling 4 rm_X0_beginRolling D q ad d [.ref (ad this), .int x1, .int x2, .int x3] S (b_X0_beginRolling_0 this x1 x2 x3 S) := cv_of hI (by decide +kernel) (Nat.le_of_ble_eq_true rfl) rfl (fun p e s m args below meth c X hr hlocks => t_X0_beginRolling_0 X hr hlocks this hthis x1 x2 x3 S _ ho rfl)
end
/-! RX6.less -/
abbrev rm_X6_less : Room := { frames := 0, cells := 0, slots := 0, locals := 0 }
section
variable {p : Program} {l : Launch} {e : Env} {s : State} {m : MethodId} {args : Array Value} {below : List Frame} {meth : Method} {c : Code} {D : va_G} {q : Nat → ClassId} {ad : Nat → Nat} {d : UInt64}
def b_X6_less_12 (w0 : Int32) (S : Sx) : Int32 := w0
set_option maxRecDepth 20000 in
theorem t_X6_less_12 (X : Cx p m c cX6_less 2 s args RX6 D q ad) (hr : meth.sig.returnType = some .int) (hlocks : meth.locks = false) (w0 : Int32) (S : Sx) (rv : Int32) (he : b_X6_less_12 w0 S = rv) : Jg p l e rm_X6_less s m args below meth c 0 0 (MQ below (Qi D q ad d rv S s.heap.size) args s 0 0 (AU ad s.heap.size)) D q ad d 2 12 [] [.int w0] S := by
  unfold b_X6_less_12 at he
  exact j_iret X hr hlocks dX6_less_12 he rfl
def b_X6_less_0 (x0 : Int32) (x1 : Int32) (S : Sx) : Int32 := if x0 ≤ x1 then b_X6_less_12 0 S else b_X6_less_12 (x0 - x1) S
set_option maxRecDepth 20000 in
theorem t_X6_less_0 (X : Cx p m c cX6_less 2 s args RX6 D q ad) (hr : meth.sig.returnType = some .int) (hlocks : meth.locks = false) (x0 : Int32) (x1 : Int32) (S : Sx) (rv : Int32) (he : b_X6_less_0 x0 x1 S = rv) : Jg p l e rm_X6_less s m args below meth c 0 0 (MQ below (Qi D q ad d rv S s.heap.size) args s 0 0 (AU ad s.heap.size)) D q ad d 2 0 [(0, .int x0), (1, .int x1)] [] S := by
  unfold b_X6_less_0 at he
  refine j_iload_n X 0 dX6_less_0 rfl ?_
  refine j_iload_n X 1 dX6_less_1 rfl ?_
  refine j_icmp_le X 11 dX6_less_2 (by decide) (fun h2 => ?_) (fun h2 => ?_)
  · rw [if_pos h2] at he
    refine j_iconst (v := 0) X dX6_less_11 (by decide) ?_
    refine j_lv [] [] rfl ?_
    exact t_X6_less_12 X hr hlocks 0 S _ he
  · rw [if_neg h2] at he
    refine j_iload_n X 0 dX6_less_5 rfl ?_
    refine j_iload_n X 1 dX6_less_6 rfl ?_
    refine j_isub X dX6_less_7 ?_
    refine j_goto X 12 dX6_less_8 (by decide) ?_
    refine j_lv [] [] rfl ?_
    exact t_X6_less_12 X hr hlocks (x0 - x1) S _ he
theorem c_X6_less {l : Launch} {D : va_G} {q : Nat → ClassId} {ad : Nat → Nat} {d : UInt64} (hI : inj4 ad) (x0 : Int32) (x1 : Int32) (S : Sx) : CI l yX6_less cX6_less 2 .int rm_X6_less D q ad d [.int x0, .int x1] S (b_X6_less_0 x0 x1 S) S := ci_of hI (by decide +kernel) (Nat.le_of_ble_eq_true rfl) rfl (fun p e s m args below meth c X hr hlocks => t_X6_less_0 X hr hlocks x0 x1 S _ rfl)
end
/-! RX2.bowlOne -/
abbrev rm_X2_bowlOne : Room := { frames := 1, cells := 0, slots := 0, locals := 22 }
section
variable {p : Program} {l : Launch} {e : Env} {s : State} {m : MethodId} {args : Array Value} {below : List Frame} {meth : Method} {c : Code} {D : va_G} {q : Nat → ClassId} {ad : Nat → Nat} {d : UInt64}
def b_X2_bowlOne_83 (j0 : Nat) (j1 : Nat) (S : Sx) : Sx := up2 (up2 S j0 3 ((S j0 3) + 1)) j1 4 (((up2 S j0 3 ((S j0 3) + 1)) j1 4) + 1)
set_option maxRecDepth 20000 in
theorem t_X2_bowlOne_83 (X : Cx p m c cX2_bowlOne 3 s args RX2 D q ad) (hr : meth.sig.returnType = none) (hlocks : meth.locks = false) (j0 : Nat) (hj0 : isK 9 j0) (j1 : Nat) (hj1 : isK 7 j1) (S : Sx) (S' : Sx) (he : b_X2_bowlOne_83 j0 j1 S = S') : Jg p l e rm_X2_bowlOne s m args below meth c 0 0 (MQ below (Qv D q ad d S' s.heap.size) args s 0 0 (AU ad s.heap.size)) D q ad d 3 83 [(0, .ref (ad j0)), (1, .ref (ad j1))] [] S := by
  unfold b_X2_bowlOne_83 at he
  refine j_aload_n X 0 dX2_bowlOne_83 rfl ?_
  refine j_dup X dX2_bowlOne_84 rfl ?_
  refine gf_9_3 X m_fl_X2_25 hj0 dX2_bowlOne_85 ?_
  refine j_iconst (v := 1) X dX2_bowlOne_88 (by decide) ?_
  refine j_iadd X dX2_bowlOne_89 ?_
  refine pf_9_3 X m_fl_X2_25 hj0 dX2_bowlOne_90 ?_
  refine j_aload_n X 1 dX2_bowlOne_93 rfl ?_
  refine j_dup X dX2_bowlOne_94 rfl ?_
  refine gf_7_4 X m_fl_X2_61 hj1 dX2_bowlOne_95 ?_
  refine j_iconst (v := 1) X dX2_bowlOne_98 (by decide) ?_
  refine j_iadd X dX2_bowlOne_99 ?_
  refine pf_7_4 X m_fl_X2_61 hj1 dX2_bowlOne_100 ?_
  exact j_vret X hr hlocks dX2_bowlOne_103 he
def b_X2_bowlOne_60 (j0 : Nat) (j1 : Nat) (S : Sx) : Sx := if (i_rem (S j0 3) 6) = 5 then b_X2_bowlOne_83 j0 j1 (up2 S j1 1 (b_X6_less_0 (S j1 1) 1 S)) else b_X2_bowlOne_83 j0 j1 S
set_option maxRecDepth 20000 in
theorem t_X2_bowlOne_60 (X : Cx p m c cX2_bowlOne 3 s args RX2 D q ad) (hr : meth.sig.returnType = none) (hlocks : meth.locks = false) (j0 : Nat) (hj0 : isK 9 j0) (j1 : Nat) (hj1 : isK 7 j1) (S : Sx) (S' : Sx) (he : b_X2_bowlOne_60 j0 j1 S = S') : Jg p l e rm_X2_bowlOne s m args below meth c 0 0 (MQ below (Qv D q ad d S' s.heap.size) args s 0 0 (AU ad s.heap.size)) D q ad d 3 60 [(0, .ref (ad j0)), (1, .ref (ad j1))] [] S := by
  unfold b_X2_bowlOne_60 at he
  refine j_aload_n X 0 dX2_bowlOne_60 rfl ?_
  refine gf_9_3 X m_fl_X2_25 hj0 dX2_bowlOne_61 ?_
  refine j_bipush (v := 6) X dX2_bowlOne_64 (by decide) ?_
  refine j_irem X dX2_bowlOne_66 (by decide) ?_
  refine j_iconst (v := 5) X dX2_bowlOne_67 (by decide) ?_
  refine j_icmp_ne X 83 dX2_bowlOne_68 (by decide) (fun h2 => ?_) (fun h2 => ?_)
  · rw [if_neg h2] at he
    exact t_X2_bowlOne_83 X hr hlocks j0 hj0 j1 hj1 S _ he
  · rw [if_pos h2] at he
    refine j_aload_n X 1 dX2_bowlOne_71 rfl ?_
    refine j_aload_n X 1 dX2_bowlOne_72 rfl ?_
    refine gf_7_1 X m_fl_X2_44 hj1 dX2_bowlOne_73 ?_
    refine j_iconst (v := 1) X dX2_bowlOne_76 (by decide) ?_
    refine j_callNi (rest := [.ref (ad j1)]) X (c_X6_less (cx_inj X) (S j1 1) 1 S) cw_X2_58 ⟨rfl, rfl, Nat.le_of_ble_eq_true rfl, Nat.le_of_ble_eq_true rfl⟩ rfl rfl (Nat.le_of_ble_eq_true rfl) ⟨Nat.le_of_ble_eq_true rfl, Nat.le_of_ble_eq_true rfl⟩ dX2_bowlOne_77 ?_
    refine pf_7_1 X m_fl_X2_44 hj1 dX2_bowlOne_80 ?_
    exact t_X2_bowlOne_83 X hr hlocks j0 hj0 j1 hj1 (up2 S j1 1 (b_X6_less_0 (S j1 1) 1 S)) _ he
def b_X2_bowlOne_32 (j0 : Nat) (j1 : Nat) (v2 : Int32) (S : Sx) : Sx := if v2 = 5 then b_X2_bowlOne_60 j0 j1 (up2 S j0 5 ((S j0 5) + 1)) else b_X2_bowlOne_60 j0 j1 (up2 S j0 4 ((S j0 4) + v2))
set_option maxRecDepth 20000 in
theorem t_X2_bowlOne_32 (X : Cx p m c cX2_bowlOne 3 s args RX2 D q ad) (hr : meth.sig.returnType = none) (hlocks : meth.locks = false) (j0 : Nat) (hj0 : isK 9 j0) (j1 : Nat) (hj1 : isK 7 j1) (v2 : Int32) (S : Sx) (S' : Sx) (he : b_X2_bowlOne_32 j0 j1 v2 S = S') : Jg p l e rm_X2_bowlOne s m args below meth c 0 0 (MQ below (Qv D q ad d S' s.heap.size) args s 0 0 (AU ad s.heap.size)) D q ad d 3 32 [(0, .ref (ad j0)), (1, .ref (ad j1)), (2, .int v2)] [] S := by
  unfold b_X2_bowlOne_32 at he
  refine j_iload_n X 2 dX2_bowlOne_32 rfl ?_
  refine j_iconst (v := 5) X dX2_bowlOne_33 (by decide) ?_
  refine j_icmp_ne X 50 dX2_bowlOne_34 (by decide) (fun h2 => ?_) (fun h2 => ?_)
  · rw [if_neg h2] at he
    refine j_aload_n X 0 dX2_bowlOne_50 rfl ?_
    refine j_dup X dX2_bowlOne_51 rfl ?_
    refine gf_9_4 X m_fl_X2_28 hj0 dX2_bowlOne_52 ?_
    refine j_iload_n X 2 dX2_bowlOne_55 rfl ?_
    refine j_iadd X dX2_bowlOne_56 ?_
    refine pf_9_4 X m_fl_X2_28 hj0 dX2_bowlOne_57 ?_
    refine j_lv [0, 1] [(0, .ref (ad j0)), (1, .ref (ad j1))] rfl ?_
    exact t_X2_bowlOne_60 X hr hlocks j0 hj0 j1 hj1 (up2 S j0 4 ((S j0 4) + v2)) _ he
  · rw [if_pos h2] at he
    refine j_aload_n X 0 dX2_bowlOne_37 rfl ?_
    refine j_dup X dX2_bowlOne_38 rfl ?_
    refine gf_9_5 X m_fl_X2_31 hj0 dX2_bowlOne_39 ?_
    refine j_iconst (v := 1) X dX2_bowlOne_42 (by decide) ?_
    refine j_iadd X dX2_bowlOne_43 ?_
    refine pf_9_5 X m_fl_X2_31 hj0 dX2_bowlOne_44 ?_
    refine j_goto X 60 dX2_bowlOne_47 (by decide) ?_
    refine j_lv [0, 1] [(0, .ref (ad j0)), (1, .ref (ad j1))] rfl ?_
    exact t_X2_bowlOne_60 X hr hlocks j0 hj0 j1 hj1 (up2 S j0 5 ((S j0 5) + 1)) _ he
def b_X2_bowlOne_0 (this : Nat) (r1 : Nat) (S : Sx) : Sx := b_X2_bowlOne_32 this r1 (b_J9_floorMod_7cf53_0 (((S r1 1) + (3 * (S this 3))) + (S r1 2)) 7 S) (up2 S (this + 12) ((b_J9_floorMod_7cf53_0 (((S r1 1) + (3 * (S this 3))) + (S r1 2)) 7 S).toNatClampNeg) ((S (this + 12) ((b_J9_floorMod_7cf53_0 (((S r1 1) + (3 * (S this 3))) + (S r1 2)) 7 S).toNatClampNeg)) + 1))
def o_X2_bowlOne_0 (this : Nat) (r1 : Nat) (S : Sx) : Prop := o_J9_floorMod_7cf53_0 (((S r1 1) + (3 * (S this 3))) + (S r1 2)) 7 S ∧ (vp_in (b_J9_floorMod_7cf53_0 (((S r1 1) + (3 * (S this 3))) + (S r1 2)) 7 S) 7 ∧ (vp_in (b_J9_floorMod_7cf53_0 (((S r1 1) + (3 * (S this 3))) + (S r1 2)) 7 S) 7 ∧ True))
set_option maxRecDepth 20000 in
theorem t_X2_bowlOne_0 (X : Cx p m c cX2_bowlOne 3 s args RX2 D q ad) (hr : meth.sig.returnType = none) (hlocks : meth.locks = false) (this : Nat) (hthis : isK 9 this) (r1 : Nat) (hr1 : isK 7 r1) (S : Sx) (S' : Sx) (ho : o_X2_bowlOne_0 this r1 S) (he : b_X2_bowlOne_0 this r1 S = S') : Jg p l e rm_X2_bowlOne s m args below meth c 0 0 (MQ below (Qv D q ad d S' s.heap.size) args s 0 0 (AU ad s.heap.size)) D q ad d 3 0 [(0, .ref (ad this)), (1, .ref (ad r1))] [] S := by
  unfold b_X2_bowlOne_0 at he
  unfold o_X2_bowlOne_0 at ho
  refine j_aload_n X 1 dX2_bowlOne_0 rfl ?_
  refine gf_7_1 X m_fl_X2_44 hr1 dX2_bowlOne_1 ?_
  refine j_iconst (v := 3) X dX2_bowlOne_4 (by decide) ?_
  refine j_aload_n X 0 dX2_bowlOne_5 rfl ?_
  refine gf_9_3 X m_fl_X2_25 hthis dX2_bowlOne_6 ?_
  refine j_imul X dX2_bowlOne_9 ?_
  refine j_iadd X dX2_bowlOne_10 ?_
  refine j_aload_n X 1 dX2_bowlOne_11 rfl ?_
  refine gf_7_2 X m_fl_X2_49 hr1 dX2_bowlOne_12 ?_
  refine j_iadd X dX2_bowlOne_15 ?_
  refine j_bipush (v := 7) X dX2_bowlOne_16 (by decide) ?_
  have h2 := ho.1
  have ho := ho.2
  refine j_callTi (rest := []) X (c_J9_floorMod_7cf53 (cx_inj X) (((S r1 1) + (3 * (S this 3))) + (S r1 2)) 7 S h2) cw_X2_52 ⟨rfl, rfl, Nat.le_of_ble_eq_true rfl, Nat.le_of_ble_eq_true rfl⟩ rfl rfl (Nat.le_of_ble_eq_true rfl) ⟨Nat.le_of_ble_eq_true rfl, Nat.le_of_ble_eq_true rfl⟩ dX2_bowlOne_18 ?_
  refine j_istore_n X [(2, .int (b_J9_floorMod_7cf53_0 (((S r1 1) + (3 * (S this 3))) + (S r1 2)) 7 S)), (0, .ref (ad this)), (1, .ref (ad r1))] dX2_bowlOne_21 (by decide) rfl ?_
  refine j_aload_n X 1 dX2_bowlOne_22 rfl ?_
  refine gf_9_7 X m_fl_X2_9 hthis dX2_bowlOne_23 ?_
  refine j_iload_n X 0 dX2_bowlOne_26 rfl ?_
  refine j_dup2 X dX2_bowlOne_27 rfl rfl ?_
  have h3 := ho.1
  have ho := ho.2
  refine j_iald X (k9_10 hthis).1 (cl_10 (k9_10 hthis)) h3 dX2_bowlOne_28 ?_
  refine j_iconst (v := 1) X dX2_bowlOne_29 (by decide) ?_
  refine j_iadd X dX2_bowlOne_30 ?_
  have h4 := ho.1
  have ho := ho.2
  refine j_iast X (k9_10 hthis).1 (fun T => cl_10 (k9_10 hthis)) h4 dX2_bowlOne_31 ?_
  refine j_lv [1, 2, 0] [(0, .ref (ad this)), (1, .ref (ad r1)), (2, .int (b_J9_floorMod_7cf53_0 (((S r1 1) + (3 * (S this 3))) + (S r1 2)) 7 S))] rfl ?_
  exact t_X2_bowlOne_32 X hr hlocks this hthis r1 hr1 (b_J9_floorMod_7cf53_0 (((S r1 1) + (3 * (S this 3))) + (S r1 2)) 7 S) (up2 S (this + 12) ((b_J9_floorMod_7cf53_0 (((S r1 1) + (3 * (S this 3))) + (S r1 2)) 7 S).toNatClampNeg) ((S (this + 12) ((b_J9_floorMod_7cf53_0 (((S r1 1) + (3 * (S this 3))) + (S r1 2)) 7 S).toNatClampNeg)) + 1)) _ he
theorem c_X2_bowlOne {l : Launch} {D : va_G} {q : Nat → ClassId} {ad : Nat → Nat} {d : UInt64} (hI : inj4 ad) (this : Nat) (hthis : isK 9 this) (r1 : Nat) (hr1 : isK 7 r1) (S : Sx) (ho : o_X2_bowlOne_0 this r1 S) : CV l yX2_bowlOne cX2_bowlOne 3 rm_X2_bowlOne D q ad d [.ref (ad this), .ref (ad r1)] S (b_X2_bowlOne_0 this r1 S) := cv_of hI (by decide +kernel) (Nat.le_of_ble_eq_true rfl) rfl (fun p e s m args below meth c X hr hlocks => t_X2_bowlOne_0 X hr hlocks this hthis r1 hr1 S _ ho rfl)
end
/-! RX0.bowlBalls -/
abbrev rm_X0_bowlBalls : Room := { frames := 2, cells := 0, slots := 0, locals := 44 }
section
variable {p : Program} {l : Launch} {e : Env} {s : State} {m : MethodId} {args : Array Value} {below : List Frame} {meth : Method} {c : Code} {D : va_G} {q : Nat → ClassId} {ad : Nat → Nat} {d : UInt64}
def b_X0_bowlBalls_48 (j3 : Nat) (v4 : Int32) (S : Sx) : Int32 × Sx := ((S j3 4) - v4, S)
set_option maxRecDepth 20000 in
theorem t_X0_bowlBalls_48 (X : Cx p m c cX0_bowlBalls 6 s args RX0 D q ad) (hr : meth.sig.returnType = some .int) (hlocks : meth.locks = false) (j3 : Nat) (hj3 : isK 9 j3) (v4 : Int32) (S : Sx) (rv : Int32) (S' : Sx) (he : b_X0_bowlBalls_48 j3 v4 S = (rv, S')) : Jg p l e rm_X0_bowlBalls s m args below meth c 0 0 (MQ below (Qi D q ad d rv S' s.heap.size) args s 0 0 (AU ad s.heap.size)) D q ad d 6 48 [(3, .ref (ad j3)), (4, .int v4)] [] S := by
  unfold b_X0_bowlBalls_48 at he
  refine j_aload_n X 0 dX0_bowlBalls_48 rfl ?_
  refine gf_9_4 X m_fl_X0_175 hj3 dX0_bowlBalls_49 ?_
  refine j_iload X 1 dX0_bowlBalls_52 rfl ?_
  refine j_isub X dX0_bowlBalls_54 ?_
  exact j_iret X hr hlocks dX0_bowlBalls_55 (congrArg Prod.fst he) (congrArg Prod.snd he)
def b_X0_bowlBalls_42 (kk : Nat → Int32 → Nat → Int32 → Int32 → Sx → Int32 × Sx) (j0 : Nat) (v2 : Int32) (j3 : Nat) (v4 : Int32) (v5 : Int32) (S : Sx) : Int32 × Sx := kk j0 v2 j3 v4 (v5 + 1) S
def o_X0_bowlBalls_42 (ok : Nat → Int32 → Nat → Int32 → Int32 → Sx → Prop) (j0 : Nat) (v2 : Int32) (j3 : Nat) (v4 : Int32) (v5 : Int32) (S : Sx) : Prop := ok j0 v2 j3 v4 (v5 + 1) S
set_option maxRecDepth 20000 in
theorem t_X0_bowlBalls_42 (X : Cx p m c cX0_bowlBalls 6 s args RX0 D q ad) (hr : meth.sig.returnType = some .int) (hlocks : meth.locks = false) (kk : Nat → Int32 → Nat → Int32 → Int32 → Sx → Int32 × Sx) (ok : Nat → Int32 → Nat → Int32 → Int32 → Sx → Prop) (hkk : ∀ (j0 : Nat) (hj0 : isK 0 j0) (v2 : Int32) (j3 : Nat) (hj3 : isK 9 j3) (v4 : Int32) (v5 : Int32) (S : Sx) (rv : Int32) (S' : Sx) (ho : ok j0 v2 j3 v4 v5 S) (he : kk j0 v2 j3 v4 v5 S = (rv, S')), Jg p l e rm_X0_bowlBalls s m args below meth c 0 0 (MQ below (Qi D q ad d rv S' s.heap.size) args s 0 0 (AU ad s.heap.size)) D q ad d 6 16 [(0, .ref (ad j0)), (2, .int v2), (3, .ref (ad j3)), (4, .int v4), (5, .int v5)] [] S) (j0 : Nat) (hj0 : isK 0 j0) (v2 : Int32) (j3 : Nat) (hj3 : isK 9 j3) (v4 : Int32) (v5 : Int32) (S : Sx) (rv : Int32) (S' : Sx) (ho : o_X0_bowlBalls_42 ok j0 v2 j3 v4 v5 S) (he : b_X0_bowlBalls_42 kk j0 v2 j3 v4 v5 S = (rv, S')) : Jg p l e rm_X0_bowlBalls s m args below meth c 0 0 (MQ below (Qi D q ad d rv S' s.heap.size) args s 0 0 (AU ad s.heap.size)) D q ad d 6 42 [(0, .ref (ad j0)), (2, .int v2), (3, .ref (ad j3)), (4, .int v4), (5, .int v5)] [] S := by
  unfold b_X0_bowlBalls_42 at he
  unfold o_X0_bowlBalls_42 at ho
  refine j_iinc X 4 (v5 + 1) [(5, .int (v5 + 1)), (0, .ref (ad j0)), (2, .int v2), (3, .ref (ad j3)), (4, .int v4)] dX0_bowlBalls_42 rfl rfl (by decide) rfl ?_
  refine j_goto X 16 dX0_bowlBalls_45 (by decide) ?_
  refine j_lv [1, 2, 3, 4, 0] [(0, .ref (ad j0)), (2, .int v2), (3, .ref (ad j3)), (4, .int v4), (5, .int (v5 + 1))] rfl ?_
  exact hkk j0 hj0 v2 j3 hj3 v4 (v5 + 1) S _ _ ho he
def b_X0_bowlBalls_16 : Nat → Nat → Int32 → Nat → Int32 → Int32 → Sx → Int32 × Sx
  | 0, _, _, _, _, _, S => (0, S)
  | n + 1, j0, v2, j3, v4, v5, S => if v2 ≤ v5 then b_X0_bowlBalls_48 j3 v4 S else if (b_X2_isOver_0 j3 S) = 0 then b_X0_bowlBalls_42 (b_X0_bowlBalls_16 n) j0 v2 j3 v4 v5 (b_X2_bowlOne_0 j3 (j0 + 7 + (S j3 0).toNatClampNeg) S) else b_X0_bowlBalls_48 j3 v4 S
def o_X0_bowlBalls_16 : Nat → Nat → Int32 → Nat → Int32 → Int32 → Sx → Prop
  | 0, _, _, _, _, _, _ => False
  | n + 1, j0, v2, j3, v4, v5, S => (v2 ≤ v5 → True) ∧ (¬ v2 ≤ v5 → (o_X2_isOver_0 j3 S ∧ (((b_X2_isOver_0 j3 S) = 0 → (vp_in (S j3 0) 4 ∧ (o_X2_bowlOne_0 j3 (j0 + 7 + (S j3 0).toNatClampNeg) S ∧ (o_X0_bowlBalls_42 (o_X0_bowlBalls_16 n) j0 v2 j3 v4 v5 (b_X2_bowlOne_0 j3 (j0 + 7 + (S j3 0).toNatClampNeg) S))))) ∧ (¬ (b_X2_isOver_0 j3 S) = 0 → True))))
set_option maxRecDepth 20000 in
theorem t_X0_bowlBalls_16 (X : Cx p m c cX0_bowlBalls 6 s args RX0 D q ad) (hr : meth.sig.returnType = some .int) (hlocks : meth.locks = false) : ∀ (n : Nat) (j0 : Nat) (hj0 : isK 0 j0) (v2 : Int32) (j3 : Nat) (hj3 : isK 9 j3) (v4 : Int32) (v5 : Int32) (S : Sx) (rv : Int32) (S' : Sx) (ho : o_X0_bowlBalls_16 n j0 v2 j3 v4 v5 S) (he : b_X0_bowlBalls_16 n j0 v2 j3 v4 v5 S = (rv, S')), Jg p l e rm_X0_bowlBalls s m args below meth c 0 0 (MQ below (Qi D q ad d rv S' s.heap.size) args s 0 0 (AU ad s.heap.size)) D q ad d 6 16 [(0, .ref (ad j0)), (2, .int v2), (3, .ref (ad j3)), (4, .int v4), (5, .int v5)] [] S := by
  intro n
  induction n with
  | zero =>
    intro j0 hj0 v2 j3 hj3 v4 v5 S rv S' ho he
    unfold o_X0_bowlBalls_16 at ho
    exact ho.elim
  | succ n ih =>
    intro j0 hj0 v2 j3 hj3 v4 v5 S rv S' ho he
    unfold b_X0_bowlBalls_16 at he
    unfold o_X0_bowlBalls_16 at ho
    refine j_iload X 4 dX0_bowlBalls_16 rfl ?_
    refine j_iload_n X 1 dX0_bowlBalls_18 rfl ?_
    refine j_icmp_ge X 48 dX0_bowlBalls_19 (by decide) (fun h2 => ?_) (fun h2 => ?_)
    · rw [if_pos h2] at he
      have ho := ho.1 h2
      refine j_lv [2, 3] [(3, .ref (ad j3)), (4, .int v4)] rfl ?_
      exact t_X0_bowlBalls_48 X hr hlocks j3 hj3 v4 S _ _ he
    · rw [if_neg h2] at he
      have ho := ho.2 h2
      refine j_aload_n X 2 dX0_bowlBalls_22 rfl ?_
      have h3 := ho.1
      have ho := ho.2
      refine j_callVi (rest := []) X (c_X2_isOver (cx_inj X) j3 hj3 S h3) cw_X0_84 hj3.1 (cl_9 hj3) rfl ⟨rfl, rfl, Nat.le_of_ble_eq_true rfl, Nat.le_of_ble_eq_true rfl⟩ rfl rfl (Nat.le_of_ble_eq_true rfl) ⟨Nat.le_of_ble_eq_true rfl, Nat.le_of_ble_eq_true rfl⟩ dX0_bowlBalls_23 ?_
      refine j_if_ne X 48 dX0_bowlBalls_26 (by decide) (fun h4 => ?_) (fun h4 => ?_)
      · rw [if_neg h4] at he
        have ho := ho.2 h4
        refine j_lv [2, 3] [(3, .ref (ad j3)), (4, .int v4)] rfl ?_
        exact t_X0_bowlBalls_48 X hr hlocks j3 hj3 v4 S _ _ he
      · rw [if_pos h4] at he
        have ho := ho.1 h4
        refine j_aload_n X 2 dX0_bowlBalls_29 rfl ?_
        refine j_aload_n X 0 dX0_bowlBalls_30 rfl ?_
        refine gf_0_5 X m_fl_X0_24 hj0 dX0_bowlBalls_31 ?_
        refine j_aload_n X 2 dX0_bowlBalls_34 rfl ?_
        refine gf_9_0 X m_fl_X0_83 hj3 dX0_bowlBalls_35 ?_
        have h5 := ho.1
        have ho := ho.2
        refine j_aald (a := ad (j0 + 7 + (S j3 0).toNatClampNeg)) X 1 (k0_4 hj0).1 (cl_4 (k0_4 hj0)) rfl h5 rfl dX0_bowlBalls_38 ?_
        have hk6 : isK 7 (j0 + 7 + (S j3 0).toNatClampNeg) := k0_7 hj0 (vlt h5)
        have h7 := ho.1
        have ho := ho.2
        refine j_callVv (rest := []) X (c_X2_bowlOne (cx_inj X) j3 hj3 (j0 + 7 + (S j3 0).toNatClampNeg) hk6 S h7) cw_X0_178 hj3.1 (cl_9 hj3) rfl ⟨rfl, rfl, Nat.le_of_ble_eq_true rfl, Nat.le_of_ble_eq_true rfl⟩ rfl rfl (Nat.le_of_ble_eq_true rfl) ⟨Nat.le_of_ble_eq_true rfl, Nat.le_of_ble_eq_true rfl⟩ dX0_bowlBalls_39 ?_
        exact t_X0_bowlBalls_42 X hr hlocks (b_X0_bowlBalls_16 n) (o_X0_bowlBalls_16 n) ih j0 hj0 v2 j3 hj3 v4 v5 (b_X2_bowlOne_0 j3 (j0 + 7 + (S j3 0).toNatClampNeg) S) _ _ ho he
def b_X0_bowlBalls_0 (this : Nat) (x1 : Int32) (x2 : Int32) (S : Sx) : Int32 × Sx := b_X0_bowlBalls_16 100 this x2 (this + 16 + x1.toNatClampNeg) (S (this + 16 + x1.toNatClampNeg) 4) 0 S
def o_X0_bowlBalls_0 (this : Nat) (x1 : Int32) (x2 : Int32) (S : Sx) : Prop := vp_in x1 12 ∧ (o_X0_bowlBalls_16 100 this x2 (this + 16 + x1.toNatClampNeg) (S (this + 16 + x1.toNatClampNeg) 4) 0 S)
set_option maxRecDepth 20000 in
theorem t_X0_bowlBalls_0 (X : Cx p m c cX0_bowlBalls 6 s args RX0 D q ad) (hr : meth.sig.returnType = some .int) (hlocks : meth.locks = false) (this : Nat) (hthis : isK 0 this) (x1 : Int32) (x2 : Int32) (S : Sx) (rv : Int32) (S' : Sx) (ho : o_X0_bowlBalls_0 this x1 x2 S) (he : b_X0_bowlBalls_0 this x1 x2 S = (rv, S')) : Jg p l e rm_X0_bowlBalls s m args below meth c 0 0 (MQ below (Qi D q ad d rv S' s.heap.size) args s 0 0 (AU ad s.heap.size)) D q ad d 6 0 [(0, .ref (ad this)), (1, .int x1), (2, .int x2)] [] S := by
  unfold b_X0_bowlBalls_0 at he
  unfold o_X0_bowlBalls_0 at ho
  refine j_aload_n X 0 dX0_bowlBalls_0 rfl ?_
  refine gf_0_11 X m_fl_X0_39 hthis dX0_bowlBalls_1 ?_
  refine j_iload_n X 1 dX0_bowlBalls_4 rfl ?_
  have h2 := ho.1
  have ho := ho.2
  refine j_aald (a := ad (this + 16 + x1.toNatClampNeg)) X 3 (k0_6 hthis).1 (cl_6 (k0_6 hthis)) rfl h2 rfl dX0_bowlBalls_5 ?_
  have hk3 : isK 9 (this + 16 + x1.toNatClampNeg) := k0_9 hthis (vlt h2)
  refine j_astore_n X [(3, .ref (ad (this + 16 + x1.toNatClampNeg))), (0, .ref (ad this)), (1, .int x1), (2, .int x2)] dX0_bowlBalls_6 (by decide) rfl ?_
  refine j_aload_n X 0 dX0_bowlBalls_7 rfl ?_
  refine gf_9_4 X m_fl_X0_175 hk3 dX0_bowlBalls_8 ?_
  refine j_istore X [(4, .int (S (this + 16 + x1.toNatClampNeg) 4)), (3, .ref (ad (this + 16 + x1.toNatClampNeg))), (0, .ref (ad this)), (1, .int x1), (2, .int x2)] dX0_bowlBalls_11 (by decide) rfl ?_
  refine j_iconst (v := 0) X dX0_bowlBalls_13 (by decide) ?_
  refine j_istore X [(5, .int 0), (4, .int (S (this + 16 + x1.toNatClampNeg) 4)), (3, .ref (ad (this + 16 + x1.toNatClampNeg))), (0, .ref (ad this)), (1, .int x1), (2, .int x2)] dX0_bowlBalls_14 (by decide) rfl ?_
  refine j_lv [3, 5, 2, 1, 0] [(0, .ref (ad this)), (2, .int x2), (3, .ref (ad (this + 16 + x1.toNatClampNeg))), (4, .int (S (this + 16 + x1.toNatClampNeg) 4)), (5, .int 0)] rfl ?_
  exact t_X0_bowlBalls_16 X hr hlocks 100 this hthis x2 (this + 16 + x1.toNatClampNeg) hk3 (S (this + 16 + x1.toNatClampNeg) 4) 0 S _ _ ho he
theorem c_X0_bowlBalls {l : Launch} {D : va_G} {q : Nat → ClassId} {ad : Nat → Nat} {d : UInt64} (hI : inj4 ad) (this : Nat) (hthis : isK 0 this) (x1 : Int32) (x2 : Int32) (S : Sx) (ho : o_X0_bowlBalls_0 this x1 x2 S) : CI l yX0_bowlBalls cX0_bowlBalls 6 .int rm_X0_bowlBalls D q ad d [.ref (ad this), .int x1, .int x2] S (b_X0_bowlBalls_0 this x1 x2 S).1 (b_X0_bowlBalls_0 this x1 x2 S).2 := ci_of hI (by decide +kernel) (Nat.le_of_ble_eq_true rfl) rfl (fun p e s m args below meth c X hr hlocks => t_X0_bowlBalls_0 X hr hlocks this hthis x1 x2 S _ _ ho (pe _))
end
/-! RX6.more -/
abbrev rm_X6_more : Room := { frames := 0, cells := 0, slots := 0, locals := 0 }
section
variable {p : Program} {l : Launch} {e : Env} {s : State} {m : MethodId} {args : Array Value} {below : List Frame} {meth : Method} {c : Code} {D : va_G} {q : Nat → ClassId} {ad : Nat → Nat} {d : UInt64}
def b_X6_more_14 (w0 : Int32) (S : Sx) : Int32 := w0
set_option maxRecDepth 20000 in
theorem t_X6_more_14 (X : Cx p m c cX6_more 3 s args RX6 D q ad) (hr : meth.sig.returnType = some .int) (hlocks : meth.locks = false) (w0 : Int32) (S : Sx) (rv : Int32) (he : b_X6_more_14 w0 S = rv) : Jg p l e rm_X6_more s m args below meth c 0 0 (MQ below (Qi D q ad d rv S s.heap.size) args s 0 0 (AU ad s.heap.size)) D q ad d 3 14 [] [.int w0] S := by
  unfold b_X6_more_14 at he
  exact j_iret X hr hlocks dX6_more_14 he rfl
def b_X6_more_0 (x0 : Int32) (x1 : Int32) (x2 : Int32) (S : Sx) : Int32 := if x2 ≤ (x0 + x1) then b_X6_more_14 x2 S else b_X6_more_14 (x0 + x1) S
set_option maxRecDepth 20000 in
theorem t_X6_more_0 (X : Cx p m c cX6_more 3 s args RX6 D q ad) (hr : meth.sig.returnType = some .int) (hlocks : meth.locks = false) (x0 : Int32) (x1 : Int32) (x2 : Int32) (S : Sx) (rv : Int32) (he : b_X6_more_0 x0 x1 x2 S = rv) : Jg p l e rm_X6_more s m args below meth c 0 0 (MQ below (Qi D q ad d rv S s.heap.size) args s 0 0 (AU ad s.heap.size)) D q ad d 3 0 [(0, .int x0), (1, .int x1), (2, .int x2)] [] S := by
  unfold b_X6_more_0 at he
  refine j_iload_n X 0 dX6_more_0 rfl ?_
  refine j_iload_n X 1 dX6_more_1 rfl ?_
  refine j_iadd X dX6_more_2 ?_
  refine j_iload_n X 2 dX6_more_3 rfl ?_
  refine j_icmp_ge X 13 dX6_more_4 (by decide) (fun h2 => ?_) (fun h2 => ?_)
  · rw [if_pos h2] at he
    refine j_iload_n X 2 dX6_more_13 rfl ?_
    refine j_lv [] [] rfl ?_
    exact t_X6_more_14 X hr hlocks x2 S _ he
  · rw [if_neg h2] at he
    refine j_iload_n X 0 dX6_more_7 rfl ?_
    refine j_iload_n X 1 dX6_more_8 rfl ?_
    refine j_iadd X dX6_more_9 ?_
    refine j_goto X 14 dX6_more_10 (by decide) ?_
    refine j_lv [] [] rfl ?_
    exact t_X6_more_14 X hr hlocks (x0 + x1) S _ he
theorem c_X6_more {l : Launch} {D : va_G} {q : Nat → ClassId} {ad : Nat → Nat} {d : UInt64} (hI : inj4 ad) (x0 : Int32) (x1 : Int32) (x2 : Int32) (S : Sx) : CI l yX6_more cX6_more 3 .int rm_X6_more D q ad d [.int x0, .int x1, .int x2] S (b_X6_more_0 x0 x1 x2 S) S := ci_of hI (by decide +kernel) (Nat.le_of_ble_eq_true rfl) rfl (fun p e s m args below meth c X hr hlocks => t_X6_more_0 X hr hlocks x0 x1 x2 S _ rfl)
end
/-! RX1.rollForAnHour -/
abbrev rm_X1_rollForAnHour : Room := { frames := 1, cells := 0, slots := 0, locals := 22 }
section
variable {p : Program} {l : Launch} {e : Env} {s : State} {m : MethodId} {args : Array Value} {below : List Frame} {meth : Method} {c : Code} {D : va_G} {q : Nat → ClassId} {ad : Nat → Nat} {d : UInt64}
def b_X1_rollForAnHour_87 (j0 : Nat) (S : Sx) : Sx := up2 S j0 5 ((S j0 5) + 1)
set_option maxRecDepth 20000 in
theorem t_X1_rollForAnHour_87 (X : Cx p m c cX1_rollForAnHour 2 s args RX1 D q ad) (hr : meth.sig.returnType = none) (hlocks : meth.locks = false) (j0 : Nat) (hj0 : isK 8 j0) (S : Sx) (S' : Sx) (he : b_X1_rollForAnHour_87 j0 S = S') : Jg p l e rm_X1_rollForAnHour s m args below meth c 0 0 (MQ below (Qv D q ad d S' s.heap.size) args s 0 0 (AU ad s.heap.size)) D q ad d 2 87 [(0, .ref (ad j0))] [] S := by
  unfold b_X1_rollForAnHour_87 at he
  refine j_aload_n X 0 dX1_rollForAnHour_87 rfl ?_
  refine j_dup X dX1_rollForAnHour_88 rfl ?_
  refine gf_8_5 X m_fl_X1_28 hj0 dX1_rollForAnHour_89 ?_
  refine j_iconst (v := 1) X dX1_rollForAnHour_92 (by decide) ?_
  refine j_iadd X dX1_rollForAnHour_93 ?_
  refine pf_8_5 X m_fl_X1_28 hj0 dX1_rollForAnHour_94 ?_
  exact j_vret X hr hlocks dX1_rollForAnHour_97 he
def b_X1_rollForAnHour_63 (j0 : Nat) (S : Sx) : Sx := b_X1_rollForAnHour_87 j0 (up2 (up2 S j0 2 (b_X6_more_0 (S j0 2) 2 20 S)) j0 3 (((up2 S j0 2 (b_X6_more_0 (S j0 2) 2 20 S)) j0 3) - 1))
set_option maxRecDepth 20000 in
theorem t_X1_rollForAnHour_63 (X : Cx p m c cX1_rollForAnHour 2 s args RX1 D q ad) (hr : meth.sig.returnType = none) (hlocks : meth.locks = false) (j0 : Nat) (hj0 : isK 8 j0) (S : Sx) (S' : Sx) (he : b_X1_rollForAnHour_63 j0 S = S') : Jg p l e rm_X1_rollForAnHour s m args below meth c 0 0 (MQ below (Qv D q ad d S' s.heap.size) args s 0 0 (AU ad s.heap.size)) D q ad d 2 63 [(0, .ref (ad j0))] [] S := by
  unfold b_X1_rollForAnHour_63 at he
  refine j_aload_n X 0 dX1_rollForAnHour_63 rfl ?_
  refine j_aload_n X 0 dX1_rollForAnHour_64 rfl ?_
  refine gf_8_2 X m_fl_X1_19 hj0 dX1_rollForAnHour_65 ?_
  refine j_iconst (v := 2) X dX1_rollForAnHour_68 (by decide) ?_
  refine j_bipush (v := 20) X dX1_rollForAnHour_69 (by decide) ?_
  refine j_callNi (rest := [.ref (ad j0)]) X (c_X6_more (cx_inj X) (S j0 2) 2 20 S) cw_X1_36 ⟨rfl, rfl, Nat.le_of_ble_eq_true rfl, Nat.le_of_ble_eq_true rfl⟩ rfl rfl (Nat.le_of_ble_eq_true rfl) ⟨Nat.le_of_ble_eq_true rfl, Nat.le_of_ble_eq_true rfl⟩ dX1_rollForAnHour_71 ?_
  refine pf_8_2 X m_fl_X1_19 hj0 dX1_rollForAnHour_74 ?_
  refine j_aload_n X 0 dX1_rollForAnHour_77 rfl ?_
  refine j_dup X dX1_rollForAnHour_78 rfl ?_
  refine gf_8_3 X m_fl_X1_22 hj0 dX1_rollForAnHour_79 ?_
  refine j_iconst (v := 1) X dX1_rollForAnHour_82 (by decide) ?_
  refine j_isub X dX1_rollForAnHour_83 ?_
  refine pf_8_3 X m_fl_X1_22 hj0 dX1_rollForAnHour_84 ?_
  exact t_X1_rollForAnHour_87 X hr hlocks j0 hj0 (up2 (up2 S j0 2 (b_X6_more_0 (S j0 2) 2 20 S)) j0 3 (((up2 S j0 2 (b_X6_more_0 (S j0 2) 2 20 S)) j0 3) - 1)) _ he
def b_X1_rollForAnHour_34 (j0 : Nat) (j1 : Nat) (S : Sx) : Sx := if (nb (S j0 1)) = 0 then b_X1_rollForAnHour_63 j0 (up2 S j1 2 (b_X6_more_0 (S j1 2) (((S j1 0) / 10) + 1) 99 S)) else b_X1_rollForAnHour_63 j0 S
set_option maxRecDepth 20000 in
theorem t_X1_rollForAnHour_34 (X : Cx p m c cX1_rollForAnHour 2 s args RX1 D q ad) (hr : meth.sig.returnType = none) (hlocks : meth.locks = false) (j0 : Nat) (hj0 : isK 8 j0) (j1 : Nat) (hj1 : isK 7 j1) (S : Sx) (S' : Sx) (he : b_X1_rollForAnHour_34 j0 j1 S = S') : Jg p l e rm_X1_rollForAnHour s m args below meth c 0 0 (MQ below (Qv D q ad d S' s.heap.size) args s 0 0 (AU ad s.heap.size)) D q ad d 2 34 [(0, .ref (ad j0)), (1, .ref (ad j1))] [] S := by
  unfold b_X1_rollForAnHour_34 at he
  refine j_aload_n X 0 dX1_rollForAnHour_34 rfl ?_
  refine gf_8_1 X m_fl_X1_15 hj0 dX1_rollForAnHour_35 ?_
  refine j_if_ne X 63 dX1_rollForAnHour_38 (by decide) (fun h2 => ?_) (fun h2 => ?_)
  · rw [if_neg h2] at he
    refine j_lv [0] [(0, .ref (ad j0))] rfl ?_
    exact t_X1_rollForAnHour_63 X hr hlocks j0 hj0 S _ he
  · rw [if_pos h2] at he
    refine j_aload_n X 1 dX1_rollForAnHour_41 rfl ?_
    refine j_aload_n X 1 dX1_rollForAnHour_42 rfl ?_
    refine gf_7_2 X m_fl_X1_47 hj1 dX1_rollForAnHour_43 ?_
    refine j_aload_n X 1 dX1_rollForAnHour_46 rfl ?_
    refine gf_7_0 X m_fl_X1_40 hj1 dX1_rollForAnHour_47 ?_
    refine j_bipush (v := 10) X dX1_rollForAnHour_50 (by decide) ?_
    refine j_idiv X dX1_rollForAnHour_52 (by decide) ?_
    refine j_iconst (v := 1) X dX1_rollForAnHour_53 (by decide) ?_
    refine j_iadd X dX1_rollForAnHour_54 ?_
    refine j_bipush (v := 99) X dX1_rollForAnHour_55 (by decide) ?_
    refine j_callNi (rest := [.ref (ad j1)]) X (c_X6_more (cx_inj X) (S j1 2) (((S j1 0) / 10) + 1) 99 S) cw_X1_36 ⟨rfl, rfl, Nat.le_of_ble_eq_true rfl, Nat.le_of_ble_eq_true rfl⟩ rfl rfl (Nat.le_of_ble_eq_true rfl) ⟨Nat.le_of_ble_eq_true rfl, Nat.le_of_ble_eq_true rfl⟩ dX1_rollForAnHour_57 ?_
    refine pf_7_2 X m_fl_X1_47 hj1 dX1_rollForAnHour_60 ?_
    refine j_lv [0] [(0, .ref (ad j0))] rfl ?_
    exact t_X1_rollForAnHour_63 X hr hlocks j0 hj0 (up2 S j1 2 (b_X6_more_0 (S j1 2) (((S j1 0) / 10) + 1) 99 S)) _ he
def b_X1_rollForAnHour_17 (j0 : Nat) (j1 : Nat) (S : Sx) : Sx := b_X1_rollForAnHour_34 j0 j1 (up2 S j1 0 (b_X6_less_0 (S j1 0) ((S j0 0) / 2) S))
set_option maxRecDepth 20000 in
theorem t_X1_rollForAnHour_17 (X : Cx p m c cX1_rollForAnHour 2 s args RX1 D q ad) (hr : meth.sig.returnType = none) (hlocks : meth.locks = false) (j0 : Nat) (hj0 : isK 8 j0) (j1 : Nat) (hj1 : isK 7 j1) (S : Sx) (S' : Sx) (he : b_X1_rollForAnHour_17 j0 j1 S = S') : Jg p l e rm_X1_rollForAnHour s m args below meth c 0 0 (MQ below (Qv D q ad d S' s.heap.size) args s 0 0 (AU ad s.heap.size)) D q ad d 2 17 [(0, .ref (ad j0)), (1, .ref (ad j1))] [] S := by
  unfold b_X1_rollForAnHour_17 at he
  refine j_aload_n X 1 dX1_rollForAnHour_17 rfl ?_
  refine j_aload_n X 1 dX1_rollForAnHour_18 rfl ?_
  refine gf_7_0 X m_fl_X1_40 hj1 dX1_rollForAnHour_19 ?_
  refine j_aload_n X 0 dX1_rollForAnHour_22 rfl ?_
  refine gf_8_0 X m_fl_X1_9 hj0 dX1_rollForAnHour_23 ?_
  refine j_iconst (v := 2) X dX1_rollForAnHour_26 (by decide) ?_
  refine j_idiv X dX1_rollForAnHour_27 (by decide) ?_
  refine j_callNi (rest := [.ref (ad j1)]) X (c_X6_less (cx_inj X) (S j1 0) ((S j0 0) / 2) S) cw_X1_43 ⟨rfl, rfl, Nat.le_of_ble_eq_true rfl, Nat.le_of_ble_eq_true rfl⟩ rfl rfl (Nat.le_of_ble_eq_true rfl) ⟨Nat.le_of_ble_eq_true rfl, Nat.le_of_ble_eq_true rfl⟩ dX1_rollForAnHour_28 ?_
  refine pf_7_0 X m_fl_X1_40 hj1 dX1_rollForAnHour_31 ?_
  exact t_X1_rollForAnHour_34 X hr hlocks j0 hj0 j1 hj1 (up2 S j1 0 (b_X6_less_0 (S j1 0) ((S j0 0) / 2) S)) _ he
def b_X1_rollForAnHour_0 (this : Nat) (r1 : Nat) (S : Sx) : Sx := b_X1_rollForAnHour_17 this r1 (up2 S r1 1 (b_X6_more_0 (S r1 1) (S this 0) 99 S))
set_option maxRecDepth 20000 in
theorem t_X1_rollForAnHour_0 (X : Cx p m c cX1_rollForAnHour 2 s args RX1 D q ad) (hr : meth.sig.returnType = none) (hlocks : meth.locks = false) (this : Nat) (hthis : isK 8 this) (r1 : Nat) (hr1 : isK 7 r1) (S : Sx) (S' : Sx) (he : b_X1_rollForAnHour_0 this r1 S = S') : Jg p l e rm_X1_rollForAnHour s m args below meth c 0 0 (MQ below (Qv D q ad d S' s.heap.size) args s 0 0 (AU ad s.heap.size)) D q ad d 2 0 [(0, .ref (ad this)), (1, .ref (ad r1))] [] S := by
  unfold b_X1_rollForAnHour_0 at he
  refine j_aload_n X 1 dX1_rollForAnHour_0 rfl ?_
  refine j_aload_n X 1 dX1_rollForAnHour_1 rfl ?_
  refine gf_7_1 X m_fl_X1_31 hr1 dX1_rollForAnHour_2 ?_
  refine j_aload_n X 0 dX1_rollForAnHour_5 rfl ?_
  refine gf_8_0 X m_fl_X1_9 hthis dX1_rollForAnHour_6 ?_
  refine j_bipush (v := 99) X dX1_rollForAnHour_9 (by decide) ?_
  refine j_callNi (rest := [.ref (ad r1)]) X (c_X6_more (cx_inj X) (S r1 1) (S this 0) 99 S) cw_X1_36 ⟨rfl, rfl, Nat.le_of_ble_eq_true rfl, Nat.le_of_ble_eq_true rfl⟩ rfl rfl (Nat.le_of_ble_eq_true rfl) ⟨Nat.le_of_ble_eq_true rfl, Nat.le_of_ble_eq_true rfl⟩ dX1_rollForAnHour_11 ?_
  refine pf_7_1 X m_fl_X1_31 hr1 dX1_rollForAnHour_14 ?_
  exact t_X1_rollForAnHour_17 X hr hlocks this hthis r1 hr1 (up2 S r1 1 (b_X6_more_0 (S r1 1) (S this 0) 99 S)) _ he
theorem c_X1_rollForAnHour {l : Launch} {D : va_G} {q : Nat → ClassId} {ad : Nat → Nat} {d : UInt64} (hI : inj4 ad) (this : Nat) (hthis : isK 8 this) (r1 : Nat) (hr1 : isK 7 r1) (S : Sx) : CV l yX1_rollForAnHour cX1_rollForAnHour 2 rm_X1_rollForAnHour D q ad d [.ref (ad this), .ref (ad r1)] S (b_X1_rollForAnHour_0 this r1 S) := cv_of hI (by decide +kernel) (Nat.le_of_ble_eq_true rfl) rfl (fun p e s m args below meth c X hr hlocks => t_X1_rollForAnHour_0 X hr hlocks this hthis r1 hr1 S _ rfl)
end
/-! RX1.rest -/
abbrev rm_X1_rest : Room := { frames := 1, cells := 0, slots := 0, locals := 21 }
section
variable {p : Program} {l : Launch} {e : Env} {s : State} {m : MethodId} {args : Array Value} {below : List Frame} {meth : Method} {c : Code} {D : va_G} {q : Nat → ClassId} {ad : Nat → Nat} {d : UInt64}
def b_X1_rest_0 (this : Nat) (S : Sx) : Sx := up2 S this 2 (b_X6_less_0 (S this 2) 1 S)
set_option maxRecDepth 20000 in
theorem t_X1_rest_0 (X : Cx p m c cX1_rest 1 s args RX1 D q ad) (hr : meth.sig.returnType = none) (hlocks : meth.locks = false) (this : Nat) (hthis : isK 8 this) (S : Sx) (S' : Sx) (he : b_X1_rest_0 this S = S') : Jg p l e rm_X1_rest s m args below meth c 0 0 (MQ below (Qv D q ad d S' s.heap.size) args s 0 0 (AU ad s.heap.size)) D q ad d 1 0 [(0, .ref (ad this))] [] S := by
  unfold b_X1_rest_0 at he
  refine j_aload_n X 0 dX1_rest_0 rfl ?_
  refine j_aload_n X 0 dX1_rest_1 rfl ?_
  refine gf_8_2 X m_fl_X1_19 hthis dX1_rest_2 ?_
  refine j_iconst (v := 1) X dX1_rest_5 (by decide) ?_
  refine j_callNi (rest := [.ref (ad this)]) X (c_X6_less (cx_inj X) (S this 2) 1 S) cw_X1_43 ⟨rfl, rfl, Nat.le_of_ble_eq_true rfl, Nat.le_of_ble_eq_true rfl⟩ rfl rfl (Nat.le_of_ble_eq_true rfl) ⟨Nat.le_of_ble_eq_true rfl, Nat.le_of_ble_eq_true rfl⟩ dX1_rest_6 ?_
  refine pf_8_2 X m_fl_X1_19 hthis dX1_rest_9 ?_
  exact j_vret X hr hlocks dX1_rest_12 he
theorem c_X1_rest {l : Launch} {D : va_G} {q : Nat → ClassId} {ad : Nat → Nat} {d : UInt64} (hI : inj4 ad) (this : Nat) (hthis : isK 8 this) (S : Sx) : CV l yX1_rest cX1_rest 1 rm_X1_rest D q ad d [.ref (ad this)] S (b_X1_rest_0 this S) := cv_of hI (by decide +kernel) (Nat.le_of_ble_eq_true rfl) rfl (fun p e s m args below meth c X hr hlocks => t_X1_rest_0 X hr hlocks this hthis S _ rfl)
end
/-! RX5.letWeatherAct -/
abbrev rm_X5_letWeatherAct : Room := { frames := 1, cells := 0, slots := 0, locals := 22 }
section
variable {p : Program} {l : Launch} {e : Env} {s : State} {m : MethodId} {args : Array Value} {below : List Frame} {meth : Method} {c : Code} {D : va_G} {q : Nat → ClassId} {ad : Nat → Nat} {d : UInt64}
def b_X5_letWeatherAct_16 (j0 : Nat) (v2 : Int32) (S : Sx) : Sx := up2 S j0 0 (b_X6_less_0 (S j0 0) (v2 / 2) S)
set_option maxRecDepth 20000 in
theorem t_X5_letWeatherAct_16 (X : Cx p m c cX5_letWeatherAct 3 s args RX5 D q ad) (hr : meth.sig.returnType = none) (hlocks : meth.locks = false) (j0 : Nat) (hj0 : isK 7 j0) (v2 : Int32) (S : Sx) (S' : Sx) (he : b_X5_letWeatherAct_16 j0 v2 S = S') : Jg p l e rm_X5_letWeatherAct s m args below meth c 0 0 (MQ below (Qv D q ad d S' s.heap.size) args s 0 0 (AU ad s.heap.size)) D q ad d 3 16 [(0, .ref (ad j0)), (2, .int v2)] [] S := by
  unfold b_X5_letWeatherAct_16 at he
  refine j_aload_n X 0 dX5_letWeatherAct_16 rfl ?_
  refine j_aload_n X 0 dX5_letWeatherAct_17 rfl ?_
  refine gf_7_0 X m_fl_X5_9 hj0 dX5_letWeatherAct_18 ?_
  refine j_iload_n X 1 dX5_letWeatherAct_21 rfl ?_
  refine j_iconst (v := 2) X dX5_letWeatherAct_22 (by decide) ?_
  refine j_idiv X dX5_letWeatherAct_23 (by decide) ?_
  refine j_callNi (rest := [.ref (ad j0)]) X (c_X6_less (cx_inj X) (S j0 0) (v2 / 2) S) cw_X5_32 ⟨rfl, rfl, Nat.le_of_ble_eq_true rfl, Nat.le_of_ble_eq_true rfl⟩ rfl rfl (Nat.le_of_ble_eq_true rfl) ⟨Nat.le_of_ble_eq_true rfl, Nat.le_of_ble_eq_true rfl⟩ dX5_letWeatherAct_24 ?_
  refine pf_7_0 X m_fl_X5_9 hj0 dX5_letWeatherAct_27 ?_
  exact j_vret X hr hlocks dX5_letWeatherAct_30 he
def b_X5_letWeatherAct_0 (this : Nat) (x1 : Int32) (x2 : Int32) (S : Sx) : Sx := b_X5_letWeatherAct_16 this x2 (up2 S this 0 (b_X6_more_0 (S this 0) (4 * x1) 99 S))
set_option maxRecDepth 20000 in
theorem t_X5_letWeatherAct_0 (X : Cx p m c cX5_letWeatherAct 3 s args RX5 D q ad) (hr : meth.sig.returnType = none) (hlocks : meth.locks = false) (this : Nat) (hthis : isK 7 this) (x1 : Int32) (x2 : Int32) (S : Sx) (S' : Sx) (he : b_X5_letWeatherAct_0 this x1 x2 S = S') : Jg p l e rm_X5_letWeatherAct s m args below meth c 0 0 (MQ below (Qv D q ad d S' s.heap.size) args s 0 0 (AU ad s.heap.size)) D q ad d 3 0 [(0, .ref (ad this)), (1, .int x1), (2, .int x2)] [] S := by
  unfold b_X5_letWeatherAct_0 at he
  refine j_aload_n X 0 dX5_letWeatherAct_0 rfl ?_
  refine j_aload_n X 0 dX5_letWeatherAct_1 rfl ?_
  refine gf_7_0 X m_fl_X5_9 hthis dX5_letWeatherAct_2 ?_
  refine j_iconst (v := 4) X dX5_letWeatherAct_5 (by decide) ?_
  refine j_iload_n X 1 dX5_letWeatherAct_6 rfl ?_
  refine j_imul X dX5_letWeatherAct_7 ?_
  refine j_bipush (v := 99) X dX5_letWeatherAct_8 (by decide) ?_
  refine j_callNi (rest := [.ref (ad this)]) X (c_X6_more (cx_inj X) (S this 0) (4 * x1) 99 S) cw_X5_28 ⟨rfl, rfl, Nat.le_of_ble_eq_true rfl, Nat.le_of_ble_eq_true rfl⟩ rfl rfl (Nat.le_of_ble_eq_true rfl) ⟨Nat.le_of_ble_eq_true rfl, Nat.le_of_ble_eq_true rfl⟩ dX5_letWeatherAct_10 ?_
  refine pf_7_0 X m_fl_X5_9 hthis dX5_letWeatherAct_13 ?_
  refine j_lv [0, 2] [(0, .ref (ad this)), (2, .int x2)] rfl ?_
  exact t_X5_letWeatherAct_16 X hr hlocks this hthis x2 (up2 S this 0 (b_X6_more_0 (S this 0) (4 * x1) 99 S)) _ he
theorem c_X5_letWeatherAct {l : Launch} {D : va_G} {q : Nat → ClassId} {ad : Nat → Nat} {d : UInt64} (hI : inj4 ad) (this : Nat) (hthis : isK 7 this) (x1 : Int32) (x2 : Int32) (S : Sx) : CV l yX5_letWeatherAct cX5_letWeatherAct 3 rm_X5_letWeatherAct D q ad d [.ref (ad this), .int x1, .int x2] S (b_X5_letWeatherAct_0 this x1 x2 S) := cv_of hI (by decide +kernel) (Nat.le_of_ble_eq_true rfl) rfl (fun p e s m args below meth c X hr hlocks => t_X5_letWeatherAct_0 X hr hlocks this hthis x1 x2 S _ rfl)
end
/-! RX0.letHourGoBy -/
abbrev rm_X0_letHourGoBy : Room := { frames := 2, cells := 0, slots := 0, locals := 44 }
section
variable {p : Program} {l : Launch} {e : Env} {s : State} {m : MethodId} {args : Array Value} {below : List Frame} {meth : Method} {c : Code} {D : va_G} {q : Nat → ClassId} {ad : Nat → Nat} {d : UInt64}
def b_X0_letHourGoBy_121 (kk : Nat → Int32 → Int32 → Int32 → Sx → Int32 × Sx) (j0 : Nat) (v1 : Int32) (v2 : Int32) (v3 : Int32) (S : Sx) : Int32 × Sx := kk j0 v1 v2 (v3 + 1) S
def o_X0_letHourGoBy_121 (ok : Nat → Int32 → Int32 → Int32 → Sx → Prop) (j0 : Nat) (v1 : Int32) (v2 : Int32) (v3 : Int32) (S : Sx) : Prop := ok j0 v1 v2 (v3 + 1) S
set_option maxRecDepth 20000 in
theorem t_X0_letHourGoBy_121 (X : Cx p m c cX0_letHourGoBy 4 s args RX0 D q ad) (hr : meth.sig.returnType = some .int) (hlocks : meth.locks = false) (kk : Nat → Int32 → Int32 → Int32 → Sx → Int32 × Sx) (ok : Nat → Int32 → Int32 → Int32 → Sx → Prop) (hkk : ∀ (j0 : Nat) (hj0 : isK 0 j0) (v1 : Int32) (v2 : Int32) (v3 : Int32) (S : Sx) (rv : Int32) (S' : Sx) (ho : ok j0 v1 v2 v3 S) (he : kk j0 v1 v2 v3 S = (rv, S')), Jg p l e rm_X0_letHourGoBy s m args below meth c 0 0 (MQ below (Qi D q ad d rv S' s.heap.size) args s 0 0 (AU ad s.heap.size)) D q ad d 4 80 [(0, .ref (ad j0)), (1, .int v1), (2, .int v2), (3, .int v3)] [] S) (j0 : Nat) (hj0 : isK 0 j0) (v1 : Int32) (v2 : Int32) (v3 : Int32) (S : Sx) (rv : Int32) (S' : Sx) (ho : o_X0_letHourGoBy_121 ok j0 v1 v2 v3 S) (he : b_X0_letHourGoBy_121 kk j0 v1 v2 v3 S = (rv, S')) : Jg p l e rm_X0_letHourGoBy s m args below meth c 0 0 (MQ below (Qi D q ad d rv S' s.heap.size) args s 0 0 (AU ad s.heap.size)) D q ad d 4 121 [(0, .ref (ad j0)), (1, .int v1), (2, .int v2), (3, .int v3)] [] S := by
  unfold b_X0_letHourGoBy_121 at he
  unfold o_X0_letHourGoBy_121 at ho
  refine j_iinc X 3 (v3 + 1) [(3, .int (v3 + 1)), (0, .ref (ad j0)), (1, .int v1), (2, .int v2)] dX0_letHourGoBy_121 rfl rfl (by decide) rfl ?_
  refine j_goto X 80 dX0_letHourGoBy_124 (by decide) ?_
  refine j_lv [1, 2, 3, 0] [(0, .ref (ad j0)), (1, .int v1), (2, .int v2), (3, .int (v3 + 1))] rfl ?_
  exact hkk j0 hj0 v1 v2 (v3 + 1) S _ _ ho he
def b_X0_letHourGoBy_80 : Nat → Nat → Int32 → Int32 → Int32 → Sx → Int32 × Sx
  | 0, _, _, _, _, S => (0, S)
  | n + 1, j0, v1, v2, v3, S => if (S j0 4) ≤ v3 then (v1, up2 S j0 0 ((S j0 0) + 1)) else if (nb (S (j0 + 7 + v3.toNatClampNeg) 3)) = 0 then b_X0_letHourGoBy_121 (b_X0_letHourGoBy_80 n) j0 v1 v2 v3 (b_X5_letWeatherAct_0 (j0 + 7 + v3.toNatClampNeg) (S (j0 + 1) v2.toNatClampNeg) (S (j0 + 2) v2.toNatClampNeg) S) else b_X0_letHourGoBy_121 (b_X0_letHourGoBy_80 n) j0 v1 v2 v3 S
def o_X0_letHourGoBy_80 : Nat → Nat → Int32 → Int32 → Int32 → Sx → Prop
  | 0, _, _, _, _, _ => False
  | n + 1, j0, v1, v2, v3, S => ((S j0 4) ≤ v3 → True) ∧ (¬ (S j0 4) ≤ v3 → (vp_in v3 4 ∧ (((nb (S (j0 + 7 + v3.toNatClampNeg) 3)) = 0 → (vp_in v3 4 ∧ (vp_in v2 24 ∧ (vp_in v2 24 ∧ (o_X0_letHourGoBy_121 (o_X0_letHourGoBy_80 n) j0 v1 v2 v3 (b_X5_letWeatherAct_0 (j0 + 7 + v3.toNatClampNeg) (S (j0 + 1) v2.toNatClampNeg) (S (j0 + 2) v2.toNatClampNeg) S)))))) ∧ (¬ (nb (S (j0 + 7 + v3.toNatClampNeg) 3)) = 0 → (o_X0_letHourGoBy_121 (o_X0_letHourGoBy_80 n) j0 v1 v2 v3 S)))))
set_option maxRecDepth 20000 in
theorem t_X0_letHourGoBy_80 (X : Cx p m c cX0_letHourGoBy 4 s args RX0 D q ad) (hr : meth.sig.returnType = some .int) (hlocks : meth.locks = false) : ∀ (n : Nat) (j0 : Nat) (hj0 : isK 0 j0) (v1 : Int32) (v2 : Int32) (v3 : Int32) (S : Sx) (rv : Int32) (S' : Sx) (ho : o_X0_letHourGoBy_80 n j0 v1 v2 v3 S) (he : b_X0_letHourGoBy_80 n j0 v1 v2 v3 S = (rv, S')), Jg p l e rm_X0_letHourGoBy s m args below meth c 0 0 (MQ below (Qi D q ad d rv S' s.heap.size) args s 0 0 (AU ad s.heap.size)) D q ad d 4 80 [(0, .ref (ad j0)), (1, .int v1), (2, .int v2), (3, .int v3)] [] S := by
  intro n
  induction n with
  | zero =>
    intro j0 hj0 v1 v2 v3 S rv S' ho he
    unfold o_X0_letHourGoBy_80 at ho
    exact ho.elim
  | succ n ih =>
    intro j0 hj0 v1 v2 v3 S rv S' ho he
    unfold b_X0_letHourGoBy_80 at he
    unfold o_X0_letHourGoBy_80 at ho
    refine j_iload_n X 3 dX0_letHourGoBy_80 rfl ?_
    refine j_aload_n X 0 dX0_letHourGoBy_81 rfl ?_
    refine gf_0_4 X m_fl_X0_55 hj0 dX0_letHourGoBy_82 ?_
    refine j_icmp_ge X 127 dX0_letHourGoBy_85 (by decide) (fun h2 => ?_) (fun h2 => ?_)
    · rw [if_pos h2] at he
      have ho := ho.1 h2
      refine j_aload_n X 0 dX0_letHourGoBy_127 rfl ?_
      refine j_dup X dX0_letHourGoBy_128 rfl ?_
      refine gf_0_0 X m_fl_X0_46 hj0 dX0_letHourGoBy_129 ?_
      refine j_iconst (v := 1) X dX0_letHourGoBy_132 (by decide) ?_
      refine j_iadd X dX0_letHourGoBy_133 ?_
      refine pf_0_0 X m_fl_X0_46 hj0 dX0_letHourGoBy_134 ?_
      refine j_iload_n X 1 dX0_letHourGoBy_137 rfl ?_
      exact j_iret X hr hlocks dX0_letHourGoBy_138 (congrArg Prod.fst he) (congrArg Prod.snd he)
    · rw [if_neg h2] at he
      have ho := ho.2 h2
      refine j_aload_n X 0 dX0_letHourGoBy_88 rfl ?_
      refine gf_0_5 X m_fl_X0_24 hj0 dX0_letHourGoBy_89 ?_
      refine j_iload_n X 3 dX0_letHourGoBy_92 rfl ?_
      have h3 := ho.1
      have ho := ho.2
      refine j_aald (a := ad (j0 + 7 + v3.toNatClampNeg)) X 1 (k0_4 hj0).1 (cl_4 (k0_4 hj0)) rfl h3 rfl dX0_letHourGoBy_93 ?_
      have hk4 : isK 7 (j0 + 7 + v3.toNatClampNeg) := k0_7 hj0 (vlt h3)
      refine gf_7_3 X m_fl_X0_94 hk4 dX0_letHourGoBy_94 ?_
      refine j_if_ne X 121 dX0_letHourGoBy_97 (by decide) (fun h5 => ?_) (fun h5 => ?_)
      · rw [if_neg h5] at he
        have ho := ho.2 h5
        exact t_X0_letHourGoBy_121 X hr hlocks (b_X0_letHourGoBy_80 n) (o_X0_letHourGoBy_80 n) ih j0 hj0 v1 v2 v3 S _ _ ho he
      · rw [if_pos h5] at he
        have ho := ho.1 h5
        refine j_aload_n X 0 dX0_letHourGoBy_100 rfl ?_
        refine gf_0_5 X m_fl_X0_24 hj0 dX0_letHourGoBy_101 ?_
        refine j_iload_n X 3 dX0_letHourGoBy_104 rfl ?_
        have h6 := ho.1
        have ho := ho.2
        refine j_aald (a := ad (j0 + 7 + v3.toNatClampNeg)) X 1 (k0_4 hj0).1 (cl_4 (k0_4 hj0)) rfl h6 rfl dX0_letHourGoBy_105 ?_
        have hk7 : isK 7 (j0 + 7 + v3.toNatClampNeg) := k0_7 hj0 (vlt h6)
        refine j_aload_n X 0 dX0_letHourGoBy_106 rfl ?_
        refine gf_0_2 X m_fl_X0_15 hj0 dX0_letHourGoBy_107 ?_
        refine j_iload_n X 2 dX0_letHourGoBy_110 rfl ?_
        have h8 := ho.1
        have ho := ho.2
        refine j_iald X (k0_1 hj0).1 (cl_1 (k0_1 hj0)) h8 dX0_letHourGoBy_111 ?_
        refine j_aload_n X 0 dX0_letHourGoBy_112 rfl ?_
        refine gf_0_3 X m_fl_X0_19 hj0 dX0_letHourGoBy_113 ?_
        refine j_iload_n X 2 dX0_letHourGoBy_116 rfl ?_
        have h9 := ho.1
        have ho := ho.2
        refine j_iald X (k0_2 hj0).1 (cl_2 (k0_2 hj0)) h9 dX0_letHourGoBy_117 ?_
        refine j_callVv (rest := []) X (c_X5_letWeatherAct (cx_inj X) (j0 + 7 + v3.toNatClampNeg) hk7 (S (j0 + 1) v2.toNatClampNeg) (S (j0 + 2) v2.toNatClampNeg) S) cw_X0_191 hk7.1 (cl_7 hk7) rfl ⟨rfl, rfl, Nat.le_of_ble_eq_true rfl, Nat.le_of_ble_eq_true rfl⟩ rfl rfl (Nat.le_of_ble_eq_true rfl) ⟨Nat.le_of_ble_eq_true rfl, Nat.le_of_ble_eq_true rfl⟩ dX0_letHourGoBy_118 ?_
        exact t_X0_letHourGoBy_121 X hr hlocks (b_X0_letHourGoBy_80 n) (o_X0_letHourGoBy_80 n) ih j0 hj0 v1 v2 v3 (b_X5_letWeatherAct_0 (j0 + 7 + v3.toNatClampNeg) (S (j0 + 1) v2.toNatClampNeg) (S (j0 + 2) v2.toNatClampNeg) S) _ _ ho he
def b_X0_letHourGoBy_62 (kk : Nat → Int32 → Int32 → Sx → Int32 × Sx) (j0 : Nat) (v1 : Int32) (v2 : Int32) (S : Sx) : Int32 × Sx := kk j0 v1 (v2 + 1) S
def o_X0_letHourGoBy_62 (ok : Nat → Int32 → Int32 → Sx → Prop) (j0 : Nat) (v1 : Int32) (v2 : Int32) (S : Sx) : Prop := ok j0 v1 (v2 + 1) S
set_option maxRecDepth 20000 in
theorem t_X0_letHourGoBy_62 (X : Cx p m c cX0_letHourGoBy 4 s args RX0 D q ad) (hr : meth.sig.returnType = some .int) (hlocks : meth.locks = false) (kk : Nat → Int32 → Int32 → Sx → Int32 × Sx) (ok : Nat → Int32 → Int32 → Sx → Prop) (hkk : ∀ (j0 : Nat) (hj0 : isK 0 j0) (v1 : Int32) (v2 : Int32) (S : Sx) (rv : Int32) (S' : Sx) (ho : ok j0 v1 v2 S) (he : kk j0 v1 v2 S = (rv, S')), Jg p l e rm_X0_letHourGoBy s m args below meth c 0 0 (MQ below (Qi D q ad d rv S' s.heap.size) args s 0 0 (AU ad s.heap.size)) D q ad d 4 4 [(0, .ref (ad j0)), (1, .int v1), (2, .int v2)] [] S) (j0 : Nat) (hj0 : isK 0 j0) (v1 : Int32) (v2 : Int32) (S : Sx) (rv : Int32) (S' : Sx) (ho : o_X0_letHourGoBy_62 ok j0 v1 v2 S) (he : b_X0_letHourGoBy_62 kk j0 v1 v2 S = (rv, S')) : Jg p l e rm_X0_letHourGoBy s m args below meth c 0 0 (MQ below (Qi D q ad d rv S' s.heap.size) args s 0 0 (AU ad s.heap.size)) D q ad d 4 62 [(0, .ref (ad j0)), (1, .int v1), (2, .int v2)] [] S := by
  unfold b_X0_letHourGoBy_62 at he
  unfold o_X0_letHourGoBy_62 at ho
  refine j_iinc X 2 (v2 + 1) [(2, .int (v2 + 1)), (0, .ref (ad j0)), (1, .int v1)] dX0_letHourGoBy_62 rfl rfl (by decide) rfl ?_
  refine j_goto X 4 dX0_letHourGoBy_65 (by decide) ?_
  refine j_lv [1, 2, 0] [(0, .ref (ad j0)), (1, .int v1), (2, .int (v2 + 1))] rfl ?_
  exact hkk j0 hj0 v1 (v2 + 1) S _ _ ho he
def b_X0_letHourGoBy_47 (kk : Nat → Int32 → Int32 → Sx → Int32 × Sx) (j0 : Nat) (v1 : Int32) (v2 : Int32) (S : Sx) : Int32 × Sx := b_X0_letHourGoBy_62 kk j0 (v1 + 1) v2 S
def o_X0_letHourGoBy_47 (ok : Nat → Int32 → Int32 → Sx → Prop) (j0 : Nat) (v1 : Int32) (v2 : Int32) (S : Sx) : Prop := o_X0_letHourGoBy_62 ok j0 (v1 + 1) v2 S
set_option maxRecDepth 20000 in
theorem t_X0_letHourGoBy_47 (X : Cx p m c cX0_letHourGoBy 4 s args RX0 D q ad) (hr : meth.sig.returnType = some .int) (hlocks : meth.locks = false) (kk : Nat → Int32 → Int32 → Sx → Int32 × Sx) (ok : Nat → Int32 → Int32 → Sx → Prop) (hkk : ∀ (j0 : Nat) (hj0 : isK 0 j0) (v1 : Int32) (v2 : Int32) (S : Sx) (rv : Int32) (S' : Sx) (ho : ok j0 v1 v2 S) (he : kk j0 v1 v2 S = (rv, S')), Jg p l e rm_X0_letHourGoBy s m args below meth c 0 0 (MQ below (Qi D q ad d rv S' s.heap.size) args s 0 0 (AU ad s.heap.size)) D q ad d 4 4 [(0, .ref (ad j0)), (1, .int v1), (2, .int v2)] [] S) (j0 : Nat) (hj0 : isK 0 j0) (v1 : Int32) (v2 : Int32) (S : Sx) (rv : Int32) (S' : Sx) (ho : o_X0_letHourGoBy_47 ok j0 v1 v2 S) (he : b_X0_letHourGoBy_47 kk j0 v1 v2 S = (rv, S')) : Jg p l e rm_X0_letHourGoBy s m args below meth c 0 0 (MQ below (Qi D q ad d rv S' s.heap.size) args s 0 0 (AU ad s.heap.size)) D q ad d 4 47 [(0, .ref (ad j0)), (1, .int v1), (2, .int v2)] [] S := by
  unfold b_X0_letHourGoBy_47 at he
  unfold o_X0_letHourGoBy_47 at ho
  refine j_iinc X 1 (v1 + 1) [(1, .int (v1 + 1)), (0, .ref (ad j0)), (2, .int v2)] dX0_letHourGoBy_47 rfl rfl (by decide) rfl ?_
  refine j_goto X 62 dX0_letHourGoBy_50 (by decide) ?_
  refine j_lv [1, 0, 2] [(0, .ref (ad j0)), (1, .int (v1 + 1)), (2, .int v2)] rfl ?_
  exact t_X0_letHourGoBy_62 X hr hlocks kk ok hkk j0 hj0 (v1 + 1) v2 S _ _ ho he
def b_X0_letHourGoBy_4 : Nat → Nat → Int32 → Int32 → Sx → Int32 × Sx
  | 0, _, _, _, S => (0, S)
  | n + 1, j0, v1, v2, S => if (S j0 6) ≤ v2 then b_X0_letHourGoBy_80 100 j0 v1 (b_J9_floorMod_7cf53_0 (S j0 0) 24 S) 0 S else if (b_X1_isRolling_0 (j0 + 11 + v2.toNatClampNeg) S) = 0 then b_X0_letHourGoBy_62 (b_X0_letHourGoBy_4 n) j0 v1 v2 (b_X1_rest_0 (j0 + 11 + v2.toNatClampNeg) S) else b_X0_letHourGoBy_47 (b_X0_letHourGoBy_4 n) j0 v1 v2 (b_X1_rollForAnHour_0 (j0 + 11 + v2.toNatClampNeg) (j0 + 7 + (S (j0 + 11 + v2.toNatClampNeg) 4).toNatClampNeg) S)
def o_X0_letHourGoBy_4 : Nat → Nat → Int32 → Int32 → Sx → Prop
  | 0, _, _, _, _ => False
  | n + 1, j0, v1, v2, S => ((S j0 6) ≤ v2 → (o_J9_floorMod_7cf53_0 (S j0 0) 24 S ∧ (o_X0_letHourGoBy_80 100 j0 v1 (b_J9_floorMod_7cf53_0 (S j0 0) 24 S) 0 S))) ∧ (¬ (S j0 6) ≤ v2 → (vp_in v2 5 ∧ (o_X1_isRolling_0 (j0 + 11 + v2.toNatClampNeg) S ∧ (((b_X1_isRolling_0 (j0 + 11 + v2.toNatClampNeg) S) = 0 → (vp_in v2 5 ∧ (o_X0_letHourGoBy_62 (o_X0_letHourGoBy_4 n) j0 v1 v2 (b_X1_rest_0 (j0 + 11 + v2.toNatClampNeg) S)))) ∧ (¬ (b_X1_isRolling_0 (j0 + 11 + v2.toNatClampNeg) S) = 0 → (vp_in v2 5 ∧ (vp_in v2 5 ∧ (vp_in (S (j0 + 11 + v2.toNatClampNeg) 4) 4 ∧ (o_X0_letHourGoBy_47 (o_X0_letHourGoBy_4 n) j0 v1 v2 (b_X1_rollForAnHour_0 (j0 + 11 + v2.toNatClampNeg) (j0 + 7 + (S (j0 + 11 + v2.toNatClampNeg) 4).toNatClampNeg) S))))))))))
set_option maxRecDepth 20000 in
theorem t_X0_letHourGoBy_4 (X : Cx p m c cX0_letHourGoBy 4 s args RX0 D q ad) (hr : meth.sig.returnType = some .int) (hlocks : meth.locks = false) : ∀ (n : Nat) (j0 : Nat) (hj0 : isK 0 j0) (v1 : Int32) (v2 : Int32) (S : Sx) (rv : Int32) (S' : Sx) (ho : o_X0_letHourGoBy_4 n j0 v1 v2 S) (he : b_X0_letHourGoBy_4 n j0 v1 v2 S = (rv, S')), Jg p l e rm_X0_letHourGoBy s m args below meth c 0 0 (MQ below (Qi D q ad d rv S' s.heap.size) args s 0 0 (AU ad s.heap.size)) D q ad d 4 4 [(0, .ref (ad j0)), (1, .int v1), (2, .int v2)] [] S := by
  intro n
  induction n with
  | zero =>
    intro j0 hj0 v1 v2 S rv S' ho he
    unfold o_X0_letHourGoBy_4 at ho
    exact ho.elim
  | succ n ih =>
    intro j0 hj0 v1 v2 S rv S' ho he
    unfold b_X0_letHourGoBy_4 at he
    unfold o_X0_letHourGoBy_4 at ho
    refine j_iload_n X 2 dX0_letHourGoBy_4 rfl ?_
    refine j_aload_n X 0 dX0_letHourGoBy_5 rfl ?_
    refine gf_0_6 X m_fl_X0_58 hj0 dX0_letHourGoBy_6 ?_
    refine j_icmp_ge X 68 dX0_letHourGoBy_9 (by decide) (fun h2 => ?_) (fun h2 => ?_)
    · rw [if_pos h2] at he
      have ho := ho.1 h2
      refine j_aload_n X 0 dX0_letHourGoBy_68 rfl ?_
      refine gf_0_0 X m_fl_X0_46 hj0 dX0_letHourGoBy_69 ?_
      refine j_bipush (v := 24) X dX0_letHourGoBy_72 (by decide) ?_
      have h3 := ho.1
      have ho := ho.2
      refine j_callTi (rest := []) X (c_J9_floorMod_7cf53 (cx_inj X) (S j0 0) 24 S h3) cw_X0_88 ⟨rfl, rfl, Nat.le_of_ble_eq_true rfl, Nat.le_of_ble_eq_true rfl⟩ rfl rfl (Nat.le_of_ble_eq_true rfl) ⟨Nat.le_of_ble_eq_true rfl, Nat.le_of_ble_eq_true rfl⟩ dX0_letHourGoBy_74 ?_
      refine j_istore_n X [(2, .int (b_J9_floorMod_7cf53_0 (S j0 0) 24 S)), (0, .ref (ad j0)), (1, .int v1)] dX0_letHourGoBy_77 (by decide) rfl ?_
      refine j_iconst (v := 0) X dX0_letHourGoBy_78 (by decide) ?_
      refine j_istore_n X [(3, .int 0), (2, .int (b_J9_floorMod_7cf53_0 (S j0 0) 24 S)), (0, .ref (ad j0)), (1, .int v1)] dX0_letHourGoBy_79 (by decide) rfl ?_
      refine j_lv [2, 3, 1, 0] [(0, .ref (ad j0)), (1, .int v1), (2, .int (b_J9_floorMod_7cf53_0 (S j0 0) 24 S)), (3, .int 0)] rfl ?_
      exact t_X0_letHourGoBy_80 X hr hlocks 100 j0 hj0 v1 (b_J9_floorMod_7cf53_0 (S j0 0) 24 S) 0 S _ _ ho he
    · rw [if_neg h2] at he
      have ho := ho.2 h2
      refine j_aload_n X 0 dX0_letHourGoBy_12 rfl ?_
      refine gf_0_7 X m_fl_X0_30 hj0 dX0_letHourGoBy_13 ?_
      refine j_iload_n X 2 dX0_letHourGoBy_16 rfl ?_
      have h4 := ho.1
      have ho := ho.2
      refine j_aald (a := ad (j0 + 11 + v2.toNatClampNeg)) X 2 (k0_5 hj0).1 (cl_5 (k0_5 hj0)) rfl h4 rfl dX0_letHourGoBy_17 ?_
      have hk5 : isK 8 (j0 + 11 + v2.toNatClampNeg) := k0_8 hj0 (vlt h4)
      have h6 := ho.1
      have ho := ho.2
      refine j_callVi (rest := []) X (c_X1_isRolling (cx_inj X) (j0 + 11 + v2.toNatClampNeg) hk5 S h6) cw_X0_129 hk5.1 (cl_8 hk5) rfl ⟨rfl, rfl, Nat.le_of_ble_eq_true rfl, Nat.le_of_ble_eq_true rfl⟩ rfl rfl (Nat.le_of_ble_eq_true rfl) ⟨Nat.le_of_ble_eq_true rfl, Nat.le_of_ble_eq_true rfl⟩ dX0_letHourGoBy_18 ?_
      refine j_if_eq X 53 dX0_letHourGoBy_21 (by decide) (fun h7 => ?_) (fun h7 => ?_)
      · rw [if_pos h7] at he
        have ho := ho.1 h7
        refine j_aload_n X 0 dX0_letHourGoBy_53 rfl ?_
        refine gf_0_7 X m_fl_X0_30 hj0 dX0_letHourGoBy_54 ?_
        refine j_iload_n X 2 dX0_letHourGoBy_57 rfl ?_
        have h8 := ho.1
        have ho := ho.2
        refine j_aald (a := ad (j0 + 11 + v2.toNatClampNeg)) X 2 (k0_5 hj0).1 (cl_5 (k0_5 hj0)) rfl h8 rfl dX0_letHourGoBy_58 ?_
        have hk9 : isK 8 (j0 + 11 + v2.toNatClampNeg) := k0_8 hj0 (vlt h8)
        refine j_callVv (rest := []) X (c_X1_rest (cx_inj X) (j0 + 11 + v2.toNatClampNeg) hk9 S) cw_X0_188 hk9.1 (cl_8 hk9) rfl ⟨rfl, rfl, Nat.le_of_ble_eq_true rfl, Nat.le_of_ble_eq_true rfl⟩ rfl rfl (Nat.le_of_ble_eq_true rfl) ⟨Nat.le_of_ble_eq_true rfl, Nat.le_of_ble_eq_true rfl⟩ dX0_letHourGoBy_59 ?_
        exact t_X0_letHourGoBy_62 X hr hlocks (b_X0_letHourGoBy_4 n) (o_X0_letHourGoBy_4 n) ih j0 hj0 v1 v2 (b_X1_rest_0 (j0 + 11 + v2.toNatClampNeg) S) _ _ ho he
      · rw [if_neg h7] at he
        have ho := ho.2 h7
        refine j_aload_n X 0 dX0_letHourGoBy_24 rfl ?_
        refine gf_0_7 X m_fl_X0_30 hj0 dX0_letHourGoBy_25 ?_
        refine j_iload_n X 2 dX0_letHourGoBy_28 rfl ?_
        have h10 := ho.1
        have ho := ho.2
        refine j_aald (a := ad (j0 + 11 + v2.toNatClampNeg)) X 2 (k0_5 hj0).1 (cl_5 (k0_5 hj0)) rfl h10 rfl dX0_letHourGoBy_29 ?_
        have hk11 : isK 8 (j0 + 11 + v2.toNatClampNeg) := k0_8 hj0 (vlt h10)
        refine j_aload_n X 0 dX0_letHourGoBy_30 rfl ?_
        refine gf_0_5 X m_fl_X0_24 hj0 dX0_letHourGoBy_31 ?_
        refine j_aload_n X 0 dX0_letHourGoBy_34 rfl ?_
        refine gf_0_7 X m_fl_X0_30 hj0 dX0_letHourGoBy_35 ?_
        refine j_iload_n X 2 dX0_letHourGoBy_38 rfl ?_
        have h12 := ho.1
        have ho := ho.2
        refine j_aald (a := ad (j0 + 11 + v2.toNatClampNeg)) X 2 (k0_5 hj0).1 (cl_5 (k0_5 hj0)) rfl h12 rfl dX0_letHourGoBy_39 ?_
        have hk13 : isK 8 (j0 + 11 + v2.toNatClampNeg) := k0_8 hj0 (vlt h12)
        refine gf_8_4 X m_fl_X0_80 hk13 dX0_letHourGoBy_40 ?_
        have h14 := ho.1
        have ho := ho.2
        refine j_aald (a := ad (j0 + 7 + (S (j0 + 11 + v2.toNatClampNeg) 4).toNatClampNeg)) X 1 (k0_4 hj0).1 (cl_4 (k0_4 hj0)) rfl h14 rfl dX0_letHourGoBy_43 ?_
        have hk15 : isK 7 (j0 + 7 + (S (j0 + 11 + v2.toNatClampNeg) 4).toNatClampNeg) := k0_7 hj0 (vlt h14)
        refine j_callVv (rest := []) X (c_X1_rollForAnHour (cx_inj X) (j0 + 11 + v2.toNatClampNeg) hk11 (j0 + 7 + (S (j0 + 11 + v2.toNatClampNeg) 4).toNatClampNeg) hk15 S) cw_X0_185 hk11.1 (cl_8 hk11) rfl ⟨rfl, rfl, Nat.le_of_ble_eq_true rfl, Nat.le_of_ble_eq_true rfl⟩ rfl rfl (Nat.le_of_ble_eq_true rfl) ⟨Nat.le_of_ble_eq_true rfl, Nat.le_of_ble_eq_true rfl⟩ dX0_letHourGoBy_44 ?_
        exact t_X0_letHourGoBy_47 X hr hlocks (b_X0_letHourGoBy_4 n) (o_X0_letHourGoBy_4 n) ih j0 hj0 v1 v2 (b_X1_rollForAnHour_0 (j0 + 11 + v2.toNatClampNeg) (j0 + 7 + (S (j0 + 11 + v2.toNatClampNeg) 4).toNatClampNeg) S) _ _ ho he
def b_X0_letHourGoBy_0 (this : Nat) (S : Sx) : Int32 × Sx := b_X0_letHourGoBy_4 100 this 0 0 S
def o_X0_letHourGoBy_0 (this : Nat) (S : Sx) : Prop := o_X0_letHourGoBy_4 100 this 0 0 S
set_option maxRecDepth 20000 in
theorem t_X0_letHourGoBy_0 (X : Cx p m c cX0_letHourGoBy 4 s args RX0 D q ad) (hr : meth.sig.returnType = some .int) (hlocks : meth.locks = false) (this : Nat) (hthis : isK 0 this) (S : Sx) (rv : Int32) (S' : Sx) (ho : o_X0_letHourGoBy_0 this S) (he : b_X0_letHourGoBy_0 this S = (rv, S')) : Jg p l e rm_X0_letHourGoBy s m args below meth c 0 0 (MQ below (Qi D q ad d rv S' s.heap.size) args s 0 0 (AU ad s.heap.size)) D q ad d 4 0 [(0, .ref (ad this))] [] S := by
  unfold b_X0_letHourGoBy_0 at he
  unfold o_X0_letHourGoBy_0 at ho
  refine j_iconst (v := 0) X dX0_letHourGoBy_0 (by decide) ?_
  refine j_istore_n X [(1, .int 0), (0, .ref (ad this))] dX0_letHourGoBy_1 (by decide) rfl ?_
  refine j_iconst (v := 0) X dX0_letHourGoBy_2 (by decide) ?_
  refine j_istore_n X [(2, .int 0), (1, .int 0), (0, .ref (ad this))] dX0_letHourGoBy_3 (by decide) rfl ?_
  refine j_lv [2, 1, 0] [(0, .ref (ad this)), (1, .int 0), (2, .int 0)] rfl ?_
  exact t_X0_letHourGoBy_4 X hr hlocks 100 this hthis 0 0 S _ _ ho he
theorem c_X0_letHourGoBy {l : Launch} {D : va_G} {q : Nat → ClassId} {ad : Nat → Nat} {d : UInt64} (hI : inj4 ad) (this : Nat) (hthis : isK 0 this) (S : Sx) (ho : o_X0_letHourGoBy_0 this S) : CI l yX0_letHourGoBy cX0_letHourGoBy 4 .int rm_X0_letHourGoBy D q ad d [.ref (ad this)] S (b_X0_letHourGoBy_0 this S).1 (b_X0_letHourGoBy_0 this S).2 := ci_of hI (by decide +kernel) (Nat.le_of_ble_eq_true rfl) rfl (fun p e s m args below meth c X hr hlocks => t_X0_letHourGoBy_0 X hr hlocks this hthis S _ _ ho (pe _))
end
/-! RX0.letHoursGoBy -/
abbrev rm_X0_letHoursGoBy : Room := { frames := 3, cells := 0, slots := 0, locals := 67 }
section
variable {p : Program} {l : Launch} {e : Env} {s : State} {m : MethodId} {args : Array Value} {below : List Frame} {meth : Method} {c : Code} {D : va_G} {q : Nat → ClassId} {ad : Nat → Nat} {d : UInt64}
def b_X0_letHoursGoBy_4 : Nat → Nat → Int32 → Int32 → Int32 → Sx → Int32 × Sx
  | 0, _, _, _, _, S => (0, S)
  | n + 1, j0, v1, v2, v3, S => if v1 ≤ v3 then (v2, S) else b_X0_letHoursGoBy_4 n j0 v1 (v2 + ((b_X0_letHourGoBy_0 j0 S).1)) (v3 + 1) ((b_X0_letHourGoBy_0 j0 S).2)
def o_X0_letHoursGoBy_4 : Nat → Nat → Int32 → Int32 → Int32 → Sx → Prop
  | 0, _, _, _, _, _ => False
  | n + 1, j0, v1, v2, v3, S => (v1 ≤ v3 → True) ∧ (¬ v1 ≤ v3 → (o_X0_letHourGoBy_0 j0 S ∧ (o_X0_letHoursGoBy_4 n j0 v1 (v2 + ((b_X0_letHourGoBy_0 j0 S).1)) (v3 + 1) ((b_X0_letHourGoBy_0 j0 S).2))))
set_option maxRecDepth 20000 in
theorem t_X0_letHoursGoBy_4 (X : Cx p m c cX0_letHoursGoBy 4 s args RX0 D q ad) (hr : meth.sig.returnType = some .int) (hlocks : meth.locks = false) : ∀ (n : Nat) (j0 : Nat) (hj0 : isK 0 j0) (v1 : Int32) (v2 : Int32) (v3 : Int32) (S : Sx) (rv : Int32) (S' : Sx) (ho : o_X0_letHoursGoBy_4 n j0 v1 v2 v3 S) (he : b_X0_letHoursGoBy_4 n j0 v1 v2 v3 S = (rv, S')), Jg p l e rm_X0_letHoursGoBy s m args below meth c 0 0 (MQ below (Qi D q ad d rv S' s.heap.size) args s 0 0 (AU ad s.heap.size)) D q ad d 4 4 [(0, .ref (ad j0)), (1, .int v1), (2, .int v2), (3, .int v3)] [] S := by
  intro n
  induction n with
  | zero =>
    intro j0 hj0 v1 v2 v3 S rv S' ho he
    unfold o_X0_letHoursGoBy_4 at ho
    exact ho.elim
  | succ n ih =>
    intro j0 hj0 v1 v2 v3 S rv S' ho he
    unfold b_X0_letHoursGoBy_4 at he
    unfold o_X0_letHoursGoBy_4 at ho
    refine j_iload_n X 3 dX0_letHoursGoBy_4 rfl ?_
    refine j_iload_n X 1 dX0_letHoursGoBy_5 rfl ?_
    refine j_icmp_ge X 22 dX0_letHoursGoBy_6 (by decide) (fun h2 => ?_) (fun h2 => ?_)
    · rw [if_pos h2] at he
      have ho := ho.1 h2
      refine j_iload_n X 2 dX0_letHoursGoBy_22 rfl ?_
      exact j_iret X hr hlocks dX0_letHoursGoBy_23 (congrArg Prod.fst he) (congrArg Prod.snd he)
    · rw [if_neg h2] at he
      have ho := ho.2 h2
      refine j_iload_n X 2 dX0_letHoursGoBy_9 rfl ?_
      refine j_aload_n X 0 dX0_letHoursGoBy_10 rfl ?_
      have h3 := ho.1
      have ho := ho.2
      refine j_callVi (rest := [.int v2]) X (c_X0_letHourGoBy (cx_inj X) j0 hj0 S h3) cw_X0_181 hj0.1 (cl_0 hj0) rfl ⟨rfl, rfl, Nat.le_of_ble_eq_true rfl, Nat.le_of_ble_eq_true rfl⟩ rfl rfl (Nat.le_of_ble_eq_true rfl) ⟨Nat.le_of_ble_eq_true rfl, Nat.le_of_ble_eq_true rfl⟩ dX0_letHoursGoBy_11 ?_
      refine j_iadd X dX0_letHoursGoBy_14 ?_
      refine j_istore_n X [(2, .int (v2 + ((b_X0_letHourGoBy_0 j0 S).1))), (0, .ref (ad j0)), (1, .int v1), (3, .int v3)] dX0_letHoursGoBy_15 (by decide) rfl ?_
      refine j_iinc X 3 (v3 + 1) [(3, .int (v3 + 1)), (2, .int (v2 + ((b_X0_letHourGoBy_0 j0 S).1))), (0, .ref (ad j0)), (1, .int v1)] dX0_letHoursGoBy_16 rfl rfl (by decide) rfl ?_
      refine j_goto X 4 dX0_letHoursGoBy_19 (by decide) ?_
      refine j_lv [2, 3, 1, 0] [(0, .ref (ad j0)), (1, .int v1), (2, .int (v2 + ((b_X0_letHourGoBy_0 j0 S).1))), (3, .int (v3 + 1))] rfl ?_
      exact ih j0 hj0 v1 (v2 + ((b_X0_letHourGoBy_0 j0 S).1)) (v3 + 1) ((b_X0_letHourGoBy_0 j0 S).2) _ _ ho he
def b_X0_letHoursGoBy_0 (this : Nat) (x1 : Int32) (S : Sx) : Int32 × Sx := b_X0_letHoursGoBy_4 100 this x1 0 0 S
def o_X0_letHoursGoBy_0 (this : Nat) (x1 : Int32) (S : Sx) : Prop := o_X0_letHoursGoBy_4 100 this x1 0 0 S
set_option maxRecDepth 20000 in
theorem t_X0_letHoursGoBy_0 (X : Cx p m c cX0_letHoursGoBy 4 s args RX0 D q ad) (hr : meth.sig.returnType = some .int) (hlocks : meth.locks = false) (this : Nat) (hthis : isK 0 this) (x1 : Int32) (S : Sx) (rv : Int32) (S' : Sx) (ho : o_X0_letHoursGoBy_0 this x1 S) (he : b_X0_letHoursGoBy_0 this x1 S = (rv, S')) : Jg p l e rm_X0_letHoursGoBy s m args below meth c 0 0 (MQ below (Qi D q ad d rv S' s.heap.size) args s 0 0 (AU ad s.heap.size)) D q ad d 4 0 [(0, .ref (ad this)), (1, .int x1)] [] S := by
  unfold b_X0_letHoursGoBy_0 at he
  unfold o_X0_letHoursGoBy_0 at ho
  refine j_iconst (v := 0) X dX0_letHoursGoBy_0 (by decide) ?_
  refine j_istore_n X [(2, .int 0), (0, .ref (ad this)), (1, .int x1)] dX0_letHoursGoBy_1 (by decide) rfl ?_
  refine j_iconst (v := 0) X dX0_letHoursGoBy_2 (by decide) ?_
  refine j_istore_n X [(3, .int 0), (2, .int 0), (0, .ref (ad this)), (1, .int x1)] dX0_letHoursGoBy_3 (by decide) rfl ?_
  refine j_lv [2, 3, 1, 0] [(0, .ref (ad this)), (1, .int x1), (2, .int 0), (3, .int 0)] rfl ?_
  exact t_X0_letHoursGoBy_4 X hr hlocks 100 this hthis x1 0 0 S _ _ ho he
theorem c_X0_letHoursGoBy {l : Launch} {D : va_G} {q : Nat → ClassId} {ad : Nat → Nat} {d : UInt64} (hI : inj4 ad) (this : Nat) (hthis : isK 0 this) (x1 : Int32) (S : Sx) (ho : o_X0_letHoursGoBy_0 this x1 S) : CI l yX0_letHoursGoBy cX0_letHoursGoBy 4 .int rm_X0_letHoursGoBy D q ad d [.ref (ad this), .int x1] S (b_X0_letHoursGoBy_0 this x1 S).1 (b_X0_letHoursGoBy_0 this x1 S).2 := ci_of hI (by decide +kernel) (Nat.le_of_ble_eq_true rfl) rfl (fun p e s m args below meth c X hr hlocks => t_X0_letHoursGoBy_0 X hr hlocks this hthis x1 S _ _ ho (pe _))
end
/-! RX1.isBetterThan -/
abbrev rm_X1_isBetterThan : Room := { frames := 0, cells := 0, slots := 0, locals := 0 }
section
variable {p : Program} {l : Launch} {e : Env} {s : State} {m : MethodId} {args : Array Value} {below : List Frame} {meth : Method} {c : Code} {D : va_G} {q : Nat → ClassId} {ad : Nat → Nat} {d : UInt64}
def b_X1_isBetterThan_44 (w0 : Int32) (S : Sx) : Int32 := w0
def o_X1_isBetterThan_44 (w0 : Int32) (S : Sx) : Prop := bz w0 ∧ True
set_option maxRecDepth 20000 in
theorem t_X1_isBetterThan_44 (X : Cx p m c cX1_isBetterThan 2 s args RX1 D q ad) (hr : meth.sig.returnType = some .boolean) (hlocks : meth.locks = false) (w0 : Int32) (S : Sx) (rv : Int32) (ho : o_X1_isBetterThan_44 w0 S) (he : b_X1_isBetterThan_44 w0 S = rv) : Jg p l e rm_X1_isBetterThan s m args below meth c 0 0 (MQ below (Qi D q ad d rv S s.heap.size) args s 0 0 (AU ad s.heap.size)) D q ad d 2 44 [] [.int w0] S := by
  unfold b_X1_isBetterThan_44 at he
  unfold o_X1_isBetterThan_44 at ho
  have h2 := ho.1
  have ho := ho.2
  exact j_zret X hr hlocks (bz_narrow h2) dX1_isBetterThan_44 he rfl
def b_X1_isBetterThan_27 (w0 : Int32) (S : Sx) : Int32 := w0
def o_X1_isBetterThan_27 (w0 : Int32) (S : Sx) : Prop := bz w0 ∧ True
set_option maxRecDepth 20000 in
theorem t_X1_isBetterThan_27 (X : Cx p m c cX1_isBetterThan 2 s args RX1 D q ad) (hr : meth.sig.returnType = some .boolean) (hlocks : meth.locks = false) (w0 : Int32) (S : Sx) (rv : Int32) (ho : o_X1_isBetterThan_27 w0 S) (he : b_X1_isBetterThan_27 w0 S = rv) : Jg p l e rm_X1_isBetterThan s m args below meth c 0 0 (MQ below (Qi D q ad d rv S s.heap.size) args s 0 0 (AU ad s.heap.size)) D q ad d 2 27 [] [.int w0] S := by
  unfold b_X1_isBetterThan_27 at he
  unfold o_X1_isBetterThan_27 at ho
  have h2 := ho.1
  have ho := ho.2
  exact j_zret X hr hlocks (bz_narrow h2) dX1_isBetterThan_27 he rfl
def b_X1_isBetterThan_0 (this : Nat) (r1 : Nat) (S : Sx) : Int32 := if (S this 0) = (S r1 0) then if (S r1 2) ≤ (S this 2) then b_X1_isBetterThan_44 0 S else b_X1_isBetterThan_44 1 S else if (S this 0) ≤ (S r1 0) then b_X1_isBetterThan_27 0 S else b_X1_isBetterThan_27 1 S
def o_X1_isBetterThan_0 (this : Nat) (r1 : Nat) (S : Sx) : Prop := ((S this 0) = (S r1 0) → (((S r1 2) ≤ (S this 2) → (o_X1_isBetterThan_44 0 S)) ∧ (¬ (S r1 2) ≤ (S this 2) → (o_X1_isBetterThan_44 1 S)))) ∧ (¬ (S this 0) = (S r1 0) → (((S this 0) ≤ (S r1 0) → (o_X1_isBetterThan_27 0 S)) ∧ (¬ (S this 0) ≤ (S r1 0) → (o_X1_isBetterThan_27 1 S))))
set_option maxRecDepth 20000 in
theorem t_X1_isBetterThan_0 (X : Cx p m c cX1_isBetterThan 2 s args RX1 D q ad) (hr : meth.sig.returnType = some .boolean) (hlocks : meth.locks = false) (this : Nat) (hthis : isK 8 this) (r1 : Nat) (hr1 : isK 8 r1) (S : Sx) (rv : Int32) (ho : o_X1_isBetterThan_0 this r1 S) (he : b_X1_isBetterThan_0 this r1 S = rv) : Jg p l e rm_X1_isBetterThan s m args below meth c 0 0 (MQ below (Qi D q ad d rv S s.heap.size) args s 0 0 (AU ad s.heap.size)) D q ad d 2 0 [(0, .ref (ad this)), (1, .ref (ad r1))] [] S := by
  unfold b_X1_isBetterThan_0 at he
  unfold o_X1_isBetterThan_0 at ho
  refine j_aload_n X 0 dX1_isBetterThan_0 rfl ?_
  refine gf_8_0 X m_fl_X1_9 hthis dX1_isBetterThan_1 ?_
  refine j_aload_n X 1 dX1_isBetterThan_4 rfl ?_
  refine gf_8_0 X m_fl_X1_9 hr1 dX1_isBetterThan_5 ?_
  refine j_icmp_eq X 28 dX1_isBetterThan_8 (by decide) (fun h2 => ?_) (fun h2 => ?_)
  · rw [if_pos h2] at he
    have ho := ho.1 h2
    refine j_aload_n X 0 dX1_isBetterThan_28 rfl ?_
    refine gf_8_2 X m_fl_X1_19 hthis dX1_isBetterThan_29 ?_
    refine j_aload_n X 1 dX1_isBetterThan_32 rfl ?_
    refine gf_8_2 X m_fl_X1_19 hr1 dX1_isBetterThan_33 ?_
    refine j_icmp_ge X 43 dX1_isBetterThan_36 (by decide) (fun h3 => ?_) (fun h3 => ?_)
    · rw [if_pos h3] at he
      have ho := ho.1 h3
      refine j_iconst (v := 0) X dX1_isBetterThan_43 (by decide) ?_
      refine j_lv [] [] rfl ?_
      exact t_X1_isBetterThan_44 X hr hlocks 0 S _ ho he
    · rw [if_neg h3] at he
      have ho := ho.2 h3
      refine j_iconst (v := 1) X dX1_isBetterThan_39 (by decide) ?_
      refine j_goto X 44 dX1_isBetterThan_40 (by decide) ?_
      refine j_lv [] [] rfl ?_
      exact t_X1_isBetterThan_44 X hr hlocks 1 S _ ho he
  · rw [if_neg h2] at he
    have ho := ho.2 h2
    refine j_aload_n X 0 dX1_isBetterThan_11 rfl ?_
    refine gf_8_0 X m_fl_X1_9 hthis dX1_isBetterThan_12 ?_
    refine j_aload_n X 1 dX1_isBetterThan_15 rfl ?_
    refine gf_8_0 X m_fl_X1_9 hr1 dX1_isBetterThan_16 ?_
    refine j_icmp_le X 26 dX1_isBetterThan_19 (by decide) (fun h4 => ?_) (fun h4 => ?_)
    · rw [if_pos h4] at he
      have ho := ho.1 h4
      refine j_iconst (v := 0) X dX1_isBetterThan_26 (by decide) ?_
      refine j_lv [] [] rfl ?_
      exact t_X1_isBetterThan_27 X hr hlocks 0 S _ ho he
    · rw [if_neg h4] at he
      have ho := ho.2 h4
      refine j_iconst (v := 1) X dX1_isBetterThan_22 (by decide) ?_
      refine j_goto X 27 dX1_isBetterThan_23 (by decide) ?_
      refine j_lv [] [] rfl ?_
      exact t_X1_isBetterThan_27 X hr hlocks 1 S _ ho he
theorem c_X1_isBetterThan {l : Launch} {D : va_G} {q : Nat → ClassId} {ad : Nat → Nat} {d : UInt64} (hI : inj4 ad) (this : Nat) (hthis : isK 8 this) (r1 : Nat) (hr1 : isK 8 r1) (S : Sx) (ho : o_X1_isBetterThan_0 this r1 S) : CI l yX1_isBetterThan cX1_isBetterThan 2 .boolean rm_X1_isBetterThan D q ad d [.ref (ad this), .ref (ad r1)] S (b_X1_isBetterThan_0 this r1 S) S := ci_of hI (by decide +kernel) (Nat.le_of_ble_eq_true rfl) rfl (fun p e s m args below meth c X hr hlocks => t_X1_isBetterThan_0 X hr hlocks this hthis r1 hr1 S _ ho rfl)
end
/-! RX0.bestRollerFor -/
abbrev rm_X0_bestRollerFor : Room := { frames := 4, cells := 0, slots := 0, locals := 88 }
section
variable {p : Program} {l : Launch} {e : Env} {s : State} {m : MethodId} {args : Array Value} {below : List Frame} {meth : Method} {c : Code} {D : va_G} {q : Nat → ClassId} {ad : Nat → Nat} {d : UInt64}
def b_X0_bestRollerFor_59 (kk : Nat → Int32 → Int32 → Int32 → Sx → Int32) (j0 : Nat) (v1 : Int32) (v2 : Int32) (v3 : Int32) (S : Sx) : Int32 := kk j0 v1 v2 (v3 + 1) S
def o_X0_bestRollerFor_59 (ok : Nat → Int32 → Int32 → Int32 → Sx → Prop) (j0 : Nat) (v1 : Int32) (v2 : Int32) (v3 : Int32) (S : Sx) : Prop := ok j0 v1 v2 (v3 + 1) S
set_option maxRecDepth 20000 in
theorem t_X0_bestRollerFor_59 (X : Cx p m c cX0_bestRollerFor 5 s args RX0 D q ad) (hr : meth.sig.returnType = some .int) (hlocks : meth.locks = false) (kk : Nat → Int32 → Int32 → Int32 → Sx → Int32) (ok : Nat → Int32 → Int32 → Int32 → Sx → Prop) (hkk : ∀ (j0 : Nat) (hj0 : isK 0 j0) (v1 : Int32) (v2 : Int32) (v3 : Int32) (S : Sx) (rv : Int32) (ho : ok j0 v1 v2 v3 S) (he : kk j0 v1 v2 v3 S = rv), Jg p l e rm_X0_bestRollerFor s m args below meth c 0 0 (MQ below (Qi D q ad d rv S s.heap.size) args s 0 0 (AU ad s.heap.size)) D q ad d 5 4 [(0, .ref (ad j0)), (1, .int v1), (2, .int v2), (3, .int v3)] [] S) (j0 : Nat) (hj0 : isK 0 j0) (v1 : Int32) (v2 : Int32) (v3 : Int32) (S : Sx) (rv : Int32) (ho : o_X0_bestRollerFor_59 ok j0 v1 v2 v3 S) (he : b_X0_bestRollerFor_59 kk j0 v1 v2 v3 S = rv) : Jg p l e rm_X0_bestRollerFor s m args below meth c 0 0 (MQ below (Qi D q ad d rv S s.heap.size) args s 0 0 (AU ad s.heap.size)) D q ad d 5 59 [(0, .ref (ad j0)), (1, .int v1), (2, .int v2), (3, .int v3)] [] S := by
  unfold b_X0_bestRollerFor_59 at he
  unfold o_X0_bestRollerFor_59 at ho
  refine j_iinc X 3 (v3 + 1) [(3, .int (v3 + 1)), (0, .ref (ad j0)), (1, .int v1), (2, .int v2)] dX0_bestRollerFor_59 rfl rfl (by decide) rfl ?_
  refine j_goto X 4 dX0_bestRollerFor_62 (by decide) ?_
  refine j_lv [1, 2, 3, 0] [(0, .ref (ad j0)), (1, .int v1), (2, .int v2), (3, .int (v3 + 1))] rfl ?_
  exact hkk j0 hj0 v1 v2 (v3 + 1) S _ ho he
def b_X0_bestRollerFor_57 (kk : Nat → Int32 → Int32 → Int32 → Sx → Int32) (j0 : Nat) (v1 : Int32) (v3 : Int32) (S : Sx) : Int32 := b_X0_bestRollerFor_59 kk j0 v1 v3 v3 S
def o_X0_bestRollerFor_57 (ok : Nat → Int32 → Int32 → Int32 → Sx → Prop) (j0 : Nat) (v1 : Int32) (v3 : Int32) (S : Sx) : Prop := o_X0_bestRollerFor_59 ok j0 v1 v3 v3 S
set_option maxRecDepth 20000 in
theorem t_X0_bestRollerFor_57 (X : Cx p m c cX0_bestRollerFor 5 s args RX0 D q ad) (hr : meth.sig.returnType = some .int) (hlocks : meth.locks = false) (kk : Nat → Int32 → Int32 → Int32 → Sx → Int32) (ok : Nat → Int32 → Int32 → Int32 → Sx → Prop) (hkk : ∀ (j0 : Nat) (hj0 : isK 0 j0) (v1 : Int32) (v2 : Int32) (v3 : Int32) (S : Sx) (rv : Int32) (ho : ok j0 v1 v2 v3 S) (he : kk j0 v1 v2 v3 S = rv), Jg p l e rm_X0_bestRollerFor s m args below meth c 0 0 (MQ below (Qi D q ad d rv S s.heap.size) args s 0 0 (AU ad s.heap.size)) D q ad d 5 4 [(0, .ref (ad j0)), (1, .int v1), (2, .int v2), (3, .int v3)] [] S) (j0 : Nat) (hj0 : isK 0 j0) (v1 : Int32) (v3 : Int32) (S : Sx) (rv : Int32) (ho : o_X0_bestRollerFor_57 ok j0 v1 v3 S) (he : b_X0_bestRollerFor_57 kk j0 v1 v3 S = rv) : Jg p l e rm_X0_bestRollerFor s m args below meth c 0 0 (MQ below (Qi D q ad d rv S s.heap.size) args s 0 0 (AU ad s.heap.size)) D q ad d 5 57 [(0, .ref (ad j0)), (1, .int v1), (3, .int v3)] [] S := by
  unfold b_X0_bestRollerFor_57 at he
  unfold o_X0_bestRollerFor_57 at ho
  refine j_iload_n X 2 dX0_bestRollerFor_57 rfl ?_
  refine j_istore_n X [(2, .int v3), (0, .ref (ad j0)), (1, .int v1), (3, .int v3)] dX0_bestRollerFor_58 (by decide) rfl ?_
  refine j_lv [1, 2, 0, 3] [(0, .ref (ad j0)), (1, .int v1), (2, .int v3), (3, .int v3)] rfl ?_
  exact t_X0_bestRollerFor_59 X hr hlocks kk ok hkk j0 hj0 v1 v3 v3 S _ ho he
def b_X0_bestRollerFor_27 (kk : Nat → Int32 → Int32 → Int32 → Sx → Int32) (j0 : Nat) (v1 : Int32) (v2 : Int32) (v3 : Int32) (w0 : Int32) (S : Sx) : Int32 := if w0 = 0 then b_X0_bestRollerFor_59 kk j0 v1 v2 v3 S else if v2 = (-1) then b_X0_bestRollerFor_57 kk j0 v1 v3 S else if (b_X1_isBetterThan_0 (j0 + 11 + v3.toNatClampNeg) (j0 + 11 + v2.toNatClampNeg) S) = 0 then b_X0_bestRollerFor_59 kk j0 v1 v2 v3 S else b_X0_bestRollerFor_57 kk j0 v1 v3 S
def o_X0_bestRollerFor_27 (ok : Nat → Int32 → Int32 → Int32 → Sx → Prop) (j0 : Nat) (v1 : Int32) (v2 : Int32) (v3 : Int32) (w0 : Int32) (S : Sx) : Prop := (w0 = 0 → (o_X0_bestRollerFor_59 ok j0 v1 v2 v3 S)) ∧ (¬ w0 = 0 → ((v2 = (-1) → (o_X0_bestRollerFor_57 ok j0 v1 v3 S)) ∧ (¬ v2 = (-1) → (vp_in v3 5 ∧ (vp_in v2 5 ∧ (o_X1_isBetterThan_0 (j0 + 11 + v3.toNatClampNeg) (j0 + 11 + v2.toNatClampNeg) S ∧ (((b_X1_isBetterThan_0 (j0 + 11 + v3.toNatClampNeg) (j0 + 11 + v2.toNatClampNeg) S) = 0 → (o_X0_bestRollerFor_59 ok j0 v1 v2 v3 S)) ∧ (¬ (b_X1_isBetterThan_0 (j0 + 11 + v3.toNatClampNeg) (j0 + 11 + v2.toNatClampNeg) S) = 0 → (o_X0_bestRollerFor_57 ok j0 v1 v3 S)))))))))
set_option maxRecDepth 20000 in
theorem t_X0_bestRollerFor_27 (X : Cx p m c cX0_bestRollerFor 5 s args RX0 D q ad) (hr : meth.sig.returnType = some .int) (hlocks : meth.locks = false) (kk : Nat → Int32 → Int32 → Int32 → Sx → Int32) (ok : Nat → Int32 → Int32 → Int32 → Sx → Prop) (hkk : ∀ (j0 : Nat) (hj0 : isK 0 j0) (v1 : Int32) (v2 : Int32) (v3 : Int32) (S : Sx) (rv : Int32) (ho : ok j0 v1 v2 v3 S) (he : kk j0 v1 v2 v3 S = rv), Jg p l e rm_X0_bestRollerFor s m args below meth c 0 0 (MQ below (Qi D q ad d rv S s.heap.size) args s 0 0 (AU ad s.heap.size)) D q ad d 5 4 [(0, .ref (ad j0)), (1, .int v1), (2, .int v2), (3, .int v3)] [] S) (j0 : Nat) (hj0 : isK 0 j0) (v1 : Int32) (v2 : Int32) (v3 : Int32) (w0 : Int32) (S : Sx) (rv : Int32) (ho : o_X0_bestRollerFor_27 ok j0 v1 v2 v3 w0 S) (he : b_X0_bestRollerFor_27 kk j0 v1 v2 v3 w0 S = rv) : Jg p l e rm_X0_bestRollerFor s m args below meth c 0 0 (MQ below (Qi D q ad d rv S s.heap.size) args s 0 0 (AU ad s.heap.size)) D q ad d 5 27 [(0, .ref (ad j0)), (1, .int v1), (2, .int v2), (3, .int v3)] [.int w0] S := by
  unfold b_X0_bestRollerFor_27 at he
  unfold o_X0_bestRollerFor_27 at ho
  refine j_istore X [(4, .int w0), (0, .ref (ad j0)), (1, .int v1), (2, .int v2), (3, .int v3)] dX0_bestRollerFor_27 (by decide) rfl ?_
  refine j_iload X 0 dX0_bestRollerFor_29 rfl ?_
  refine j_if_eq X 59 dX0_bestRollerFor_31 (by decide) (fun h2 => ?_) (fun h2 => ?_)
  · rw [if_pos h2] at he
    have ho := ho.1 h2
    refine j_lv [1, 2, 3, 4] [(0, .ref (ad j0)), (1, .int v1), (2, .int v2), (3, .int v3)] rfl ?_
    exact t_X0_bestRollerFor_59 X hr hlocks kk ok hkk j0 hj0 v1 v2 v3 S _ ho he
  · rw [if_neg h2] at he
    have ho := ho.2 h2
    refine j_iload_n X 3 dX0_bestRollerFor_34 rfl ?_
    refine j_iconst (v := (-1)) X dX0_bestRollerFor_35 (by decide) ?_
    refine j_icmp_eq X 57 dX0_bestRollerFor_36 (by decide) (fun h3 => ?_) (fun h3 => ?_)
    · rw [if_pos h3] at he
      have ho := ho.1 h3
      refine j_lv [1, 2, 4] [(0, .ref (ad j0)), (1, .int v1), (3, .int v3)] rfl ?_
      exact t_X0_bestRollerFor_57 X hr hlocks kk ok hkk j0 hj0 v1 v3 S _ ho he
    · rw [if_neg h3] at he
      have ho := ho.2 h3
      refine j_aload_n X 1 dX0_bestRollerFor_39 rfl ?_
      refine gf_0_7 X m_fl_X0_30 hj0 dX0_bestRollerFor_40 ?_
      refine j_iload_n X 4 dX0_bestRollerFor_43 rfl ?_
      have h4 := ho.1
      have ho := ho.2
      refine j_aald (a := ad (j0 + 11 + v3.toNatClampNeg)) X 2 (k0_5 hj0).1 (cl_5 (k0_5 hj0)) rfl h4 rfl dX0_bestRollerFor_44 ?_
      have hk5 : isK 8 (j0 + 11 + v3.toNatClampNeg) := k0_8 hj0 (vlt h4)
      refine j_aload_n X 1 dX0_bestRollerFor_45 rfl ?_
      refine gf_0_7 X m_fl_X0_30 hj0 dX0_bestRollerFor_46 ?_
      refine j_iload_n X 3 dX0_bestRollerFor_49 rfl ?_
      have h6 := ho.1
      have ho := ho.2
      refine j_aald (a := ad (j0 + 11 + v2.toNatClampNeg)) X 2 (k0_5 hj0).1 (cl_5 (k0_5 hj0)) rfl h6 rfl dX0_bestRollerFor_50 ?_
      have hk7 : isK 8 (j0 + 11 + v2.toNatClampNeg) := k0_8 hj0 (vlt h6)
      have h8 := ho.1
      have ho := ho.2
      refine j_callVi (rest := []) X (c_X1_isBetterThan (cx_inj X) (j0 + 11 + v3.toNatClampNeg) hk5 (j0 + 11 + v2.toNatClampNeg) hk7 S h8) cw_X0_198 hk5.1 (cl_8 hk5) rfl ⟨rfl, rfl, Nat.le_of_ble_eq_true rfl, Nat.le_of_ble_eq_true rfl⟩ rfl rfl (Nat.le_of_ble_eq_true rfl) ⟨Nat.le_of_ble_eq_true rfl, Nat.le_of_ble_eq_true rfl⟩ dX0_bestRollerFor_51 ?_
      refine j_if_eq X 59 dX0_bestRollerFor_54 (by decide) (fun h9 => ?_) (fun h9 => ?_)
      · rw [if_pos h9] at he
        have ho := ho.1 h9
        refine j_lv [1, 2, 3, 4] [(0, .ref (ad j0)), (1, .int v1), (2, .int v2), (3, .int v3)] rfl ?_
        exact t_X0_bestRollerFor_59 X hr hlocks kk ok hkk j0 hj0 v1 v2 v3 S _ ho he
      · rw [if_neg h9] at he
        have ho := ho.2 h9
        refine j_lv [1, 2, 4] [(0, .ref (ad j0)), (1, .int v1), (3, .int v3)] rfl ?_
        exact t_X0_bestRollerFor_57 X hr hlocks kk ok hkk j0 hj0 v1 v3 S _ ho he
def b_X0_bestRollerFor_4 : Nat → Nat → Int32 → Int32 → Int32 → Sx → Int32
  | 0, _, _, _, _, S => 0
  | n + 1, j0, v1, v2, v3, S => if (S j0 6) ≤ v3 then v2 else if (b_X0_rollVerdict_0 j0 v3 v1 1 S) = 0 then b_X0_bestRollerFor_27 (b_X0_bestRollerFor_4 n) j0 v1 v2 v3 1 S else b_X0_bestRollerFor_27 (b_X0_bestRollerFor_4 n) j0 v1 v2 v3 0 S
def o_X0_bestRollerFor_4 : Nat → Nat → Int32 → Int32 → Int32 → Sx → Prop
  | 0, _, _, _, _, _ => False
  | n + 1, j0, v1, v2, v3, S => ((S j0 6) ≤ v3 → True) ∧ (¬ (S j0 6) ≤ v3 → (o_X0_rollVerdict_0 j0 v3 v1 1 S ∧ (((b_X0_rollVerdict_0 j0 v3 v1 1 S) = 0 → (o_X0_bestRollerFor_27 (o_X0_bestRollerFor_4 n) j0 v1 v2 v3 1 S)) ∧ (¬ (b_X0_rollVerdict_0 j0 v3 v1 1 S) = 0 → (o_X0_bestRollerFor_27 (o_X0_bestRollerFor_4 n) j0 v1 v2 v3 0 S)))))
set_option maxRecDepth 20000 in
theorem t_X0_bestRollerFor_4 (X : Cx p m c cX0_bestRollerFor 5 s args RX0 D q ad) (hr : meth.sig.returnType = some .int) (hlocks : meth.locks = false) : ∀ (n : Nat) (j0 : Nat) (hj0 : isK 0 j0) (v1 : Int32) (v2 : Int32) (v3 : Int32) (S : Sx) (rv : Int32) (ho : o_X0_bestRollerFor_4 n j0 v1 v2 v3 S) (he : b_X0_bestRollerFor_4 n j0 v1 v2 v3 S = rv), Jg p l e rm_X0_bestRollerFor s m args below meth c 0 0 (MQ below (Qi D q ad d rv S s.heap.size) args s 0 0 (AU ad s.heap.size)) D q ad d 5 4 [(0, .ref (ad j0)), (1, .int v1), (2, .int v2), (3, .int v3)] [] S := by
  intro n
  induction n with
  | zero =>
    intro j0 hj0 v1 v2 v3 S rv ho he
    unfold o_X0_bestRollerFor_4 at ho
    exact ho.elim
  | succ n ih =>
    intro j0 hj0 v1 v2 v3 S rv ho he
    unfold b_X0_bestRollerFor_4 at he
    unfold o_X0_bestRollerFor_4 at ho
    refine j_iload_n X 3 dX0_bestRollerFor_4 rfl ?_
    refine j_aload_n X 0 dX0_bestRollerFor_5 rfl ?_
    refine gf_0_6 X m_fl_X0_58 hj0 dX0_bestRollerFor_6 ?_
    refine j_icmp_ge X 65 dX0_bestRollerFor_9 (by decide) (fun h2 => ?_) (fun h2 => ?_)
    · rw [if_pos h2] at he
      have ho := ho.1 h2
      refine j_iload_n X 2 dX0_bestRollerFor_65 rfl ?_
      exact j_iret X hr hlocks dX0_bestRollerFor_66 he rfl
    · rw [if_neg h2] at he
      have ho := ho.2 h2
      refine j_aload_n X 0 dX0_bestRollerFor_12 rfl ?_
      refine j_iload_n X 3 dX0_bestRollerFor_13 rfl ?_
      refine j_iload_n X 1 dX0_bestRollerFor_14 rfl ?_
      refine j_iconst (v := 1) X dX0_bestRollerFor_15 (by decide) ?_
      have h3 := ho.1
      have ho := ho.2
      refine j_callVi (rest := []) X (c_X0_rollVerdict (cx_inj X) j0 hj0 v3 v1 1 S h3) cw_X0_195 hj0.1 (cl_0 hj0) rfl ⟨rfl, rfl, Nat.le_of_ble_eq_true rfl, Nat.le_of_ble_eq_true rfl⟩ rfl rfl (Nat.le_of_ble_eq_true rfl) ⟨Nat.le_of_ble_eq_true rfl, Nat.le_of_ble_eq_true rfl⟩ dX0_bestRollerFor_16 ?_
      refine j_if_ne X 26 dX0_bestRollerFor_19 (by decide) (fun h4 => ?_) (fun h4 => ?_)
      · rw [if_neg h4] at he
        have ho := ho.2 h4
        refine j_iconst (v := 0) X dX0_bestRollerFor_26 (by decide) ?_
        exact t_X0_bestRollerFor_27 X hr hlocks (b_X0_bestRollerFor_4 n) (o_X0_bestRollerFor_4 n) ih j0 hj0 v1 v2 v3 0 S _ ho he
      · rw [if_pos h4] at he
        have ho := ho.1 h4
        refine j_iconst (v := 1) X dX0_bestRollerFor_22 (by decide) ?_
        refine j_goto X 27 dX0_bestRollerFor_23 (by decide) ?_
        exact t_X0_bestRollerFor_27 X hr hlocks (b_X0_bestRollerFor_4 n) (o_X0_bestRollerFor_4 n) ih j0 hj0 v1 v2 v3 1 S _ ho he
def b_X0_bestRollerFor_0 (this : Nat) (x1 : Int32) (S : Sx) : Int32 := b_X0_bestRollerFor_4 100 this x1 (-1) 0 S
def o_X0_bestRollerFor_0 (this : Nat) (x1 : Int32) (S : Sx) : Prop := o_X0_bestRollerFor_4 100 this x1 (-1) 0 S
set_option maxRecDepth 20000 in
theorem t_X0_bestRollerFor_0 (X : Cx p m c cX0_bestRollerFor 5 s args RX0 D q ad) (hr : meth.sig.returnType = some .int) (hlocks : meth.locks = false) (this : Nat) (hthis : isK 0 this) (x1 : Int32) (S : Sx) (rv : Int32) (ho : o_X0_bestRollerFor_0 this x1 S) (he : b_X0_bestRollerFor_0 this x1 S = rv) : Jg p l e rm_X0_bestRollerFor s m args below meth c 0 0 (MQ below (Qi D q ad d rv S s.heap.size) args s 0 0 (AU ad s.heap.size)) D q ad d 5 0 [(0, .ref (ad this)), (1, .int x1)] [] S := by
  unfold b_X0_bestRollerFor_0 at he
  unfold o_X0_bestRollerFor_0 at ho
  refine j_iconst (v := (-1)) X dX0_bestRollerFor_0 (by decide) ?_
  refine j_istore_n X [(2, .int (-1)), (0, .ref (ad this)), (1, .int x1)] dX0_bestRollerFor_1 (by decide) rfl ?_
  refine j_iconst (v := 0) X dX0_bestRollerFor_2 (by decide) ?_
  refine j_istore_n X [(3, .int 0), (2, .int (-1)), (0, .ref (ad this)), (1, .int x1)] dX0_bestRollerFor_3 (by decide) rfl ?_
  refine j_lv [2, 3, 1, 0] [(0, .ref (ad this)), (1, .int x1), (2, .int (-1)), (3, .int 0)] rfl ?_
  exact t_X0_bestRollerFor_4 X hr hlocks 100 this hthis x1 (-1) 0 S _ ho he
theorem c_X0_bestRollerFor {l : Launch} {D : va_G} {q : Nat → ClassId} {ad : Nat → Nat} {d : UInt64} (hI : inj4 ad) (this : Nat) (hthis : isK 0 this) (x1 : Int32) (S : Sx) (ho : o_X0_bestRollerFor_0 this x1 S) : CI l yX0_bestRollerFor cX0_bestRollerFor 5 .int rm_X0_bestRollerFor D q ad d [.ref (ad this), .int x1] S (b_X0_bestRollerFor_0 this x1 S) S := ci_of hI (by decide +kernel) (Nat.le_of_ble_eq_true rfl) rfl (fun p e s m args below meth c X hr hlocks => t_X0_bestRollerFor_0 X hr hlocks this hthis x1 S _ ho rfl)
end
/-! RX0.bestFitPitch -/
abbrev rm_X0_bestFitPitch : Room := { frames := 2, cells := 0, slots := 0, locals := 45 }
section
variable {p : Program} {l : Launch} {e : Env} {s : State} {m : MethodId} {args : Array Value} {below : List Frame} {meth : Method} {c : Code} {D : va_G} {q : Nat → ClassId} {ad : Nat → Nat} {d : UInt64}
def b_X0_bestFitPitch_66 (kk : Nat → Int32 → Int32 → Int32 → Int32 → Sx → Int32) (j0 : Nat) (v1 : Int32) (v2 : Int32) (v3 : Int32) (v4 : Int32) (S : Sx) : Int32 := kk j0 v1 v2 v3 (v4 + 1) S
def o_X0_bestFitPitch_66 (ok : Nat → Int32 → Int32 → Int32 → Int32 → Sx → Prop) (j0 : Nat) (v1 : Int32) (v2 : Int32) (v3 : Int32) (v4 : Int32) (S : Sx) : Prop := ok j0 v1 v2 v3 (v4 + 1) S
set_option maxRecDepth 20000 in
theorem t_X0_bestFitPitch_66 (X : Cx p m c cX0_bestFitPitch 6 s args RX0 D q ad) (hr : meth.sig.returnType = some .int) (hlocks : meth.locks = false) (kk : Nat → Int32 → Int32 → Int32 → Int32 → Sx → Int32) (ok : Nat → Int32 → Int32 → Int32 → Int32 → Sx → Prop) (hkk : ∀ (j0 : Nat) (hj0 : isK 0 j0) (v1 : Int32) (v2 : Int32) (v3 : Int32) (v4 : Int32) (S : Sx) (rv : Int32) (ho : ok j0 v1 v2 v3 v4 S) (he : kk j0 v1 v2 v3 v4 S = rv), Jg p l e rm_X0_bestFitPitch s m args below meth c 0 0 (MQ below (Qi D q ad d rv S s.heap.size) args s 0 0 (AU ad s.heap.size)) D q ad d 6 7 [(0, .ref (ad j0)), (1, .int v1), (2, .int v2), (3, .int v3), (4, .int v4)] [] S) (j0 : Nat) (hj0 : isK 0 j0) (v1 : Int32) (v2 : Int32) (v3 : Int32) (v4 : Int32) (S : Sx) (rv : Int32) (ho : o_X0_bestFitPitch_66 ok j0 v1 v2 v3 v4 S) (he : b_X0_bestFitPitch_66 kk j0 v1 v2 v3 v4 S = rv) : Jg p l e rm_X0_bestFitPitch s m args below meth c 0 0 (MQ below (Qi D q ad d rv S s.heap.size) args s 0 0 (AU ad s.heap.size)) D q ad d 6 66 [(0, .ref (ad j0)), (1, .int v1), (2, .int v2), (3, .int v3), (4, .int v4)] [] S := by
  unfold b_X0_bestFitPitch_66 at he
  unfold o_X0_bestFitPitch_66 at ho
  refine j_iinc X 4 (v4 + 1) [(4, .int (v4 + 1)), (0, .ref (ad j0)), (1, .int v1), (2, .int v2), (3, .int v3)] dX0_bestFitPitch_66 rfl rfl (by decide) rfl ?_
  refine j_goto X 7 dX0_bestFitPitch_69 (by decide) ?_
  refine j_lv [1, 2, 3, 4, 0] [(0, .ref (ad j0)), (1, .int v1), (2, .int v2), (3, .int v3), (4, .int (v4 + 1))] rfl ?_
  exact hkk j0 hj0 v1 v2 v3 (v4 + 1) S _ ho he
def b_X0_bestFitPitch_60 (kk : Nat → Int32 → Int32 → Int32 → Int32 → Sx → Int32) (j0 : Nat) (v1 : Int32) (v4 : Int32) (v5 : Int32) (S : Sx) : Int32 := b_X0_bestFitPitch_66 kk j0 v1 v4 v5 v4 S
def o_X0_bestFitPitch_60 (ok : Nat → Int32 → Int32 → Int32 → Int32 → Sx → Prop) (j0 : Nat) (v1 : Int32) (v4 : Int32) (v5 : Int32) (S : Sx) : Prop := o_X0_bestFitPitch_66 ok j0 v1 v4 v5 v4 S
set_option maxRecDepth 20000 in
theorem t_X0_bestFitPitch_60 (X : Cx p m c cX0_bestFitPitch 6 s args RX0 D q ad) (hr : meth.sig.returnType = some .int) (hlocks : meth.locks = false) (kk : Nat → Int32 → Int32 → Int32 → Int32 → Sx → Int32) (ok : Nat → Int32 → Int32 → Int32 → Int32 → Sx → Prop) (hkk : ∀ (j0 : Nat) (hj0 : isK 0 j0) (v1 : Int32) (v2 : Int32) (v3 : Int32) (v4 : Int32) (S : Sx) (rv : Int32) (ho : ok j0 v1 v2 v3 v4 S) (he : kk j0 v1 v2 v3 v4 S = rv), Jg p l e rm_X0_bestFitPitch s m args below meth c 0 0 (MQ below (Qi D q ad d rv S s.heap.size) args s 0 0 (AU ad s.heap.size)) D q ad d 6 7 [(0, .ref (ad j0)), (1, .int v1), (2, .int v2), (3, .int v3), (4, .int v4)] [] S) (j0 : Nat) (hj0 : isK 0 j0) (v1 : Int32) (v4 : Int32) (v5 : Int32) (S : Sx) (rv : Int32) (ho : o_X0_bestFitPitch_60 ok j0 v1 v4 v5 S) (he : b_X0_bestFitPitch_60 kk j0 v1 v4 v5 S = rv) : Jg p l e rm_X0_bestFitPitch s m args below meth c 0 0 (MQ below (Qi D q ad d rv S s.heap.size) args s 0 0 (AU ad s.heap.size)) D q ad d 6 60 [(0, .ref (ad j0)), (1, .int v1), (4, .int v4), (5, .int v5)] [] S := by
  unfold b_X0_bestFitPitch_60 at he
  unfold o_X0_bestFitPitch_60 at ho
  refine j_iload X 2 dX0_bestFitPitch_60 rfl ?_
  refine j_istore_n X [(2, .int v4), (0, .ref (ad j0)), (1, .int v1), (4, .int v4), (5, .int v5)] dX0_bestFitPitch_62 (by decide) rfl ?_
  refine j_iload X 4 dX0_bestFitPitch_63 rfl ?_
  refine j_istore_n X [(3, .int v5), (2, .int v4), (0, .ref (ad j0)), (1, .int v1), (4, .int v4), (5, .int v5)] dX0_bestFitPitch_65 (by decide) rfl ?_
  refine j_lv [2, 3, 1, 0, 4] [(0, .ref (ad j0)), (1, .int v1), (2, .int v4), (3, .int v5), (4, .int v4)] rfl ?_
  exact t_X0_bestFitPitch_66 X hr hlocks kk ok hkk j0 hj0 v1 v4 v5 v4 S _ ho he
def b_X0_bestFitPitch_7 : Nat → Nat → Int32 → Int32 → Int32 → Int32 → Sx → Int32
  | 0, _, _, _, _, _, S => 0
  | n + 1, j0, v1, v2, v3, v4, S => if (S j0 4) ≤ v4 then v2 else if (b_X0_callOf_0 j0 v1 v4 S) = 0 then if v2 = (-1) then b_X0_bestFitPitch_60 (b_X0_bestFitPitch_7 n) j0 v1 v4 ((S (j0 + 7 + v4.toNatClampNeg) 1) - (S (j0 + 7 + v4.toNatClampNeg) 2)) S else if ((S (j0 + 7 + v4.toNatClampNeg) 1) - (S (j0 + 7 + v4.toNatClampNeg) 2)) ≤ v3 then b_X0_bestFitPitch_66 (b_X0_bestFitPitch_7 n) j0 v1 v2 v3 v4 S else b_X0_bestFitPitch_60 (b_X0_bestFitPitch_7 n) j0 v1 v4 ((S (j0 + 7 + v4.toNatClampNeg) 1) - (S (j0 + 7 + v4.toNatClampNeg) 2)) S else b_X0_bestFitPitch_66 (b_X0_bestFitPitch_7 n) j0 v1 v2 v3 v4 S
def o_X0_bestFitPitch_7 : Nat → Nat → Int32 → Int32 → Int32 → Int32 → Sx → Prop
  | 0, _, _, _, _, _, _ => False
  | n + 1, j0, v1, v2, v3, v4, S => ((S j0 4) ≤ v4 → True) ∧ (¬ (S j0 4) ≤ v4 → (vp_in v4 4 ∧ (vp_in v4 4 ∧ (o_X0_callOf_0 j0 v1 v4 S ∧ (((b_X0_callOf_0 j0 v1 v4 S) = 0 → ((v2 = (-1) → (o_X0_bestFitPitch_60 (o_X0_bestFitPitch_7 n) j0 v1 v4 ((S (j0 + 7 + v4.toNatClampNeg) 1) - (S (j0 + 7 + v4.toNatClampNeg) 2)) S)) ∧ (¬ v2 = (-1) → ((((S (j0 + 7 + v4.toNatClampNeg) 1) - (S (j0 + 7 + v4.toNatClampNeg) 2)) ≤ v3 → (o_X0_bestFitPitch_66 (o_X0_bestFitPitch_7 n) j0 v1 v2 v3 v4 S)) ∧ (¬ ((S (j0 + 7 + v4.toNatClampNeg) 1) - (S (j0 + 7 + v4.toNatClampNeg) 2)) ≤ v3 → (o_X0_bestFitPitch_60 (o_X0_bestFitPitch_7 n) j0 v1 v4 ((S (j0 + 7 + v4.toNatClampNeg) 1) - (S (j0 + 7 + v4.toNatClampNeg) 2)) S)))))) ∧ (¬ (b_X0_callOf_0 j0 v1 v4 S) = 0 → (o_X0_bestFitPitch_66 (o_X0_bestFitPitch_7 n) j0 v1 v2 v3 v4 S)))))))
set_option maxRecDepth 20000 in
theorem t_X0_bestFitPitch_7 (X : Cx p m c cX0_bestFitPitch 6 s args RX0 D q ad) (hr : meth.sig.returnType = some .int) (hlocks : meth.locks = false) : ∀ (n : Nat) (j0 : Nat) (hj0 : isK 0 j0) (v1 : Int32) (v2 : Int32) (v3 : Int32) (v4 : Int32) (S : Sx) (rv : Int32) (ho : o_X0_bestFitPitch_7 n j0 v1 v2 v3 v4 S) (he : b_X0_bestFitPitch_7 n j0 v1 v2 v3 v4 S = rv), Jg p l e rm_X0_bestFitPitch s m args below meth c 0 0 (MQ below (Qi D q ad d rv S s.heap.size) args s 0 0 (AU ad s.heap.size)) D q ad d 6 7 [(0, .ref (ad j0)), (1, .int v1), (2, .int v2), (3, .int v3), (4, .int v4)] [] S := by
  intro n
  induction n with
  | zero =>
    intro j0 hj0 v1 v2 v3 v4 S rv ho he
    unfold o_X0_bestFitPitch_7 at ho
    exact ho.elim
  | succ n ih =>
    intro j0 hj0 v1 v2 v3 v4 S rv ho he
    unfold b_X0_bestFitPitch_7 at he
    unfold o_X0_bestFitPitch_7 at ho
    refine j_iload X 4 dX0_bestFitPitch_7 rfl ?_
    refine j_aload_n X 0 dX0_bestFitPitch_9 rfl ?_
    refine gf_0_4 X m_fl_X0_55 hj0 dX0_bestFitPitch_10 ?_
    refine j_icmp_ge X 72 dX0_bestFitPitch_13 (by decide) (fun h2 => ?_) (fun h2 => ?_)
    · rw [if_pos h2] at he
      have ho := ho.1 h2
      refine j_iload_n X 2 dX0_bestFitPitch_72 rfl ?_
      exact j_iret X hr hlocks dX0_bestFitPitch_73 he rfl
    · rw [if_neg h2] at he
      have ho := ho.2 h2
      refine j_aload_n X 0 dX0_bestFitPitch_16 rfl ?_
      refine gf_0_5 X m_fl_X0_24 hj0 dX0_bestFitPitch_17 ?_
      refine j_iload X 4 dX0_bestFitPitch_20 rfl ?_
      have h3 := ho.1
      have ho := ho.2
      refine j_aald (a := ad (j0 + 7 + v4.toNatClampNeg)) X 1 (k0_4 hj0).1 (cl_4 (k0_4 hj0)) rfl h3 rfl dX0_bestFitPitch_22 ?_
      have hk4 : isK 7 (j0 + 7 + v4.toNatClampNeg) := k0_7 hj0 (vlt h3)
      refine gf_7_1 X m_fl_X0_202 hk4 dX0_bestFitPitch_23 ?_
      refine j_aload_n X 0 dX0_bestFitPitch_26 rfl ?_
      refine gf_0_5 X m_fl_X0_24 hj0 dX0_bestFitPitch_27 ?_
      refine j_iload X 4 dX0_bestFitPitch_30 rfl ?_
      have h5 := ho.1
      have ho := ho.2
      refine j_aald (a := ad (j0 + 7 + v4.toNatClampNeg)) X 1 (k0_4 hj0).1 (cl_4 (k0_4 hj0)) rfl h5 rfl dX0_bestFitPitch_32 ?_
      have hk6 : isK 7 (j0 + 7 + v4.toNatClampNeg) := k0_7 hj0 (vlt h5)
      refine gf_7_2 X m_fl_X0_205 hk6 dX0_bestFitPitch_33 ?_
      refine j_isub X dX0_bestFitPitch_36 ?_
      refine j_istore X [(5, .int ((S (j0 + 7 + v4.toNatClampNeg) 1) - (S (j0 + 7 + v4.toNatClampNeg) 2))), (0, .ref (ad j0)), (1, .int v1), (2, .int v2), (3, .int v3), (4, .int v4)] dX0_bestFitPitch_37 (by decide) rfl ?_
      refine j_aload_n X 1 dX0_bestFitPitch_39 rfl ?_
      refine j_iload_n X 2 dX0_bestFitPitch_40 rfl ?_
      refine j_iload X 5 dX0_bestFitPitch_41 rfl ?_
      have h7 := ho.1
      have ho := ho.2
      refine j_callVi (rest := []) X (c_X0_callOf (cx_inj X) j0 hj0 v1 v4 S h7) cw_X0_123 hj0.1 (cl_0 hj0) rfl ⟨rfl, rfl, Nat.le_of_ble_eq_true rfl, Nat.le_of_ble_eq_true rfl⟩ rfl rfl (Nat.le_of_ble_eq_true rfl) ⟨Nat.le_of_ble_eq_true rfl, Nat.le_of_ble_eq_true rfl⟩ dX0_bestFitPitch_43 ?_
      refine j_if_ne X 66 dX0_bestFitPitch_46 (by decide) (fun h8 => ?_) (fun h8 => ?_)
      · rw [if_neg h8] at he
        have ho := ho.2 h8
        refine j_lv [1, 2, 3, 4, 5] [(0, .ref (ad j0)), (1, .int v1), (2, .int v2), (3, .int v3), (4, .int v4)] rfl ?_
        exact t_X0_bestFitPitch_66 X hr hlocks (b_X0_bestFitPitch_7 n) (o_X0_bestFitPitch_7 n) ih j0 hj0 v1 v2 v3 v4 S _ ho he
      · rw [if_pos h8] at he
        have ho := ho.1 h8
        refine j_iload_n X 3 dX0_bestFitPitch_49 rfl ?_
        refine j_iconst (v := (-1)) X dX0_bestFitPitch_50 (by decide) ?_
        refine j_icmp_eq X 60 dX0_bestFitPitch_51 (by decide) (fun h9 => ?_) (fun h9 => ?_)
        · rw [if_pos h9] at he
          have ho := ho.1 h9
          refine j_lv [1, 2, 5, 0] [(0, .ref (ad j0)), (1, .int v1), (4, .int v4), (5, .int ((S (j0 + 7 + v4.toNatClampNeg) 1) - (S (j0 + 7 + v4.toNatClampNeg) 2)))] rfl ?_
          exact t_X0_bestFitPitch_60 X hr hlocks (b_X0_bestFitPitch_7 n) (o_X0_bestFitPitch_7 n) ih j0 hj0 v1 v4 ((S (j0 + 7 + v4.toNatClampNeg) 1) - (S (j0 + 7 + v4.toNatClampNeg) 2)) S _ ho he
        · rw [if_neg h9] at he
          have ho := ho.2 h9
          refine j_iload X 0 dX0_bestFitPitch_54 rfl ?_
          refine j_iload_n X 4 dX0_bestFitPitch_56 rfl ?_
          refine j_icmp_le X 66 dX0_bestFitPitch_57 (by decide) (fun h10 => ?_) (fun h10 => ?_)
          · rw [if_pos h10] at he
            have ho := ho.1 h10
            refine j_lv [1, 2, 3, 4, 5] [(0, .ref (ad j0)), (1, .int v1), (2, .int v2), (3, .int v3), (4, .int v4)] rfl ?_
            exact t_X0_bestFitPitch_66 X hr hlocks (b_X0_bestFitPitch_7 n) (o_X0_bestFitPitch_7 n) ih j0 hj0 v1 v2 v3 v4 S _ ho he
          · rw [if_neg h10] at he
            have ho := ho.2 h10
            refine j_lv [1, 2, 5, 0] [(0, .ref (ad j0)), (1, .int v1), (4, .int v4), (5, .int ((S (j0 + 7 + v4.toNatClampNeg) 1) - (S (j0 + 7 + v4.toNatClampNeg) 2)))] rfl ?_
            exact t_X0_bestFitPitch_60 X hr hlocks (b_X0_bestFitPitch_7 n) (o_X0_bestFitPitch_7 n) ih j0 hj0 v1 v4 ((S (j0 + 7 + v4.toNatClampNeg) 1) - (S (j0 + 7 + v4.toNatClampNeg) 2)) S _ ho he
def b_X0_bestFitPitch_0 (this : Nat) (x1 : Int32) (S : Sx) : Int32 := b_X0_bestFitPitch_7 100 this x1 (-1) 0 0 S
def o_X0_bestFitPitch_0 (this : Nat) (x1 : Int32) (S : Sx) : Prop := o_X0_bestFitPitch_7 100 this x1 (-1) 0 0 S
set_option maxRecDepth 20000 in
theorem t_X0_bestFitPitch_0 (X : Cx p m c cX0_bestFitPitch 6 s args RX0 D q ad) (hr : meth.sig.returnType = some .int) (hlocks : meth.locks = false) (this : Nat) (hthis : isK 0 this) (x1 : Int32) (S : Sx) (rv : Int32) (ho : o_X0_bestFitPitch_0 this x1 S) (he : b_X0_bestFitPitch_0 this x1 S = rv) : Jg p l e rm_X0_bestFitPitch s m args below meth c 0 0 (MQ below (Qi D q ad d rv S s.heap.size) args s 0 0 (AU ad s.heap.size)) D q ad d 6 0 [(0, .ref (ad this)), (1, .int x1)] [] S := by
  unfold b_X0_bestFitPitch_0 at he
  unfold o_X0_bestFitPitch_0 at ho
  refine j_iconst (v := (-1)) X dX0_bestFitPitch_0 (by decide) ?_
  refine j_istore_n X [(2, .int (-1)), (0, .ref (ad this)), (1, .int x1)] dX0_bestFitPitch_1 (by decide) rfl ?_
  refine j_iconst (v := 0) X dX0_bestFitPitch_2 (by decide) ?_
  refine j_istore_n X [(3, .int 0), (2, .int (-1)), (0, .ref (ad this)), (1, .int x1)] dX0_bestFitPitch_3 (by decide) rfl ?_
  refine j_iconst (v := 0) X dX0_bestFitPitch_4 (by decide) ?_
  refine j_istore X [(4, .int 0), (3, .int 0), (2, .int (-1)), (0, .ref (ad this)), (1, .int x1)] dX0_bestFitPitch_5 (by decide) rfl ?_
  refine j_lv [3, 4, 2, 1, 0] [(0, .ref (ad this)), (1, .int x1), (2, .int (-1)), (3, .int 0), (4, .int 0)] rfl ?_
  exact t_X0_bestFitPitch_7 X hr hlocks 100 this hthis x1 (-1) 0 0 S _ ho he
theorem c_X0_bestFitPitch {l : Launch} {D : va_G} {q : Nat → ClassId} {ad : Nat → Nat} {d : UInt64} (hI : inj4 ad) (this : Nat) (hthis : isK 0 this) (x1 : Int32) (S : Sx) (ho : o_X0_bestFitPitch_0 this x1 S) : CI l yX0_bestFitPitch cX0_bestFitPitch 6 .int rm_X0_bestFitPitch D q ad d [.ref (ad this), .int x1] S (b_X0_bestFitPitch_0 this x1 S) S := ci_of hI (by decide +kernel) (Nat.le_of_ble_eq_true rfl) rfl (fun p e s m args below meth c X hr hlocks => t_X0_bestFitPitch_0 X hr hlocks this hthis x1 S _ ho rfl)
end
/-! RX2.isAheadOf -/
abbrev rm_X2_isAheadOf : Room := { frames := 0, cells := 0, slots := 0, locals := 0 }
section
variable {p : Program} {l : Launch} {e : Env} {s : State} {m : MethodId} {args : Array Value} {below : List Frame} {meth : Method} {c : Code} {D : va_G} {q : Nat → ClassId} {ad : Nat → Nat} {d : UInt64}
def b_X2_isAheadOf_44 (w0 : Int32) (S : Sx) : Int32 := w0
def o_X2_isAheadOf_44 (w0 : Int32) (S : Sx) : Prop := bz w0 ∧ True
set_option maxRecDepth 20000 in
theorem t_X2_isAheadOf_44 (X : Cx p m c cX2_isAheadOf 2 s args RX2 D q ad) (hr : meth.sig.returnType = some .boolean) (hlocks : meth.locks = false) (w0 : Int32) (S : Sx) (rv : Int32) (ho : o_X2_isAheadOf_44 w0 S) (he : b_X2_isAheadOf_44 w0 S = rv) : Jg p l e rm_X2_isAheadOf s m args below meth c 0 0 (MQ below (Qi D q ad d rv S s.heap.size) args s 0 0 (AU ad s.heap.size)) D q ad d 2 44 [] [.int w0] S := by
  unfold b_X2_isAheadOf_44 at he
  unfold o_X2_isAheadOf_44 at ho
  have h2 := ho.1
  have ho := ho.2
  exact j_zret X hr hlocks (bz_narrow h2) dX2_isAheadOf_44 he rfl
def b_X2_isAheadOf_27 (w0 : Int32) (S : Sx) : Int32 := w0
def o_X2_isAheadOf_27 (w0 : Int32) (S : Sx) : Prop := bz w0 ∧ True
set_option maxRecDepth 20000 in
theorem t_X2_isAheadOf_27 (X : Cx p m c cX2_isAheadOf 2 s args RX2 D q ad) (hr : meth.sig.returnType = some .boolean) (hlocks : meth.locks = false) (w0 : Int32) (S : Sx) (rv : Int32) (ho : o_X2_isAheadOf_27 w0 S) (he : b_X2_isAheadOf_27 w0 S = rv) : Jg p l e rm_X2_isAheadOf s m args below meth c 0 0 (MQ below (Qi D q ad d rv S s.heap.size) args s 0 0 (AU ad s.heap.size)) D q ad d 2 27 [] [.int w0] S := by
  unfold b_X2_isAheadOf_27 at he
  unfold o_X2_isAheadOf_27 at ho
  have h2 := ho.1
  have ho := ho.2
  exact j_zret X hr hlocks (bz_narrow h2) dX2_isAheadOf_27 he rfl
def b_X2_isAheadOf_0 (this : Nat) (r1 : Nat) (S : Sx) : Int32 := if (S this 4) = (S r1 4) then if (S r1 3) ≤ (S this 3) then b_X2_isAheadOf_44 0 S else b_X2_isAheadOf_44 1 S else if (S this 4) ≤ (S r1 4) then b_X2_isAheadOf_27 0 S else b_X2_isAheadOf_27 1 S
def o_X2_isAheadOf_0 (this : Nat) (r1 : Nat) (S : Sx) : Prop := ((S this 4) = (S r1 4) → (((S r1 3) ≤ (S this 3) → (o_X2_isAheadOf_44 0 S)) ∧ (¬ (S r1 3) ≤ (S this 3) → (o_X2_isAheadOf_44 1 S)))) ∧ (¬ (S this 4) = (S r1 4) → (((S this 4) ≤ (S r1 4) → (o_X2_isAheadOf_27 0 S)) ∧ (¬ (S this 4) ≤ (S r1 4) → (o_X2_isAheadOf_27 1 S))))
set_option maxRecDepth 20000 in
theorem t_X2_isAheadOf_0 (X : Cx p m c cX2_isAheadOf 2 s args RX2 D q ad) (hr : meth.sig.returnType = some .boolean) (hlocks : meth.locks = false) (this : Nat) (hthis : isK 9 this) (r1 : Nat) (hr1 : isK 9 r1) (S : Sx) (rv : Int32) (ho : o_X2_isAheadOf_0 this r1 S) (he : b_X2_isAheadOf_0 this r1 S = rv) : Jg p l e rm_X2_isAheadOf s m args below meth c 0 0 (MQ below (Qi D q ad d rv S s.heap.size) args s 0 0 (AU ad s.heap.size)) D q ad d 2 0 [(0, .ref (ad this)), (1, .ref (ad r1))] [] S := by
  unfold b_X2_isAheadOf_0 at he
  unfold o_X2_isAheadOf_0 at ho
  refine j_aload_n X 0 dX2_isAheadOf_0 rfl ?_
  refine gf_9_4 X m_fl_X2_28 hthis dX2_isAheadOf_1 ?_
  refine j_aload_n X 1 dX2_isAheadOf_4 rfl ?_
  refine gf_9_4 X m_fl_X2_28 hr1 dX2_isAheadOf_5 ?_
  refine j_icmp_eq X 28 dX2_isAheadOf_8 (by decide) (fun h2 => ?_) (fun h2 => ?_)
  · rw [if_pos h2] at he
    have ho := ho.1 h2
    refine j_aload_n X 0 dX2_isAheadOf_28 rfl ?_
    refine gf_9_3 X m_fl_X2_25 hthis dX2_isAheadOf_29 ?_
    refine j_aload_n X 1 dX2_isAheadOf_32 rfl ?_
    refine gf_9_3 X m_fl_X2_25 hr1 dX2_isAheadOf_33 ?_
    refine j_icmp_ge X 43 dX2_isAheadOf_36 (by decide) (fun h3 => ?_) (fun h3 => ?_)
    · rw [if_pos h3] at he
      have ho := ho.1 h3
      refine j_iconst (v := 0) X dX2_isAheadOf_43 (by decide) ?_
      refine j_lv [] [] rfl ?_
      exact t_X2_isAheadOf_44 X hr hlocks 0 S _ ho he
    · rw [if_neg h3] at he
      have ho := ho.2 h3
      refine j_iconst (v := 1) X dX2_isAheadOf_39 (by decide) ?_
      refine j_goto X 44 dX2_isAheadOf_40 (by decide) ?_
      refine j_lv [] [] rfl ?_
      exact t_X2_isAheadOf_44 X hr hlocks 1 S _ ho he
  · rw [if_neg h2] at he
    have ho := ho.2 h2
    refine j_aload_n X 0 dX2_isAheadOf_11 rfl ?_
    refine gf_9_4 X m_fl_X2_28 hthis dX2_isAheadOf_12 ?_
    refine j_aload_n X 1 dX2_isAheadOf_15 rfl ?_
    refine gf_9_4 X m_fl_X2_28 hr1 dX2_isAheadOf_16 ?_
    refine j_icmp_le X 26 dX2_isAheadOf_19 (by decide) (fun h4 => ?_) (fun h4 => ?_)
    · rw [if_pos h4] at he
      have ho := ho.1 h4
      refine j_iconst (v := 0) X dX2_isAheadOf_26 (by decide) ?_
      refine j_lv [] [] rfl ?_
      exact t_X2_isAheadOf_27 X hr hlocks 0 S _ ho he
    · rw [if_neg h4] at he
      have ho := ho.2 h4
      refine j_iconst (v := 1) X dX2_isAheadOf_22 (by decide) ?_
      refine j_goto X 27 dX2_isAheadOf_23 (by decide) ?_
      refine j_lv [] [] rfl ?_
      exact t_X2_isAheadOf_27 X hr hlocks 1 S _ ho he
theorem c_X2_isAheadOf {l : Launch} {D : va_G} {q : Nat → ClassId} {ad : Nat → Nat} {d : UInt64} (hI : inj4 ad) (this : Nat) (hthis : isK 9 this) (r1 : Nat) (hr1 : isK 9 r1) (S : Sx) (ho : o_X2_isAheadOf_0 this r1 S) : CI l yX2_isAheadOf cX2_isAheadOf 2 .boolean rm_X2_isAheadOf D q ad d [.ref (ad this), .ref (ad r1)] S (b_X2_isAheadOf_0 this r1 S) S := ci_of hI (by decide +kernel) (Nat.le_of_ble_eq_true rfl) rfl (fun p e s m args below meth c X hr hlocks => t_X2_isAheadOf_0 X hr hlocks this hthis r1 hr1 S _ ho rfl)
end
/-! RX0.placeOf -/
abbrev rm_X0_placeOf : Room := { frames := 1, cells := 0, slots := 0, locals := 21 }
section
variable {p : Program} {l : Launch} {e : Env} {s : State} {m : MethodId} {args : Array Value} {below : List Frame} {meth : Method} {c : Code} {D : va_G} {q : Nat → ClassId} {ad : Nat → Nat} {d : UInt64}
def b_X0_placeOf_68 (kk : Nat → Int32 → Int32 → Int32 → Sx → Int32) (j0 : Nat) (v1 : Int32) (v2 : Int32) (v3 : Int32) (S : Sx) : Int32 := kk j0 v1 v2 (v3 + 1) S
def o_X0_placeOf_68 (ok : Nat → Int32 → Int32 → Int32 → Sx → Prop) (j0 : Nat) (v1 : Int32) (v2 : Int32) (v3 : Int32) (S : Sx) : Prop := ok j0 v1 v2 (v3 + 1) S
set_option maxRecDepth 20000 in
theorem t_X0_placeOf_68 (X : Cx p m c cX0_placeOf 5 s args RX0 D q ad) (hr : meth.sig.returnType = some .int) (hlocks : meth.locks = false) (kk : Nat → Int32 → Int32 → Int32 → Sx → Int32) (ok : Nat → Int32 → Int32 → Int32 → Sx → Prop) (hkk : ∀ (j0 : Nat) (hj0 : isK 0 j0) (v1 : Int32) (v2 : Int32) (v3 : Int32) (S : Sx) (rv : Int32) (ho : ok j0 v1 v2 v3 S) (he : kk j0 v1 v2 v3 S = rv), Jg p l e rm_X0_placeOf s m args below meth c 0 0 (MQ below (Qi D q ad d rv S s.heap.size) args s 0 0 (AU ad s.heap.size)) D q ad d 5 4 [(0, .ref (ad j0)), (1, .int v1), (2, .int v2), (3, .int v3)] [] S) (j0 : Nat) (hj0 : isK 0 j0) (v1 : Int32) (v2 : Int32) (v3 : Int32) (S : Sx) (rv : Int32) (ho : o_X0_placeOf_68 ok j0 v1 v2 v3 S) (he : b_X0_placeOf_68 kk j0 v1 v2 v3 S = rv) : Jg p l e rm_X0_placeOf s m args below meth c 0 0 (MQ below (Qi D q ad d rv S s.heap.size) args s 0 0 (AU ad s.heap.size)) D q ad d 5 68 [(0, .ref (ad j0)), (1, .int v1), (2, .int v2), (3, .int v3)] [] S := by
  unfold b_X0_placeOf_68 at he
  unfold o_X0_placeOf_68 at ho
  refine j_iinc X 3 (v3 + 1) [(3, .int (v3 + 1)), (0, .ref (ad j0)), (1, .int v1), (2, .int v2)] dX0_placeOf_68 rfl rfl (by decide) rfl ?_
  refine j_goto X 4 dX0_placeOf_71 (by decide) ?_
  refine j_lv [1, 2, 3, 0] [(0, .ref (ad j0)), (1, .int v1), (2, .int v2), (3, .int (v3 + 1))] rfl ?_
  exact hkk j0 hj0 v1 v2 (v3 + 1) S _ ho he
def b_X0_placeOf_65 (kk : Nat → Int32 → Int32 → Int32 → Sx → Int32) (j0 : Nat) (v1 : Int32) (v2 : Int32) (v3 : Int32) (S : Sx) : Int32 := b_X0_placeOf_68 kk j0 v1 (v2 + 1) v3 S
def o_X0_placeOf_65 (ok : Nat → Int32 → Int32 → Int32 → Sx → Prop) (j0 : Nat) (v1 : Int32) (v2 : Int32) (v3 : Int32) (S : Sx) : Prop := o_X0_placeOf_68 ok j0 v1 (v2 + 1) v3 S
set_option maxRecDepth 20000 in
theorem t_X0_placeOf_65 (X : Cx p m c cX0_placeOf 5 s args RX0 D q ad) (hr : meth.sig.returnType = some .int) (hlocks : meth.locks = false) (kk : Nat → Int32 → Int32 → Int32 → Sx → Int32) (ok : Nat → Int32 → Int32 → Int32 → Sx → Prop) (hkk : ∀ (j0 : Nat) (hj0 : isK 0 j0) (v1 : Int32) (v2 : Int32) (v3 : Int32) (S : Sx) (rv : Int32) (ho : ok j0 v1 v2 v3 S) (he : kk j0 v1 v2 v3 S = rv), Jg p l e rm_X0_placeOf s m args below meth c 0 0 (MQ below (Qi D q ad d rv S s.heap.size) args s 0 0 (AU ad s.heap.size)) D q ad d 5 4 [(0, .ref (ad j0)), (1, .int v1), (2, .int v2), (3, .int v3)] [] S) (j0 : Nat) (hj0 : isK 0 j0) (v1 : Int32) (v2 : Int32) (v3 : Int32) (S : Sx) (rv : Int32) (ho : o_X0_placeOf_65 ok j0 v1 v2 v3 S) (he : b_X0_placeOf_65 kk j0 v1 v2 v3 S = rv) : Jg p l e rm_X0_placeOf s m args below meth c 0 0 (MQ below (Qi D q ad d rv S s.heap.size) args s 0 0 (AU ad s.heap.size)) D q ad d 5 65 [(0, .ref (ad j0)), (1, .int v1), (2, .int v2), (3, .int v3)] [] S := by
  unfold b_X0_placeOf_65 at he
  unfold o_X0_placeOf_65 at ho
  refine j_iinc X 2 (v2 + 1) [(2, .int (v2 + 1)), (0, .ref (ad j0)), (1, .int v1), (3, .int v3)] dX0_placeOf_65 rfl rfl (by decide) rfl ?_
  refine j_lv [1, 2, 0, 3] [(0, .ref (ad j0)), (1, .int v1), (2, .int (v2 + 1)), (3, .int v3)] rfl ?_
  exact t_X0_placeOf_68 X hr hlocks kk ok hkk j0 hj0 v1 (v2 + 1) v3 S _ ho he
def b_X0_placeOf_40 (kk : Nat → Int32 → Int32 → Int32 → Sx → Int32) (j0 : Nat) (v1 : Int32) (v2 : Int32) (v3 : Int32) (w0 : Int32) (S : Sx) : Int32 := if w0 = 0 then if (b_X2_isAheadOf_0 (j0 + 16 + v3.toNatClampNeg) (j0 + 16 + v1.toNatClampNeg) S) = 0 then b_X0_placeOf_68 kk j0 v1 v2 v3 S else b_X0_placeOf_65 kk j0 v1 v2 v3 S else b_X0_placeOf_65 kk j0 v1 v2 v3 S
def o_X0_placeOf_40 (ok : Nat → Int32 → Int32 → Int32 → Sx → Prop) (j0 : Nat) (v1 : Int32) (v2 : Int32) (v3 : Int32) (w0 : Int32) (S : Sx) : Prop := (w0 = 0 → (vp_in v3 12 ∧ (vp_in v1 12 ∧ (o_X2_isAheadOf_0 (j0 + 16 + v3.toNatClampNeg) (j0 + 16 + v1.toNatClampNeg) S ∧ (((b_X2_isAheadOf_0 (j0 + 16 + v3.toNatClampNeg) (j0 + 16 + v1.toNatClampNeg) S) = 0 → (o_X0_placeOf_68 ok j0 v1 v2 v3 S)) ∧ (¬ (b_X2_isAheadOf_0 (j0 + 16 + v3.toNatClampNeg) (j0 + 16 + v1.toNatClampNeg) S) = 0 → (o_X0_placeOf_65 ok j0 v1 v2 v3 S))))))) ∧ (¬ w0 = 0 → (o_X0_placeOf_65 ok j0 v1 v2 v3 S))
set_option maxRecDepth 20000 in
theorem t_X0_placeOf_40 (X : Cx p m c cX0_placeOf 5 s args RX0 D q ad) (hr : meth.sig.returnType = some .int) (hlocks : meth.locks = false) (kk : Nat → Int32 → Int32 → Int32 → Sx → Int32) (ok : Nat → Int32 → Int32 → Int32 → Sx → Prop) (hkk : ∀ (j0 : Nat) (hj0 : isK 0 j0) (v1 : Int32) (v2 : Int32) (v3 : Int32) (S : Sx) (rv : Int32) (ho : ok j0 v1 v2 v3 S) (he : kk j0 v1 v2 v3 S = rv), Jg p l e rm_X0_placeOf s m args below meth c 0 0 (MQ below (Qi D q ad d rv S s.heap.size) args s 0 0 (AU ad s.heap.size)) D q ad d 5 4 [(0, .ref (ad j0)), (1, .int v1), (2, .int v2), (3, .int v3)] [] S) (j0 : Nat) (hj0 : isK 0 j0) (v1 : Int32) (v2 : Int32) (v3 : Int32) (w0 : Int32) (S : Sx) (rv : Int32) (ho : o_X0_placeOf_40 ok j0 v1 v2 v3 w0 S) (he : b_X0_placeOf_40 kk j0 v1 v2 v3 w0 S = rv) : Jg p l e rm_X0_placeOf s m args below meth c 0 0 (MQ below (Qi D q ad d rv S s.heap.size) args s 0 0 (AU ad s.heap.size)) D q ad d 5 40 [(0, .ref (ad j0)), (1, .int v1), (2, .int v2), (3, .int v3)] [.int w0] S := by
  unfold b_X0_placeOf_40 at he
  unfold o_X0_placeOf_40 at ho
  refine j_istore X [(4, .int w0), (0, .ref (ad j0)), (1, .int v1), (2, .int v2), (3, .int v3)] dX0_placeOf_40 (by decide) rfl ?_
  refine j_iload X 0 dX0_placeOf_42 rfl ?_
  refine j_if_ne X 65 dX0_placeOf_44 (by decide) (fun h2 => ?_) (fun h2 => ?_)
  · rw [if_neg h2] at he
    have ho := ho.2 h2
    refine j_lv [1, 2, 3, 4] [(0, .ref (ad j0)), (1, .int v1), (2, .int v2), (3, .int v3)] rfl ?_
    exact t_X0_placeOf_65 X hr hlocks kk ok hkk j0 hj0 v1 v2 v3 S _ ho he
  · rw [if_pos h2] at he
    have ho := ho.1 h2
    refine j_aload_n X 1 dX0_placeOf_47 rfl ?_
    refine gf_0_11 X m_fl_X0_39 hj0 dX0_placeOf_48 ?_
    refine j_iload_n X 4 dX0_placeOf_51 rfl ?_
    have h3 := ho.1
    have ho := ho.2
    refine j_aald (a := ad (j0 + 16 + v3.toNatClampNeg)) X 3 (k0_6 hj0).1 (cl_6 (k0_6 hj0)) rfl h3 rfl dX0_placeOf_52 ?_
    have hk4 : isK 9 (j0 + 16 + v3.toNatClampNeg) := k0_9 hj0 (vlt h3)
    refine j_aload_n X 1 dX0_placeOf_53 rfl ?_
    refine gf_0_11 X m_fl_X0_39 hj0 dX0_placeOf_54 ?_
    refine j_iload_n X 2 dX0_placeOf_57 rfl ?_
    have h5 := ho.1
    have ho := ho.2
    refine j_aald (a := ad (j0 + 16 + v1.toNatClampNeg)) X 3 (k0_6 hj0).1 (cl_6 (k0_6 hj0)) rfl h5 rfl dX0_placeOf_58 ?_
    have hk6 : isK 9 (j0 + 16 + v1.toNatClampNeg) := k0_9 hj0 (vlt h5)
    have h7 := ho.1
    have ho := ho.2
    refine j_callVi (rest := []) X (c_X2_isAheadOf (cx_inj X) (j0 + 16 + v3.toNatClampNeg) hk4 (j0 + 16 + v1.toNatClampNeg) hk6 S h7) cw_X0_211 hk4.1 (cl_9 hk4) rfl ⟨rfl, rfl, Nat.le_of_ble_eq_true rfl, Nat.le_of_ble_eq_true rfl⟩ rfl rfl (Nat.le_of_ble_eq_true rfl) ⟨Nat.le_of_ble_eq_true rfl, Nat.le_of_ble_eq_true rfl⟩ dX0_placeOf_59 ?_
    refine j_if_eq X 68 dX0_placeOf_62 (by decide) (fun h8 => ?_) (fun h8 => ?_)
    · rw [if_pos h8] at he
      have ho := ho.1 h8
      refine j_lv [1, 2, 3, 4] [(0, .ref (ad j0)), (1, .int v1), (2, .int v2), (3, .int v3)] rfl ?_
      exact t_X0_placeOf_68 X hr hlocks kk ok hkk j0 hj0 v1 v2 v3 S _ ho he
    · rw [if_neg h8] at he
      have ho := ho.2 h8
      refine j_lv [1, 2, 3, 4] [(0, .ref (ad j0)), (1, .int v1), (2, .int v2), (3, .int v3)] rfl ?_
      exact t_X0_placeOf_65 X hr hlocks kk ok hkk j0 hj0 v1 v2 v3 S _ ho he
def b_X0_placeOf_39 (kk : Nat → Int32 → Int32 → Int32 → Sx → Int32) (j0 : Nat) (v1 : Int32) (v2 : Int32) (v3 : Int32) (S : Sx) : Int32 := b_X0_placeOf_40 kk j0 v1 v2 v3 0 S
def o_X0_placeOf_39 (ok : Nat → Int32 → Int32 → Int32 → Sx → Prop) (j0 : Nat) (v1 : Int32) (v2 : Int32) (v3 : Int32) (S : Sx) : Prop := o_X0_placeOf_40 ok j0 v1 v2 v3 0 S
set_option maxRecDepth 20000 in
theorem t_X0_placeOf_39 (X : Cx p m c cX0_placeOf 5 s args RX0 D q ad) (hr : meth.sig.returnType = some .int) (hlocks : meth.locks = false) (kk : Nat → Int32 → Int32 → Int32 → Sx → Int32) (ok : Nat → Int32 → Int32 → Int32 → Sx → Prop) (hkk : ∀ (j0 : Nat) (hj0 : isK 0 j0) (v1 : Int32) (v2 : Int32) (v3 : Int32) (S : Sx) (rv : Int32) (ho : ok j0 v1 v2 v3 S) (he : kk j0 v1 v2 v3 S = rv), Jg p l e rm_X0_placeOf s m args below meth c 0 0 (MQ below (Qi D q ad d rv S s.heap.size) args s 0 0 (AU ad s.heap.size)) D q ad d 5 4 [(0, .ref (ad j0)), (1, .int v1), (2, .int v2), (3, .int v3)] [] S) (j0 : Nat) (hj0 : isK 0 j0) (v1 : Int32) (v2 : Int32) (v3 : Int32) (S : Sx) (rv : Int32) (ho : o_X0_placeOf_39 ok j0 v1 v2 v3 S) (he : b_X0_placeOf_39 kk j0 v1 v2 v3 S = rv) : Jg p l e rm_X0_placeOf s m args below meth c 0 0 (MQ below (Qi D q ad d rv S s.heap.size) args s 0 0 (AU ad s.heap.size)) D q ad d 5 39 [(0, .ref (ad j0)), (1, .int v1), (2, .int v2), (3, .int v3)] [] S := by
  unfold b_X0_placeOf_39 at he
  unfold o_X0_placeOf_39 at ho
  refine j_iconst (v := 0) X dX0_placeOf_39 (by decide) ?_
  exact t_X0_placeOf_40 X hr hlocks kk ok hkk j0 hj0 v1 v2 v3 0 S _ ho he
def b_X0_placeOf_4 : Nat → Nat → Int32 → Int32 → Int32 → Sx → Int32
  | 0, _, _, _, _, S => 0
  | n + 1, j0, v1, v2, v3, S => if (S j0 10) ≤ v3 then v2 else if v1 ≤ v3 then b_X0_placeOf_39 (b_X0_placeOf_4 n) j0 v1 v2 v3 S else if (b_X2_isAheadOf_0 (j0 + 16 + v1.toNatClampNeg) (j0 + 16 + v3.toNatClampNeg) S) = 0 then b_X0_placeOf_40 (b_X0_placeOf_4 n) j0 v1 v2 v3 1 S else b_X0_placeOf_39 (b_X0_placeOf_4 n) j0 v1 v2 v3 S
def o_X0_placeOf_4 : Nat → Nat → Int32 → Int32 → Int32 → Sx → Prop
  | 0, _, _, _, _, _ => False
  | n + 1, j0, v1, v2, v3, S => ((S j0 10) ≤ v3 → True) ∧ (¬ (S j0 10) ≤ v3 → ((v1 ≤ v3 → (o_X0_placeOf_39 (o_X0_placeOf_4 n) j0 v1 v2 v3 S)) ∧ (¬ v1 ≤ v3 → (vp_in v1 12 ∧ (vp_in v3 12 ∧ (o_X2_isAheadOf_0 (j0 + 16 + v1.toNatClampNeg) (j0 + 16 + v3.toNatClampNeg) S ∧ (((b_X2_isAheadOf_0 (j0 + 16 + v1.toNatClampNeg) (j0 + 16 + v3.toNatClampNeg) S) = 0 → (o_X0_placeOf_40 (o_X0_placeOf_4 n) j0 v1 v2 v3 1 S)) ∧ (¬ (b_X2_isAheadOf_0 (j0 + 16 + v1.toNatClampNeg) (j0 + 16 + v3.toNatClampNeg) S) = 0 → (o_X0_placeOf_39 (o_X0_placeOf_4 n) j0 v1 v2 v3 S)))))))))
set_option maxRecDepth 20000 in
theorem t_X0_placeOf_4 (X : Cx p m c cX0_placeOf 5 s args RX0 D q ad) (hr : meth.sig.returnType = some .int) (hlocks : meth.locks = false) : ∀ (n : Nat) (j0 : Nat) (hj0 : isK 0 j0) (v1 : Int32) (v2 : Int32) (v3 : Int32) (S : Sx) (rv : Int32) (ho : o_X0_placeOf_4 n j0 v1 v2 v3 S) (he : b_X0_placeOf_4 n j0 v1 v2 v3 S = rv), Jg p l e rm_X0_placeOf s m args below meth c 0 0 (MQ below (Qi D q ad d rv S s.heap.size) args s 0 0 (AU ad s.heap.size)) D q ad d 5 4 [(0, .ref (ad j0)), (1, .int v1), (2, .int v2), (3, .int v3)] [] S := by
  intro n
  induction n with
  | zero =>
    intro j0 hj0 v1 v2 v3 S rv ho he
    unfold o_X0_placeOf_4 at ho
    exact ho.elim
  | succ n ih =>
    intro j0 hj0 v1 v2 v3 S rv ho he
    unfold b_X0_placeOf_4 at he
    unfold o_X0_placeOf_4 at ho
    refine j_iload_n X 3 dX0_placeOf_4 rfl ?_
    refine j_aload_n X 0 dX0_placeOf_5 rfl ?_
    refine gf_0_10 X m_fl_X0_64 hj0 dX0_placeOf_6 ?_
    refine j_icmp_ge X 74 dX0_placeOf_9 (by decide) (fun h2 => ?_) (fun h2 => ?_)
    · rw [if_pos h2] at he
      have ho := ho.1 h2
      refine j_iload_n X 2 dX0_placeOf_74 rfl ?_
      exact j_iret X hr hlocks dX0_placeOf_75 he rfl
    · rw [if_neg h2] at he
      have ho := ho.2 h2
      refine j_iload_n X 3 dX0_placeOf_12 rfl ?_
      refine j_iload_n X 1 dX0_placeOf_13 rfl ?_
      refine j_icmp_ge X 39 dX0_placeOf_14 (by decide) (fun h3 => ?_) (fun h3 => ?_)
      · rw [if_pos h3] at he
        have ho := ho.1 h3
        exact t_X0_placeOf_39 X hr hlocks (b_X0_placeOf_4 n) (o_X0_placeOf_4 n) ih j0 hj0 v1 v2 v3 S _ ho he
      · rw [if_neg h3] at he
        have ho := ho.2 h3
        refine j_aload_n X 0 dX0_placeOf_17 rfl ?_
        refine gf_0_11 X m_fl_X0_39 hj0 dX0_placeOf_18 ?_
        refine j_iload_n X 1 dX0_placeOf_21 rfl ?_
        have h4 := ho.1
        have ho := ho.2
        refine j_aald (a := ad (j0 + 16 + v1.toNatClampNeg)) X 3 (k0_6 hj0).1 (cl_6 (k0_6 hj0)) rfl h4 rfl dX0_placeOf_22 ?_
        have hk5 : isK 9 (j0 + 16 + v1.toNatClampNeg) := k0_9 hj0 (vlt h4)
        refine j_aload_n X 0 dX0_placeOf_23 rfl ?_
        refine gf_0_11 X m_fl_X0_39 hj0 dX0_placeOf_24 ?_
        refine j_iload_n X 3 dX0_placeOf_27 rfl ?_
        have h6 := ho.1
        have ho := ho.2
        refine j_aald (a := ad (j0 + 16 + v3.toNatClampNeg)) X 3 (k0_6 hj0).1 (cl_6 (k0_6 hj0)) rfl h6 rfl dX0_placeOf_28 ?_
        have hk7 : isK 9 (j0 + 16 + v3.toNatClampNeg) := k0_9 hj0 (vlt h6)
        have h8 := ho.1
        have ho := ho.2
        refine j_callVi (rest := []) X (c_X2_isAheadOf (cx_inj X) (j0 + 16 + v1.toNatClampNeg) hk5 (j0 + 16 + v3.toNatClampNeg) hk7 S h8) cw_X0_211 hk5.1 (cl_9 hk5) rfl ⟨rfl, rfl, Nat.le_of_ble_eq_true rfl, Nat.le_of_ble_eq_true rfl⟩ rfl rfl (Nat.le_of_ble_eq_true rfl) ⟨Nat.le_of_ble_eq_true rfl, Nat.le_of_ble_eq_true rfl⟩ dX0_placeOf_29 ?_
        refine j_if_ne X 39 dX0_placeOf_32 (by decide) (fun h9 => ?_) (fun h9 => ?_)
        · rw [if_neg h9] at he
          have ho := ho.2 h9
          exact t_X0_placeOf_39 X hr hlocks (b_X0_placeOf_4 n) (o_X0_placeOf_4 n) ih j0 hj0 v1 v2 v3 S _ ho he
        · rw [if_pos h9] at he
          have ho := ho.1 h9
          refine j_iconst (v := 1) X dX0_placeOf_35 (by decide) ?_
          refine j_goto X 40 dX0_placeOf_36 (by decide) ?_
          exact t_X0_placeOf_40 X hr hlocks (b_X0_placeOf_4 n) (o_X0_placeOf_4 n) ih j0 hj0 v1 v2 v3 1 S _ ho he
def b_X0_placeOf_0 (this : Nat) (x1 : Int32) (S : Sx) : Int32 := b_X0_placeOf_4 100 this x1 0 0 S
def o_X0_placeOf_0 (this : Nat) (x1 : Int32) (S : Sx) : Prop := o_X0_placeOf_4 100 this x1 0 0 S
set_option maxRecDepth 20000 in
theorem t_X0_placeOf_0 (X : Cx p m c cX0_placeOf 5 s args RX0 D q ad) (hr : meth.sig.returnType = some .int) (hlocks : meth.locks = false) (this : Nat) (hthis : isK 0 this) (x1 : Int32) (S : Sx) (rv : Int32) (ho : o_X0_placeOf_0 this x1 S) (he : b_X0_placeOf_0 this x1 S = rv) : Jg p l e rm_X0_placeOf s m args below meth c 0 0 (MQ below (Qi D q ad d rv S s.heap.size) args s 0 0 (AU ad s.heap.size)) D q ad d 5 0 [(0, .ref (ad this)), (1, .int x1)] [] S := by
  unfold b_X0_placeOf_0 at he
  unfold o_X0_placeOf_0 at ho
  refine j_iconst (v := 0) X dX0_placeOf_0 (by decide) ?_
  refine j_istore_n X [(2, .int 0), (0, .ref (ad this)), (1, .int x1)] dX0_placeOf_1 (by decide) rfl ?_
  refine j_iconst (v := 0) X dX0_placeOf_2 (by decide) ?_
  refine j_istore_n X [(3, .int 0), (2, .int 0), (0, .ref (ad this)), (1, .int x1)] dX0_placeOf_3 (by decide) rfl ?_
  refine j_lv [2, 3, 1, 0] [(0, .ref (ad this)), (1, .int x1), (2, .int 0), (3, .int 0)] rfl ?_
  exact t_X0_placeOf_4 X hr hlocks 100 this hthis x1 0 0 S _ ho he
theorem c_X0_placeOf {l : Launch} {D : va_G} {q : Nat → ClassId} {ad : Nat → Nat} {d : UInt64} (hI : inj4 ad) (this : Nat) (hthis : isK 0 this) (x1 : Int32) (S : Sx) (ho : o_X0_placeOf_0 this x1 S) : CI l yX0_placeOf cX0_placeOf 5 .int rm_X0_placeOf D q ad d [.ref (ad this), .int x1] S (b_X0_placeOf_0 this x1 S) S := ci_of hI (by decide +kernel) (Nat.le_of_ble_eq_true rfl) rfl (fun p e s m args below meth c X hr hlocks => t_X0_placeOf_0 X hr hlocks this hthis x1 S _ ho rfl)
end
/-! RX0.inningsAtPlace -/
abbrev rm_X0_inningsAtPlace : Room := { frames := 2, cells := 0, slots := 0, locals := 45 }
section
variable {p : Program} {l : Launch} {e : Env} {s : State} {m : MethodId} {args : Array Value} {below : List Frame} {meth : Method} {c : Code} {D : va_G} {q : Nat → ClassId} {ad : Nat → Nat} {d : UInt64}
def b_X0_inningsAtPlace_2 : Nat → Nat → Int32 → Int32 → Sx → Int32
  | 0, _, _, _, S => 0
  | n + 1, j0, v1, v2, S => if (S j0 10) ≤ v2 then (-1) else if (b_X0_placeOf_0 j0 v2 S) = v1 then v2 else b_X0_inningsAtPlace_2 n j0 v1 (v2 + 1) S
def o_X0_inningsAtPlace_2 : Nat → Nat → Int32 → Int32 → Sx → Prop
  | 0, _, _, _, _ => False
  | n + 1, j0, v1, v2, S => ((S j0 10) ≤ v2 → True) ∧ (¬ (S j0 10) ≤ v2 → (o_X0_placeOf_0 j0 v2 S ∧ (((b_X0_placeOf_0 j0 v2 S) = v1 → True) ∧ (¬ (b_X0_placeOf_0 j0 v2 S) = v1 → (o_X0_inningsAtPlace_2 n j0 v1 (v2 + 1) S)))))
set_option maxRecDepth 20000 in
theorem t_X0_inningsAtPlace_2 (X : Cx p m c cX0_inningsAtPlace 3 s args RX0 D q ad) (hr : meth.sig.returnType = some .int) (hlocks : meth.locks = false) : ∀ (n : Nat) (j0 : Nat) (hj0 : isK 0 j0) (v1 : Int32) (v2 : Int32) (S : Sx) (rv : Int32) (ho : o_X0_inningsAtPlace_2 n j0 v1 v2 S) (he : b_X0_inningsAtPlace_2 n j0 v1 v2 S = rv), Jg p l e rm_X0_inningsAtPlace s m args below meth c 0 0 (MQ below (Qi D q ad d rv S s.heap.size) args s 0 0 (AU ad s.heap.size)) D q ad d 3 2 [(0, .ref (ad j0)), (1, .int v1), (2, .int v2)] [] S := by
  intro n
  induction n with
  | zero =>
    intro j0 hj0 v1 v2 S rv ho he
    unfold o_X0_inningsAtPlace_2 at ho
    exact ho.elim
  | succ n ih =>
    intro j0 hj0 v1 v2 S rv ho he
    unfold b_X0_inningsAtPlace_2 at he
    unfold o_X0_inningsAtPlace_2 at ho
    refine j_iload_n X 2 dX0_inningsAtPlace_2 rfl ?_
    refine j_aload_n X 0 dX0_inningsAtPlace_3 rfl ?_
    refine gf_0_10 X m_fl_X0_64 hj0 dX0_inningsAtPlace_4 ?_
    refine j_icmp_ge X 27 dX0_inningsAtPlace_7 (by decide) (fun h2 => ?_) (fun h2 => ?_)
    · rw [if_pos h2] at he
      have ho := ho.1 h2
      refine j_iconst (v := (-1)) X dX0_inningsAtPlace_27 (by decide) ?_
      exact j_iret X hr hlocks dX0_inningsAtPlace_28 he rfl
    · rw [if_neg h2] at he
      have ho := ho.2 h2
      refine j_aload_n X 0 dX0_inningsAtPlace_10 rfl ?_
      refine j_iload_n X 2 dX0_inningsAtPlace_11 rfl ?_
      have h3 := ho.1
      have ho := ho.2
      refine j_callVi (rest := []) X (c_X0_placeOf (cx_inj X) j0 hj0 v2 S h3) cw_X0_208 hj0.1 (cl_0 hj0) rfl ⟨rfl, rfl, Nat.le_of_ble_eq_true rfl, Nat.le_of_ble_eq_true rfl⟩ rfl rfl (Nat.le_of_ble_eq_true rfl) ⟨Nat.le_of_ble_eq_true rfl, Nat.le_of_ble_eq_true rfl⟩ dX0_inningsAtPlace_12 ?_
      refine j_iload_n X 1 dX0_inningsAtPlace_15 rfl ?_
      refine j_icmp_ne X 21 dX0_inningsAtPlace_16 (by decide) (fun h4 => ?_) (fun h4 => ?_)
      · rw [if_neg h4] at he
        have ho := ho.2 h4
        refine j_iinc X 2 (v2 + 1) [(2, .int (v2 + 1)), (0, .ref (ad j0)), (1, .int v1)] dX0_inningsAtPlace_21 rfl rfl (by decide) rfl ?_
        refine j_goto X 2 dX0_inningsAtPlace_24 (by decide) ?_
        refine j_lv [1, 2, 0] [(0, .ref (ad j0)), (1, .int v1), (2, .int (v2 + 1))] rfl ?_
        exact ih j0 hj0 v1 (v2 + 1) S _ ho he
      · rw [if_pos h4] at he
        have ho := ho.1 h4
        refine j_iload_n X 2 dX0_inningsAtPlace_19 rfl ?_
        exact j_iret X hr hlocks dX0_inningsAtPlace_20 he rfl
def b_X0_inningsAtPlace_0 (this : Nat) (x1 : Int32) (S : Sx) : Int32 := b_X0_inningsAtPlace_2 100 this x1 0 S
def o_X0_inningsAtPlace_0 (this : Nat) (x1 : Int32) (S : Sx) : Prop := o_X0_inningsAtPlace_2 100 this x1 0 S
set_option maxRecDepth 20000 in
theorem t_X0_inningsAtPlace_0 (X : Cx p m c cX0_inningsAtPlace 3 s args RX0 D q ad) (hr : meth.sig.returnType = some .int) (hlocks : meth.locks = false) (this : Nat) (hthis : isK 0 this) (x1 : Int32) (S : Sx) (rv : Int32) (ho : o_X0_inningsAtPlace_0 this x1 S) (he : b_X0_inningsAtPlace_0 this x1 S = rv) : Jg p l e rm_X0_inningsAtPlace s m args below meth c 0 0 (MQ below (Qi D q ad d rv S s.heap.size) args s 0 0 (AU ad s.heap.size)) D q ad d 3 0 [(0, .ref (ad this)), (1, .int x1)] [] S := by
  unfold b_X0_inningsAtPlace_0 at he
  unfold o_X0_inningsAtPlace_0 at ho
  refine j_iconst (v := 0) X dX0_inningsAtPlace_0 (by decide) ?_
  refine j_istore_n X [(2, .int 0), (0, .ref (ad this)), (1, .int x1)] dX0_inningsAtPlace_1 (by decide) rfl ?_
  refine j_lv [1, 2, 0] [(0, .ref (ad this)), (1, .int x1), (2, .int 0)] rfl ?_
  exact t_X0_inningsAtPlace_2 X hr hlocks 100 this hthis x1 0 S _ ho he
theorem c_X0_inningsAtPlace {l : Launch} {D : va_G} {q : Nat → ClassId} {ad : Nat → Nat} {d : UInt64} (hI : inj4 ad) (this : Nat) (hthis : isK 0 this) (x1 : Int32) (S : Sx) (ho : o_X0_inningsAtPlace_0 this x1 S) : CI l yX0_inningsAtPlace cX0_inningsAtPlace 3 .int rm_X0_inningsAtPlace D q ad d [.ref (ad this), .int x1] S (b_X0_inningsAtPlace_0 this x1 S) S := ci_of hI (by decide +kernel) (Nat.le_of_ble_eq_true rfl) rfl (fun p e s m args below meth c X hr hlocks => t_X0_inningsAtPlace_0 X hr hlocks this hthis x1 S _ ho rfl)
end
/-! RX0.coveredPitches -/
abbrev rm_X0_coveredPitches : Room := { frames := 0, cells := 0, slots := 0, locals := 0 }
section
variable {p : Program} {l : Launch} {e : Env} {s : State} {m : MethodId} {args : Array Value} {below : List Frame} {meth : Method} {c : Code} {D : va_G} {q : Nat → ClassId} {ad : Nat → Nat} {d : UInt64}
def b_X0_coveredPitches_30 (kk : Nat → Int32 → Int32 → Sx → Int32) (j0 : Nat) (v2 : Int32) (w0 : Int32) (w1 : Int32) (S : Sx) : Int32 := kk j0 (w1 + w0) (v2 + 1) S
def o_X0_coveredPitches_30 (ok : Nat → Int32 → Int32 → Sx → Prop) (j0 : Nat) (v2 : Int32) (w0 : Int32) (w1 : Int32) (S : Sx) : Prop := ok j0 (w1 + w0) (v2 + 1) S
set_option maxRecDepth 20000 in
theorem t_X0_coveredPitches_30 (X : Cx p m c cX0_coveredPitches 3 s args RX0 D q ad) (hr : meth.sig.returnType = some .int) (hlocks : meth.locks = false) (kk : Nat → Int32 → Int32 → Sx → Int32) (ok : Nat → Int32 → Int32 → Sx → Prop) (hkk : ∀ (j0 : Nat) (hj0 : isK 0 j0) (v1 : Int32) (v2 : Int32) (S : Sx) (rv : Int32) (ho : ok j0 v1 v2 S) (he : kk j0 v1 v2 S = rv), Jg p l e rm_X0_coveredPitches s m args below meth c 0 0 (MQ below (Qi D q ad d rv S s.heap.size) args s 0 0 (AU ad s.heap.size)) D q ad d 3 4 [(0, .ref (ad j0)), (1, .int v1), (2, .int v2)] [] S) (j0 : Nat) (hj0 : isK 0 j0) (v2 : Int32) (w0 : Int32) (w1 : Int32) (S : Sx) (rv : Int32) (ho : o_X0_coveredPitches_30 ok j0 v2 w0 w1 S) (he : b_X0_coveredPitches_30 kk j0 v2 w0 w1 S = rv) : Jg p l e rm_X0_coveredPitches s m args below meth c 0 0 (MQ below (Qi D q ad d rv S s.heap.size) args s 0 0 (AU ad s.heap.size)) D q ad d 3 30 [(0, .ref (ad j0)), (2, .int v2)] [.int w0, .int w1] S := by
  unfold b_X0_coveredPitches_30 at he
  unfold o_X0_coveredPitches_30 at ho
  refine j_iadd X dX0_coveredPitches_30 ?_
  refine j_istore_n X [(1, .int (w1 + w0)), (0, .ref (ad j0)), (2, .int v2)] dX0_coveredPitches_31 (by decide) rfl ?_
  refine j_iinc X 2 (v2 + 1) [(2, .int (v2 + 1)), (1, .int (w1 + w0)), (0, .ref (ad j0))] dX0_coveredPitches_32 rfl rfl (by decide) rfl ?_
  refine j_goto X 4 dX0_coveredPitches_35 (by decide) ?_
  refine j_lv [2, 1, 0] [(0, .ref (ad j0)), (1, .int (w1 + w0)), (2, .int (v2 + 1))] rfl ?_
  exact hkk j0 hj0 (w1 + w0) (v2 + 1) S _ ho he
def b_X0_coveredPitches_4 : Nat → Nat → Int32 → Int32 → Sx → Int32
  | 0, _, _, _, S => 0
  | n + 1, j0, v1, v2, S => if (S j0 4) ≤ v2 then v1 else if (nb (S (j0 + 7 + v2.toNatClampNeg) 3)) = 0 then b_X0_coveredPitches_30 (b_X0_coveredPitches_4 n) j0 v2 0 v1 S else b_X0_coveredPitches_30 (b_X0_coveredPitches_4 n) j0 v2 1 v1 S
def o_X0_coveredPitches_4 : Nat → Nat → Int32 → Int32 → Sx → Prop
  | 0, _, _, _, _ => False
  | n + 1, j0, v1, v2, S => ((S j0 4) ≤ v2 → True) ∧ (¬ (S j0 4) ≤ v2 → (vp_in v2 4 ∧ (((nb (S (j0 + 7 + v2.toNatClampNeg) 3)) = 0 → (o_X0_coveredPitches_30 (o_X0_coveredPitches_4 n) j0 v2 0 v1 S)) ∧ (¬ (nb (S (j0 + 7 + v2.toNatClampNeg) 3)) = 0 → (o_X0_coveredPitches_30 (o_X0_coveredPitches_4 n) j0 v2 1 v1 S)))))
set_option maxRecDepth 20000 in
theorem t_X0_coveredPitches_4 (X : Cx p m c cX0_coveredPitches 3 s args RX0 D q ad) (hr : meth.sig.returnType = some .int) (hlocks : meth.locks = false) : ∀ (n : Nat) (j0 : Nat) (hj0 : isK 0 j0) (v1 : Int32) (v2 : Int32) (S : Sx) (rv : Int32) (ho : o_X0_coveredPitches_4 n j0 v1 v2 S) (he : b_X0_coveredPitches_4 n j0 v1 v2 S = rv), Jg p l e rm_X0_coveredPitches s m args below meth c 0 0 (MQ below (Qi D q ad d rv S s.heap.size) args s 0 0 (AU ad s.heap.size)) D q ad d 3 4 [(0, .ref (ad j0)), (1, .int v1), (2, .int v2)] [] S := by
  intro n
  induction n with
  | zero =>
    intro j0 hj0 v1 v2 S rv ho he
    unfold o_X0_coveredPitches_4 at ho
    exact ho.elim
  | succ n ih =>
    intro j0 hj0 v1 v2 S rv ho he
    unfold b_X0_coveredPitches_4 at he
    unfold o_X0_coveredPitches_4 at ho
    refine j_iload_n X 2 dX0_coveredPitches_4 rfl ?_
    refine j_aload_n X 0 dX0_coveredPitches_5 rfl ?_
    refine gf_0_4 X m_fl_X0_55 hj0 dX0_coveredPitches_6 ?_
    refine j_icmp_ge X 38 dX0_coveredPitches_9 (by decide) (fun h2 => ?_) (fun h2 => ?_)
    · rw [if_pos h2] at he
      have ho := ho.1 h2
      refine j_iload_n X 1 dX0_coveredPitches_38 rfl ?_
      exact j_iret X hr hlocks dX0_coveredPitches_39 he rfl
    · rw [if_neg h2] at he
      have ho := ho.2 h2
      refine j_iload_n X 1 dX0_coveredPitches_12 rfl ?_
      refine j_aload_n X 0 dX0_coveredPitches_13 rfl ?_
      refine gf_0_5 X m_fl_X0_24 hj0 dX0_coveredPitches_14 ?_
      refine j_iload_n X 2 dX0_coveredPitches_17 rfl ?_
      have h3 := ho.1
      have ho := ho.2
      refine j_aald (a := ad (j0 + 7 + v2.toNatClampNeg)) X 1 (k0_4 hj0).1 (cl_4 (k0_4 hj0)) rfl h3 rfl dX0_coveredPitches_18 ?_
      have hk4 : isK 7 (j0 + 7 + v2.toNatClampNeg) := k0_7 hj0 (vlt h3)
      refine gf_7_3 X m_fl_X0_94 hk4 dX0_coveredPitches_19 ?_
      refine j_if_eq X 29 dX0_coveredPitches_22 (by decide) (fun h5 => ?_) (fun h5 => ?_)
      · rw [if_pos h5] at he
        have ho := ho.1 h5
        refine j_iconst (v := 0) X dX0_coveredPitches_29 (by decide) ?_
        refine j_lv [0, 2] [(0, .ref (ad j0)), (2, .int v2)] rfl ?_
        exact t_X0_coveredPitches_30 X hr hlocks (b_X0_coveredPitches_4 n) (o_X0_coveredPitches_4 n) ih j0 hj0 v2 0 v1 S _ ho he
      · rw [if_neg h5] at he
        have ho := ho.2 h5
        refine j_iconst (v := 1) X dX0_coveredPitches_25 (by decide) ?_
        refine j_goto X 30 dX0_coveredPitches_26 (by decide) ?_
        refine j_lv [0, 2] [(0, .ref (ad j0)), (2, .int v2)] rfl ?_
        exact t_X0_coveredPitches_30 X hr hlocks (b_X0_coveredPitches_4 n) (o_X0_coveredPitches_4 n) ih j0 hj0 v2 1 v1 S _ ho he
def b_X0_coveredPitches_0 (this : Nat) (S : Sx) : Int32 := b_X0_coveredPitches_4 100 this 0 0 S
def o_X0_coveredPitches_0 (this : Nat) (S : Sx) : Prop := o_X0_coveredPitches_4 100 this 0 0 S
set_option maxRecDepth 20000 in
theorem t_X0_coveredPitches_0 (X : Cx p m c cX0_coveredPitches 3 s args RX0 D q ad) (hr : meth.sig.returnType = some .int) (hlocks : meth.locks = false) (this : Nat) (hthis : isK 0 this) (S : Sx) (rv : Int32) (ho : o_X0_coveredPitches_0 this S) (he : b_X0_coveredPitches_0 this S = rv) : Jg p l e rm_X0_coveredPitches s m args below meth c 0 0 (MQ below (Qi D q ad d rv S s.heap.size) args s 0 0 (AU ad s.heap.size)) D q ad d 3 0 [(0, .ref (ad this))] [] S := by
  unfold b_X0_coveredPitches_0 at he
  unfold o_X0_coveredPitches_0 at ho
  refine j_iconst (v := 0) X dX0_coveredPitches_0 (by decide) ?_
  refine j_istore_n X [(1, .int 0), (0, .ref (ad this))] dX0_coveredPitches_1 (by decide) rfl ?_
  refine j_iconst (v := 0) X dX0_coveredPitches_2 (by decide) ?_
  refine j_istore_n X [(2, .int 0), (1, .int 0), (0, .ref (ad this))] dX0_coveredPitches_3 (by decide) rfl ?_
  refine j_lv [2, 1, 0] [(0, .ref (ad this)), (1, .int 0), (2, .int 0)] rfl ?_
  exact t_X0_coveredPitches_4 X hr hlocks 100 this hthis 0 0 S _ ho he
theorem c_X0_coveredPitches {l : Launch} {D : va_G} {q : Nat → ClassId} {ad : Nat → Nat} {d : UInt64} (hI : inj4 ad) (this : Nat) (hthis : isK 0 this) (S : Sx) (ho : o_X0_coveredPitches_0 this S) : CI l yX0_coveredPitches cX0_coveredPitches 3 .int rm_X0_coveredPitches D q ad d [.ref (ad this)] S (b_X0_coveredPitches_0 this S) S := ci_of hI (by decide +kernel) (Nat.le_of_ble_eq_true rfl) rfl (fun p e s m args below meth c X hr hlocks => t_X0_coveredPitches_0 X hr hlocks this hthis S _ ho rfl)
end
/-! RX0.wetnessOfPitches -/
abbrev rm_X0_wetnessOfPitches : Room := { frames := 0, cells := 0, slots := 0, locals := 0 }
section
variable {p : Program} {l : Launch} {e : Env} {s : State} {m : MethodId} {args : Array Value} {below : List Frame} {meth : Method} {c : Code} {D : va_G} {q : Nat → ClassId} {ad : Nat → Nat} {d : UInt64}
def b_X0_wetnessOfPitches_4 : Nat → Nat → Int32 → Int32 → Sx → Int32
  | 0, _, _, _, S => 0
  | n + 1, j0, v1, v2, S => if (S j0 4) ≤ v2 then v1 else b_X0_wetnessOfPitches_4 n j0 (v1 + (S (j0 + 7 + v2.toNatClampNeg) 0)) (v2 + 1) S
def o_X0_wetnessOfPitches_4 : Nat → Nat → Int32 → Int32 → Sx → Prop
  | 0, _, _, _, _ => False
  | n + 1, j0, v1, v2, S => ((S j0 4) ≤ v2 → True) ∧ (¬ (S j0 4) ≤ v2 → (vp_in v2 4 ∧ (o_X0_wetnessOfPitches_4 n j0 (v1 + (S (j0 + 7 + v2.toNatClampNeg) 0)) (v2 + 1) S)))
set_option maxRecDepth 20000 in
theorem t_X0_wetnessOfPitches_4 (X : Cx p m c cX0_wetnessOfPitches 3 s args RX0 D q ad) (hr : meth.sig.returnType = some .int) (hlocks : meth.locks = false) : ∀ (n : Nat) (j0 : Nat) (hj0 : isK 0 j0) (v1 : Int32) (v2 : Int32) (S : Sx) (rv : Int32) (ho : o_X0_wetnessOfPitches_4 n j0 v1 v2 S) (he : b_X0_wetnessOfPitches_4 n j0 v1 v2 S = rv), Jg p l e rm_X0_wetnessOfPitches s m args below meth c 0 0 (MQ below (Qi D q ad d rv S s.heap.size) args s 0 0 (AU ad s.heap.size)) D q ad d 3 4 [(0, .ref (ad j0)), (1, .int v1), (2, .int v2)] [] S := by
  intro n
  induction n with
  | zero =>
    intro j0 hj0 v1 v2 S rv ho he
    unfold o_X0_wetnessOfPitches_4 at ho
    exact ho.elim
  | succ n ih =>
    intro j0 hj0 v1 v2 S rv ho he
    unfold b_X0_wetnessOfPitches_4 at he
    unfold o_X0_wetnessOfPitches_4 at ho
    refine j_iload_n X 2 dX0_wetnessOfPitches_4 rfl ?_
    refine j_aload_n X 0 dX0_wetnessOfPitches_5 rfl ?_
    refine gf_0_4 X m_fl_X0_55 hj0 dX0_wetnessOfPitches_6 ?_
    refine j_icmp_ge X 30 dX0_wetnessOfPitches_9 (by decide) (fun h2 => ?_) (fun h2 => ?_)
    · rw [if_pos h2] at he
      have ho := ho.1 h2
      refine j_iload_n X 1 dX0_wetnessOfPitches_30 rfl ?_
      exact j_iret X hr hlocks dX0_wetnessOfPitches_31 he rfl
    · rw [if_neg h2] at he
      have ho := ho.2 h2
      refine j_iload_n X 1 dX0_wetnessOfPitches_12 rfl ?_
      refine j_aload_n X 0 dX0_wetnessOfPitches_13 rfl ?_
      refine gf_0_5 X m_fl_X0_24 hj0 dX0_wetnessOfPitches_14 ?_
      refine j_iload_n X 2 dX0_wetnessOfPitches_17 rfl ?_
      have h3 := ho.1
      have ho := ho.2
      refine j_aald (a := ad (j0 + 7 + v2.toNatClampNeg)) X 1 (k0_4 hj0).1 (cl_4 (k0_4 hj0)) rfl h3 rfl dX0_wetnessOfPitches_18 ?_
      have hk4 : isK 7 (j0 + 7 + v2.toNatClampNeg) := k0_7 hj0 (vlt h3)
      refine gf_7_0 X m_fl_X0_102 hk4 dX0_wetnessOfPitches_19 ?_
      refine j_iadd X dX0_wetnessOfPitches_22 ?_
      refine j_istore_n X [(1, .int (v1 + (S (j0 + 7 + v2.toNatClampNeg) 0))), (0, .ref (ad j0)), (2, .int v2)] dX0_wetnessOfPitches_23 (by decide) rfl ?_
      refine j_iinc X 2 (v2 + 1) [(2, .int (v2 + 1)), (1, .int (v1 + (S (j0 + 7 + v2.toNatClampNeg) 0))), (0, .ref (ad j0))] dX0_wetnessOfPitches_24 rfl rfl (by decide) rfl ?_
      refine j_goto X 4 dX0_wetnessOfPitches_27 (by decide) ?_
      refine j_lv [2, 1, 0] [(0, .ref (ad j0)), (1, .int (v1 + (S (j0 + 7 + v2.toNatClampNeg) 0))), (2, .int (v2 + 1))] rfl ?_
      exact ih j0 hj0 (v1 + (S (j0 + 7 + v2.toNatClampNeg) 0)) (v2 + 1) S _ ho he
def b_X0_wetnessOfPitches_0 (this : Nat) (S : Sx) : Int32 := b_X0_wetnessOfPitches_4 100 this 0 0 S
def o_X0_wetnessOfPitches_0 (this : Nat) (S : Sx) : Prop := o_X0_wetnessOfPitches_4 100 this 0 0 S
set_option maxRecDepth 20000 in
theorem t_X0_wetnessOfPitches_0 (X : Cx p m c cX0_wetnessOfPitches 3 s args RX0 D q ad) (hr : meth.sig.returnType = some .int) (hlocks : meth.locks = false) (this : Nat) (hthis : isK 0 this) (S : Sx) (rv : Int32) (ho : o_X0_wetnessOfPitches_0 this S) (he : b_X0_wetnessOfPitches_0 this S = rv) : Jg p l e rm_X0_wetnessOfPitches s m args below meth c 0 0 (MQ below (Qi D q ad d rv S s.heap.size) args s 0 0 (AU ad s.heap.size)) D q ad d 3 0 [(0, .ref (ad this))] [] S := by
  unfold b_X0_wetnessOfPitches_0 at he
  unfold o_X0_wetnessOfPitches_0 at ho
  refine j_iconst (v := 0) X dX0_wetnessOfPitches_0 (by decide) ?_
  refine j_istore_n X [(1, .int 0), (0, .ref (ad this))] dX0_wetnessOfPitches_1 (by decide) rfl ?_
  refine j_iconst (v := 0) X dX0_wetnessOfPitches_2 (by decide) ?_
  refine j_istore_n X [(2, .int 0), (1, .int 0), (0, .ref (ad this))] dX0_wetnessOfPitches_3 (by decide) rfl ?_
  refine j_lv [2, 1, 0] [(0, .ref (ad this)), (1, .int 0), (2, .int 0)] rfl ?_
  exact t_X0_wetnessOfPitches_4 X hr hlocks 100 this hthis 0 0 S _ ho he
theorem c_X0_wetnessOfPitches {l : Launch} {D : va_G} {q : Nat → ClassId} {ad : Nat → Nat} {d : UInt64} (hI : inj4 ad) (this : Nat) (hthis : isK 0 this) (S : Sx) (ho : o_X0_wetnessOfPitches_0 this S) : CI l yX0_wetnessOfPitches cX0_wetnessOfPitches 3 .int rm_X0_wetnessOfPitches D q ad d [.ref (ad this)] S (b_X0_wetnessOfPitches_0 this S) S := ci_of hI (by decide +kernel) (Nat.le_of_ble_eq_true rfl) rfl (fun p e s m args below meth c X hr hlocks => t_X0_wetnessOfPitches_0 X hr hlocks this hthis S _ ho rfl)
end

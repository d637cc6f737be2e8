/-! RX7.would -/
abbrev rm_X7_would : Room := { frames := 3, cells := 0, slots := 0, locals := 72 }
section
variable {p : Program} {l : Launch} {e : Env} {s : State} {m : MethodId} {args : Array Value} {below : List Frame} {meth : Method} {c : Code} {D : va_G} {q : Nat → ClassId} {ad : Nat → Nat} {d : UInt64}
def b_X7_would_69 (v3 : Int32) (S : Sx) : Int32 × Sx := (v3, S)
set_option maxRecDepth 20000 in
theorem t_X7_would_69 (X : Cx p m c cX7_would 4 s args RX7 D q ad) (hr : meth.sig.returnType = some .int) (hlocks : meth.locks = false) (v3 : Int32) (S : Sx) (rv : Int32) (S' : Sx) (he : b_X7_would_69 v3 S = (rv, S')) : Jg p l e rm_X7_would s m args below meth c 0 0 (MQ below (Qi D q ad d rv S' s.heap.size) args s 0 0 (AU ad s.heap.size)) D q ad d 4 69 [(3, .int v3)] [] S := by
  unfold b_X7_would_69 at he
  refine j_iload_n X 0 dX7_would_69 rfl ?_
  exact j_iret X hr hlocks dX7_would_70 (congrArg Prod.fst he) (congrArg Prod.snd he)
def b_X7_would_49 (v1 : Int32) (v2 : Int32) (S : Sx) : Int32 × Sx := b_X7_would_69 ((b_X7_bowls_0 v1 v2 S).1) (b_X7_copies_0 10 0 6 0 ((b_X7_bowls_0 v1 v2 S).2))
def o_X7_would_49 (v1 : Int32) (v2 : Int32) (S : Sx) : Prop := o_X7_bowls_0 v1 v2 S ∧ (o_X7_copies_0 10 0 6 0 ((b_X7_bowls_0 v1 v2 S).2) ∧ True)
set_option maxRecDepth 20000 in
theorem t_X7_would_49 (X : Cx p m c cX7_would 4 s args RX7 D q ad) (hr : meth.sig.returnType = some .int) (hlocks : meth.locks = false) (v1 : Int32) (v2 : Int32) (S : Sx) (rv : Int32) (S' : Sx) (ho : o_X7_would_49 v1 v2 S) (he : b_X7_would_49 v1 v2 S = (rv, S')) : Jg p l e rm_X7_would s m args below meth c 0 0 (MQ below (Qi D q ad d rv S' s.heap.size) args s 0 0 (AU ad s.heap.size)) D q ad d 4 49 [(0, .ref (ad 5)), (1, .int v1), (2, .int v2)] [] S := by
  unfold b_X7_would_49 at he
  unfold o_X7_would_49 at ho
  refine j_aload_n X 0 dX7_would_49 rfl ?_
  refine j_iload_n X 1 dX7_would_50 rfl ?_
  refine j_iload_n X 2 dX7_would_51 rfl ?_
  have h2 := ho.1
  have ho := ho.2
  refine j_callVi (rest := []) X (c_X7_bowls (cx_inj X) v1 v2 S h2) cw_X7_150 kc25.1 (cl_25 kc25) rfl ⟨rfl, rfl, Nat.le_of_ble_eq_true rfl, Nat.le_of_ble_eq_true rfl⟩ rfl rfl (Nat.le_of_ble_eq_true rfl) ⟨Nat.le_of_ble_eq_true rfl, Nat.le_of_ble_eq_true rfl⟩ dX7_would_52 ?_
  refine j_istore_n X [(3, .int ((b_X7_bowls_0 v1 v2 S).1)), (0, .ref (ad 5)), (1, .int v1), (2, .int v2)] dX7_would_55 (by decide) rfl ?_
  refine j_aload_n X 1 dX7_would_56 rfl ?_
  refine gf_25_4 X m_fl_X7_22 kc25 dX7_would_57 ?_
  refine j_iconst (v := 0) X dX7_would_60 (by decide) ?_
  refine j_aload_n X 1 dX7_would_61 rfl ?_
  refine gf_25_0 X m_fl_X7_7 kc25 dX7_would_62 ?_
  refine j_iconst (v := 0) X dX7_would_65 (by decide) ?_
  have h3 := ho.1
  have ho := ho.2
  refine j_callSv (rest := []) X (c_X7_copies (cx_inj X) 10 (isA_of30 kc30) 0 6 (isA_of26 kc26) 0 ((b_X7_bowls_0 v1 v2 S).2) h3) cw_X7_54 ⟨rfl, rfl, Nat.le_of_ble_eq_true rfl, Nat.le_of_ble_eq_true rfl⟩ rfl rfl (Nat.le_of_ble_eq_true rfl) ⟨Nat.le_of_ble_eq_true rfl, Nat.le_of_ble_eq_true rfl⟩ dX7_would_66 ?_
  refine j_lv [0] [(3, .int ((b_X7_bowls_0 v1 v2 S).1))] rfl ?_
  exact t_X7_would_69 X hr hlocks ((b_X7_bowls_0 v1 v2 S).1) (b_X7_copies_0 10 0 6 0 ((b_X7_bowls_0 v1 v2 S).2)) _ _ he
def b_X7_would_28 (v1 : Int32) (v2 : Int32) (w0 : Int32) (S : Sx) : Int32 × Sx := if ((b_X7_fails_0 w0 S).1) = 0 then b_X7_would_49 v1 v2 (b_X7_copies_0 6 0 10 0 ((b_X7_fails_0 w0 S).2)) else (0, (b_X7_fails_0 w0 S).2)
def o_X7_would_28 (v1 : Int32) (v2 : Int32) (w0 : Int32) (S : Sx) : Prop := o_X7_fails_0 w0 S ∧ ((((b_X7_fails_0 w0 S).1) = 0 → (o_X7_copies_0 6 0 10 0 ((b_X7_fails_0 w0 S).2) ∧ (o_X7_would_49 v1 v2 (b_X7_copies_0 6 0 10 0 ((b_X7_fails_0 w0 S).2))))) ∧ (¬ ((b_X7_fails_0 w0 S).1) = 0 → True))
set_option maxRecDepth 20000 in
theorem t_X7_would_28 (X : Cx p m c cX7_would 4 s args RX7 D q ad) (hr : meth.sig.returnType = some .int) (hlocks : meth.locks = false) (v1 : Int32) (v2 : Int32) (w0 : Int32) (S : Sx) (rv : Int32) (S' : Sx) (ho : o_X7_would_28 v1 v2 w0 S) (he : b_X7_would_28 v1 v2 w0 S = (rv, S')) : Jg p l e rm_X7_would s m args below meth c 0 0 (MQ below (Qi D q ad d rv S' s.heap.size) args s 0 0 (AU ad s.heap.size)) D q ad d 4 28 [(0, .ref (ad 5)), (1, .int v1), (2, .int v2)] [.int w0, .ref (ad 5)] S := by
  unfold b_X7_would_28 at he
  unfold o_X7_would_28 at ho
  have h2 := ho.1
  have ho := ho.2
  refine j_callVi (rest := []) X (c_X7_fails (cx_inj X) w0 S h2) cw_X7_70 kc25.1 (cl_25 kc25) rfl ⟨rfl, rfl, Nat.le_of_ble_eq_true rfl, Nat.le_of_ble_eq_true rfl⟩ rfl rfl (Nat.le_of_ble_eq_true rfl) ⟨Nat.le_of_ble_eq_true rfl, Nat.le_of_ble_eq_true rfl⟩ dX7_would_28 ?_
  refine j_if_eq X 36 dX7_would_31 (by decide) (fun h3 => ?_) (fun h3 => ?_)
  · rw [if_pos h3] at he
    have ho := ho.1 h3
    refine j_aload_n X 0 dX7_would_36 rfl ?_
    refine gf_25_0 X m_fl_X7_7 kc25 dX7_would_37 ?_
    refine j_iconst (v := 0) X dX7_would_40 (by decide) ?_
    refine j_aload_n X 0 dX7_would_41 rfl ?_
    refine gf_25_4 X m_fl_X7_22 kc25 dX7_would_42 ?_
    refine j_iconst (v := 0) X dX7_would_45 (by decide) ?_
    have h4 := ho.1
    have ho := ho.2
    refine j_callSv (rest := []) X (c_X7_copies (cx_inj X) 6 (isA_of26 kc26) 0 10 (isA_of30 kc30) 0 ((b_X7_fails_0 w0 S).2) h4) cw_X7_54 ⟨rfl, rfl, Nat.le_of_ble_eq_true rfl, Nat.le_of_ble_eq_true rfl⟩ rfl rfl (Nat.le_of_ble_eq_true rfl) ⟨Nat.le_of_ble_eq_true rfl, Nat.le_of_ble_eq_true rfl⟩ dX7_would_46 ?_
    exact t_X7_would_49 X hr hlocks v1 v2 (b_X7_copies_0 6 0 10 0 ((b_X7_fails_0 w0 S).2)) _ _ ho he
  · rw [if_neg h3] at he
    have ho := ho.2 h3
    refine j_iconst (v := 0) X dX7_would_34 (by decide) ?_
    exact j_iret X hr hlocks dX7_would_35 (congrArg Prod.fst he) (congrArg Prod.snd he)
def b_X7_would_0 (x1 : Int32) (x2 : Int32) (S : Sx) : Int32 × Sx := if (b_X7_isInnings_0 x1 S) = 0 then b_X7_would_28 x1 x2 1 S else if (b_X7_in_0 x2 1 36 S) = 0 then b_X7_would_28 x1 x2 2 S else b_X7_would_28 x1 x2 0 S
def o_X7_would_0 (x1 : Int32) (x2 : Int32) (S : Sx) : Prop := o_X7_isInnings_0 x1 S ∧ (((b_X7_isInnings_0 x1 S) = 0 → (o_X7_would_28 x1 x2 1 S)) ∧ (¬ (b_X7_isInnings_0 x1 S) = 0 → (o_X7_in_0 x2 1 36 S ∧ (((b_X7_in_0 x2 1 36 S) = 0 → (o_X7_would_28 x1 x2 2 S)) ∧ (¬ (b_X7_in_0 x2 1 36 S) = 0 → (o_X7_would_28 x1 x2 0 S))))))
set_option maxRecDepth 20000 in
theorem t_X7_would_0 (X : Cx p m c cX7_would 4 s args RX7 D q ad) (hr : meth.sig.returnType = some .int) (hlocks : meth.locks = false) (x1 : Int32) (x2 : Int32) (S : Sx) (rv : Int32) (S' : Sx) (ho : o_X7_would_0 x1 x2 S) (he : b_X7_would_0 x1 x2 S = (rv, S')) : Jg p l e rm_X7_would s m args below meth c 0 0 (MQ below (Qi D q ad d rv S' s.heap.size) args s 0 0 (AU ad s.heap.size)) D q ad d 4 0 [(0, .ref (ad 5)), (1, .int x1), (2, .int x2)] [] S := by
  unfold b_X7_would_0 at he
  unfold o_X7_would_0 at ho
  refine j_aload_n X 0 dX7_would_0 rfl ?_
  refine j_aload_n X 0 dX7_would_1 rfl ?_
  refine j_iload_n X 1 dX7_would_2 rfl ?_
  have h2 := ho.1
  have ho := ho.2
  refine j_callVi (rest := [.ref (ad 5)]) X (c_X7_isInnings (cx_inj X) x1 S h2) cw_X7_144 kc25.1 (cl_25 kc25) rfl ⟨rfl, rfl, Nat.le_of_ble_eq_true rfl, Nat.le_of_ble_eq_true rfl⟩ rfl rfl (Nat.le_of_ble_eq_true rfl) ⟨Nat.le_of_ble_eq_true rfl, Nat.le_of_ble_eq_true rfl⟩ dX7_would_3 ?_
  refine j_if_ne X 13 dX7_would_6 (by decide) (fun h3 => ?_) (fun h3 => ?_)
  · rw [if_neg h3] at he
    have ho := ho.2 h3
    refine j_iload_n X 2 dX7_would_13 rfl ?_
    refine j_iconst (v := 1) X dX7_would_14 (by decide) ?_
    refine j_bipush (v := 36) X dX7_would_15 (by decide) ?_
    have h4 := ho.1
    have ho := ho.2
    refine j_callSi (rest := [.ref (ad 5)]) X (c_X7_in (cx_inj X) x2 1 36 S h4) cw_X7_58 ⟨rfl, rfl, Nat.le_of_ble_eq_true rfl, Nat.le_of_ble_eq_true rfl⟩ rfl rfl (Nat.le_of_ble_eq_true rfl) ⟨Nat.le_of_ble_eq_true rfl, Nat.le_of_ble_eq_true rfl⟩ dX7_would_17 ?_
    refine j_if_eq X 27 dX7_would_20 (by decide) (fun h5 => ?_) (fun h5 => ?_)
    · rw [if_pos h5] at he
      have ho := ho.1 h5
      refine j_iconst (v := 2) X dX7_would_27 (by decide) ?_
      exact t_X7_would_28 X hr hlocks x1 x2 2 S _ _ ho he
    · rw [if_neg h5] at he
      have ho := ho.2 h5
      refine j_iconst (v := 0) X dX7_would_23 (by decide) ?_
      refine j_goto X 28 dX7_would_24 (by decide) ?_
      exact t_X7_would_28 X hr hlocks x1 x2 0 S _ _ ho he
  · rw [if_pos h3] at he
    have ho := ho.1 h3
    refine j_iconst (v := 1) X dX7_would_9 (by decide) ?_
    refine j_goto X 28 dX7_would_10 (by decide) ?_
    exact t_X7_would_28 X hr hlocks x1 x2 1 S _ _ ho he
theorem c_X7_would {l : Launch} {D : va_G} {q : Nat → ClassId} {ad : Nat → Nat} {d : UInt64} (hI : inj4 ad) (x1 : Int32) (x2 : Int32) (S : Sx) (ho : o_X7_would_0 x1 x2 S) : CI l yX7_would cX7_would 4 .int rm_X7_would D q ad d [.ref (ad 5), .int x1, .int x2] S (b_X7_would_0 x1 x2 S).1 (b_X7_would_0 x1 x2 S).2 := ci_of hI (by decide +kernel) (Nat.le_of_ble_eq_true rfl) rfl (fun p e s m args below meth c X hr hlocks => t_X7_would_0 X hr hlocks x1 x2 S _ _ ho (pe _))
end
/-! RX7.end -/
abbrev rm_X7_end : Room := { frames := 2, cells := 0, slots := 0, locals := 46 }
section
variable {p : Program} {l : Launch} {e : Env} {s : State} {m : MethodId} {args : Array Value} {below : List Frame} {meth : Method} {c : Code} {D : va_G} {q : Nat → ClassId} {ad : Nat → Nat} {d : UInt64}
def b_X7_end_58 (v1 : Int32) (S : Sx) : Int32 × Sx := (b_X7_ofInnings_0 v1 4 S, S)
def o_X7_end_58 (v1 : Int32) (S : Sx) : Prop := o_X7_ofInnings_0 v1 4 S ∧ True
set_option maxRecDepth 20000 in
theorem t_X7_end_58 (X : Cx p m c cX7_end 2 s args RX7 D q ad) (hr : meth.sig.returnType = some .int) (hlocks : meth.locks = false) (v1 : Int32) (S : Sx) (rv : Int32) (S' : Sx) (ho : o_X7_end_58 v1 S) (he : b_X7_end_58 v1 S = (rv, S')) : Jg p l e rm_X7_end s m args below meth c 0 0 (MQ below (Qi D q ad d rv S' s.heap.size) args s 0 0 (AU ad s.heap.size)) D q ad d 2 58 [(0, .ref (ad 5)), (1, .int v1)] [] S := by
  unfold b_X7_end_58 at he
  unfold o_X7_end_58 at ho
  refine j_aload_n X 0 dX7_end_58 rfl ?_
  refine j_iload_n X 1 dX7_end_59 rfl ?_
  refine j_iconst (v := 4) X dX7_end_60 (by decide) ?_
  have h2 := ho.1
  have ho := ho.2
  refine j_callVi (rest := []) X (c_X7_ofInnings (cx_inj X) v1 4 S h2) cw_X7_88 kc25.1 (cl_25 kc25) rfl ⟨rfl, rfl, Nat.le_of_ble_eq_true rfl, Nat.le_of_ble_eq_true rfl⟩ rfl rfl (Nat.le_of_ble_eq_true rfl) ⟨Nat.le_of_ble_eq_true rfl, Nat.le_of_ble_eq_true rfl⟩ dX7_end_61 ?_
  exact j_iret X hr hlocks dX7_end_64 (congrArg Prod.fst he) (congrArg Prod.snd he)
def b_X7_end_14 (v1 : Int32) (w0 : Int32) (S : Sx) : Int32 × Sx := if ((b_X7_fails_0 w0 S).1) = 0 then if (b_X7_ofInnings_0 v1 6 ((b_X7_fails_0 w0 S).2)) = 1 then ((b_X7_refuses_0 2 9 v1 ((b_X7_fails_0 w0 S).2)).1, (b_X7_refuses_0 2 9 v1 ((b_X7_fails_0 w0 S).2)).2) else b_X7_end_58 v1 (b_X7_laysInnings_0 v1 6 1 (b_X7_keeps_0 6 ((b_X7_fails_0 w0 S).2))) else (0, (b_X7_fails_0 w0 S).2)
def o_X7_end_14 (v1 : Int32) (w0 : Int32) (S : Sx) : Prop := o_X7_fails_0 w0 S ∧ ((((b_X7_fails_0 w0 S).1) = 0 → (o_X7_ofInnings_0 v1 6 ((b_X7_fails_0 w0 S).2) ∧ (((b_X7_ofInnings_0 v1 6 ((b_X7_fails_0 w0 S).2)) = 1 → True) ∧ (¬ (b_X7_ofInnings_0 v1 6 ((b_X7_fails_0 w0 S).2)) = 1 → (o_X7_keeps_0 6 ((b_X7_fails_0 w0 S).2) ∧ (o_X7_laysInnings_0 v1 6 1 (b_X7_keeps_0 6 ((b_X7_fails_0 w0 S).2)) ∧ (o_X7_end_58 v1 (b_X7_laysInnings_0 v1 6 1 (b_X7_keeps_0 6 ((b_X7_fails_0 w0 S).2)))))))))) ∧ (¬ ((b_X7_fails_0 w0 S).1) = 0 → True))
set_option maxRecDepth 20000 in
theorem t_X7_end_14 (X : Cx p m c cX7_end 2 s args RX7 D q ad) (hr : meth.sig.returnType = some .int) (hlocks : meth.locks = false) (v1 : Int32) (w0 : Int32) (S : Sx) (rv : Int32) (S' : Sx) (ho : o_X7_end_14 v1 w0 S) (he : b_X7_end_14 v1 w0 S = (rv, S')) : Jg p l e rm_X7_end s m args below meth c 0 0 (MQ below (Qi D q ad d rv S' s.heap.size) args s 0 0 (AU ad s.heap.size)) D q ad d 2 14 [(0, .ref (ad 5)), (1, .int v1)] [.int w0, .ref (ad 5)] S := by
  unfold b_X7_end_14 at he
  unfold o_X7_end_14 at ho
  have h2 := ho.1
  have ho := ho.2
  refine j_callVi (rest := []) X (c_X7_fails (cx_inj X) w0 S h2) cw_X7_70 kc25.1 (cl_25 kc25) rfl ⟨rfl, rfl, Nat.le_of_ble_eq_true rfl, Nat.le_of_ble_eq_true rfl⟩ rfl rfl (Nat.le_of_ble_eq_true rfl) ⟨Nat.le_of_ble_eq_true rfl, Nat.le_of_ble_eq_true rfl⟩ dX7_end_14 ?_
  refine j_if_eq X 22 dX7_end_17 (by decide) (fun h3 => ?_) (fun h3 => ?_)
  · rw [if_pos h3] at he
    have ho := ho.1 h3
    refine j_aload_n X 0 dX7_end_22 rfl ?_
    refine j_iload_n X 1 dX7_end_23 rfl ?_
    refine j_bipush (v := 6) X dX7_end_24 (by decide) ?_
    have h4 := ho.1
    have ho := ho.2
    refine j_callVi (rest := []) X (c_X7_ofInnings (cx_inj X) v1 6 ((b_X7_fails_0 w0 S).2) h4) cw_X7_88 kc25.1 (cl_25 kc25) rfl ⟨rfl, rfl, Nat.le_of_ble_eq_true rfl, Nat.le_of_ble_eq_true rfl⟩ rfl rfl (Nat.le_of_ble_eq_true rfl) ⟨Nat.le_of_ble_eq_true rfl, Nat.le_of_ble_eq_true rfl⟩ dX7_end_26 ?_
    refine j_iconst (v := 1) X dX7_end_29 (by decide) ?_
    refine j_icmp_ne X 42 dX7_end_30 (by decide) (fun h5 => ?_) (fun h5 => ?_)
    · rw [if_neg h5] at he
      have ho := ho.2 h5
      refine j_aload_n X 0 dX7_end_42 rfl ?_
      refine j_aload_n X 0 dX7_end_43 rfl ?_
      refine gf_25_0 X m_fl_X7_7 kc25 dX7_end_44 ?_
      have h6 := ho.1
      have ho := ho.2
      refine j_callVv (rest := []) X (c_X7_keeps (cx_inj X) 6 (isA_of26 kc26) ((b_X7_fails_0 w0 S).2) h6) cw_X7_62 kc25.1 (cl_25 kc25) rfl ⟨rfl, rfl, Nat.le_of_ble_eq_true rfl, Nat.le_of_ble_eq_true rfl⟩ rfl rfl (Nat.le_of_ble_eq_true rfl) ⟨Nat.le_of_ble_eq_true rfl, Nat.le_of_ble_eq_true rfl⟩ dX7_end_47 ?_
      refine j_aload_n X 0 dX7_end_50 rfl ?_
      refine j_iload_n X 1 dX7_end_51 rfl ?_
      refine j_bipush (v := 6) X dX7_end_52 (by decide) ?_
      refine j_iconst (v := 1) X dX7_end_54 (by decide) ?_
      have h7 := ho.1
      have ho := ho.2
      refine j_callVv (rest := []) X (c_X7_laysInnings (cx_inj X) v1 6 1 (b_X7_keeps_0 6 ((b_X7_fails_0 w0 S).2)) h7) cw_X7_135 kc25.1 (cl_25 kc25) rfl ⟨rfl, rfl, Nat.le_of_ble_eq_true rfl, Nat.le_of_ble_eq_true rfl⟩ rfl rfl (Nat.le_of_ble_eq_true rfl) ⟨Nat.le_of_ble_eq_true rfl, Nat.le_of_ble_eq_true rfl⟩ dX7_end_55 ?_
      exact t_X7_end_58 X hr hlocks v1 (b_X7_laysInnings_0 v1 6 1 (b_X7_keeps_0 6 ((b_X7_fails_0 w0 S).2))) _ _ ho he
    · rw [if_pos h5] at he
      have ho := ho.1 h5
      refine j_aload_n X 0 dX7_end_33 rfl ?_
      refine j_iconst (v := 2) X dX7_end_34 (by decide) ?_
      refine j_bipush (v := 9) X dX7_end_35 (by decide) ?_
      refine j_iload_n X 1 dX7_end_37 rfl ?_
      refine j_callVi (rest := []) X (c_X7_refuses (cx_inj X) 2 9 v1 ((b_X7_fails_0 w0 S).2)) cw_X7_77 kc25.1 (cl_25 kc25) rfl ⟨rfl, rfl, Nat.le_of_ble_eq_true rfl, Nat.le_of_ble_eq_true rfl⟩ rfl rfl (Nat.le_of_ble_eq_true rfl) ⟨Nat.le_of_ble_eq_true rfl, Nat.le_of_ble_eq_true rfl⟩ dX7_end_38 ?_
      exact j_iret X hr hlocks dX7_end_41 (congrArg Prod.fst he) (congrArg Prod.snd he)
  · rw [if_neg h3] at he
    have ho := ho.2 h3
    refine j_iconst (v := 0) X dX7_end_20 (by decide) ?_
    exact j_iret X hr hlocks dX7_end_21 (congrArg Prod.fst he) (congrArg Prod.snd he)
def b_X7_end_0 (x1 : Int32) (S : Sx) : Int32 × Sx := if (b_X7_isInnings_0 x1 S) = 0 then b_X7_end_14 x1 1 S else b_X7_end_14 x1 0 S
def o_X7_end_0 (x1 : Int32) (S : Sx) : Prop := o_X7_isInnings_0 x1 S ∧ (((b_X7_isInnings_0 x1 S) = 0 → (o_X7_end_14 x1 1 S)) ∧ (¬ (b_X7_isInnings_0 x1 S) = 0 → (o_X7_end_14 x1 0 S)))
set_option maxRecDepth 20000 in
theorem t_X7_end_0 (X : Cx p m c cX7_end 2 s args RX7 D q ad) (hr : meth.sig.returnType = some .int) (hlocks : meth.locks = false) (x1 : Int32) (S : Sx) (rv : Int32) (S' : Sx) (ho : o_X7_end_0 x1 S) (he : b_X7_end_0 x1 S = (rv, S')) : Jg p l e rm_X7_end s m args below meth c 0 0 (MQ below (Qi D q ad d rv S' s.heap.size) args s 0 0 (AU ad s.heap.size)) D q ad d 2 0 [(0, .ref (ad 5)), (1, .int x1)] [] S := by
  unfold b_X7_end_0 at he
  unfold o_X7_end_0 at ho
  refine j_aload_n X 0 dX7_end_0 rfl ?_
  refine j_aload_n X 0 dX7_end_1 rfl ?_
  refine j_iload_n X 1 dX7_end_2 rfl ?_
  have h2 := ho.1
  have ho := ho.2
  refine j_callVi (rest := [.ref (ad 5)]) X (c_X7_isInnings (cx_inj X) x1 S h2) cw_X7_144 kc25.1 (cl_25 kc25) rfl ⟨rfl, rfl, Nat.le_of_ble_eq_true rfl, Nat.le_of_ble_eq_true rfl⟩ rfl rfl (Nat.le_of_ble_eq_true rfl) ⟨Nat.le_of_ble_eq_true rfl, Nat.le_of_ble_eq_true rfl⟩ dX7_end_3 ?_
  refine j_if_eq X 13 dX7_end_6 (by decide) (fun h3 => ?_) (fun h3 => ?_)
  · rw [if_pos h3] at he
    have ho := ho.1 h3
    refine j_iconst (v := 1) X dX7_end_13 (by decide) ?_
    exact t_X7_end_14 X hr hlocks x1 1 S _ _ ho he
  · rw [if_neg h3] at he
    have ho := ho.2 h3
    refine j_iconst (v := 0) X dX7_end_9 (by decide) ?_
    refine j_goto X 14 dX7_end_10 (by decide) ?_
    exact t_X7_end_14 X hr hlocks x1 0 S _ _ ho he
theorem c_X7_end {l : Launch} {D : va_G} {q : Nat → ClassId} {ad : Nat → Nat} {d : UInt64} (hI : inj4 ad) (x1 : Int32) (S : Sx) (ho : o_X7_end_0 x1 S) : CI l yX7_end cX7_end 2 .int rm_X7_end D q ad d [.ref (ad 5), .int x1] S (b_X7_end_0 x1 S).1 (b_X7_end_0 x1 S).2 := ci_of hI (by decide +kernel) (Nat.le_of_ble_eq_true rfl) rfl (fun p e s m args below meth c X hr hlocks => t_X7_end_0 X hr hlocks x1 S _ _ ho (pe _))
end
/-! RX7.inningsOf -/
abbrev rm_X7_inningsOf : Room := { frames := 2, cells := 0, slots := 0, locals := 43 }
section
variable {p : Program} {l : Launch} {e : Env} {s : State} {m : MethodId} {args : Array Value} {below : List Frame} {meth : Method} {c : Code} {D : va_G} {q : Nat → ClassId} {ad : Nat → Nat} {d : UInt64}
def b_X7_inningsOf_44 (w0 : Int32) (S : Sx) : Int32 × Sx := (w0, S)
set_option maxRecDepth 20000 in
theorem t_X7_inningsOf_44 (X : Cx p m c cX7_inningsOf 3 s args RX7 D q ad) (hr : meth.sig.returnType = some .int) (hlocks : meth.locks = false) (w0 : Int32) (S : Sx) (rv : Int32) (S' : Sx) (he : b_X7_inningsOf_44 w0 S = (rv, S')) : Jg p l e rm_X7_inningsOf s m args below meth c 0 0 (MQ below (Qi D q ad d rv S' s.heap.size) args s 0 0 (AU ad s.heap.size)) D q ad d 3 44 [] [.int w0] S := by
  unfold b_X7_inningsOf_44 at he
  exact j_iret X hr hlocks dX7_inningsOf_44 (congrArg Prod.fst he) (congrArg Prod.snd he)
def b_X7_inningsOf_28 (v1 : Int32) (v2 : Int32) (w0 : Int32) (S : Sx) : Int32 × Sx := if ((b_X7_fails_0 w0 S).1) = 0 then b_X7_inningsOf_44 (b_X7_ofInnings_0 v1 v2 ((b_X7_fails_0 w0 S).2)) ((b_X7_fails_0 w0 S).2) else b_X7_inningsOf_44 0 ((b_X7_fails_0 w0 S).2)
def o_X7_inningsOf_28 (v1 : Int32) (v2 : Int32) (w0 : Int32) (S : Sx) : Prop := o_X7_fails_0 w0 S ∧ ((((b_X7_fails_0 w0 S).1) = 0 → (o_X7_ofInnings_0 v1 v2 ((b_X7_fails_0 w0 S).2) ∧ True)) ∧ (¬ ((b_X7_fails_0 w0 S).1) = 0 → True))
set_option maxRecDepth 20000 in
theorem t_X7_inningsOf_28 (X : Cx p m c cX7_inningsOf 3 s args RX7 D q ad) (hr : meth.sig.returnType = some .int) (hlocks : meth.locks = false) (v1 : Int32) (v2 : Int32) (w0 : Int32) (S : Sx) (rv : Int32) (S' : Sx) (ho : o_X7_inningsOf_28 v1 v2 w0 S) (he : b_X7_inningsOf_28 v1 v2 w0 S = (rv, S')) : Jg p l e rm_X7_inningsOf s m args below meth c 0 0 (MQ below (Qi D q ad d rv S' s.heap.size) args s 0 0 (AU ad s.heap.size)) D q ad d 3 28 [(0, .ref (ad 5)), (1, .int v1), (2, .int v2)] [.int w0, .ref (ad 5)] S := by
  unfold b_X7_inningsOf_28 at he
  unfold o_X7_inningsOf_28 at ho
  have h2 := ho.1
  have ho := ho.2
  refine j_callVi (rest := []) X (c_X7_fails (cx_inj X) w0 S h2) cw_X7_70 kc25.1 (cl_25 kc25) rfl ⟨rfl, rfl, Nat.le_of_ble_eq_true rfl, Nat.le_of_ble_eq_true rfl⟩ rfl rfl (Nat.le_of_ble_eq_true rfl) ⟨Nat.le_of_ble_eq_true rfl, Nat.le_of_ble_eq_true rfl⟩ dX7_inningsOf_28 ?_
  refine j_if_eq X 38 dX7_inningsOf_31 (by decide) (fun h3 => ?_) (fun h3 => ?_)
  · rw [if_pos h3] at he
    have ho := ho.1 h3
    refine j_aload_n X 0 dX7_inningsOf_38 rfl ?_
    refine j_iload_n X 1 dX7_inningsOf_39 rfl ?_
    refine j_iload_n X 2 dX7_inningsOf_40 rfl ?_
    have h4 := ho.1
    have ho := ho.2
    refine j_callVi (rest := []) X (c_X7_ofInnings (cx_inj X) v1 v2 ((b_X7_fails_0 w0 S).2) h4) cw_X7_88 kc25.1 (cl_25 kc25) rfl ⟨rfl, rfl, Nat.le_of_ble_eq_true rfl, Nat.le_of_ble_eq_true rfl⟩ rfl rfl (Nat.le_of_ble_eq_true rfl) ⟨Nat.le_of_ble_eq_true rfl, Nat.le_of_ble_eq_true rfl⟩ dX7_inningsOf_41 ?_
    refine j_lv [] [] rfl ?_
    exact t_X7_inningsOf_44 X hr hlocks (b_X7_ofInnings_0 v1 v2 ((b_X7_fails_0 w0 S).2)) ((b_X7_fails_0 w0 S).2) _ _ he
  · rw [if_neg h3] at he
    have ho := ho.2 h3
    refine j_iconst (v := 0) X dX7_inningsOf_34 (by decide) ?_
    refine j_goto X 44 dX7_inningsOf_35 (by decide) ?_
    refine j_lv [] [] rfl ?_
    exact t_X7_inningsOf_44 X hr hlocks 0 ((b_X7_fails_0 w0 S).2) _ _ he
def b_X7_inningsOf_0 (x1 : Int32) (x2 : Int32) (S : Sx) : Int32 × Sx := if (b_X7_isInnings_0 x1 S) = 0 then b_X7_inningsOf_28 x1 x2 1 S else if (b_X7_in_0 x2 0 6 S) = 0 then b_X7_inningsOf_28 x1 x2 2 S else b_X7_inningsOf_28 x1 x2 0 S
def o_X7_inningsOf_0 (x1 : Int32) (x2 : Int32) (S : Sx) : Prop := o_X7_isInnings_0 x1 S ∧ (((b_X7_isInnings_0 x1 S) = 0 → (o_X7_inningsOf_28 x1 x2 1 S)) ∧ (¬ (b_X7_isInnings_0 x1 S) = 0 → (o_X7_in_0 x2 0 6 S ∧ (((b_X7_in_0 x2 0 6 S) = 0 → (o_X7_inningsOf_28 x1 x2 2 S)) ∧ (¬ (b_X7_in_0 x2 0 6 S) = 0 → (o_X7_inningsOf_28 x1 x2 0 S))))))
set_option maxRecDepth 20000 in
theorem t_X7_inningsOf_0 (X : Cx p m c cX7_inningsOf 3 s args RX7 D q ad) (hr : meth.sig.returnType = some .int) (hlocks : meth.locks = false) (x1 : Int32) (x2 : Int32) (S : Sx) (rv : Int32) (S' : Sx) (ho : o_X7_inningsOf_0 x1 x2 S) (he : b_X7_inningsOf_0 x1 x2 S = (rv, S')) : Jg p l e rm_X7_inningsOf s m args below meth c 0 0 (MQ below (Qi D q ad d rv S' s.heap.size) args s 0 0 (AU ad s.heap.size)) D q ad d 3 0 [(0, .ref (ad 5)), (1, .int x1), (2, .int x2)] [] S := by
  unfold b_X7_inningsOf_0 at he
  unfold o_X7_inningsOf_0 at ho
  refine j_aload_n X 0 dX7_inningsOf_0 rfl ?_
  refine j_aload_n X 0 dX7_inningsOf_1 rfl ?_
  refine j_iload_n X 1 dX7_inningsOf_2 rfl ?_
  have h2 := ho.1
  have ho := ho.2
  refine j_callVi (rest := [.ref (ad 5)]) X (c_X7_isInnings (cx_inj X) x1 S h2) cw_X7_144 kc25.1 (cl_25 kc25) rfl ⟨rfl, rfl, Nat.le_of_ble_eq_true rfl, Nat.le_of_ble_eq_true rfl⟩ rfl rfl (Nat.le_of_ble_eq_true rfl) ⟨Nat.le_of_ble_eq_true rfl, Nat.le_of_ble_eq_true rfl⟩ dX7_inningsOf_3 ?_
  refine j_if_ne X 13 dX7_inningsOf_6 (by decide) (fun h3 => ?_) (fun h3 => ?_)
  · rw [if_neg h3] at he
    have ho := ho.2 h3
    refine j_iload_n X 2 dX7_inningsOf_13 rfl ?_
    refine j_iconst (v := 0) X dX7_inningsOf_14 (by decide) ?_
    refine j_bipush (v := 6) X dX7_inningsOf_15 (by decide) ?_
    have h4 := ho.1
    have ho := ho.2
    refine j_callSi (rest := [.ref (ad 5)]) X (c_X7_in (cx_inj X) x2 0 6 S h4) cw_X7_58 ⟨rfl, rfl, Nat.le_of_ble_eq_true rfl, Nat.le_of_ble_eq_true rfl⟩ rfl rfl (Nat.le_of_ble_eq_true rfl) ⟨Nat.le_of_ble_eq_true rfl, Nat.le_of_ble_eq_true rfl⟩ dX7_inningsOf_17 ?_
    refine j_if_eq X 27 dX7_inningsOf_20 (by decide) (fun h5 => ?_) (fun h5 => ?_)
    · rw [if_pos h5] at he
      have ho := ho.1 h5
      refine j_iconst (v := 2) X dX7_inningsOf_27 (by decide) ?_
      exact t_X7_inningsOf_28 X hr hlocks x1 x2 2 S _ _ ho he
    · rw [if_neg h5] at he
      have ho := ho.2 h5
      refine j_iconst (v := 0) X dX7_inningsOf_23 (by decide) ?_
      refine j_goto X 28 dX7_inningsOf_24 (by decide) ?_
      exact t_X7_inningsOf_28 X hr hlocks x1 x2 0 S _ _ ho he
  · rw [if_pos h3] at he
    have ho := ho.1 h3
    refine j_iconst (v := 1) X dX7_inningsOf_9 (by decide) ?_
    refine j_goto X 28 dX7_inningsOf_10 (by decide) ?_
    exact t_X7_inningsOf_28 X hr hlocks x1 x2 1 S _ _ ho he
theorem c_X7_inningsOf {l : Launch} {D : va_G} {q : Nat → ClassId} {ad : Nat → Nat} {d : UInt64} (hI : inj4 ad) (x1 : Int32) (x2 : Int32) (S : Sx) (ho : o_X7_inningsOf_0 x1 x2 S) : CI l yX7_inningsOf cX7_inningsOf 3 .int rm_X7_inningsOf D q ad d [.ref (ad 5), .int x1, .int x2] S (b_X7_inningsOf_0 x1 x2 S).1 (b_X7_inningsOf_0 x1 x2 S).2 := ci_of hI (by decide +kernel) (Nat.le_of_ble_eq_true rfl) rfl (fun p e s m args below meth c X hr hlocks => t_X7_inningsOf_0 X hr hlocks x1 x2 S _ _ ho (pe _))
end
/-! RX7.balls -/
abbrev rm_X7_balls : Room := { frames := 2, cells := 0, slots := 0, locals := 43 }
section
variable {p : Program} {l : Launch} {e : Env} {s : State} {m : MethodId} {args : Array Value} {below : List Frame} {meth : Method} {c : Code} {D : va_G} {q : Nat → ClassId} {ad : Nat → Nat} {d : UInt64}
def b_X7_balls_47 (w0 : Int32) (S : Sx) : Int32 × Sx := (w0, S)
set_option maxRecDepth 20000 in
theorem t_X7_balls_47 (X : Cx p m c cX7_balls 3 s args RX7 D q ad) (hr : meth.sig.returnType = some .int) (hlocks : meth.locks = false) (w0 : Int32) (S : Sx) (rv : Int32) (S' : Sx) (he : b_X7_balls_47 w0 S = (rv, S')) : Jg p l e rm_X7_balls s m args below meth c 0 0 (MQ below (Qi D q ad d rv S' s.heap.size) args s 0 0 (AU ad s.heap.size)) D q ad d 3 47 [] [.int w0] S := by
  unfold b_X7_balls_47 at he
  exact j_iret X hr hlocks dX7_balls_47 (congrArg Prod.fst he) (congrArg Prod.snd he)
def b_X7_balls_28 (v1 : Int32) (v2 : Int32) (w0 : Int32) (S : Sx) : Int32 × Sx := if ((b_X7_fails_0 w0 S).1) = 0 then b_X7_balls_47 (b_X7_ofInnings_0 v1 (7 + v2) ((b_X7_fails_0 w0 S).2)) ((b_X7_fails_0 w0 S).2) else b_X7_balls_47 0 ((b_X7_fails_0 w0 S).2)
def o_X7_balls_28 (v1 : Int32) (v2 : Int32) (w0 : Int32) (S : Sx) : Prop := o_X7_fails_0 w0 S ∧ ((((b_X7_fails_0 w0 S).1) = 0 → (o_X7_ofInnings_0 v1 (7 + v2) ((b_X7_fails_0 w0 S).2) ∧ True)) ∧ (¬ ((b_X7_fails_0 w0 S).1) = 0 → True))
set_option maxRecDepth 20000 in
theorem t_X7_balls_28 (X : Cx p m c cX7_balls 3 s args RX7 D q ad) (hr : meth.sig.returnType = some .int) (hlocks : meth.locks = false) (v1 : Int32) (v2 : Int32) (w0 : Int32) (S : Sx) (rv : Int32) (S' : Sx) (ho : o_X7_balls_28 v1 v2 w0 S) (he : b_X7_balls_28 v1 v2 w0 S = (rv, S')) : Jg p l e rm_X7_balls s m args below meth c 0 0 (MQ below (Qi D q ad d rv S' s.heap.size) args s 0 0 (AU ad s.heap.size)) D q ad d 3 28 [(0, .ref (ad 5)), (1, .int v1), (2, .int v2)] [.int w0, .ref (ad 5)] S := by
  unfold b_X7_balls_28 at he
  unfold o_X7_balls_28 at ho
  have h2 := ho.1
  have ho := ho.2
  refine j_callVi (rest := []) X (c_X7_fails (cx_inj X) w0 S h2) cw_X7_70 kc25.1 (cl_25 kc25) rfl ⟨rfl, rfl, Nat.le_of_ble_eq_true rfl, Nat.le_of_ble_eq_true rfl⟩ rfl rfl (Nat.le_of_ble_eq_true rfl) ⟨Nat.le_of_ble_eq_true rfl, Nat.le_of_ble_eq_true rfl⟩ dX7_balls_28 ?_
  refine j_if_eq X 38 dX7_balls_31 (by decide) (fun h3 => ?_) (fun h3 => ?_)
  · rw [if_pos h3] at he
    have ho := ho.1 h3
    refine j_aload_n X 0 dX7_balls_38 rfl ?_
    refine j_iload_n X 1 dX7_balls_39 rfl ?_
    refine j_bipush (v := 7) X dX7_balls_40 (by decide) ?_
    refine j_iload_n X 2 dX7_balls_42 rfl ?_
    refine j_iadd X dX7_balls_43 ?_
    have h4 := ho.1
    have ho := ho.2
    refine j_callVi (rest := []) X (c_X7_ofInnings (cx_inj X) v1 (7 + v2) ((b_X7_fails_0 w0 S).2) h4) cw_X7_88 kc25.1 (cl_25 kc25) rfl ⟨rfl, rfl, Nat.le_of_ble_eq_true rfl, Nat.le_of_ble_eq_true rfl⟩ rfl rfl (Nat.le_of_ble_eq_true rfl) ⟨Nat.le_of_ble_eq_true rfl, Nat.le_of_ble_eq_true rfl⟩ dX7_balls_44 ?_
    refine j_lv [] [] rfl ?_
    exact t_X7_balls_47 X hr hlocks (b_X7_ofInnings_0 v1 (7 + v2) ((b_X7_fails_0 w0 S).2)) ((b_X7_fails_0 w0 S).2) _ _ he
  · rw [if_neg h3] at he
    have ho := ho.2 h3
    refine j_iconst (v := 0) X dX7_balls_34 (by decide) ?_
    refine j_goto X 47 dX7_balls_35 (by decide) ?_
    refine j_lv [] [] rfl ?_
    exact t_X7_balls_47 X hr hlocks 0 ((b_X7_fails_0 w0 S).2) _ _ he
def b_X7_balls_0 (x1 : Int32) (x2 : Int32) (S : Sx) : Int32 × Sx := if (b_X7_isInnings_0 x1 S) = 0 then b_X7_balls_28 x1 x2 1 S else if (b_X7_in_0 x2 0 6 S) = 0 then b_X7_balls_28 x1 x2 2 S else b_X7_balls_28 x1 x2 0 S
def o_X7_balls_0 (x1 : Int32) (x2 : Int32) (S : Sx) : Prop := o_X7_isInnings_0 x1 S ∧ (((b_X7_isInnings_0 x1 S) = 0 → (o_X7_balls_28 x1 x2 1 S)) ∧ (¬ (b_X7_isInnings_0 x1 S) = 0 → (o_X7_in_0 x2 0 6 S ∧ (((b_X7_in_0 x2 0 6 S) = 0 → (o_X7_balls_28 x1 x2 2 S)) ∧ (¬ (b_X7_in_0 x2 0 6 S) = 0 → (o_X7_balls_28 x1 x2 0 S))))))
set_option maxRecDepth 20000 in
theorem t_X7_balls_0 (X : Cx p m c cX7_balls 3 s args RX7 D q ad) (hr : meth.sig.returnType = some .int) (hlocks : meth.locks = false) (x1 : Int32) (x2 : Int32) (S : Sx) (rv : Int32) (S' : Sx) (ho : o_X7_balls_0 x1 x2 S) (he : b_X7_balls_0 x1 x2 S = (rv, S')) : Jg p l e rm_X7_balls s m args below meth c 0 0 (MQ below (Qi D q ad d rv S' s.heap.size) args s 0 0 (AU ad s.heap.size)) D q ad d 3 0 [(0, .ref (ad 5)), (1, .int x1), (2, .int x2)] [] S := by
  unfold b_X7_balls_0 at he
  unfold o_X7_balls_0 at ho
  refine j_aload_n X 0 dX7_balls_0 rfl ?_
  refine j_aload_n X 0 dX7_balls_1 rfl ?_
  refine j_iload_n X 1 dX7_balls_2 rfl ?_
  have h2 := ho.1
  have ho := ho.2
  refine j_callVi (rest := [.ref (ad 5)]) X (c_X7_isInnings (cx_inj X) x1 S h2) cw_X7_144 kc25.1 (cl_25 kc25) rfl ⟨rfl, rfl, Nat.le_of_ble_eq_true rfl, Nat.le_of_ble_eq_true rfl⟩ rfl rfl (Nat.le_of_ble_eq_true rfl) ⟨Nat.le_of_ble_eq_true rfl, Nat.le_of_ble_eq_true rfl⟩ dX7_balls_3 ?_
  refine j_if_ne X 13 dX7_balls_6 (by decide) (fun h3 => ?_) (fun h3 => ?_)
  · rw [if_neg h3] at he
    have ho := ho.2 h3
    refine j_iload_n X 2 dX7_balls_13 rfl ?_
    refine j_iconst (v := 0) X dX7_balls_14 (by decide) ?_
    refine j_bipush (v := 6) X dX7_balls_15 (by decide) ?_
    have h4 := ho.1
    have ho := ho.2
    refine j_callSi (rest := [.ref (ad 5)]) X (c_X7_in (cx_inj X) x2 0 6 S h4) cw_X7_58 ⟨rfl, rfl, Nat.le_of_ble_eq_true rfl, Nat.le_of_ble_eq_true rfl⟩ rfl rfl (Nat.le_of_ble_eq_true rfl) ⟨Nat.le_of_ble_eq_true rfl, Nat.le_of_ble_eq_true rfl⟩ dX7_balls_17 ?_
    refine j_if_eq X 27 dX7_balls_20 (by decide) (fun h5 => ?_) (fun h5 => ?_)
    · rw [if_pos h5] at he
      have ho := ho.1 h5
      refine j_iconst (v := 2) X dX7_balls_27 (by decide) ?_
      exact t_X7_balls_28 X hr hlocks x1 x2 2 S _ _ ho he
    · rw [if_neg h5] at he
      have ho := ho.2 h5
      refine j_iconst (v := 0) X dX7_balls_23 (by decide) ?_
      refine j_goto X 28 dX7_balls_24 (by decide) ?_
      exact t_X7_balls_28 X hr hlocks x1 x2 0 S _ _ ho he
  · rw [if_pos h3] at he
    have ho := ho.1 h3
    refine j_iconst (v := 1) X dX7_balls_9 (by decide) ?_
    refine j_goto X 28 dX7_balls_10 (by decide) ?_
    exact t_X7_balls_28 X hr hlocks x1 x2 1 S _ _ ho he
theorem c_X7_balls {l : Launch} {D : va_G} {q : Nat → ClassId} {ad : Nat → Nat} {d : UInt64} (hI : inj4 ad) (x1 : Int32) (x2 : Int32) (S : Sx) (ho : o_X7_balls_0 x1 x2 S) : CI l yX7_balls cX7_balls 3 .int rm_X7_balls D q ad d [.ref (ad 5), .int x1, .int x2] S (b_X7_balls_0 x1 x2 S).1 (b_X7_balls_0 x1 x2 S).2 := ci_of hI (by decide +kernel) (Nat.le_of_ble_eq_true rfl) rfl (fun p e s m args below meth c X hr hlocks => t_X7_balls_0 X hr hlocks x1 x2 S _ _ ho (pe _))
end
/-! RX7.runsBy -/
abbrev rm_X7_runsBy : Room := { frames := 1, cells := 0, slots := 0, locals := 22 }
section
variable {p : Program} {l : Launch} {e : Env} {s : State} {m : MethodId} {args : Array Value} {below : List Frame} {meth : Method} {c : Code} {D : va_G} {q : Nat → ClassId} {ad : Nat → Nat} {d : UInt64}
def b_X7_runsBy_31 (kk : Int32 → Int32 → Int32 → Sx → Int32) (v1 : Int32) (v3 : Int32) (w0 : Int32) (w1 : Int32) (S : Sx) : Int32 := kk v1 (w1 + w0) (v3 + 1) S
def o_X7_runsBy_31 (ok : Int32 → Int32 → Int32 → Sx → Prop) (v1 : Int32) (v3 : Int32) (w0 : Int32) (w1 : Int32) (S : Sx) : Prop := ok v1 (w1 + w0) (v3 + 1) S
set_option maxRecDepth 20000 in
theorem t_X7_runsBy_31 (X : Cx p m c cX7_runsBy 4 s args RX7 D q ad) (hr : meth.sig.returnType = some .int) (hlocks : meth.locks = false) (kk : Int32 → Int32 → Int32 → Sx → Int32) (ok : Int32 → Int32 → Int32 → Sx → Prop) (hkk : ∀ (v1 : Int32) (v2 : Int32) (v3 : Int32) (S : Sx) (rv : Int32) (ho : ok v1 v2 v3 S) (he : kk v1 v2 v3 S = rv), Jg p l e rm_X7_runsBy s m args below meth c 0 0 (MQ below (Qi D q ad d rv S s.heap.size) args s 0 0 (AU ad s.heap.size)) D q ad d 4 4 [(0, .ref (ad 5)), (1, .int v1), (2, .int v2), (3, .int v3)] [] S) (v1 : Int32) (v3 : Int32) (w0 : Int32) (w1 : Int32) (S : Sx) (rv : Int32) (ho : o_X7_runsBy_31 ok v1 v3 w0 w1 S) (he : b_X7_runsBy_31 kk v1 v3 w0 w1 S = rv) : Jg p l e rm_X7_runsBy s m args below meth c 0 0 (MQ below (Qi D q ad d rv S s.heap.size) args s 0 0 (AU ad s.heap.size)) D q ad d 4 31 [(0, .ref (ad 5)), (1, .int v1), (3, .int v3)] [.int w0, .int w1] S := by
  unfold b_X7_runsBy_31 at he
  unfold o_X7_runsBy_31 at ho
  refine j_iadd X dX7_runsBy_31 ?_
  refine j_istore_n X [(2, .int (w1 + w0)), (0, .ref (ad 5)), (1, .int v1), (3, .int v3)] dX7_runsBy_32 (by decide) rfl ?_
  refine j_iinc X 3 (v3 + 1) [(3, .int (v3 + 1)), (2, .int (w1 + w0)), (0, .ref (ad 5)), (1, .int v1)] dX7_runsBy_33 rfl rfl (by decide) rfl ?_
  refine j_goto X 4 dX7_runsBy_36 (by decide) ?_
  refine j_lv [2, 3, 1, 0] [(0, .ref (ad 5)), (1, .int v1), (2, .int (w1 + w0)), (3, .int (v3 + 1))] rfl ?_
  exact hkk v1 (w1 + w0) (v3 + 1) S _ ho he
def b_X7_runsBy_4 : Nat → Int32 → Int32 → Int32 → Sx → Int32
  | 0, _, _, _, S => 0
  | n + 1, v1, v2, v3, S => if 7 ≤ v3 then v2 else if v3 = 5 then b_X7_runsBy_31 (b_X7_runsBy_4 n) v1 v3 0 v2 S else b_X7_runsBy_31 (b_X7_runsBy_4 n) v1 v3 (v3 * (b_X7_ofInnings_0 v1 (7 + v3) S)) v2 S
def o_X7_runsBy_4 : Nat → Int32 → Int32 → Int32 → Sx → Prop
  | 0, _, _, _, _ => False
  | n + 1, v1, v2, v3, S => (7 ≤ v3 → True) ∧ (¬ 7 ≤ v3 → ((v3 = 5 → (o_X7_runsBy_31 (o_X7_runsBy_4 n) v1 v3 0 v2 S)) ∧ (¬ v3 = 5 → (o_X7_ofInnings_0 v1 (7 + v3) S ∧ (o_X7_runsBy_31 (o_X7_runsBy_4 n) v1 v3 (v3 * (b_X7_ofInnings_0 v1 (7 + v3) S)) v2 S)))))
set_option maxRecDepth 20000 in
theorem t_X7_runsBy_4 (X : Cx p m c cX7_runsBy 4 s args RX7 D q ad) (hr : meth.sig.returnType = some .int) (hlocks : meth.locks = false) : ∀ (n : Nat) (v1 : Int32) (v2 : Int32) (v3 : Int32) (S : Sx) (rv : Int32) (ho : o_X7_runsBy_4 n v1 v2 v3 S) (he : b_X7_runsBy_4 n v1 v2 v3 S = rv), Jg p l e rm_X7_runsBy s m args below meth c 0 0 (MQ below (Qi D q ad d rv S s.heap.size) args s 0 0 (AU ad s.heap.size)) D q ad d 4 4 [(0, .ref (ad 5)), (1, .int v1), (2, .int v2), (3, .int v3)] [] S := by
  intro n
  induction n with
  | zero =>
    intro v1 v2 v3 S rv ho he
    unfold o_X7_runsBy_4 at ho
    exact ho.elim
  | succ n ih =>
    intro v1 v2 v3 S rv ho he
    unfold b_X7_runsBy_4 at he
    unfold o_X7_runsBy_4 at ho
    refine j_iload_n X 3 dX7_runsBy_4 rfl ?_
    refine j_bipush (v := 7) X dX7_runsBy_5 (by decide) ?_
    refine j_icmp_ge X 39 dX7_runsBy_7 (by decide) (fun h2 => ?_) (fun h2 => ?_)
    · rw [if_pos h2] at he
      have ho := ho.1 h2
      refine j_iload_n X 2 dX7_runsBy_39 rfl ?_
      exact j_iret X hr hlocks dX7_runsBy_40 he rfl
    · rw [if_neg h2] at he
      have ho := ho.2 h2
      refine j_iload_n X 2 dX7_runsBy_10 rfl ?_
      refine j_iload_n X 3 dX7_runsBy_11 rfl ?_
      refine j_iconst (v := 5) X dX7_runsBy_12 (by decide) ?_
      refine j_icmp_ne X 20 dX7_runsBy_13 (by decide) (fun h3 => ?_) (fun h3 => ?_)
      · rw [if_neg h3] at he
        have ho := ho.2 h3
        refine j_iload_n X 3 dX7_runsBy_20 rfl ?_
        refine j_aload_n X 0 dX7_runsBy_21 rfl ?_
        refine j_iload_n X 1 dX7_runsBy_22 rfl ?_
        refine j_bipush (v := 7) X dX7_runsBy_23 (by decide) ?_
        refine j_iload_n X 3 dX7_runsBy_25 rfl ?_
        refine j_iadd X dX7_runsBy_26 ?_
        have h4 := ho.1
        have ho := ho.2
        refine j_callVi (rest := [.int v3, .int v2]) X (c_X7_ofInnings (cx_inj X) v1 (7 + v3) S h4) cw_X7_88 kc25.1 (cl_25 kc25) rfl ⟨rfl, rfl, Nat.le_of_ble_eq_true rfl, Nat.le_of_ble_eq_true rfl⟩ rfl rfl (Nat.le_of_ble_eq_true rfl) ⟨Nat.le_of_ble_eq_true rfl, Nat.le_of_ble_eq_true rfl⟩ dX7_runsBy_27 ?_
        refine j_imul X dX7_runsBy_30 ?_
        refine j_lv [0, 1, 3] [(0, .ref (ad 5)), (1, .int v1), (3, .int v3)] rfl ?_
        exact t_X7_runsBy_31 X hr hlocks (b_X7_runsBy_4 n) (o_X7_runsBy_4 n) ih v1 v3 (v3 * (b_X7_ofInnings_0 v1 (7 + v3) S)) v2 S _ ho he
      · rw [if_pos h3] at he
        have ho := ho.1 h3
        refine j_iconst (v := 0) X dX7_runsBy_16 (by decide) ?_
        refine j_goto X 31 dX7_runsBy_17 (by decide) ?_
        refine j_lv [0, 1, 3] [(0, .ref (ad 5)), (1, .int v1), (3, .int v3)] rfl ?_
        exact t_X7_runsBy_31 X hr hlocks (b_X7_runsBy_4 n) (o_X7_runsBy_4 n) ih v1 v3 0 v2 S _ ho he
def b_X7_runsBy_0 (x1 : Int32) (S : Sx) : Int32 := b_X7_runsBy_4 100 x1 0 0 S
def o_X7_runsBy_0 (x1 : Int32) (S : Sx) : Prop := o_X7_runsBy_4 100 x1 0 0 S
set_option maxRecDepth 20000 in
theorem t_X7_runsBy_0 (X : Cx p m c cX7_runsBy 4 s args RX7 D q ad) (hr : meth.sig.returnType = some .int) (hlocks : meth.locks = false) (x1 : Int32) (S : Sx) (rv : Int32) (ho : o_X7_runsBy_0 x1 S) (he : b_X7_runsBy_0 x1 S = rv) : Jg p l e rm_X7_runsBy s m args below meth c 0 0 (MQ below (Qi D q ad d rv S s.heap.size) args s 0 0 (AU ad s.heap.size)) D q ad d 4 0 [(0, .ref (ad 5)), (1, .int x1)] [] S := by
  unfold b_X7_runsBy_0 at he
  unfold o_X7_runsBy_0 at ho
  refine j_iconst (v := 0) X dX7_runsBy_0 (by decide) ?_
  refine j_istore_n X [(2, .int 0), (0, .ref (ad 5)), (1, .int x1)] dX7_runsBy_1 (by decide) rfl ?_
  refine j_iconst (v := 0) X dX7_runsBy_2 (by decide) ?_
  refine j_istore_n X [(3, .int 0), (2, .int 0), (0, .ref (ad 5)), (1, .int x1)] dX7_runsBy_3 (by decide) rfl ?_
  refine j_lv [2, 3, 1, 0] [(0, .ref (ad 5)), (1, .int x1), (2, .int 0), (3, .int 0)] rfl ?_
  exact t_X7_runsBy_4 X hr hlocks 100 x1 0 0 S _ ho he
theorem c_X7_runsBy {l : Launch} {D : va_G} {q : Nat → ClassId} {ad : Nat → Nat} {d : UInt64} (hI : inj4 ad) (x1 : Int32) (S : Sx) (ho : o_X7_runsBy_0 x1 S) : CI l yX7_runsBy cX7_runsBy 4 .int rm_X7_runsBy D q ad d [.ref (ad 5), .int x1] S (b_X7_runsBy_0 x1 S) S := ci_of hI (by decide +kernel) (Nat.le_of_ble_eq_true rfl) rfl (fun p e s m args below meth c X hr hlocks => t_X7_runsBy_0 X hr hlocks x1 S _ ho rfl)
end
/-! RX7.runsAgain -/
abbrev rm_X7_runsAgain : Room := { frames := 2, cells := 0, slots := 0, locals := 45 }
section
variable {p : Program} {l : Launch} {e : Env} {s : State} {m : MethodId} {args : Array Value} {below : List Frame} {meth : Method} {c : Code} {D : va_G} {q : Nat → ClassId} {ad : Nat → Nat} {d : UInt64}
def b_X7_runsAgain_29 (w0 : Int32) (S : Sx) : Int32 × Sx := (w0, S)
set_option maxRecDepth 20000 in
theorem t_X7_runsAgain_29 (X : Cx p m c cX7_runsAgain 2 s args RX7 D q ad) (hr : meth.sig.returnType = some .int) (hlocks : meth.locks = false) (w0 : Int32) (S : Sx) (rv : Int32) (S' : Sx) (he : b_X7_runsAgain_29 w0 S = (rv, S')) : Jg p l e rm_X7_runsAgain s m args below meth c 0 0 (MQ below (Qi D q ad d rv S' s.heap.size) args s 0 0 (AU ad s.heap.size)) D q ad d 2 29 [] [.int w0] S := by
  unfold b_X7_runsAgain_29 at he
  exact j_iret X hr hlocks dX7_runsAgain_29 (congrArg Prod.fst he) (congrArg Prod.snd he)
def b_X7_runsAgain_14 (v1 : Int32) (w0 : Int32) (S : Sx) : Int32 × Sx := if ((b_X7_fails_0 w0 S).1) = 0 then b_X7_runsAgain_29 (b_X7_runsBy_0 v1 ((b_X7_fails_0 w0 S).2)) ((b_X7_fails_0 w0 S).2) else b_X7_runsAgain_29 0 ((b_X7_fails_0 w0 S).2)
def o_X7_runsAgain_14 (v1 : Int32) (w0 : Int32) (S : Sx) : Prop := o_X7_fails_0 w0 S ∧ ((((b_X7_fails_0 w0 S).1) = 0 → (o_X7_runsBy_0 v1 ((b_X7_fails_0 w0 S).2) ∧ True)) ∧ (¬ ((b_X7_fails_0 w0 S).1) = 0 → True))
set_option maxRecDepth 20000 in
theorem t_X7_runsAgain_14 (X : Cx p m c cX7_runsAgain 2 s args RX7 D q ad) (hr : meth.sig.returnType = some .int) (hlocks : meth.locks = false) (v1 : Int32) (w0 : Int32) (S : Sx) (rv : Int32) (S' : Sx) (ho : o_X7_runsAgain_14 v1 w0 S) (he : b_X7_runsAgain_14 v1 w0 S = (rv, S')) : Jg p l e rm_X7_runsAgain s m args below meth c 0 0 (MQ below (Qi D q ad d rv S' s.heap.size) args s 0 0 (AU ad s.heap.size)) D q ad d 2 14 [(0, .ref (ad 5)), (1, .int v1)] [.int w0, .ref (ad 5)] S := by
  unfold b_X7_runsAgain_14 at he
  unfold o_X7_runsAgain_14 at ho
  have h2 := ho.1
  have ho := ho.2
  refine j_callVi (rest := []) X (c_X7_fails (cx_inj X) w0 S h2) cw_X7_70 kc25.1 (cl_25 kc25) rfl ⟨rfl, rfl, Nat.le_of_ble_eq_true rfl, Nat.le_of_ble_eq_true rfl⟩ rfl rfl (Nat.le_of_ble_eq_true rfl) ⟨Nat.le_of_ble_eq_true rfl, Nat.le_of_ble_eq_true rfl⟩ dX7_runsAgain_14 ?_
  refine j_if_eq X 24 dX7_runsAgain_17 (by decide) (fun h3 => ?_) (fun h3 => ?_)
  · rw [if_pos h3] at he
    have ho := ho.1 h3
    refine j_aload_n X 0 dX7_runsAgain_24 rfl ?_
    refine j_iload_n X 1 dX7_runsAgain_25 rfl ?_
    have h4 := ho.1
    have ho := ho.2
    refine j_callVi (rest := []) X (c_X7_runsBy (cx_inj X) v1 ((b_X7_fails_0 w0 S).2) h4) cw_X7_153 kc25.1 (cl_25 kc25) rfl ⟨rfl, rfl, Nat.le_of_ble_eq_true rfl, Nat.le_of_ble_eq_true rfl⟩ rfl rfl (Nat.le_of_ble_eq_true rfl) ⟨Nat.le_of_ble_eq_true rfl, Nat.le_of_ble_eq_true rfl⟩ dX7_runsAgain_26 ?_
    refine j_lv [] [] rfl ?_
    exact t_X7_runsAgain_29 X hr hlocks (b_X7_runsBy_0 v1 ((b_X7_fails_0 w0 S).2)) ((b_X7_fails_0 w0 S).2) _ _ he
  · rw [if_neg h3] at he
    have ho := ho.2 h3
    refine j_iconst (v := 0) X dX7_runsAgain_20 (by decide) ?_
    refine j_goto X 29 dX7_runsAgain_21 (by decide) ?_
    refine j_lv [] [] rfl ?_
    exact t_X7_runsAgain_29 X hr hlocks 0 ((b_X7_fails_0 w0 S).2) _ _ he
def b_X7_runsAgain_0 (x1 : Int32) (S : Sx) : Int32 × Sx := if (b_X7_isInnings_0 x1 S) = 0 then b_X7_runsAgain_14 x1 1 S else b_X7_runsAgain_14 x1 0 S
def o_X7_runsAgain_0 (x1 : Int32) (S : Sx) : Prop := o_X7_isInnings_0 x1 S ∧ (((b_X7_isInnings_0 x1 S) = 0 → (o_X7_runsAgain_14 x1 1 S)) ∧ (¬ (b_X7_isInnings_0 x1 S) = 0 → (o_X7_runsAgain_14 x1 0 S)))
set_option maxRecDepth 20000 in
theorem t_X7_runsAgain_0 (X : Cx p m c cX7_runsAgain 2 s args RX7 D q ad) (hr : meth.sig.returnType = some .int) (hlocks : meth.locks = false) (x1 : Int32) (S : Sx) (rv : Int32) (S' : Sx) (ho : o_X7_runsAgain_0 x1 S) (he : b_X7_runsAgain_0 x1 S = (rv, S')) : Jg p l e rm_X7_runsAgain s m args below meth c 0 0 (MQ below (Qi D q ad d rv S' s.heap.size) args s 0 0 (AU ad s.heap.size)) D q ad d 2 0 [(0, .ref (ad 5)), (1, .int x1)] [] S := by
  unfold b_X7_runsAgain_0 at he
  unfold o_X7_runsAgain_0 at ho
  refine j_aload_n X 0 dX7_runsAgain_0 rfl ?_
  refine j_aload_n X 0 dX7_runsAgain_1 rfl ?_
  refine j_iload_n X 1 dX7_runsAgain_2 rfl ?_
  have h2 := ho.1
  have ho := ho.2
  refine j_callVi (rest := [.ref (ad 5)]) X (c_X7_isInnings (cx_inj X) x1 S h2) cw_X7_144 kc25.1 (cl_25 kc25) rfl ⟨rfl, rfl, Nat.le_of_ble_eq_true rfl, Nat.le_of_ble_eq_true rfl⟩ rfl rfl (Nat.le_of_ble_eq_true rfl) ⟨Nat.le_of_ble_eq_true rfl, Nat.le_of_ble_eq_true rfl⟩ dX7_runsAgain_3 ?_
  refine j_if_eq X 13 dX7_runsAgain_6 (by decide) (fun h3 => ?_) (fun h3 => ?_)
  · rw [if_pos h3] at he
    have ho := ho.1 h3
    refine j_iconst (v := 1) X dX7_runsAgain_13 (by decide) ?_
    exact t_X7_runsAgain_14 X hr hlocks x1 1 S _ _ ho he
  · rw [if_neg h3] at he
    have ho := ho.2 h3
    refine j_iconst (v := 0) X dX7_runsAgain_9 (by decide) ?_
    refine j_goto X 14 dX7_runsAgain_10 (by decide) ?_
    exact t_X7_runsAgain_14 X hr hlocks x1 0 S _ _ ho he
theorem c_X7_runsAgain {l : Launch} {D : va_G} {q : Nat → ClassId} {ad : Nat → Nat} {d : UInt64} (hI : inj4 ad) (x1 : Int32) (S : Sx) (ho : o_X7_runsAgain_0 x1 S) : CI l yX7_runsAgain cX7_runsAgain 2 .int rm_X7_runsAgain D q ad d [.ref (ad 5), .int x1] S (b_X7_runsAgain_0 x1 S).1 (b_X7_runsAgain_0 x1 S).2 := ci_of hI (by decide +kernel) (Nat.le_of_ble_eq_true rfl) rfl (fun p e s m args below meth c X hr hlocks => t_X7_runsAgain_0 X hr hlocks x1 S _ _ ho (pe _))
end
/-! RX7.isAhead -/
abbrev rm_X7_isAhead : Room := { frames := 1, cells := 0, slots := 0, locals := 22 }
section
variable {p : Program} {l : Launch} {e : Env} {s : State} {m : MethodId} {args : Array Value} {below : List Frame} {meth : Method} {c : Code} {D : va_G} {q : Nat → ClassId} {ad : Nat → Nat} {d : UInt64}
def b_X7_isAhead_84 (w0 : Int32) (S : Sx) : Int32 := w0
def o_X7_isAhead_84 (w0 : Int32) (S : Sx) : Prop := bz w0 ∧ True
set_option maxRecDepth 20000 in
theorem t_X7_isAhead_84 (X : Cx p m c cX7_isAhead 3 s args RX7 D q ad) (hr : meth.sig.returnType = some .boolean) (hlocks : meth.locks = false) (w0 : Int32) (S : Sx) (rv : Int32) (ho : o_X7_isAhead_84 w0 S) (he : b_X7_isAhead_84 w0 S = rv) : Jg p l e rm_X7_isAhead s m args below meth c 0 0 (MQ below (Qi D q ad d rv S s.heap.size) args s 0 0 (AU ad s.heap.size)) D q ad d 3 84 [] [.int w0] S := by
  unfold b_X7_isAhead_84 at he
  unfold o_X7_isAhead_84 at ho
  have h2 := ho.1
  have ho := ho.2
  exact j_zret X hr hlocks (bz_narrow h2) dX7_isAhead_84 he rfl
def b_X7_isAhead_35 (w0 : Int32) (S : Sx) : Int32 := w0
def o_X7_isAhead_35 (w0 : Int32) (S : Sx) : Prop := bz w0 ∧ True
set_option maxRecDepth 20000 in
theorem t_X7_isAhead_35 (X : Cx p m c cX7_isAhead 3 s args RX7 D q ad) (hr : meth.sig.returnType = some .boolean) (hlocks : meth.locks = false) (w0 : Int32) (S : Sx) (rv : Int32) (ho : o_X7_isAhead_35 w0 S) (he : b_X7_isAhead_35 w0 S = rv) : Jg p l e rm_X7_isAhead s m args below meth c 0 0 (MQ below (Qi D q ad d rv S s.heap.size) args s 0 0 (AU ad s.heap.size)) D q ad d 3 35 [] [.int w0] S := by
  unfold b_X7_isAhead_35 at he
  unfold o_X7_isAhead_35 at ho
  have h2 := ho.1
  have ho := ho.2
  exact j_zret X hr hlocks (bz_narrow h2) dX7_isAhead_35 he rfl
def b_X7_isAhead_0 (x1 : Int32) (x2 : Int32) (S : Sx) : Int32 := if (b_X7_ofInnings_0 x1 4 S) = (b_X7_ofInnings_0 x2 4 S) then if (b_X7_ofInnings_0 x1 3 S) = (b_X7_ofInnings_0 x2 3 S) then if x2 ≤ x1 then b_X7_isAhead_84 0 S else b_X7_isAhead_84 1 S else if (b_X7_ofInnings_0 x2 3 S) ≤ (b_X7_ofInnings_0 x1 3 S) then b_X7_isAhead_84 0 S else b_X7_isAhead_84 1 S else if (b_X7_ofInnings_0 x1 4 S) ≤ (b_X7_ofInnings_0 x2 4 S) then b_X7_isAhead_35 0 S else b_X7_isAhead_35 1 S
def o_X7_isAhead_0 (x1 : Int32) (x2 : Int32) (S : Sx) : Prop := o_X7_ofInnings_0 x1 4 S ∧ (o_X7_ofInnings_0 x2 4 S ∧ (((b_X7_ofInnings_0 x1 4 S) = (b_X7_ofInnings_0 x2 4 S) → (o_X7_ofInnings_0 x1 3 S ∧ (o_X7_ofInnings_0 x2 3 S ∧ (((b_X7_ofInnings_0 x1 3 S) = (b_X7_ofInnings_0 x2 3 S) → ((x2 ≤ x1 → (o_X7_isAhead_84 0 S)) ∧ (¬ x2 ≤ x1 → (o_X7_isAhead_84 1 S)))) ∧ (¬ (b_X7_ofInnings_0 x1 3 S) = (b_X7_ofInnings_0 x2 3 S) → (o_X7_ofInnings_0 x1 3 S ∧ (o_X7_ofInnings_0 x2 3 S ∧ (((b_X7_ofInnings_0 x2 3 S) ≤ (b_X7_ofInnings_0 x1 3 S) → (o_X7_isAhead_84 0 S)) ∧ (¬ (b_X7_ofInnings_0 x2 3 S) ≤ (b_X7_ofInnings_0 x1 3 S) → (o_X7_isAhead_84 1 S)))))))))) ∧ (¬ (b_X7_ofInnings_0 x1 4 S) = (b_X7_ofInnings_0 x2 4 S) → (o_X7_ofInnings_0 x1 4 S ∧ (o_X7_ofInnings_0 x2 4 S ∧ (((b_X7_ofInnings_0 x1 4 S) ≤ (b_X7_ofInnings_0 x2 4 S) → (o_X7_isAhead_35 0 S)) ∧ (¬ (b_X7_ofInnings_0 x1 4 S) ≤ (b_X7_ofInnings_0 x2 4 S) → (o_X7_isAhead_35 1 S))))))))
set_option maxRecDepth 20000 in
theorem t_X7_isAhead_0 (X : Cx p m c cX7_isAhead 3 s args RX7 D q ad) (hr : meth.sig.returnType = some .boolean) (hlocks : meth.locks = false) (x1 : Int32) (x2 : Int32) (S : Sx) (rv : Int32) (ho : o_X7_isAhead_0 x1 x2 S) (he : b_X7_isAhead_0 x1 x2 S = rv) : Jg p l e rm_X7_isAhead s m args below meth c 0 0 (MQ below (Qi D q ad d rv S s.heap.size) args s 0 0 (AU ad s.heap.size)) D q ad d 3 0 [(0, .ref (ad 5)), (1, .int x1), (2, .int x2)] [] S := by
  unfold b_X7_isAhead_0 at he
  unfold o_X7_isAhead_0 at ho
  refine j_aload_n X 0 dX7_isAhead_0 rfl ?_
  refine j_iload_n X 1 dX7_isAhead_1 rfl ?_
  refine j_iconst (v := 4) X dX7_isAhead_2 (by decide) ?_
  have h2 := ho.1
  have ho := ho.2
  refine j_callVi (rest := []) X (c_X7_ofInnings (cx_inj X) x1 4 S h2) cw_X7_88 kc25.1 (cl_25 kc25) rfl ⟨rfl, rfl, Nat.le_of_ble_eq_true rfl, Nat.le_of_ble_eq_true rfl⟩ rfl rfl (Nat.le_of_ble_eq_true rfl) ⟨Nat.le_of_ble_eq_true rfl, Nat.le_of_ble_eq_true rfl⟩ dX7_isAhead_3 ?_
  refine j_aload_n X 0 dX7_isAhead_6 rfl ?_
  refine j_iload_n X 2 dX7_isAhead_7 rfl ?_
  refine j_iconst (v := 4) X dX7_isAhead_8 (by decide) ?_
  have h3 := ho.1
  have ho := ho.2
  refine j_callVi (rest := [.int (b_X7_ofInnings_0 x1 4 S)]) X (c_X7_ofInnings (cx_inj X) x2 4 S h3) cw_X7_88 kc25.1 (cl_25 kc25) rfl ⟨rfl, rfl, Nat.le_of_ble_eq_true rfl, Nat.le_of_ble_eq_true rfl⟩ rfl rfl (Nat.le_of_ble_eq_true rfl) ⟨Nat.le_of_ble_eq_true rfl, Nat.le_of_ble_eq_true rfl⟩ dX7_isAhead_9 ?_
  refine j_icmp_eq X 36 dX7_isAhead_12 (by decide) (fun h4 => ?_) (fun h4 => ?_)
  · rw [if_pos h4] at he
    have ho := ho.1 h4
    refine j_aload_n X 0 dX7_isAhead_36 rfl ?_
    refine j_iload_n X 1 dX7_isAhead_37 rfl ?_
    refine j_iconst (v := 3) X dX7_isAhead_38 (by decide) ?_
    have h5 := ho.1
    have ho := ho.2
    refine j_callVi (rest := []) X (c_X7_ofInnings (cx_inj X) x1 3 S h5) cw_X7_88 kc25.1 (cl_25 kc25) rfl ⟨rfl, rfl, Nat.le_of_ble_eq_true rfl, Nat.le_of_ble_eq_true rfl⟩ rfl rfl (Nat.le_of_ble_eq_true rfl) ⟨Nat.le_of_ble_eq_true rfl, Nat.le_of_ble_eq_true rfl⟩ dX7_isAhead_39 ?_
    refine j_aload_n X 0 dX7_isAhead_42 rfl ?_
    refine j_iload_n X 2 dX7_isAhead_43 rfl ?_
    refine j_iconst (v := 3) X dX7_isAhead_44 (by decide) ?_
    have h6 := ho.1
    have ho := ho.2
    refine j_callVi (rest := [.int (b_X7_ofInnings_0 x1 3 S)]) X (c_X7_ofInnings (cx_inj X) x2 3 S h6) cw_X7_88 kc25.1 (cl_25 kc25) rfl ⟨rfl, rfl, Nat.le_of_ble_eq_true rfl, Nat.le_of_ble_eq_true rfl⟩ rfl rfl (Nat.le_of_ble_eq_true rfl) ⟨Nat.le_of_ble_eq_true rfl, Nat.le_of_ble_eq_true rfl⟩ dX7_isAhead_45 ?_
    refine j_icmp_eq X 74 dX7_isAhead_48 (by decide) (fun h7 => ?_) (fun h7 => ?_)
    · rw [if_pos h7] at he
      have ho := ho.1 h7
      refine j_iload_n X 1 dX7_isAhead_74 rfl ?_
      refine j_iload_n X 2 dX7_isAhead_75 rfl ?_
      refine j_icmp_ge X 83 dX7_isAhead_76 (by decide) (fun h8 => ?_) (fun h8 => ?_)
      · rw [if_pos h8] at he
        have ho := ho.1 h8
        refine j_iconst (v := 0) X dX7_isAhead_83 (by decide) ?_
        refine j_lv [] [] rfl ?_
        exact t_X7_isAhead_84 X hr hlocks 0 S _ ho he
      · rw [if_neg h8] at he
        have ho := ho.2 h8
        refine j_iconst (v := 1) X dX7_isAhead_79 (by decide) ?_
        refine j_goto X 84 dX7_isAhead_80 (by decide) ?_
        refine j_lv [] [] rfl ?_
        exact t_X7_isAhead_84 X hr hlocks 1 S _ ho he
    · rw [if_neg h7] at he
      have ho := ho.2 h7
      refine j_aload_n X 0 dX7_isAhead_51 rfl ?_
      refine j_iload_n X 1 dX7_isAhead_52 rfl ?_
      refine j_iconst (v := 3) X dX7_isAhead_53 (by decide) ?_
      have h9 := ho.1
      have ho := ho.2
      refine j_callVi (rest := []) X (c_X7_ofInnings (cx_inj X) x1 3 S h9) cw_X7_88 kc25.1 (cl_25 kc25) rfl ⟨rfl, rfl, Nat.le_of_ble_eq_true rfl, Nat.le_of_ble_eq_true rfl⟩ rfl rfl (Nat.le_of_ble_eq_true rfl) ⟨Nat.le_of_ble_eq_true rfl, Nat.le_of_ble_eq_true rfl⟩ dX7_isAhead_54 ?_
      refine j_aload_n X 0 dX7_isAhead_57 rfl ?_
      refine j_iload_n X 2 dX7_isAhead_58 rfl ?_
      refine j_iconst (v := 3) X dX7_isAhead_59 (by decide) ?_
      have h10 := ho.1
      have ho := ho.2
      refine j_callVi (rest := [.int (b_X7_ofInnings_0 x1 3 S)]) X (c_X7_ofInnings (cx_inj X) x2 3 S h10) cw_X7_88 kc25.1 (cl_25 kc25) rfl ⟨rfl, rfl, Nat.le_of_ble_eq_true rfl, Nat.le_of_ble_eq_true rfl⟩ rfl rfl (Nat.le_of_ble_eq_true rfl) ⟨Nat.le_of_ble_eq_true rfl, Nat.le_of_ble_eq_true rfl⟩ dX7_isAhead_60 ?_
      refine j_icmp_ge X 70 dX7_isAhead_63 (by decide) (fun h11 => ?_) (fun h11 => ?_)
      · rw [if_pos h11] at he
        have ho := ho.1 h11
        refine j_iconst (v := 0) X dX7_isAhead_70 (by decide) ?_
        refine j_goto X 84 dX7_isAhead_71 (by decide) ?_
        refine j_lv [] [] rfl ?_
        exact t_X7_isAhead_84 X hr hlocks 0 S _ ho he
      · rw [if_neg h11] at he
        have ho := ho.2 h11
        refine j_iconst (v := 1) X dX7_isAhead_66 (by decide) ?_
        refine j_goto X 84 dX7_isAhead_67 (by decide) ?_
        refine j_lv [] [] rfl ?_
        exact t_X7_isAhead_84 X hr hlocks 1 S _ ho he
  · rw [if_neg h4] at he
    have ho := ho.2 h4
    refine j_aload_n X 0 dX7_isAhead_15 rfl ?_
    refine j_iload_n X 1 dX7_isAhead_16 rfl ?_
    refine j_iconst (v := 4) X dX7_isAhead_17 (by decide) ?_
    have h12 := ho.1
    have ho := ho.2
    refine j_callVi (rest := []) X (c_X7_ofInnings (cx_inj X) x1 4 S h12) cw_X7_88 kc25.1 (cl_25 kc25) rfl ⟨rfl, rfl, Nat.le_of_ble_eq_true rfl, Nat.le_of_ble_eq_true rfl⟩ rfl rfl (Nat.le_of_ble_eq_true rfl) ⟨Nat.le_of_ble_eq_true rfl, Nat.le_of_ble_eq_true rfl⟩ dX7_isAhead_18 ?_
    refine j_aload_n X 0 dX7_isAhead_21 rfl ?_
    refine j_iload_n X 2 dX7_isAhead_22 rfl ?_
    refine j_iconst (v := 4) X dX7_isAhead_23 (by decide) ?_
    have h13 := ho.1
    have ho := ho.2
    refine j_callVi (rest := [.int (b_X7_ofInnings_0 x1 4 S)]) X (c_X7_ofInnings (cx_inj X) x2 4 S h13) cw_X7_88 kc25.1 (cl_25 kc25) rfl ⟨rfl, rfl, Nat.le_of_ble_eq_true rfl, Nat.le_of_ble_eq_true rfl⟩ rfl rfl (Nat.le_of_ble_eq_true rfl) ⟨Nat.le_of_ble_eq_true rfl, Nat.le_of_ble_eq_true rfl⟩ dX7_isAhead_24 ?_
    refine j_icmp_le X 34 dX7_isAhead_27 (by decide) (fun h14 => ?_) (fun h14 => ?_)
    · rw [if_pos h14] at he
      have ho := ho.1 h14
      refine j_iconst (v := 0) X dX7_isAhead_34 (by decide) ?_
      refine j_lv [] [] rfl ?_
      exact t_X7_isAhead_35 X hr hlocks 0 S _ ho he
    · rw [if_neg h14] at he
      have ho := ho.2 h14
      refine j_iconst (v := 1) X dX7_isAhead_30 (by decide) ?_
      refine j_goto X 35 dX7_isAhead_31 (by decide) ?_
      refine j_lv [] [] rfl ?_
      exact t_X7_isAhead_35 X hr hlocks 1 S _ ho he
theorem c_X7_isAhead {l : Launch} {D : va_G} {q : Nat → ClassId} {ad : Nat → Nat} {d : UInt64} (hI : inj4 ad) (x1 : Int32) (x2 : Int32) (S : Sx) (ho : o_X7_isAhead_0 x1 x2 S) : CI l yX7_isAhead cX7_isAhead 3 .boolean rm_X7_isAhead D q ad d [.ref (ad 5), .int x1, .int x2] S (b_X7_isAhead_0 x1 x2 S) S := ci_of hI (by decide +kernel) (Nat.le_of_ble_eq_true rfl) rfl (fun p e s m args below meth c X hr hlocks => t_X7_isAhead_0 X hr hlocks x1 x2 S _ ho rfl)
end
/-! RX7.rankOf -/
abbrev rm_X7_rankOf : Room := { frames := 2, cells := 0, slots := 0, locals := 44 }
section
variable {p : Program} {l : Launch} {e : Env} {s : State} {m : MethodId} {args : Array Value} {below : List Frame} {meth : Method} {c : Code} {D : va_G} {q : Nat → ClassId} {ad : Nat → Nat} {d : UInt64}
def b_X7_rankOf_35 (kk : Int32 → Int32 → Int32 → Sx → Int32) (v1 : Int32) (v3 : Int32) (w0 : Int32) (w1 : Int32) (S : Sx) : Int32 := kk v1 (w1 + w0) (v3 + 1) S
def o_X7_rankOf_35 (ok : Int32 → Int32 → Int32 → Sx → Prop) (v1 : Int32) (v3 : Int32) (w0 : Int32) (w1 : Int32) (S : Sx) : Prop := ok v1 (w1 + w0) (v3 + 1) S
set_option maxRecDepth 20000 in
theorem t_X7_rankOf_35 (X : Cx p m c cX7_rankOf 4 s args RX7 D q ad) (hr : meth.sig.returnType = some .int) (hlocks : meth.locks = false) (kk : Int32 → Int32 → Int32 → Sx → Int32) (ok : Int32 → Int32 → Int32 → Sx → Prop) (hkk : ∀ (v1 : Int32) (v2 : Int32) (v3 : Int32) (S : Sx) (rv : Int32) (ho : ok v1 v2 v3 S) (he : kk v1 v2 v3 S = rv), Jg p l e rm_X7_rankOf s m args below meth c 0 0 (MQ below (Qi D q ad d rv S s.heap.size) args s 0 0 (AU ad s.heap.size)) D q ad d 4 4 [(0, .ref (ad 5)), (1, .int v1), (2, .int v2), (3, .int v3)] [] S) (v1 : Int32) (v3 : Int32) (w0 : Int32) (w1 : Int32) (S : Sx) (rv : Int32) (ho : o_X7_rankOf_35 ok v1 v3 w0 w1 S) (he : b_X7_rankOf_35 kk v1 v3 w0 w1 S = rv) : Jg p l e rm_X7_rankOf s m args below meth c 0 0 (MQ below (Qi D q ad d rv S s.heap.size) args s 0 0 (AU ad s.heap.size)) D q ad d 4 35 [(0, .ref (ad 5)), (1, .int v1), (3, .int v3)] [.int w0, .int w1] S := by
  unfold b_X7_rankOf_35 at he
  unfold o_X7_rankOf_35 at ho
  refine j_iadd X dX7_rankOf_35 ?_
  refine j_istore_n X [(2, .int (w1 + w0)), (0, .ref (ad 5)), (1, .int v1), (3, .int v3)] dX7_rankOf_36 (by decide) rfl ?_
  refine j_iinc X 3 (v3 + 1) [(3, .int (v3 + 1)), (2, .int (w1 + w0)), (0, .ref (ad 5)), (1, .int v1)] dX7_rankOf_37 rfl rfl (by decide) rfl ?_
  refine j_goto X 4 dX7_rankOf_40 (by decide) ?_
  refine j_lv [2, 3, 1, 0] [(0, .ref (ad 5)), (1, .int v1), (2, .int (w1 + w0)), (3, .int (v3 + 1))] rfl ?_
  exact hkk v1 (w1 + w0) (v3 + 1) S _ ho he
def b_X7_rankOf_34 (kk : Int32 → Int32 → Int32 → Sx → Int32) (v1 : Int32) (v3 : Int32) (w0 : Int32) (S : Sx) : Int32 := b_X7_rankOf_35 kk v1 v3 0 w0 S
def o_X7_rankOf_34 (ok : Int32 → Int32 → Int32 → Sx → Prop) (v1 : Int32) (v3 : Int32) (w0 : Int32) (S : Sx) : Prop := o_X7_rankOf_35 ok v1 v3 0 w0 S
set_option maxRecDepth 20000 in
theorem t_X7_rankOf_34 (X : Cx p m c cX7_rankOf 4 s args RX7 D q ad) (hr : meth.sig.returnType = some .int) (hlocks : meth.locks = false) (kk : Int32 → Int32 → Int32 → Sx → Int32) (ok : Int32 → Int32 → Int32 → Sx → Prop) (hkk : ∀ (v1 : Int32) (v2 : Int32) (v3 : Int32) (S : Sx) (rv : Int32) (ho : ok v1 v2 v3 S) (he : kk v1 v2 v3 S = rv), Jg p l e rm_X7_rankOf s m args below meth c 0 0 (MQ below (Qi D q ad d rv S s.heap.size) args s 0 0 (AU ad s.heap.size)) D q ad d 4 4 [(0, .ref (ad 5)), (1, .int v1), (2, .int v2), (3, .int v3)] [] S) (v1 : Int32) (v3 : Int32) (w0 : Int32) (S : Sx) (rv : Int32) (ho : o_X7_rankOf_34 ok v1 v3 w0 S) (he : b_X7_rankOf_34 kk v1 v3 w0 S = rv) : Jg p l e rm_X7_rankOf s m args below meth c 0 0 (MQ below (Qi D q ad d rv S s.heap.size) args s 0 0 (AU ad s.heap.size)) D q ad d 4 34 [(0, .ref (ad 5)), (1, .int v1), (3, .int v3)] [.int w0] S := by
  unfold b_X7_rankOf_34 at he
  unfold o_X7_rankOf_34 at ho
  refine j_iconst (v := 0) X dX7_rankOf_34 (by decide) ?_
  exact t_X7_rankOf_35 X hr hlocks kk ok hkk v1 v3 0 w0 S _ ho he
def b_X7_rankOf_4 : Nat → Int32 → Int32 → Int32 → Sx → Int32
  | 0, _, _, _, S => 0
  | n + 1, v1, v2, v3, S => if (S 6 ((106 : Int32).toNatClampNeg)) ≤ v3 then v2 else if v3 = v1 then b_X7_rankOf_34 (b_X7_rankOf_4 n) v1 v3 v2 S else if (b_X7_isAhead_0 v3 v1 S) = 0 then b_X7_rankOf_34 (b_X7_rankOf_4 n) v1 v3 v2 S else b_X7_rankOf_35 (b_X7_rankOf_4 n) v1 v3 1 v2 S
def o_X7_rankOf_4 : Nat → Int32 → Int32 → Int32 → Sx → Prop
  | 0, _, _, _, _ => False
  | n + 1, v1, v2, v3, S => ((S 6 ((106 : Int32).toNatClampNeg)) ≤ v3 → True) ∧ (¬ (S 6 ((106 : Int32).toNatClampNeg)) ≤ v3 → ((v3 = v1 → (o_X7_rankOf_34 (o_X7_rankOf_4 n) v1 v3 v2 S)) ∧ (¬ v3 = v1 → (o_X7_isAhead_0 v3 v1 S ∧ (((b_X7_isAhead_0 v3 v1 S) = 0 → (o_X7_rankOf_34 (o_X7_rankOf_4 n) v1 v3 v2 S)) ∧ (¬ (b_X7_isAhead_0 v3 v1 S) = 0 → (o_X7_rankOf_35 (o_X7_rankOf_4 n) v1 v3 1 v2 S)))))))
set_option maxRecDepth 20000 in
theorem t_X7_rankOf_4 (X : Cx p m c cX7_rankOf 4 s args RX7 D q ad) (hr : meth.sig.returnType = some .int) (hlocks : meth.locks = false) : ∀ (n : Nat) (v1 : Int32) (v2 : Int32) (v3 : Int32) (S : Sx) (rv : Int32) (ho : o_X7_rankOf_4 n v1 v2 v3 S) (he : b_X7_rankOf_4 n v1 v2 v3 S = rv), Jg p l e rm_X7_rankOf s m args below meth c 0 0 (MQ below (Qi D q ad d rv S s.heap.size) args s 0 0 (AU ad s.heap.size)) D q ad d 4 4 [(0, .ref (ad 5)), (1, .int v1), (2, .int v2), (3, .int v3)] [] S := by
  intro n
  induction n with
  | zero =>
    intro v1 v2 v3 S rv ho he
    unfold o_X7_rankOf_4 at ho
    exact ho.elim
  | succ n ih =>
    intro v1 v2 v3 S rv ho he
    unfold b_X7_rankOf_4 at he
    unfold o_X7_rankOf_4 at ho
    refine j_iload_n X 3 dX7_rankOf_4 rfl ?_
    refine j_aload_n X 0 dX7_rankOf_5 rfl ?_
    refine gf_25_0 X m_fl_X7_7 kc25 dX7_rankOf_6 ?_
    refine j_bipush (v := 106) X dX7_rankOf_9 (by decide) ?_
    refine j_iald X kc26.1 (cl_26 kc26) (by unfold vp_in; decide) dX7_rankOf_11 ?_
    refine j_icmp_ge X 43 dX7_rankOf_12 (by decide) (fun h2 => ?_) (fun h2 => ?_)
    · rw [if_pos h2] at he
      have ho := ho.1 h2
      refine j_iload_n X 2 dX7_rankOf_43 rfl ?_
      exact j_iret X hr hlocks dX7_rankOf_44 he rfl
    · rw [if_neg h2] at he
      have ho := ho.2 h2
      refine j_iload_n X 2 dX7_rankOf_15 rfl ?_
      refine j_iload_n X 3 dX7_rankOf_16 rfl ?_
      refine j_iload_n X 1 dX7_rankOf_17 rfl ?_
      refine j_icmp_eq X 34 dX7_rankOf_18 (by decide) (fun h3 => ?_) (fun h3 => ?_)
      · rw [if_pos h3] at he
        have ho := ho.1 h3
        refine j_lv [0, 1, 3] [(0, .ref (ad 5)), (1, .int v1), (3, .int v3)] rfl ?_
        exact t_X7_rankOf_34 X hr hlocks (b_X7_rankOf_4 n) (o_X7_rankOf_4 n) ih v1 v3 v2 S _ ho he
      · rw [if_neg h3] at he
        have ho := ho.2 h3
        refine j_aload_n X 0 dX7_rankOf_21 rfl ?_
        refine j_iload_n X 3 dX7_rankOf_22 rfl ?_
        refine j_iload_n X 1 dX7_rankOf_23 rfl ?_
        have h4 := ho.1
        have ho := ho.2
        refine j_callVi (rest := [.int v2]) X (c_X7_isAhead (cx_inj X) v3 v1 S h4) cw_X7_156 kc25.1 (cl_25 kc25) rfl ⟨rfl, rfl, Nat.le_of_ble_eq_true rfl, Nat.le_of_ble_eq_true rfl⟩ rfl rfl (Nat.le_of_ble_eq_true rfl) ⟨Nat.le_of_ble_eq_true rfl, Nat.le_of_ble_eq_true rfl⟩ dX7_rankOf_24 ?_
        refine j_if_eq X 34 dX7_rankOf_27 (by decide) (fun h5 => ?_) (fun h5 => ?_)
        · rw [if_pos h5] at he
          have ho := ho.1 h5
          refine j_lv [0, 1, 3] [(0, .ref (ad 5)), (1, .int v1), (3, .int v3)] rfl ?_
          exact t_X7_rankOf_34 X hr hlocks (b_X7_rankOf_4 n) (o_X7_rankOf_4 n) ih v1 v3 v2 S _ ho he
        · rw [if_neg h5] at he
          have ho := ho.2 h5
          refine j_iconst (v := 1) X dX7_rankOf_30 (by decide) ?_
          refine j_goto X 35 dX7_rankOf_31 (by decide) ?_
          refine j_lv [0, 1, 3] [(0, .ref (ad 5)), (1, .int v1), (3, .int v3)] rfl ?_
          exact t_X7_rankOf_35 X hr hlocks (b_X7_rankOf_4 n) (o_X7_rankOf_4 n) ih v1 v3 1 v2 S _ ho he
def b_X7_rankOf_0 (x1 : Int32) (S : Sx) : Int32 := b_X7_rankOf_4 100 x1 0 0 S
def o_X7_rankOf_0 (x1 : Int32) (S : Sx) : Prop := o_X7_rankOf_4 100 x1 0 0 S
set_option maxRecDepth 20000 in
theorem t_X7_rankOf_0 (X : Cx p m c cX7_rankOf 4 s args RX7 D q ad) (hr : meth.sig.returnType = some .int) (hlocks : meth.locks = false) (x1 : Int32) (S : Sx) (rv : Int32) (ho : o_X7_rankOf_0 x1 S) (he : b_X7_rankOf_0 x1 S = rv) : Jg p l e rm_X7_rankOf s m args below meth c 0 0 (MQ below (Qi D q ad d rv S s.heap.size) args s 0 0 (AU ad s.heap.size)) D q ad d 4 0 [(0, .ref (ad 5)), (1, .int x1)] [] S := by
  unfold b_X7_rankOf_0 at he
  unfold o_X7_rankOf_0 at ho
  refine j_iconst (v := 0) X dX7_rankOf_0 (by decide) ?_
  refine j_istore_n X [(2, .int 0), (0, .ref (ad 5)), (1, .int x1)] dX7_rankOf_1 (by decide) rfl ?_
  refine j_iconst (v := 0) X dX7_rankOf_2 (by decide) ?_
  refine j_istore_n X [(3, .int 0), (2, .int 0), (0, .ref (ad 5)), (1, .int x1)] dX7_rankOf_3 (by decide) rfl ?_
  refine j_lv [2, 3, 1, 0] [(0, .ref (ad 5)), (1, .int x1), (2, .int 0), (3, .int 0)] rfl ?_
  exact t_X7_rankOf_4 X hr hlocks 100 x1 0 0 S _ ho he
theorem c_X7_rankOf {l : Launch} {D : va_G} {q : Nat → ClassId} {ad : Nat → Nat} {d : UInt64} (hI : inj4 ad) (x1 : Int32) (S : Sx) (ho : o_X7_rankOf_0 x1 S) : CI l yX7_rankOf cX7_rankOf 4 .int rm_X7_rankOf D q ad d [.ref (ad 5), .int x1] S (b_X7_rankOf_0 x1 S) S := ci_of hI (by decide +kernel) (Nat.le_of_ble_eq_true rfl) rfl (fun p e s m args below meth c X hr hlocks => t_X7_rankOf_0 X hr hlocks x1 S _ ho rfl)
end
/-! RX7.ranked -/
abbrev rm_X7_ranked : Room := { frames := 3, cells := 0, slots := 0, locals := 67 }
section
variable {p : Program} {l : Launch} {e : Env} {s : State} {m : MethodId} {args : Array Value} {below : List Frame} {meth : Method} {c : Code} {D : va_G} {q : Nat → ClassId} {ad : Nat → Nat} {d : UInt64}
def b_X7_ranked_56 (w0 : Int32) (S : Sx) : Int32 × Sx := (w0, S)
set_option maxRecDepth 20000 in
theorem t_X7_ranked_56 (X : Cx p m c cX7_ranked 3 s args RX7 D q ad) (hr : meth.sig.returnType = some .int) (hlocks : meth.locks = false) (w0 : Int32) (S : Sx) (rv : Int32) (S' : Sx) (he : b_X7_ranked_56 w0 S = (rv, S')) : Jg p l e rm_X7_ranked s m args below meth c 0 0 (MQ below (Qi D q ad d rv S' s.heap.size) args s 0 0 (AU ad s.heap.size)) D q ad d 3 56 [] [.int w0] S := by
  unfold b_X7_ranked_56 at he
  exact j_iret X hr hlocks dX7_ranked_56 (congrArg Prod.fst he) (congrArg Prod.snd he)
def b_X7_ranked_45 (v2 : Int32) (w0 : Int32) (S : Sx) : Int32 × Sx := if ((b_X7_fails_0 w0 S).1) = 0 then b_X7_ranked_56 v2 ((b_X7_fails_0 w0 S).2) else b_X7_ranked_56 0 ((b_X7_fails_0 w0 S).2)
def o_X7_ranked_45 (v2 : Int32) (w0 : Int32) (S : Sx) : Prop := o_X7_fails_0 w0 S ∧ True
set_option maxRecDepth 20000 in
theorem t_X7_ranked_45 (X : Cx p m c cX7_ranked 3 s args RX7 D q ad) (hr : meth.sig.returnType = some .int) (hlocks : meth.locks = false) (v2 : Int32) (w0 : Int32) (S : Sx) (rv : Int32) (S' : Sx) (ho : o_X7_ranked_45 v2 w0 S) (he : b_X7_ranked_45 v2 w0 S = (rv, S')) : Jg p l e rm_X7_ranked s m args below meth c 0 0 (MQ below (Qi D q ad d rv S' s.heap.size) args s 0 0 (AU ad s.heap.size)) D q ad d 3 45 [(2, .int v2)] [.int w0, .ref (ad 5)] S := by
  unfold b_X7_ranked_45 at he
  unfold o_X7_ranked_45 at ho
  have h2 := ho.1
  have ho := ho.2
  refine j_callVi (rest := []) X (c_X7_fails (cx_inj X) w0 S h2) cw_X7_70 kc25.1 (cl_25 kc25) rfl ⟨rfl, rfl, Nat.le_of_ble_eq_true rfl, Nat.le_of_ble_eq_true rfl⟩ rfl rfl (Nat.le_of_ble_eq_true rfl) ⟨Nat.le_of_ble_eq_true rfl, Nat.le_of_ble_eq_true rfl⟩ dX7_ranked_45 ?_
  refine j_if_eq X 55 dX7_ranked_48 (by decide) (fun h3 => ?_) (fun h3 => ?_)
  · rw [if_pos h3] at he
    refine j_iload_n X 0 dX7_ranked_55 rfl ?_
    refine j_lv [] [] rfl ?_
    exact t_X7_ranked_56 X hr hlocks v2 ((b_X7_fails_0 w0 S).2) _ _ he
  · rw [if_neg h3] at he
    refine j_iconst (v := 0) X dX7_ranked_51 (by decide) ?_
    refine j_goto X 56 dX7_ranked_52 (by decide) ?_
    refine j_lv [] [] rfl ?_
    exact t_X7_ranked_56 X hr hlocks 0 ((b_X7_fails_0 w0 S).2) _ _ he
def b_X7_ranked_28 (v2 : Int32) (S : Sx) : Int32 × Sx := if v2 = (S 6 ((106 : Int32).toNatClampNeg)) then b_X7_ranked_45 v2 1 S else b_X7_ranked_45 v2 0 S
def o_X7_ranked_28 (v2 : Int32) (S : Sx) : Prop := (v2 = (S 6 ((106 : Int32).toNatClampNeg)) → (o_X7_ranked_45 v2 1 S)) ∧ (¬ v2 = (S 6 ((106 : Int32).toNatClampNeg)) → (o_X7_ranked_45 v2 0 S))
set_option maxRecDepth 20000 in
theorem t_X7_ranked_28 (X : Cx p m c cX7_ranked 3 s args RX7 D q ad) (hr : meth.sig.returnType = some .int) (hlocks : meth.locks = false) (v2 : Int32) (S : Sx) (rv : Int32) (S' : Sx) (ho : o_X7_ranked_28 v2 S) (he : b_X7_ranked_28 v2 S = (rv, S')) : Jg p l e rm_X7_ranked s m args below meth c 0 0 (MQ below (Qi D q ad d rv S' s.heap.size) args s 0 0 (AU ad s.heap.size)) D q ad d 3 28 [(0, .ref (ad 5)), (2, .int v2)] [] S := by
  unfold b_X7_ranked_28 at he
  unfold o_X7_ranked_28 at ho
  refine j_aload_n X 0 dX7_ranked_28 rfl ?_
  refine j_iload_n X 1 dX7_ranked_29 rfl ?_
  refine j_aload_n X 0 dX7_ranked_30 rfl ?_
  refine gf_25_0 X m_fl_X7_7 kc25 dX7_ranked_31 ?_
  refine j_bipush (v := 106) X dX7_ranked_34 (by decide) ?_
  refine j_iald X kc26.1 (cl_26 kc26) (by unfold vp_in; decide) dX7_ranked_36 ?_
  refine j_icmp_ne X 44 dX7_ranked_37 (by decide) (fun h2 => ?_) (fun h2 => ?_)
  · rw [if_neg h2] at he
    have ho := ho.2 h2
    refine j_iconst (v := 0) X dX7_ranked_44 (by decide) ?_
    refine j_lv [1] [(2, .int v2)] rfl ?_
    exact t_X7_ranked_45 X hr hlocks v2 0 S _ _ ho he
  · rw [if_pos h2] at he
    have ho := ho.1 h2
    refine j_iconst (v := 1) X dX7_ranked_40 (by decide) ?_
    refine j_goto X 45 dX7_ranked_41 (by decide) ?_
    refine j_lv [1] [(2, .int v2)] rfl ?_
    exact t_X7_ranked_45 X hr hlocks v2 1 S _ _ ho he
def b_X7_ranked_2 : Nat → Int32 → Int32 → Sx → Int32 × Sx
  | 0, _, _, S => (0, S)
  | n + 1, v1, v2, S => if (S 6 ((106 : Int32).toNatClampNeg)) ≤ v2 then b_X7_ranked_28 v2 S else if (b_X7_rankOf_0 v2 S) = v1 then b_X7_ranked_28 v2 S else b_X7_ranked_2 n v1 (v2 + 1) S
def o_X7_ranked_2 : Nat → Int32 → Int32 → Sx → Prop
  | 0, _, _, _ => False
  | n + 1, v1, v2, S => ((S 6 ((106 : Int32).toNatClampNeg)) ≤ v2 → (o_X7_ranked_28 v2 S)) ∧ (¬ (S 6 ((106 : Int32).toNatClampNeg)) ≤ v2 → (o_X7_rankOf_0 v2 S ∧ (((b_X7_rankOf_0 v2 S) = v1 → (o_X7_ranked_28 v2 S)) ∧ (¬ (b_X7_rankOf_0 v2 S) = v1 → (o_X7_ranked_2 n v1 (v2 + 1) S)))))
set_option maxRecDepth 20000 in
theorem t_X7_ranked_2 (X : Cx p m c cX7_ranked 3 s args RX7 D q ad) (hr : meth.sig.returnType = some .int) (hlocks : meth.locks = false) : ∀ (n : Nat) (v1 : Int32) (v2 : Int32) (S : Sx) (rv : Int32) (S' : Sx) (ho : o_X7_ranked_2 n v1 v2 S) (he : b_X7_ranked_2 n v1 v2 S = (rv, S')), Jg p l e rm_X7_ranked s m args below meth c 0 0 (MQ below (Qi D q ad d rv S' s.heap.size) args s 0 0 (AU ad s.heap.size)) D q ad d 3 2 [(0, .ref (ad 5)), (1, .int v1), (2, .int v2)] [] S := by
  intro n
  induction n with
  | zero =>
    intro v1 v2 S rv S' ho he
    unfold o_X7_ranked_2 at ho
    exact ho.elim
  | succ n ih =>
    intro v1 v2 S rv S' ho he
    unfold b_X7_ranked_2 at he
    unfold o_X7_ranked_2 at ho
    refine j_iload_n X 2 dX7_ranked_2 rfl ?_
    refine j_aload_n X 0 dX7_ranked_3 rfl ?_
    refine gf_25_0 X m_fl_X7_7 kc25 dX7_ranked_4 ?_
    refine j_bipush (v := 106) X dX7_ranked_7 (by decide) ?_
    refine j_iald X kc26.1 (cl_26 kc26) (by unfold vp_in; decide) dX7_ranked_9 ?_
    refine j_icmp_ge X 28 dX7_ranked_10 (by decide) (fun h2 => ?_) (fun h2 => ?_)
    · rw [if_pos h2] at he
      have ho := ho.1 h2
      refine j_lv [0, 2] [(0, .ref (ad 5)), (2, .int v2)] rfl ?_
      exact t_X7_ranked_28 X hr hlocks v2 S _ _ ho he
    · rw [if_neg h2] at he
      have ho := ho.2 h2
      refine j_aload_n X 0 dX7_ranked_13 rfl ?_
      refine j_iload_n X 2 dX7_ranked_14 rfl ?_
      have h3 := ho.1
      have ho := ho.2
      refine j_callVi (rest := []) X (c_X7_rankOf (cx_inj X) v2 S h3) cw_X7_160 kc25.1 (cl_25 kc25) rfl ⟨rfl, rfl, Nat.le_of_ble_eq_true rfl, Nat.le_of_ble_eq_true rfl⟩ rfl rfl (Nat.le_of_ble_eq_true rfl) ⟨Nat.le_of_ble_eq_true rfl, Nat.le_of_ble_eq_true rfl⟩ dX7_ranked_15 ?_
      refine j_iload_n X 1 dX7_ranked_18 rfl ?_
      refine j_icmp_eq X 28 dX7_ranked_19 (by decide) (fun h4 => ?_) (fun h4 => ?_)
      · rw [if_pos h4] at he
        have ho := ho.1 h4
        refine j_lv [0, 2] [(0, .ref (ad 5)), (2, .int v2)] rfl ?_
        exact t_X7_ranked_28 X hr hlocks v2 S _ _ ho he
      · rw [if_neg h4] at he
        have ho := ho.2 h4
        refine j_iinc X 2 (v2 + 1) [(2, .int (v2 + 1)), (0, .ref (ad 5)), (1, .int v1)] dX7_ranked_22 rfl rfl (by decide) rfl ?_
        refine j_goto X 2 dX7_ranked_25 (by decide) ?_
        refine j_lv [1, 2, 0] [(0, .ref (ad 5)), (1, .int v1), (2, .int (v2 + 1))] rfl ?_
        exact ih v1 (v2 + 1) S _ _ ho he
def b_X7_ranked_0 (x1 : Int32) (S : Sx) : Int32 × Sx := b_X7_ranked_2 100 x1 0 S
def o_X7_ranked_0 (x1 : Int32) (S : Sx) : Prop := o_X7_ranked_2 100 x1 0 S
set_option maxRecDepth 20000 in
theorem t_X7_ranked_0 (X : Cx p m c cX7_ranked 3 s args RX7 D q ad) (hr : meth.sig.returnType = some .int) (hlocks : meth.locks = false) (x1 : Int32) (S : Sx) (rv : Int32) (S' : Sx) (ho : o_X7_ranked_0 x1 S) (he : b_X7_ranked_0 x1 S = (rv, S')) : Jg p l e rm_X7_ranked s m args below meth c 0 0 (MQ below (Qi D q ad d rv S' s.heap.size) args s 0 0 (AU ad s.heap.size)) D q ad d 3 0 [(0, .ref (ad 5)), (1, .int x1)] [] S := by
  unfold b_X7_ranked_0 at he
  unfold o_X7_ranked_0 at ho
  refine j_iconst (v := 0) X dX7_ranked_0 (by decide) ?_
  refine j_istore_n X [(2, .int 0), (0, .ref (ad 5)), (1, .int x1)] dX7_ranked_1 (by decide) rfl ?_
  refine j_lv [1, 2, 0] [(0, .ref (ad 5)), (1, .int x1), (2, .int 0)] rfl ?_
  exact t_X7_ranked_2 X hr hlocks 100 x1 0 S _ _ ho he
theorem c_X7_ranked {l : Launch} {D : va_G} {q : Nat → ClassId} {ad : Nat → Nat} {d : UInt64} (hI : inj4 ad) (x1 : Int32) (S : Sx) (ho : o_X7_ranked_0 x1 S) : CI l yX7_ranked cX7_ranked 3 .int rm_X7_ranked D q ad d [.ref (ad 5), .int x1] S (b_X7_ranked_0 x1 S).1 (b_X7_ranked_0 x1 S).2 := ci_of hI (by decide +kernel) (Nat.le_of_ble_eq_true rfl) rfl (fun p e s m args below meth c X hr hlocks => t_X7_ranked_0 X hr hlocks x1 S _ _ ho (pe _))
end
/-! RX7.pass -/
abbrev rm_X7_pass : Room := { frames := 3, cells := 0, slots := 0, locals := 69 }
section
variable {p : Program} {l : Launch} {e : Env} {s : State} {m : MethodId} {args : Array Value} {below : List Frame} {meth : Method} {c : Code} {D : va_G} {q : Nat → ClassId} {ad : Nat → Nat} {d : UInt64}
def b_X7_pass_36 : Nat → Int32 → Int32 → Int32 → Sx → Int32 × Sx
  | 0, _, _, _, S => (0, S)
  | n + 1, v1, v2, v3, S => if v1 ≤ v3 then (v2, S) else b_X7_pass_36 n v1 (v2 + ((b_X7_hourGoes_0 S).1)) (v3 + 1) ((b_X7_hourGoes_0 S).2)
def o_X7_pass_36 : Nat → Int32 → Int32 → Int32 → Sx → Prop
  | 0, _, _, _, _ => False
  | n + 1, v1, v2, v3, S => (v1 ≤ v3 → True) ∧ (¬ v1 ≤ v3 → (o_X7_hourGoes_0 S ∧ (o_X7_pass_36 n v1 (v2 + ((b_X7_hourGoes_0 S).1)) (v3 + 1) ((b_X7_hourGoes_0 S).2))))
set_option maxRecDepth 20000 in
theorem t_X7_pass_36 (X : Cx p m c cX7_pass 4 s args RX7 D q ad) (hr : meth.sig.returnType = some .int) (hlocks : meth.locks = false) : ∀ (n : Nat) (v1 : Int32) (v2 : Int32) (v3 : Int32) (S : Sx) (rv : Int32) (S' : Sx) (ho : o_X7_pass_36 n v1 v2 v3 S) (he : b_X7_pass_36 n v1 v2 v3 S = (rv, S')), Jg p l e rm_X7_pass s m args below meth c 0 0 (MQ below (Qi D q ad d rv S' s.heap.size) args s 0 0 (AU ad s.heap.size)) D q ad d 4 36 [(0, .ref (ad 5)), (1, .int v1), (2, .int v2), (3, .int v3)] [] S := by
  intro n
  induction n with
  | zero =>
    intro v1 v2 v3 S rv S' ho he
    unfold o_X7_pass_36 at ho
    exact ho.elim
  | succ n ih =>
    intro v1 v2 v3 S rv S' ho he
    unfold b_X7_pass_36 at he
    unfold o_X7_pass_36 at ho
    refine j_iload_n X 3 dX7_pass_36 rfl ?_
    refine j_iload_n X 1 dX7_pass_37 rfl ?_
    refine j_icmp_ge X 54 dX7_pass_38 (by decide) (fun h2 => ?_) (fun h2 => ?_)
    · rw [if_pos h2] at he
      have ho := ho.1 h2
      refine j_iload_n X 2 dX7_pass_54 rfl ?_
      exact j_iret X hr hlocks dX7_pass_55 (congrArg Prod.fst he) (congrArg Prod.snd he)
    · rw [if_neg h2] at he
      have ho := ho.2 h2
      refine j_iload_n X 2 dX7_pass_41 rfl ?_
      refine j_aload_n X 0 dX7_pass_42 rfl ?_
      have h3 := ho.1
      have ho := ho.2
      refine j_callVi (rest := [.int v2]) X (c_X7_hourGoes (cx_inj X) S h3) cw_X7_132 kc25.1 (cl_25 kc25) rfl ⟨rfl, rfl, Nat.le_of_ble_eq_true rfl, Nat.le_of_ble_eq_true rfl⟩ rfl rfl (Nat.le_of_ble_eq_true rfl) ⟨Nat.le_of_ble_eq_true rfl, Nat.le_of_ble_eq_true rfl⟩ dX7_pass_43 ?_
      refine j_iadd X dX7_pass_46 ?_
      refine j_istore_n X [(2, .int (v2 + ((b_X7_hourGoes_0 S).1))), (0, .ref (ad 5)), (1, .int v1), (3, .int v3)] dX7_pass_47 (by decide) rfl ?_
      refine j_iinc X 3 (v3 + 1) [(3, .int (v3 + 1)), (2, .int (v2 + ((b_X7_hourGoes_0 S).1))), (0, .ref (ad 5)), (1, .int v1)] dX7_pass_48 rfl rfl (by decide) rfl ?_
      refine j_goto X 36 dX7_pass_51 (by decide) ?_
      refine j_lv [2, 3, 1, 0] [(0, .ref (ad 5)), (1, .int v1), (2, .int (v2 + ((b_X7_hourGoes_0 S).1))), (3, .int (v3 + 1))] rfl ?_
      exact ih v1 (v2 + ((b_X7_hourGoes_0 S).1)) (v3 + 1) ((b_X7_hourGoes_0 S).2) _ _ ho he
def b_X7_pass_16 (v1 : Int32) (w0 : Int32) (S : Sx) : Int32 × Sx := if ((b_X7_fails_0 w0 S).1) = 0 then b_X7_pass_36 100 v1 0 0 (b_X7_keeps_0 6 ((b_X7_fails_0 w0 S).2)) else (0, (b_X7_fails_0 w0 S).2)
def o_X7_pass_16 (v1 : Int32) (w0 : Int32) (S : Sx) : Prop := o_X7_fails_0 w0 S ∧ ((((b_X7_fails_0 w0 S).1) = 0 → (o_X7_keeps_0 6 ((b_X7_fails_0 w0 S).2) ∧ (o_X7_pass_36 100 v1 0 0 (b_X7_keeps_0 6 ((b_X7_fails_0 w0 S).2))))) ∧ (¬ ((b_X7_fails_0 w0 S).1) = 0 → True))
set_option maxRecDepth 20000 in
theorem t_X7_pass_16 (X : Cx p m c cX7_pass 4 s args RX7 D q ad) (hr : meth.sig.returnType = some .int) (hlocks : meth.locks = false) (v1 : Int32) (w0 : Int32) (S : Sx) (rv : Int32) (S' : Sx) (ho : o_X7_pass_16 v1 w0 S) (he : b_X7_pass_16 v1 w0 S = (rv, S')) : Jg p l e rm_X7_pass s m args below meth c 0 0 (MQ below (Qi D q ad d rv S' s.heap.size) args s 0 0 (AU ad s.heap.size)) D q ad d 4 16 [(0, .ref (ad 5)), (1, .int v1)] [.int w0, .ref (ad 5)] S := by
  unfold b_X7_pass_16 at he
  unfold o_X7_pass_16 at ho
  have h2 := ho.1
  have ho := ho.2
  refine j_callVi (rest := []) X (c_X7_fails (cx_inj X) w0 S h2) cw_X7_70 kc25.1 (cl_25 kc25) rfl ⟨rfl, rfl, Nat.le_of_ble_eq_true rfl, Nat.le_of_ble_eq_true rfl⟩ rfl rfl (Nat.le_of_ble_eq_true rfl) ⟨Nat.le_of_ble_eq_true rfl, Nat.le_of_ble_eq_true rfl⟩ dX7_pass_16 ?_
  refine j_if_eq X 24 dX7_pass_19 (by decide) (fun h3 => ?_) (fun h3 => ?_)
  · rw [if_pos h3] at he
    have ho := ho.1 h3
    refine j_aload_n X 0 dX7_pass_24 rfl ?_
    refine j_aload_n X 0 dX7_pass_25 rfl ?_
    refine gf_25_0 X m_fl_X7_7 kc25 dX7_pass_26 ?_
    have h4 := ho.1
    have ho := ho.2
    refine j_callVv (rest := []) X (c_X7_keeps (cx_inj X) 6 (isA_of26 kc26) ((b_X7_fails_0 w0 S).2) h4) cw_X7_62 kc25.1 (cl_25 kc25) rfl ⟨rfl, rfl, Nat.le_of_ble_eq_true rfl, Nat.le_of_ble_eq_true rfl⟩ rfl rfl (Nat.le_of_ble_eq_true rfl) ⟨Nat.le_of_ble_eq_true rfl, Nat.le_of_ble_eq_true rfl⟩ dX7_pass_29 ?_
    refine j_iconst (v := 0) X dX7_pass_32 (by decide) ?_
    refine j_istore_n X [(2, .int 0), (0, .ref (ad 5)), (1, .int v1)] dX7_pass_33 (by decide) rfl ?_
    refine j_iconst (v := 0) X dX7_pass_34 (by decide) ?_
    refine j_istore_n X [(3, .int 0), (2, .int 0), (0, .ref (ad 5)), (1, .int v1)] dX7_pass_35 (by decide) rfl ?_
    refine j_lv [2, 3, 1, 0] [(0, .ref (ad 5)), (1, .int v1), (2, .int 0), (3, .int 0)] rfl ?_
    exact t_X7_pass_36 X hr hlocks 100 v1 0 0 (b_X7_keeps_0 6 ((b_X7_fails_0 w0 S).2)) _ _ ho he
  · rw [if_neg h3] at he
    have ho := ho.2 h3
    refine j_iconst (v := 0) X dX7_pass_22 (by decide) ?_
    exact j_iret X hr hlocks dX7_pass_23 (congrArg Prod.fst he) (congrArg Prod.snd he)
def b_X7_pass_0 (x1 : Int32) (S : Sx) : Int32 × Sx := if (b_X7_in_0 x1 1 72 S) = 0 then b_X7_pass_16 x1 1 S else b_X7_pass_16 x1 0 S
def o_X7_pass_0 (x1 : Int32) (S : Sx) : Prop := o_X7_in_0 x1 1 72 S ∧ (((b_X7_in_0 x1 1 72 S) = 0 → (o_X7_pass_16 x1 1 S)) ∧ (¬ (b_X7_in_0 x1 1 72 S) = 0 → (o_X7_pass_16 x1 0 S)))
set_option maxRecDepth 20000 in
theorem t_X7_pass_0 (X : Cx p m c cX7_pass 4 s args RX7 D q ad) (hr : meth.sig.returnType = some .int) (hlocks : meth.locks = false) (x1 : Int32) (S : Sx) (rv : Int32) (S' : Sx) (ho : o_X7_pass_0 x1 S) (he : b_X7_pass_0 x1 S = (rv, S')) : Jg p l e rm_X7_pass s m args below meth c 0 0 (MQ below (Qi D q ad d rv S' s.heap.size) args s 0 0 (AU ad s.heap.size)) D q ad d 4 0 [(0, .ref (ad 5)), (1, .int x1)] [] S := by
  unfold b_X7_pass_0 at he
  unfold o_X7_pass_0 at ho
  refine j_aload_n X 0 dX7_pass_0 rfl ?_
  refine j_iload_n X 1 dX7_pass_1 rfl ?_
  refine j_iconst (v := 1) X dX7_pass_2 (by decide) ?_
  refine j_bipush (v := 72) X dX7_pass_3 (by decide) ?_
  have h2 := ho.1
  have ho := ho.2
  refine j_callSi (rest := [.ref (ad 5)]) X (c_X7_in (cx_inj X) x1 1 72 S h2) cw_X7_58 ⟨rfl, rfl, Nat.le_of_ble_eq_true rfl, Nat.le_of_ble_eq_true rfl⟩ rfl rfl (Nat.le_of_ble_eq_true rfl) ⟨Nat.le_of_ble_eq_true rfl, Nat.le_of_ble_eq_true rfl⟩ dX7_pass_5 ?_
  refine j_if_eq X 15 dX7_pass_8 (by decide) (fun h3 => ?_) (fun h3 => ?_)
  · rw [if_pos h3] at he
    have ho := ho.1 h3
    refine j_iconst (v := 1) X dX7_pass_15 (by decide) ?_
    exact t_X7_pass_16 X hr hlocks x1 1 S _ _ ho he
  · rw [if_neg h3] at he
    have ho := ho.2 h3
    refine j_iconst (v := 0) X dX7_pass_11 (by decide) ?_
    refine j_goto X 16 dX7_pass_12 (by decide) ?_
    exact t_X7_pass_16 X hr hlocks x1 0 S _ _ ho he
theorem c_X7_pass {l : Launch} {D : va_G} {q : Nat → ClassId} {ad : Nat → Nat} {d : UInt64} (hI : inj4 ad) (x1 : Int32) (S : Sx) (ho : o_X7_pass_0 x1 S) : CI l yX7_pass cX7_pass 4 .int rm_X7_pass D q ad d [.ref (ad 5), .int x1] S (b_X7_pass_0 x1 S).1 (b_X7_pass_0 x1 S).2 := ci_of hI (by decide +kernel) (Nat.le_of_ble_eq_true rfl) rfl (fun p e s m args below meth c X hr hlocks => t_X7_pass_0 X hr hlocks x1 S _ _ ho (pe _))
end
/-! RX7.append -/
abbrev rm_X7_append : Room := { frames := 1, cells := 0, slots := 0, locals := 21 }
section
variable {p : Program} {l : Launch} {e : Env} {s : State} {m : MethodId} {args : Array Value} {below : List Frame} {meth : Method} {c : Code} {D : va_G} {q : Nat → ClassId} {ad : Nat → Nat} {d : UInt64}
def b_X7_append_33  (S : Sx) : Int32 × Sx := ((up2 S 5 13 ((S 5 13) + 1)) 5 13, up2 S 5 13 ((S 5 13) + 1))
set_option maxRecDepth 20000 in
theorem t_X7_append_33 (X : Cx p m c cX7_append 2 s args RX7 D q ad) (hr : meth.sig.returnType = some .int) (hlocks : meth.locks = false) (S : Sx) (rv : Int32) (S' : Sx) (he : b_X7_append_33 S = (rv, S')) : Jg p l e rm_X7_append s m args below meth c 0 0 (MQ below (Qi D q ad d rv S' s.heap.size) args s 0 0 (AU ad s.heap.size)) D q ad d 2 33 [(0, .ref (ad 5))] [] S := by
  unfold b_X7_append_33 at he
  refine j_aload_n X 0 dX7_append_33 rfl ?_
  refine j_dup X dX7_append_34 rfl ?_
  refine gf_25_13 X m_fl_X7_167 kc25 dX7_append_35 ?_
  refine j_iconst (v := 1) X dX7_append_38 (by decide) ?_
  refine j_iadd X dX7_append_39 ?_
  refine pf_25_13 X m_fl_X7_167 kc25 dX7_append_40 ?_
  refine j_aload_n X 0 dX7_append_43 rfl ?_
  refine gf_25_13 X m_fl_X7_167 kc25 dX7_append_44 ?_
  exact j_iret X hr hlocks dX7_append_47 (congrArg Prod.fst he) (congrArg Prod.snd he)
def b_X7_append_15 (v1 : Int32) (w0 : Int32) (S : Sx) : Int32 × Sx := if ((b_X7_fails_0 w0 S).1) = 0 then b_X7_append_33 (up2 ((b_X7_fails_0 w0 S).2) 11 ((((b_X7_fails_0 w0 S).2) 5 13).toNatClampNeg) v1) else (0, (b_X7_fails_0 w0 S).2)
def o_X7_append_15 (v1 : Int32) (w0 : Int32) (S : Sx) : Prop := o_X7_fails_0 w0 S ∧ ((((b_X7_fails_0 w0 S).1) = 0 → (vp_in (((b_X7_fails_0 w0 S).2) 5 13) 60 ∧ True)) ∧ (¬ ((b_X7_fails_0 w0 S).1) = 0 → True))
set_option maxRecDepth 20000 in
theorem t_X7_append_15 (X : Cx p m c cX7_append 2 s args RX7 D q ad) (hr : meth.sig.returnType = some .int) (hlocks : meth.locks = false) (v1 : Int32) (w0 : Int32) (S : Sx) (rv : Int32) (S' : Sx) (ho : o_X7_append_15 v1 w0 S) (he : b_X7_append_15 v1 w0 S = (rv, S')) : Jg p l e rm_X7_append s m args below meth c 0 0 (MQ below (Qi D q ad d rv S' s.heap.size) args s 0 0 (AU ad s.heap.size)) D q ad d 2 15 [(0, .ref (ad 5)), (1, .int v1)] [.int w0, .ref (ad 5)] S := by
  unfold b_X7_append_15 at he
  unfold o_X7_append_15 at ho
  have h2 := ho.1
  have ho := ho.2
  refine j_callVi (rest := []) X (c_X7_fails (cx_inj X) w0 S h2) cw_X7_70 kc25.1 (cl_25 kc25) rfl ⟨rfl, rfl, Nat.le_of_ble_eq_true rfl, Nat.le_of_ble_eq_true rfl⟩ rfl rfl (Nat.le_of_ble_eq_true rfl) ⟨Nat.le_of_ble_eq_true rfl, Nat.le_of_ble_eq_true rfl⟩ dX7_append_15 ?_
  refine j_if_eq X 23 dX7_append_18 (by decide) (fun h3 => ?_) (fun h3 => ?_)
  · rw [if_pos h3] at he
    have ho := ho.1 h3
    refine j_aload_n X 0 dX7_append_23 rfl ?_
    refine gf_25_12 X m_fl_X7_25 kc25 dX7_append_24 ?_
    refine j_aload_n X 0 dX7_append_27 rfl ?_
    refine gf_25_13 X m_fl_X7_167 kc25 dX7_append_28 ?_
    refine j_iload_n X 1 dX7_append_31 rfl ?_
    have h4 := ho.1
    have ho := ho.2
    refine j_iast X kc31.1 (fun T => cl_31 kc31) h4 dX7_append_32 ?_
    refine j_lv [0] [(0, .ref (ad 5))] rfl ?_
    exact t_X7_append_33 X hr hlocks (up2 ((b_X7_fails_0 w0 S).2) 11 ((((b_X7_fails_0 w0 S).2) 5 13).toNatClampNeg) v1) _ _ he
  · rw [if_neg h3] at he
    have ho := ho.2 h3
    refine j_iconst (v := 0) X dX7_append_21 (by decide) ?_
    exact j_iret X hr hlocks dX7_append_22 (congrArg Prod.fst he) (congrArg Prod.snd he)
def b_X7_append_0 (x1 : Int32) (S : Sx) : Int32 × Sx := if (S 5 13) = 60 then b_X7_append_15 x1 1 S else b_X7_append_15 x1 0 S
def o_X7_append_0 (x1 : Int32) (S : Sx) : Prop := ((S 5 13) = 60 → (o_X7_append_15 x1 1 S)) ∧ (¬ (S 5 13) = 60 → (o_X7_append_15 x1 0 S))
set_option maxRecDepth 20000 in
theorem t_X7_append_0 (X : Cx p m c cX7_append 2 s args RX7 D q ad) (hr : meth.sig.returnType = some .int) (hlocks : meth.locks = false) (x1 : Int32) (S : Sx) (rv : Int32) (S' : Sx) (ho : o_X7_append_0 x1 S) (he : b_X7_append_0 x1 S = (rv, S')) : Jg p l e rm_X7_append s m args below meth c 0 0 (MQ below (Qi D q ad d rv S' s.heap.size) args s 0 0 (AU ad s.heap.size)) D q ad d 2 0 [(0, .ref (ad 5)), (1, .int x1)] [] S := by
  unfold b_X7_append_0 at he
  unfold o_X7_append_0 at ho
  refine j_aload_n X 0 dX7_append_0 rfl ?_
  refine j_aload_n X 0 dX7_append_1 rfl ?_
  refine gf_25_13 X m_fl_X7_167 kc25 dX7_append_2 ?_
  refine j_bipush (v := 60) X dX7_append_5 (by decide) ?_
  refine j_icmp_ne X 14 dX7_append_7 (by decide) (fun h2 => ?_) (fun h2 => ?_)
  · rw [if_neg h2] at he
    have ho := ho.2 h2
    refine j_iconst (v := 0) X dX7_append_14 (by decide) ?_
    exact t_X7_append_15 X hr hlocks x1 0 S _ _ ho he
  · rw [if_pos h2] at he
    have ho := ho.1 h2
    refine j_iconst (v := 1) X dX7_append_10 (by decide) ?_
    refine j_goto X 15 dX7_append_11 (by decide) ?_
    exact t_X7_append_15 X hr hlocks x1 1 S _ _ ho he
theorem c_X7_append {l : Launch} {D : va_G} {q : Nat → ClassId} {ad : Nat → Nat} {d : UInt64} (hI : inj4 ad) (x1 : Int32) (S : Sx) (ho : o_X7_append_0 x1 S) : CI l yX7_append cX7_append 2 .int rm_X7_append D q ad d [.ref (ad 5), .int x1] S (b_X7_append_0 x1 S).1 (b_X7_append_0 x1 S).2 := ci_of hI (by decide +kernel) (Nat.le_of_ble_eq_true rfl) rfl (fun p e s m args below meth c X hr hlocks => t_X7_append_0 X hr hlocks x1 S _ _ ho (pe _))
end
/-! RX7.here -/
abbrev rm_X7_here : Room := { frames := 0, cells := 0, slots := 0, locals := 0 }
section
variable {p : Program} {l : Launch} {e : Env} {s : State} {m : MethodId} {args : Array Value} {below : List Frame} {meth : Method} {c : Code} {D : va_G} {q : Nat → ClassId} {ad : Nat → Nat} {d : UInt64}
def b_X7_here_24 (w0 : Int32) (S : Sx) : Int32 := w0
set_option maxRecDepth 20000 in
theorem t_X7_here_24 (X : Cx p m c cX7_here 1 s args RX7 D q ad) (hr : meth.sig.returnType = some .int) (hlocks : meth.locks = false) (w0 : Int32) (S : Sx) (rv : Int32) (he : b_X7_here_24 w0 S = rv) : Jg p l e rm_X7_here s m args below meth c 0 0 (MQ below (Qi D q ad d rv S s.heap.size) args s 0 0 (AU ad s.heap.size)) D q ad d 1 24 [] [.int w0] S := by
  unfold b_X7_here_24 at he
  exact j_iret X hr hlocks dX7_here_24 he rfl
def b_X7_here_0  (S : Sx) : Int32 := if (S 5 13) ≤ (S 5 15) then b_X7_here_24 (-1) S else b_X7_here_24 (S 11 ((S 5 15).toNatClampNeg)) S
def o_X7_here_0  (S : Sx) : Prop := ((S 5 13) ≤ (S 5 15) → True) ∧ (¬ (S 5 13) ≤ (S 5 15) → (vp_in (S 5 15) 60 ∧ True))
set_option maxRecDepth 20000 in
theorem t_X7_here_0 (X : Cx p m c cX7_here 1 s args RX7 D q ad) (hr : meth.sig.returnType = some .int) (hlocks : meth.locks = false) (S : Sx) (rv : Int32) (ho : o_X7_here_0 S) (he : b_X7_here_0 S = rv) : Jg p l e rm_X7_here s m args below meth c 0 0 (MQ below (Qi D q ad d rv S s.heap.size) args s 0 0 (AU ad s.heap.size)) D q ad d 1 0 [(0, .ref (ad 5))] [] S := by
  unfold b_X7_here_0 at he
  unfold o_X7_here_0 at ho
  refine j_aload_n X 0 dX7_here_0 rfl ?_
  refine gf_25_15 X m_fl_X7_170 kc25 dX7_here_1 ?_
  refine j_aload_n X 0 dX7_here_4 rfl ?_
  refine gf_25_13 X m_fl_X7_167 kc25 dX7_here_5 ?_
  refine j_icmp_ge X 23 dX7_here_8 (by decide) (fun h2 => ?_) (fun h2 => ?_)
  · rw [if_pos h2] at he
    have ho := ho.1 h2
    refine j_iconst (v := (-1)) X dX7_here_23 (by decide) ?_
    refine j_lv [] [] rfl ?_
    exact t_X7_here_24 X hr hlocks (-1) S _ he
  · rw [if_neg h2] at he
    have ho := ho.2 h2
    refine j_aload_n X 0 dX7_here_11 rfl ?_
    refine gf_25_12 X m_fl_X7_25 kc25 dX7_here_12 ?_
    refine j_aload_n X 0 dX7_here_15 rfl ?_
    refine gf_25_15 X m_fl_X7_170 kc25 dX7_here_16 ?_
    have h3 := ho.1
    have ho := ho.2
    refine j_iald X kc31.1 (cl_31 kc31) h3 dX7_here_19 ?_
    refine j_goto X 24 dX7_here_20 (by decide) ?_
    refine j_lv [] [] rfl ?_
    exact t_X7_here_24 X hr hlocks (S 11 ((S 5 15).toNatClampNeg)) S _ he
theorem c_X7_here {l : Launch} {D : va_G} {q : Nat → ClassId} {ad : Nat → Nat} {d : UInt64} (hI : inj4 ad) (S : Sx) (ho : o_X7_here_0 S) : CI l yX7_here cX7_here 1 .int rm_X7_here D q ad d [.ref (ad 5)] S (b_X7_here_0 S) S := ci_of hI (by decide +kernel) (Nat.le_of_ble_eq_true rfl) rfl (fun p e s m args below meth c X hr hlocks => t_X7_here_0 X hr hlocks S _ ho rfl)
end
/-! RX7.skips -/
abbrev rm_X7_skips : Room := { frames := 1, cells := 0, slots := 0, locals := 20 }
section
variable {p : Program} {l : Launch} {e : Env} {s : State} {m : MethodId} {args : Array Value} {below : List Frame} {meth : Method} {c : Code} {D : va_G} {q : Nat → ClassId} {ad : Nat → Nat} {d : UInt64}
def b_X7_skips_0 (x1 : Int32) (S : Sx) : Int32 × Sx := if (b_X7_here_0 S) = x1 then (1, up2 S 5 15 ((S 5 15) + 1)) else (0, S)
def o_X7_skips_0 (x1 : Int32) (S : Sx) : Prop := o_X7_here_0 S ∧ True
set_option maxRecDepth 20000 in
theorem t_X7_skips_0 (X : Cx p m c cX7_skips 2 s args RX7 D q ad) (hr : meth.sig.returnType = some .boolean) (hlocks : meth.locks = false) (x1 : Int32) (S : Sx) (rv : Int32) (S' : Sx) (ho : o_X7_skips_0 x1 S) (he : b_X7_skips_0 x1 S = (rv, S')) : Jg p l e rm_X7_skips s m args below meth c 0 0 (MQ below (Qi D q ad d rv S' s.heap.size) args s 0 0 (AU ad s.heap.size)) D q ad d 2 0 [(0, .ref (ad 5)), (1, .int x1)] [] S := by
  unfold b_X7_skips_0 at he
  unfold o_X7_skips_0 at ho
  refine j_aload_n X 0 dX7_skips_0 rfl ?_
  have h2 := ho.1
  have ho := ho.2
  refine j_callVi (rest := []) X (c_X7_here (cx_inj X) S h2) cw_X7_173 kc25.1 (cl_25 kc25) rfl ⟨rfl, rfl, Nat.le_of_ble_eq_true rfl, Nat.le_of_ble_eq_true rfl⟩ rfl rfl (Nat.le_of_ble_eq_true rfl) ⟨Nat.le_of_ble_eq_true rfl, Nat.le_of_ble_eq_true rfl⟩ dX7_skips_1 ?_
  refine j_iload_n X 1 dX7_skips_4 rfl ?_
  refine j_icmp_eq X 10 dX7_skips_5 (by decide) (fun h3 => ?_) (fun h3 => ?_)
  · rw [if_pos h3] at he
    refine j_aload_n X 0 dX7_skips_10 rfl ?_
    refine j_dup X dX7_skips_11 rfl ?_
    refine gf_25_15 X m_fl_X7_170 kc25 dX7_skips_12 ?_
    refine j_iconst (v := 1) X dX7_skips_15 (by decide) ?_
    refine j_iadd X dX7_skips_16 ?_
    refine pf_25_15 X m_fl_X7_170 kc25 dX7_skips_17 ?_
    refine j_iconst (v := 1) X dX7_skips_20 (by decide) ?_
    exact j_zret X hr hlocks (bz_narrow bz_1) dX7_skips_21 (congrArg Prod.fst he) (congrArg Prod.snd he)
  · rw [if_neg h3] at he
    refine j_iconst (v := 0) X dX7_skips_8 (by decide) ?_
    exact j_zret X hr hlocks (bz_narrow bz_0) dX7_skips_9 (congrArg Prod.fst he) (congrArg Prod.snd he)
theorem c_X7_skips {l : Launch} {D : va_G} {q : Nat → ClassId} {ad : Nat → Nat} {d : UInt64} (hI : inj4 ad) (x1 : Int32) (S : Sx) (ho : o_X7_skips_0 x1 S) : CI l yX7_skips cX7_skips 2 .boolean rm_X7_skips D q ad d [.ref (ad 5), .int x1] S (b_X7_skips_0 x1 S).1 (b_X7_skips_0 x1 S).2 := ci_of hI (by decide +kernel) (Nat.le_of_ble_eq_true rfl) rfl (fun p e s m args below meth c X hr hlocks => t_X7_skips_0 X hr hlocks x1 S _ _ ho (pe _))
end
/-! RX7.number -/
abbrev rm_X7_number : Room := { frames := 1, cells := 0, slots := 0, locals := 22 }
section
variable {p : Program} {l : Launch} {e : Env} {s : State} {m : MethodId} {args : Array Value} {below : List Frame} {meth : Method} {c : Code} {D : va_G} {q : Nat → ClassId} {ad : Nat → Nat} {d : UInt64}
def b_X7_number_83  (S : Sx) : Int32 × Sx := (1, S)
set_option maxRecDepth 20000 in
theorem t_X7_number_83 (X : Cx p m c cX7_number 4 s args RX7 D q ad) (hr : meth.sig.returnType = some .boolean) (hlocks : meth.locks = false) (S : Sx) (rv : Int32) (S' : Sx) (he : b_X7_number_83 S = (rv, S')) : Jg p l e rm_X7_number s m args below meth c 0 0 (MQ below (Qi D q ad d rv S' s.heap.size) args s 0 0 (AU ad s.heap.size)) D q ad d 4 83 [] [] S := by
  unfold b_X7_number_83 at he
  refine j_iconst (v := 1) X dX7_number_83 (by decide) ?_
  exact j_zret X hr hlocks (bz_narrow bz_1) dX7_number_84 (congrArg Prod.fst he) (congrArg Prod.snd he)
def b_X7_number_67 (kk : Int32 → Int32 → Int32 → Sx → Int32 × Sx) (v1 : Int32) (v2 : Int32) (v3 : Int32) (S : Sx) : Int32 × Sx := kk v1 v2 (v3 + 1) (up2 S 5 15 ((S 5 15) + 1))
def o_X7_number_67 (ok : Int32 → Int32 → Int32 → Sx → Prop) (v1 : Int32) (v2 : Int32) (v3 : Int32) (S : Sx) : Prop := ok v1 v2 (v3 + 1) (up2 S 5 15 ((S 5 15) + 1))
set_option maxRecDepth 20000 in
theorem t_X7_number_67 (X : Cx p m c cX7_number 4 s args RX7 D q ad) (hr : meth.sig.returnType = some .boolean) (hlocks : meth.locks = false) (kk : Int32 → Int32 → Int32 → Sx → Int32 × Sx) (ok : Int32 → Int32 → Int32 → Sx → Prop) (hkk : ∀ (v1 : Int32) (v2 : Int32) (v3 : Int32) (S : Sx) (rv : Int32) (S' : Sx) (ho : ok v1 v2 v3 S) (he : kk v1 v2 v3 S = (rv, S')), Jg p l e rm_X7_number s m args below meth c 0 0 (MQ below (Qi D q ad d rv S' s.heap.size) args s 0 0 (AU ad s.heap.size)) D q ad d 4 25 [(0, .ref (ad 5)), (1, .int v1), (2, .int v2), (3, .int v3)] [] S) (v1 : Int32) (v2 : Int32) (v3 : Int32) (S : Sx) (rv : Int32) (S' : Sx) (ho : o_X7_number_67 ok v1 v2 v3 S) (he : b_X7_number_67 kk v1 v2 v3 S = (rv, S')) : Jg p l e rm_X7_number s m args below meth c 0 0 (MQ below (Qi D q ad d rv S' s.heap.size) args s 0 0 (AU ad s.heap.size)) D q ad d 4 67 [(0, .ref (ad 5)), (1, .int v1), (2, .int v2), (3, .int v3)] [] S := by
  unfold b_X7_number_67 at he
  unfold o_X7_number_67 at ho
  refine j_aload_n X 0 dX7_number_67 rfl ?_
  refine j_dup X dX7_number_68 rfl ?_
  refine gf_25_15 X m_fl_X7_170 kc25 dX7_number_69 ?_
  refine j_iconst (v := 1) X dX7_number_72 (by decide) ?_
  refine j_iadd X dX7_number_73 ?_
  refine pf_25_15 X m_fl_X7_170 kc25 dX7_number_74 ?_
  refine j_iinc X 3 (v3 + 1) [(3, .int (v3 + 1)), (0, .ref (ad 5)), (1, .int v1), (2, .int v2)] dX7_number_77 rfl rfl (by decide) rfl ?_
  refine j_goto X 25 dX7_number_80 (by decide) ?_
  refine j_lv [1, 2, 3, 0] [(0, .ref (ad 5)), (1, .int v1), (2, .int v2), (3, .int (v3 + 1))] rfl ?_
  exact hkk v1 v2 (v3 + 1) (up2 S 5 15 ((S 5 15) + 1)) _ _ ho he
def b_X7_number_25 : Nat → Int32 → Int32 → Int32 → Sx → Int32 × Sx
  | 0, _, _, _, S => (0, S)
  | n + 1, v1, v2, v3, S => if v2 ≤ v3 then b_X7_number_83 S else if (b_X7_in_0 (b_X7_here_0 S) 48 57 S) = 0 then b_X7_number_83 S else b_X7_number_67 (b_X7_number_25 n) v1 v2 v3 (up2 S 12 v1.toNatClampNeg (((10 * (S 12 v1.toNatClampNeg)) + (b_X7_here_0 S)) - 48))
def o_X7_number_25 : Nat → Int32 → Int32 → Int32 → Sx → Prop
  | 0, _, _, _, _ => False
  | n + 1, v1, v2, v3, S => (v2 ≤ v3 → True) ∧ (¬ v2 ≤ v3 → (o_X7_here_0 S ∧ (o_X7_in_0 (b_X7_here_0 S) 48 57 S ∧ (((b_X7_in_0 (b_X7_here_0 S) 48 57 S) = 0 → True) ∧ (¬ (b_X7_in_0 (b_X7_here_0 S) 48 57 S) = 0 → (vp_in v1 124 ∧ (o_X7_here_0 S ∧ (vp_in v1 124 ∧ (o_X7_number_67 (o_X7_number_25 n) v1 v2 v3 (up2 S 12 v1.toNatClampNeg (((10 * (S 12 v1.toNatClampNeg)) + (b_X7_here_0 S)) - 48)))))))))))
set_option maxRecDepth 20000 in
theorem t_X7_number_25 (X : Cx p m c cX7_number 4 s args RX7 D q ad) (hr : meth.sig.returnType = some .boolean) (hlocks : meth.locks = false) : ∀ (n : Nat) (v1 : Int32) (v2 : Int32) (v3 : Int32) (S : Sx) (rv : Int32) (S' : Sx) (ho : o_X7_number_25 n v1 v2 v3 S) (he : b_X7_number_25 n v1 v2 v3 S = (rv, S')), Jg p l e rm_X7_number s m args below meth c 0 0 (MQ below (Qi D q ad d rv S' s.heap.size) args s 0 0 (AU ad s.heap.size)) D q ad d 4 25 [(0, .ref (ad 5)), (1, .int v1), (2, .int v2), (3, .int v3)] [] S := by
  intro n
  induction n with
  | zero =>
    intro v1 v2 v3 S rv S' ho he
    unfold o_X7_number_25 at ho
    exact ho.elim
  | succ n ih =>
    intro v1 v2 v3 S rv S' ho he
    unfold b_X7_number_25 at he
    unfold o_X7_number_25 at ho
    refine j_iload_n X 3 dX7_number_25 rfl ?_
    refine j_iload_n X 2 dX7_number_26 rfl ?_
    refine j_icmp_ge X 83 dX7_number_27 (by decide) (fun h2 => ?_) (fun h2 => ?_)
    · rw [if_pos h2] at he
      have ho := ho.1 h2
      refine j_lv [] [] rfl ?_
      exact t_X7_number_83 X hr hlocks S _ _ he
    · rw [if_neg h2] at he
      have ho := ho.2 h2
      refine j_aload_n X 0 dX7_number_30 rfl ?_
      have h3 := ho.1
      have ho := ho.2
      refine j_callVi (rest := []) X (c_X7_here (cx_inj X) S h3) cw_X7_173 kc25.1 (cl_25 kc25) rfl ⟨rfl, rfl, Nat.le_of_ble_eq_true rfl, Nat.le_of_ble_eq_true rfl⟩ rfl rfl (Nat.le_of_ble_eq_true rfl) ⟨Nat.le_of_ble_eq_true rfl, Nat.le_of_ble_eq_true rfl⟩ dX7_number_31 ?_
      refine j_bipush (v := 48) X dX7_number_34 (by decide) ?_
      refine j_bipush (v := 57) X dX7_number_36 (by decide) ?_
      have h4 := ho.1
      have ho := ho.2
      refine j_callSi (rest := []) X (c_X7_in (cx_inj X) (b_X7_here_0 S) 48 57 S h4) cw_X7_58 ⟨rfl, rfl, Nat.le_of_ble_eq_true rfl, Nat.le_of_ble_eq_true rfl⟩ rfl rfl (Nat.le_of_ble_eq_true rfl) ⟨Nat.le_of_ble_eq_true rfl, Nat.le_of_ble_eq_true rfl⟩ dX7_number_38 ?_
      refine j_if_eq X 83 dX7_number_41 (by decide) (fun h5 => ?_) (fun h5 => ?_)
      · rw [if_pos h5] at he
        have ho := ho.1 h5
        refine j_lv [] [] rfl ?_
        exact t_X7_number_83 X hr hlocks S _ _ he
      · rw [if_neg h5] at he
        have ho := ho.2 h5
        refine j_aload_n X 0 dX7_number_44 rfl ?_
        refine gf_25_16 X m_fl_X7_32 kc25 dX7_number_45 ?_
        refine j_iload_n X 1 dX7_number_48 rfl ?_
        refine j_bipush (v := 10) X dX7_number_49 (by decide) ?_
        refine j_aload_n X 0 dX7_number_51 rfl ?_
        refine gf_25_16 X m_fl_X7_32 kc25 dX7_number_52 ?_
        refine j_iload_n X 1 dX7_number_55 rfl ?_
        have h6 := ho.1
        have ho := ho.2
        refine j_iald X kc32.1 (cl_32 kc32) h6 dX7_number_56 ?_
        refine j_imul X dX7_number_57 ?_
        refine j_aload_n X 0 dX7_number_58 rfl ?_
        have h7 := ho.1
        have ho := ho.2
        refine j_callVi (rest := [.int (10 * (S 12 v1.toNatClampNeg)), .int v1, .ref (ad 12)]) X (c_X7_here (cx_inj X) S h7) cw_X7_173 kc25.1 (cl_25 kc25) rfl ⟨rfl, rfl, Nat.le_of_ble_eq_true rfl, Nat.le_of_ble_eq_true rfl⟩ rfl rfl (Nat.le_of_ble_eq_true rfl) ⟨Nat.le_of_ble_eq_true rfl, Nat.le_of_ble_eq_true rfl⟩ dX7_number_59 ?_
        refine j_iadd X dX7_number_62 ?_
        refine j_bipush (v := 48) X dX7_number_63 (by decide) ?_
        refine j_isub X dX7_number_65 ?_
        have h8 := ho.1
        have ho := ho.2
        refine j_iast X kc32.1 (fun T => cl_32 kc32) h8 dX7_number_66 ?_
        exact t_X7_number_67 X hr hlocks (b_X7_number_25 n) (o_X7_number_25 n) ih v1 v2 v3 (up2 S 12 v1.toNatClampNeg (((10 * (S 12 v1.toNatClampNeg)) + (b_X7_here_0 S)) - 48)) _ _ ho he
def b_X7_number_0 (x1 : Int32) (x2 : Int32) (S : Sx) : Int32 × Sx := if (b_X7_in_0 (b_X7_here_0 S) 48 57 S) = 0 then (0, S) else b_X7_number_25 100 x1 x2 0 (up2 S 12 x1.toNatClampNeg 0)
def o_X7_number_0 (x1 : Int32) (x2 : Int32) (S : Sx) : Prop := o_X7_here_0 S ∧ (o_X7_in_0 (b_X7_here_0 S) 48 57 S ∧ (((b_X7_in_0 (b_X7_here_0 S) 48 57 S) = 0 → True) ∧ (¬ (b_X7_in_0 (b_X7_here_0 S) 48 57 S) = 0 → (vp_in x1 124 ∧ (o_X7_number_25 100 x1 x2 0 (up2 S 12 x1.toNatClampNeg 0))))))
set_option maxRecDepth 20000 in
theorem t_X7_number_0 (X : Cx p m c cX7_number 4 s args RX7 D q ad) (hr : meth.sig.returnType = some .boolean) (hlocks : meth.locks = false) (x1 : Int32) (x2 : Int32) (S : Sx) (rv : Int32) (S' : Sx) (ho : o_X7_number_0 x1 x2 S) (he : b_X7_number_0 x1 x2 S = (rv, S')) : Jg p l e rm_X7_number s m args below meth c 0 0 (MQ below (Qi D q ad d rv S' s.heap.size) args s 0 0 (AU ad s.heap.size)) D q ad d 4 0 [(0, .ref (ad 5)), (1, .int x1), (2, .int x2)] [] S := by
  unfold b_X7_number_0 at he
  unfold o_X7_number_0 at ho
  refine j_aload_n X 0 dX7_number_0 rfl ?_
  have h2 := ho.1
  have ho := ho.2
  refine j_callVi (rest := []) X (c_X7_here (cx_inj X) S h2) cw_X7_173 kc25.1 (cl_25 kc25) rfl ⟨rfl, rfl, Nat.le_of_ble_eq_true rfl, Nat.le_of_ble_eq_true rfl⟩ rfl rfl (Nat.le_of_ble_eq_true rfl) ⟨Nat.le_of_ble_eq_true rfl, Nat.le_of_ble_eq_true rfl⟩ dX7_number_1 ?_
  refine j_bipush (v := 48) X dX7_number_4 (by decide) ?_
  refine j_bipush (v := 57) X dX7_number_6 (by decide) ?_
  have h3 := ho.1
  have ho := ho.2
  refine j_callSi (rest := []) X (c_X7_in (cx_inj X) (b_X7_here_0 S) 48 57 S h3) cw_X7_58 ⟨rfl, rfl, Nat.le_of_ble_eq_true rfl, Nat.le_of_ble_eq_true rfl⟩ rfl rfl (Nat.le_of_ble_eq_true rfl) ⟨Nat.le_of_ble_eq_true rfl, Nat.le_of_ble_eq_true rfl⟩ dX7_number_8 ?_
  refine j_if_ne X 16 dX7_number_11 (by decide) (fun h4 => ?_) (fun h4 => ?_)
  · rw [if_neg h4] at he
    have ho := ho.2 h4
    refine j_aload_n X 0 dX7_number_16 rfl ?_
    refine gf_25_16 X m_fl_X7_32 kc25 dX7_number_17 ?_
    refine j_iload_n X 1 dX7_number_20 rfl ?_
    refine j_iconst (v := 0) X dX7_number_21 (by decide) ?_
    have h5 := ho.1
    have ho := ho.2
    refine j_iast X kc32.1 (fun T => cl_32 kc32) h5 dX7_number_22 ?_
    refine j_iconst (v := 0) X dX7_number_23 (by decide) ?_
    refine j_istore_n X [(3, .int 0), (0, .ref (ad 5)), (1, .int x1), (2, .int x2)] dX7_number_24 (by decide) rfl ?_
    refine j_lv [1, 2, 3, 0] [(0, .ref (ad 5)), (1, .int x1), (2, .int x2), (3, .int 0)] rfl ?_
    exact t_X7_number_25 X hr hlocks 100 x1 x2 0 (up2 S 12 x1.toNatClampNeg 0) _ _ ho he
  · rw [if_pos h4] at he
    have ho := ho.1 h4
    refine j_iconst (v := 0) X dX7_number_14 (by decide) ?_
    exact j_zret X hr hlocks (bz_narrow bz_0) dX7_number_15 (congrArg Prod.fst he) (congrArg Prod.snd he)
theorem c_X7_number {l : Launch} {D : va_G} {q : Nat → ClassId} {ad : Nat → Nat} {d : UInt64} (hI : inj4 ad) (x1 : Int32) (x2 : Int32) (S : Sx) (ho : o_X7_number_0 x1 x2 S) : CI l yX7_number cX7_number 4 .boolean rm_X7_number D q ad d [.ref (ad 5), .int x1, .int x2] S (b_X7_number_0 x1 x2 S).1 (b_X7_number_0 x1 x2 S).2 := ci_of hI (by decide +kernel) (Nat.le_of_ble_eq_true rfl) rfl (fun p e s m args below meth c X hr hlocks => t_X7_number_0 X hr hlocks x1 x2 S _ _ ho (pe _))
end
/-! RX7.orderHere -/
abbrev rm_X7_orderHere : Room := { frames := 2, cells := 0, slots := 0, locals := 45 }
section
variable {p : Program} {l : Launch} {e : Env} {s : State} {m : MethodId} {args : Array Value} {below : List Frame} {meth : Method} {c : Code} {D : va_G} {q : Nat → ClassId} {ad : Nat → Nat} {d : UInt64}
def b_X7_orderHere_147 (v1 : Int32) (S : Sx) : Int32 × Sx := ((b_X7_number_0 (v1 + 1) 1 S).1, (b_X7_number_0 (v1 + 1) 1 S).2)
def o_X7_orderHere_147 (v1 : Int32) (S : Sx) : Prop := o_X7_number_0 (v1 + 1) 1 S ∧ (bz ((b_X7_number_0 (v1 + 1) 1 S).1) ∧ True)
set_option maxRecDepth 20000 in
theorem t_X7_orderHere_147 (X : Cx p m c cX7_orderHere 2 s args RX7 D q ad) (hr : meth.sig.returnType = some .boolean) (hlocks : meth.locks = false) (v1 : Int32) (S : Sx) (rv : Int32) (S' : Sx) (ho : o_X7_orderHere_147 v1 S) (he : b_X7_orderHere_147 v1 S = (rv, S')) : Jg p l e rm_X7_orderHere s m args below meth c 0 0 (MQ below (Qi D q ad d rv S' s.heap.size) args s 0 0 (AU ad s.heap.size)) D q ad d 2 147 [(0, .ref (ad 5)), (1, .int v1)] [] S := by
  unfold b_X7_orderHere_147 at he
  unfold o_X7_orderHere_147 at ho
  refine j_aload_n X 0 dX7_orderHere_147 rfl ?_
  refine j_iload_n X 1 dX7_orderHere_148 rfl ?_
  refine j_iconst (v := 1) X dX7_orderHere_149 (by decide) ?_
  refine j_iadd X dX7_orderHere_150 ?_
  refine j_iconst (v := 1) X dX7_orderHere_151 (by decide) ?_
  have h2 := ho.1
  have ho := ho.2
  refine j_callVi (rest := []) X (c_X7_number (cx_inj X) (v1 + 1) 1 S h2) cw_X7_182 kc25.1 (cl_25 kc25) rfl ⟨rfl, rfl, Nat.le_of_ble_eq_true rfl, Nat.le_of_ble_eq_true rfl⟩ rfl rfl (Nat.le_of_ble_eq_true rfl) ⟨Nat.le_of_ble_eq_true rfl, Nat.le_of_ble_eq_true rfl⟩ dX7_orderHere_152 ?_
  have h3 := ho.1
  have ho := ho.2
  exact j_zret X hr hlocks (bz_narrow h3) dX7_orderHere_155 (congrArg Prod.fst he) (congrArg Prod.snd he)
def b_X7_orderHere_190 (w0 : Int32) (S : Sx) : Int32 × Sx := (w0, S)
def o_X7_orderHere_190 (w0 : Int32) (S : Sx) : Prop := bz w0 ∧ True
set_option maxRecDepth 20000 in
theorem t_X7_orderHere_190 (X : Cx p m c cX7_orderHere 2 s args RX7 D q ad) (hr : meth.sig.returnType = some .boolean) (hlocks : meth.locks = false) (w0 : Int32) (S : Sx) (rv : Int32) (S' : Sx) (ho : o_X7_orderHere_190 w0 S) (he : b_X7_orderHere_190 w0 S = (rv, S')) : Jg p l e rm_X7_orderHere s m args below meth c 0 0 (MQ below (Qi D q ad d rv S' s.heap.size) args s 0 0 (AU ad s.heap.size)) D q ad d 2 190 [] [.int w0] S := by
  unfold b_X7_orderHere_190 at he
  unfold o_X7_orderHere_190 at ho
  have h2 := ho.1
  have ho := ho.2
  exact j_zret X hr hlocks (bz_narrow h2) dX7_orderHere_190 (congrArg Prod.fst he) (congrArg Prod.snd he)
def b_X7_orderHere_189  (S : Sx) : Int32 × Sx := b_X7_orderHere_190 0 S
def o_X7_orderHere_189  (S : Sx) : Prop := o_X7_orderHere_190 0 S
set_option maxRecDepth 20000 in
theorem t_X7_orderHere_189 (X : Cx p m c cX7_orderHere 2 s args RX7 D q ad) (hr : meth.sig.returnType = some .boolean) (hlocks : meth.locks = false) (S : Sx) (rv : Int32) (S' : Sx) (ho : o_X7_orderHere_189 S) (he : b_X7_orderHere_189 S = (rv, S')) : Jg p l e rm_X7_orderHere s m args below meth c 0 0 (MQ below (Qi D q ad d rv S' s.heap.size) args s 0 0 (AU ad s.heap.size)) D q ad d 2 189 [] [] S := by
  unfold b_X7_orderHere_189 at he
  unfold o_X7_orderHere_189 at ho
  refine j_iconst (v := 0) X dX7_orderHere_189 (by decide) ?_
  exact t_X7_orderHere_190 X hr hlocks 0 S _ _ ho he
def b_X7_orderHere_174 (v1 : Int32) (S : Sx) : Int32 × Sx := if ((b_X7_number_0 (v1 + 1) 2 S).1) = 0 then b_X7_orderHere_189 ((b_X7_number_0 (v1 + 1) 2 S).2) else b_X7_orderHere_190 1 ((b_X7_number_0 (v1 + 1) 2 S).2)
def o_X7_orderHere_174 (v1 : Int32) (S : Sx) : Prop := o_X7_number_0 (v1 + 1) 2 S ∧ ((((b_X7_number_0 (v1 + 1) 2 S).1) = 0 → (o_X7_orderHere_189 ((b_X7_number_0 (v1 + 1) 2 S).2))) ∧ (¬ ((b_X7_number_0 (v1 + 1) 2 S).1) = 0 → (o_X7_orderHere_190 1 ((b_X7_number_0 (v1 + 1) 2 S).2))))
set_option maxRecDepth 20000 in
theorem t_X7_orderHere_174 (X : Cx p m c cX7_orderHere 2 s args RX7 D q ad) (hr : meth.sig.returnType = some .boolean) (hlocks : meth.locks = false) (v1 : Int32) (S : Sx) (rv : Int32) (S' : Sx) (ho : o_X7_orderHere_174 v1 S) (he : b_X7_orderHere_174 v1 S = (rv, S')) : Jg p l e rm_X7_orderHere s m args below meth c 0 0 (MQ below (Qi D q ad d rv S' s.heap.size) args s 0 0 (AU ad s.heap.size)) D q ad d 2 174 [(0, .ref (ad 5)), (1, .int v1)] [] S := by
  unfold b_X7_orderHere_174 at he
  unfold o_X7_orderHere_174 at ho
  refine j_aload_n X 0 dX7_orderHere_174 rfl ?_
  refine j_iload_n X 1 dX7_orderHere_175 rfl ?_
  refine j_iconst (v := 1) X dX7_orderHere_176 (by decide) ?_
  refine j_iadd X dX7_orderHere_177 ?_
  refine j_iconst (v := 2) X dX7_orderHere_178 (by decide) ?_
  have h2 := ho.1
  have ho := ho.2
  refine j_callVi (rest := []) X (c_X7_number (cx_inj X) (v1 + 1) 2 S h2) cw_X7_182 kc25.1 (cl_25 kc25) rfl ⟨rfl, rfl, Nat.le_of_ble_eq_true rfl, Nat.le_of_ble_eq_true rfl⟩ rfl rfl (Nat.le_of_ble_eq_true rfl) ⟨Nat.le_of_ble_eq_true rfl, Nat.le_of_ble_eq_true rfl⟩ dX7_orderHere_179 ?_
  refine j_if_eq X 189 dX7_orderHere_182 (by decide) (fun h3 => ?_) (fun h3 => ?_)
  · rw [if_pos h3] at he
    have ho := ho.1 h3
    refine j_lv [] [] rfl ?_
    exact t_X7_orderHere_189 X hr hlocks ((b_X7_number_0 (v1 + 1) 2 S).2) _ _ ho he
  · rw [if_neg h3] at he
    have ho := ho.2 h3
    refine j_iconst (v := 1) X dX7_orderHere_185 (by decide) ?_
    refine j_goto X 190 dX7_orderHere_186 (by decide) ?_
    refine j_lv [] [] rfl ?_
    exact t_X7_orderHere_190 X hr hlocks 1 ((b_X7_number_0 (v1 + 1) 2 S).2) _ _ ho he
def b_X7_orderHere_171 (v1 : Int32) (w0 : Int32) (S : Sx) : Int32 × Sx := if w0 = 0 then b_X7_orderHere_189 S else b_X7_orderHere_174 v1 S
def o_X7_orderHere_171 (v1 : Int32) (w0 : Int32) (S : Sx) : Prop := (w0 = 0 → (o_X7_orderHere_189 S)) ∧ (¬ w0 = 0 → (o_X7_orderHere_174 v1 S))
set_option maxRecDepth 20000 in
theorem t_X7_orderHere_171 (X : Cx p m c cX7_orderHere 2 s args RX7 D q ad) (hr : meth.sig.returnType = some .boolean) (hlocks : meth.locks = false) (v1 : Int32) (w0 : Int32) (S : Sx) (rv : Int32) (S' : Sx) (ho : o_X7_orderHere_171 v1 w0 S) (he : b_X7_orderHere_171 v1 w0 S = (rv, S')) : Jg p l e rm_X7_orderHere s m args below meth c 0 0 (MQ below (Qi D q ad d rv S' s.heap.size) args s 0 0 (AU ad s.heap.size)) D q ad d 2 171 [(0, .ref (ad 5)), (1, .int v1)] [.int w0] S := by
  unfold b_X7_orderHere_171 at he
  unfold o_X7_orderHere_171 at ho
  refine j_if_eq X 189 dX7_orderHere_171 (by decide) (fun h2 => ?_) (fun h2 => ?_)
  · rw [if_pos h2] at he
    have ho := ho.1 h2
    refine j_lv [] [] rfl ?_
    exact t_X7_orderHere_189 X hr hlocks S _ _ ho he
  · rw [if_neg h2] at he
    have ho := ho.2 h2
    exact t_X7_orderHere_174 X hr hlocks v1 S _ _ ho he
def b_X7_orderHere_144 (v1 : Int32) (w0 : Int32) (S : Sx) : Int32 × Sx := if w0 = 0 then if ((b_X7_skips_0 101 S).1) = 0 then b_X7_orderHere_171 v1 ((b_X7_skips_0 104 ((b_X7_skips_0 101 S).2)).1) ((b_X7_skips_0 104 ((b_X7_skips_0 101 S).2)).2) else b_X7_orderHere_174 v1 ((b_X7_skips_0 101 S).2) else b_X7_orderHere_147 v1 S
def o_X7_orderHere_144 (v1 : Int32) (w0 : Int32) (S : Sx) : Prop := (w0 = 0 → (o_X7_skips_0 101 S ∧ ((((b_X7_skips_0 101 S).1) = 0 → (o_X7_skips_0 104 ((b_X7_skips_0 101 S).2) ∧ (o_X7_orderHere_171 v1 ((b_X7_skips_0 104 ((b_X7_skips_0 101 S).2)).1) ((b_X7_skips_0 104 ((b_X7_skips_0 101 S).2)).2)))) ∧ (¬ ((b_X7_skips_0 101 S).1) = 0 → (o_X7_orderHere_174 v1 ((b_X7_skips_0 101 S).2)))))) ∧ (¬ w0 = 0 → (o_X7_orderHere_147 v1 S))
set_option maxRecDepth 20000 in
theorem t_X7_orderHere_144 (X : Cx p m c cX7_orderHere 2 s args RX7 D q ad) (hr : meth.sig.returnType = some .boolean) (hlocks : meth.locks = false) (v1 : Int32) (w0 : Int32) (S : Sx) (rv : Int32) (S' : Sx) (ho : o_X7_orderHere_144 v1 w0 S) (he : b_X7_orderHere_144 v1 w0 S = (rv, S')) : Jg p l e rm_X7_orderHere s m args below meth c 0 0 (MQ below (Qi D q ad d rv S' s.heap.size) args s 0 0 (AU ad s.heap.size)) D q ad d 2 144 [(0, .ref (ad 5)), (1, .int v1)] [.int w0] S := by
  unfold b_X7_orderHere_144 at he
  unfold o_X7_orderHere_144 at ho
  refine j_if_eq X 156 dX7_orderHere_144 (by decide) (fun h2 => ?_) (fun h2 => ?_)
  · rw [if_pos h2] at he
    have ho := ho.1 h2
    refine j_aload_n X 0 dX7_orderHere_156 rfl ?_
    refine j_bipush (v := 101) X dX7_orderHere_157 (by decide) ?_
    have h3 := ho.1
    have ho := ho.2
    refine j_callVi (rest := []) X (c_X7_skips (cx_inj X) 101 S h3) cw_X7_179 kc25.1 (cl_25 kc25) rfl ⟨rfl, rfl, Nat.le_of_ble_eq_true rfl, Nat.le_of_ble_eq_true rfl⟩ rfl rfl (Nat.le_of_ble_eq_true rfl) ⟨Nat.le_of_ble_eq_true rfl, Nat.le_of_ble_eq_true rfl⟩ dX7_orderHere_159 ?_
    refine j_if_ne X 174 dX7_orderHere_162 (by decide) (fun h4 => ?_) (fun h4 => ?_)
    · rw [if_neg h4] at he
      have ho := ho.2 h4
      exact t_X7_orderHere_174 X hr hlocks v1 ((b_X7_skips_0 101 S).2) _ _ ho he
    · rw [if_pos h4] at he
      have ho := ho.1 h4
      refine j_aload_n X 0 dX7_orderHere_165 rfl ?_
      refine j_bipush (v := 104) X dX7_orderHere_166 (by decide) ?_
      have h5 := ho.1
      have ho := ho.2
      refine j_callVi (rest := []) X (c_X7_skips (cx_inj X) 104 ((b_X7_skips_0 101 S).2) h5) cw_X7_179 kc25.1 (cl_25 kc25) rfl ⟨rfl, rfl, Nat.le_of_ble_eq_true rfl, Nat.le_of_ble_eq_true rfl⟩ rfl rfl (Nat.le_of_ble_eq_true rfl) ⟨Nat.le_of_ble_eq_true rfl, Nat.le_of_ble_eq_true rfl⟩ dX7_orderHere_168 ?_
      exact t_X7_orderHere_171 X hr hlocks v1 ((b_X7_skips_0 104 ((b_X7_skips_0 101 S).2)).1) ((b_X7_skips_0 104 ((b_X7_skips_0 101 S).2)).2) _ _ ho he
  · rw [if_neg h2] at he
    have ho := ho.2 h2
    exact t_X7_orderHere_147 X hr hlocks v1 S _ _ ho he
def b_X7_orderHere_128 (w0 : Int32) (S : Sx) : Int32 × Sx := (w0, S)
def o_X7_orderHere_128 (w0 : Int32) (S : Sx) : Prop := bz w0 ∧ True
set_option maxRecDepth 20000 in
theorem t_X7_orderHere_128 (X : Cx p m c cX7_orderHere 2 s args RX7 D q ad) (hr : meth.sig.returnType = some .boolean) (hlocks : meth.locks = false) (w0 : Int32) (S : Sx) (rv : Int32) (S' : Sx) (ho : o_X7_orderHere_128 w0 S) (he : b_X7_orderHere_128 w0 S = (rv, S')) : Jg p l e rm_X7_orderHere s m args below meth c 0 0 (MQ below (Qi D q ad d rv S' s.heap.size) args s 0 0 (AU ad s.heap.size)) D q ad d 2 128 [] [.int w0] S := by
  unfold b_X7_orderHere_128 at he
  unfold o_X7_orderHere_128 at ho
  have h2 := ho.1
  have ho := ho.2
  exact j_zret X hr hlocks (bz_narrow h2) dX7_orderHere_128 (congrArg Prod.fst he) (congrArg Prod.snd he)
def b_X7_orderHere_127  (S : Sx) : Int32 × Sx := b_X7_orderHere_128 0 S
def o_X7_orderHere_127  (S : Sx) : Prop := o_X7_orderHere_128 0 S
set_option maxRecDepth 20000 in
theorem t_X7_orderHere_127 (X : Cx p m c cX7_orderHere 2 s args RX7 D q ad) (hr : meth.sig.returnType = some .boolean) (hlocks : meth.locks = false) (S : Sx) (rv : Int32) (S' : Sx) (ho : o_X7_orderHere_127 S) (he : b_X7_orderHere_127 S = (rv, S')) : Jg p l e rm_X7_orderHere s m args below meth c 0 0 (MQ below (Qi D q ad d rv S' s.heap.size) args s 0 0 (AU ad s.heap.size)) D q ad d 2 127 [] [] S := by
  unfold b_X7_orderHere_127 at he
  unfold o_X7_orderHere_127 at ho
  refine j_iconst (v := 0) X dX7_orderHere_127 (by decide) ?_
  exact t_X7_orderHere_128 X hr hlocks 0 S _ _ ho he
def b_X7_orderHere_109 (v1 : Int32) (w0 : Int32) (S : Sx) : Int32 × Sx := if w0 = 0 then b_X7_orderHere_127 S else if ((b_X7_number_0 (v1 + 2) 2 S).1) = 0 then b_X7_orderHere_127 ((b_X7_number_0 (v1 + 2) 2 S).2) else b_X7_orderHere_128 1 ((b_X7_number_0 (v1 + 2) 2 S).2)
def o_X7_orderHere_109 (v1 : Int32) (w0 : Int32) (S : Sx) : Prop := (w0 = 0 → (o_X7_orderHere_127 S)) ∧ (¬ w0 = 0 → (o_X7_number_0 (v1 + 2) 2 S ∧ ((((b_X7_number_0 (v1 + 2) 2 S).1) = 0 → (o_X7_orderHere_127 ((b_X7_number_0 (v1 + 2) 2 S).2))) ∧ (¬ ((b_X7_number_0 (v1 + 2) 2 S).1) = 0 → (o_X7_orderHere_128 1 ((b_X7_number_0 (v1 + 2) 2 S).2))))))
set_option maxRecDepth 20000 in
theorem t_X7_orderHere_109 (X : Cx p m c cX7_orderHere 2 s args RX7 D q ad) (hr : meth.sig.returnType = some .boolean) (hlocks : meth.locks = false) (v1 : Int32) (w0 : Int32) (S : Sx) (rv : Int32) (S' : Sx) (ho : o_X7_orderHere_109 v1 w0 S) (he : b_X7_orderHere_109 v1 w0 S = (rv, S')) : Jg p l e rm_X7_orderHere s m args below meth c 0 0 (MQ below (Qi D q ad d rv S' s.heap.size) args s 0 0 (AU ad s.heap.size)) D q ad d 2 109 [(0, .ref (ad 5)), (1, .int v1)] [.int w0] S := by
  unfold b_X7_orderHere_109 at he
  unfold o_X7_orderHere_109 at ho
  refine j_if_eq X 127 dX7_orderHere_109 (by decide) (fun h2 => ?_) (fun h2 => ?_)
  · rw [if_pos h2] at he
    have ho := ho.1 h2
    refine j_lv [] [] rfl ?_
    exact t_X7_orderHere_127 X hr hlocks S _ _ ho he
  · rw [if_neg h2] at he
    have ho := ho.2 h2
    refine j_aload_n X 0 dX7_orderHere_112 rfl ?_
    refine j_iload_n X 1 dX7_orderHere_113 rfl ?_
    refine j_iconst (v := 2) X dX7_orderHere_114 (by decide) ?_
    refine j_iadd X dX7_orderHere_115 ?_
    refine j_iconst (v := 2) X dX7_orderHere_116 (by decide) ?_
    have h3 := ho.1
    have ho := ho.2
    refine j_callVi (rest := []) X (c_X7_number (cx_inj X) (v1 + 2) 2 S h3) cw_X7_182 kc25.1 (cl_25 kc25) rfl ⟨rfl, rfl, Nat.le_of_ble_eq_true rfl, Nat.le_of_ble_eq_true rfl⟩ rfl rfl (Nat.le_of_ble_eq_true rfl) ⟨Nat.le_of_ble_eq_true rfl, Nat.le_of_ble_eq_true rfl⟩ dX7_orderHere_117 ?_
    refine j_if_eq X 127 dX7_orderHere_120 (by decide) (fun h4 => ?_) (fun h4 => ?_)
    · rw [if_pos h4] at he
      have ho := ho.1 h4
      refine j_lv [] [] rfl ?_
      exact t_X7_orderHere_127 X hr hlocks ((b_X7_number_0 (v1 + 2) 2 S).2) _ _ ho he
    · rw [if_neg h4] at he
      have ho := ho.2 h4
      refine j_iconst (v := 1) X dX7_orderHere_123 (by decide) ?_
      refine j_goto X 128 dX7_orderHere_124 (by decide) ?_
      refine j_lv [] [] rfl ?_
      exact t_X7_orderHere_128 X hr hlocks 1 ((b_X7_number_0 (v1 + 2) 2 S).2) _ _ ho he
def b_X7_orderHere_89 (v1 : Int32) (w0 : Int32) (S : Sx) : Int32 × Sx := if w0 = 0 then if ((b_X7_skips_0 99 S).1) = 0 then b_X7_orderHere_144 v1 ((b_X7_skips_0 117 ((b_X7_skips_0 99 S).2)).1) ((b_X7_skips_0 117 ((b_X7_skips_0 99 S).2)).2) else b_X7_orderHere_147 v1 ((b_X7_skips_0 99 S).2) else if ((b_X7_number_0 (v1 + 1) 2 S).1) = 0 then b_X7_orderHere_127 ((b_X7_number_0 (v1 + 1) 2 S).2) else b_X7_orderHere_109 v1 ((b_X7_skips_0 42 ((b_X7_number_0 (v1 + 1) 2 S).2)).1) ((b_X7_skips_0 42 ((b_X7_number_0 (v1 + 1) 2 S).2)).2)
def o_X7_orderHere_89 (v1 : Int32) (w0 : Int32) (S : Sx) : Prop := (w0 = 0 → (o_X7_skips_0 99 S ∧ ((((b_X7_skips_0 99 S).1) = 0 → (o_X7_skips_0 117 ((b_X7_skips_0 99 S).2) ∧ (o_X7_orderHere_144 v1 ((b_X7_skips_0 117 ((b_X7_skips_0 99 S).2)).1) ((b_X7_skips_0 117 ((b_X7_skips_0 99 S).2)).2)))) ∧ (¬ ((b_X7_skips_0 99 S).1) = 0 → (o_X7_orderHere_147 v1 ((b_X7_skips_0 99 S).2)))))) ∧ (¬ w0 = 0 → (o_X7_number_0 (v1 + 1) 2 S ∧ ((((b_X7_number_0 (v1 + 1) 2 S).1) = 0 → (o_X7_orderHere_127 ((b_X7_number_0 (v1 + 1) 2 S).2))) ∧ (¬ ((b_X7_number_0 (v1 + 1) 2 S).1) = 0 → (o_X7_skips_0 42 ((b_X7_number_0 (v1 + 1) 2 S).2) ∧ (o_X7_orderHere_109 v1 ((b_X7_skips_0 42 ((b_X7_number_0 (v1 + 1) 2 S).2)).1) ((b_X7_skips_0 42 ((b_X7_number_0 (v1 + 1) 2 S).2)).2)))))))
set_option maxRecDepth 20000 in
theorem t_X7_orderHere_89 (X : Cx p m c cX7_orderHere 2 s args RX7 D q ad) (hr : meth.sig.returnType = some .boolean) (hlocks : meth.locks = false) (v1 : Int32) (w0 : Int32) (S : Sx) (rv : Int32) (S' : Sx) (ho : o_X7_orderHere_89 v1 w0 S) (he : b_X7_orderHere_89 v1 w0 S = (rv, S')) : Jg p l e rm_X7_orderHere s m args below meth c 0 0 (MQ below (Qi D q ad d rv S' s.heap.size) args s 0 0 (AU ad s.heap.size)) D q ad d 2 89 [(0, .ref (ad 5)), (1, .int v1)] [.int w0] S := by
  unfold b_X7_orderHere_89 at he
  unfold o_X7_orderHere_89 at ho
  refine j_if_eq X 129 dX7_orderHere_89 (by decide) (fun h2 => ?_) (fun h2 => ?_)
  · rw [if_pos h2] at he
    have ho := ho.1 h2
    refine j_aload_n X 0 dX7_orderHere_129 rfl ?_
    refine j_bipush (v := 99) X dX7_orderHere_130 (by decide) ?_
    have h3 := ho.1
    have ho := ho.2
    refine j_callVi (rest := []) X (c_X7_skips (cx_inj X) 99 S h3) cw_X7_179 kc25.1 (cl_25 kc25) rfl ⟨rfl, rfl, Nat.le_of_ble_eq_true rfl, Nat.le_of_ble_eq_true rfl⟩ rfl rfl (Nat.le_of_ble_eq_true rfl) ⟨Nat.le_of_ble_eq_true rfl, Nat.le_of_ble_eq_true rfl⟩ dX7_orderHere_132 ?_
    refine j_if_ne X 147 dX7_orderHere_135 (by decide) (fun h4 => ?_) (fun h4 => ?_)
    · rw [if_neg h4] at he
      have ho := ho.2 h4
      exact t_X7_orderHere_147 X hr hlocks v1 ((b_X7_skips_0 99 S).2) _ _ ho he
    · rw [if_pos h4] at he
      have ho := ho.1 h4
      refine j_aload_n X 0 dX7_orderHere_138 rfl ?_
      refine j_bipush (v := 117) X dX7_orderHere_139 (by decide) ?_
      have h5 := ho.1
      have ho := ho.2
      refine j_callVi (rest := []) X (c_X7_skips (cx_inj X) 117 ((b_X7_skips_0 99 S).2) h5) cw_X7_179 kc25.1 (cl_25 kc25) rfl ⟨rfl, rfl, Nat.le_of_ble_eq_true rfl, Nat.le_of_ble_eq_true rfl⟩ rfl rfl (Nat.le_of_ble_eq_true rfl) ⟨Nat.le_of_ble_eq_true rfl, Nat.le_of_ble_eq_true rfl⟩ dX7_orderHere_141 ?_
      exact t_X7_orderHere_144 X hr hlocks v1 ((b_X7_skips_0 117 ((b_X7_skips_0 99 S).2)).1) ((b_X7_skips_0 117 ((b_X7_skips_0 99 S).2)).2) _ _ ho he
  · rw [if_neg h2] at he
    have ho := ho.2 h2
    refine j_aload_n X 0 dX7_orderHere_92 rfl ?_
    refine j_iload_n X 1 dX7_orderHere_93 rfl ?_
    refine j_iconst (v := 1) X dX7_orderHere_94 (by decide) ?_
    refine j_iadd X dX7_orderHere_95 ?_
    refine j_iconst (v := 2) X dX7_orderHere_96 (by decide) ?_
    have h6 := ho.1
    have ho := ho.2
    refine j_callVi (rest := []) X (c_X7_number (cx_inj X) (v1 + 1) 2 S h6) cw_X7_182 kc25.1 (cl_25 kc25) rfl ⟨rfl, rfl, Nat.le_of_ble_eq_true rfl, Nat.le_of_ble_eq_true rfl⟩ rfl rfl (Nat.le_of_ble_eq_true rfl) ⟨Nat.le_of_ble_eq_true rfl, Nat.le_of_ble_eq_true rfl⟩ dX7_orderHere_97 ?_
    refine j_if_eq X 127 dX7_orderHere_100 (by decide) (fun h7 => ?_) (fun h7 => ?_)
    · rw [if_pos h7] at he
      have ho := ho.1 h7
      refine j_lv [] [] rfl ?_
      exact t_X7_orderHere_127 X hr hlocks ((b_X7_number_0 (v1 + 1) 2 S).2) _ _ ho he
    · rw [if_neg h7] at he
      have ho := ho.2 h7
      refine j_aload_n X 0 dX7_orderHere_103 rfl ?_
      refine j_bipush (v := 42) X dX7_orderHere_104 (by decide) ?_
      have h8 := ho.1
      have ho := ho.2
      refine j_callVi (rest := []) X (c_X7_skips (cx_inj X) 42 ((b_X7_number_0 (v1 + 1) 2 S).2) h8) cw_X7_179 kc25.1 (cl_25 kc25) rfl ⟨rfl, rfl, Nat.le_of_ble_eq_true rfl, Nat.le_of_ble_eq_true rfl⟩ rfl rfl (Nat.le_of_ble_eq_true rfl) ⟨Nat.le_of_ble_eq_true rfl, Nat.le_of_ble_eq_true rfl⟩ dX7_orderHere_106 ?_
      exact t_X7_orderHere_109 X hr hlocks v1 ((b_X7_skips_0 42 ((b_X7_number_0 (v1 + 1) 2 S).2)).1) ((b_X7_skips_0 42 ((b_X7_number_0 (v1 + 1) 2 S).2)).2) _ _ ho he
def b_X7_orderHere_82 (w0 : Int32) (S : Sx) : Int32 × Sx := (w0, S)
def o_X7_orderHere_82 (w0 : Int32) (S : Sx) : Prop := bz w0 ∧ True
set_option maxRecDepth 20000 in
theorem t_X7_orderHere_82 (X : Cx p m c cX7_orderHere 2 s args RX7 D q ad) (hr : meth.sig.returnType = some .boolean) (hlocks : meth.locks = false) (w0 : Int32) (S : Sx) (rv : Int32) (S' : Sx) (ho : o_X7_orderHere_82 w0 S) (he : b_X7_orderHere_82 w0 S = (rv, S')) : Jg p l e rm_X7_orderHere s m args below meth c 0 0 (MQ below (Qi D q ad d rv S' s.heap.size) args s 0 0 (AU ad s.heap.size)) D q ad d 2 82 [] [.int w0] S := by
  unfold b_X7_orderHere_82 at he
  unfold o_X7_orderHere_82 at ho
  have h2 := ho.1
  have ho := ho.2
  exact j_zret X hr hlocks (bz_narrow h2) dX7_orderHere_82 (congrArg Prod.fst he) (congrArg Prod.snd he)
def b_X7_orderHere_81  (S : Sx) : Int32 × Sx := b_X7_orderHere_82 0 S
def o_X7_orderHere_81  (S : Sx) : Prop := o_X7_orderHere_82 0 S
set_option maxRecDepth 20000 in
theorem t_X7_orderHere_81 (X : Cx p m c cX7_orderHere 2 s args RX7 D q ad) (hr : meth.sig.returnType = some .boolean) (hlocks : meth.locks = false) (S : Sx) (rv : Int32) (S' : Sx) (ho : o_X7_orderHere_81 S) (he : b_X7_orderHere_81 S = (rv, S')) : Jg p l e rm_X7_orderHere s m args below meth c 0 0 (MQ below (Qi D q ad d rv S' s.heap.size) args s 0 0 (AU ad s.heap.size)) D q ad d 2 81 [] [] S := by
  unfold b_X7_orderHere_81 at he
  unfold o_X7_orderHere_81 at ho
  refine j_iconst (v := 0) X dX7_orderHere_81 (by decide) ?_
  exact t_X7_orderHere_82 X hr hlocks 0 S _ _ ho he
def b_X7_orderHere_74 (w0 : Int32) (S : Sx) : Int32 × Sx := if w0 = 0 then b_X7_orderHere_81 S else b_X7_orderHere_82 1 S
def o_X7_orderHere_74 (w0 : Int32) (S : Sx) : Prop := (w0 = 0 → (o_X7_orderHere_81 S)) ∧ (¬ w0 = 0 → (o_X7_orderHere_82 1 S))
set_option maxRecDepth 20000 in
theorem t_X7_orderHere_74 (X : Cx p m c cX7_orderHere 2 s args RX7 D q ad) (hr : meth.sig.returnType = some .boolean) (hlocks : meth.locks = false) (w0 : Int32) (S : Sx) (rv : Int32) (S' : Sx) (ho : o_X7_orderHere_74 w0 S) (he : b_X7_orderHere_74 w0 S = (rv, S')) : Jg p l e rm_X7_orderHere s m args below meth c 0 0 (MQ below (Qi D q ad d rv S' s.heap.size) args s 0 0 (AU ad s.heap.size)) D q ad d 2 74 [] [.int w0] S := by
  unfold b_X7_orderHere_74 at he
  unfold o_X7_orderHere_74 at ho
  refine j_if_eq X 81 dX7_orderHere_74 (by decide) (fun h2 => ?_) (fun h2 => ?_)
  · rw [if_pos h2] at he
    have ho := ho.1 h2
    exact t_X7_orderHere_81 X hr hlocks S _ _ ho he
  · rw [if_neg h2] at he
    have ho := ho.2 h2
    refine j_iconst (v := 1) X dX7_orderHere_77 (by decide) ?_
    refine j_goto X 82 dX7_orderHere_78 (by decide) ?_
    exact t_X7_orderHere_82 X hr hlocks 1 S _ _ ho he
def b_X7_orderHere_54 (v1 : Int32) (w0 : Int32) (S : Sx) : Int32 × Sx := if w0 = 0 then b_X7_orderHere_81 S else if ((b_X7_skips_0 43 S).1) = 0 then b_X7_orderHere_81 ((b_X7_skips_0 43 S).2) else b_X7_orderHere_74 ((b_X7_number_0 (v1 + 3) 1 ((b_X7_skips_0 43 S).2)).1) ((b_X7_number_0 (v1 + 3) 1 ((b_X7_skips_0 43 S).2)).2)
def o_X7_orderHere_54 (v1 : Int32) (w0 : Int32) (S : Sx) : Prop := (w0 = 0 → (o_X7_orderHere_81 S)) ∧ (¬ w0 = 0 → (o_X7_skips_0 43 S ∧ ((((b_X7_skips_0 43 S).1) = 0 → (o_X7_orderHere_81 ((b_X7_skips_0 43 S).2))) ∧ (¬ ((b_X7_skips_0 43 S).1) = 0 → (o_X7_number_0 (v1 + 3) 1 ((b_X7_skips_0 43 S).2) ∧ (o_X7_orderHere_74 ((b_X7_number_0 (v1 + 3) 1 ((b_X7_skips_0 43 S).2)).1) ((b_X7_number_0 (v1 + 3) 1 ((b_X7_skips_0 43 S).2)).2)))))))
set_option maxRecDepth 20000 in
theorem t_X7_orderHere_54 (X : Cx p m c cX7_orderHere 2 s args RX7 D q ad) (hr : meth.sig.returnType = some .boolean) (hlocks : meth.locks = false) (v1 : Int32) (w0 : Int32) (S : Sx) (rv : Int32) (S' : Sx) (ho : o_X7_orderHere_54 v1 w0 S) (he : b_X7_orderHere_54 v1 w0 S = (rv, S')) : Jg p l e rm_X7_orderHere s m args below meth c 0 0 (MQ below (Qi D q ad d rv S' s.heap.size) args s 0 0 (AU ad s.heap.size)) D q ad d 2 54 [(0, .ref (ad 5)), (1, .int v1)] [.int w0] S := by
  unfold b_X7_orderHere_54 at he
  unfold o_X7_orderHere_54 at ho
  refine j_if_eq X 81 dX7_orderHere_54 (by decide) (fun h2 => ?_) (fun h2 => ?_)
  · rw [if_pos h2] at he
    have ho := ho.1 h2
    refine j_lv [] [] rfl ?_
    exact t_X7_orderHere_81 X hr hlocks S _ _ ho he
  · rw [if_neg h2] at he
    have ho := ho.2 h2
    refine j_aload_n X 0 dX7_orderHere_57 rfl ?_
    refine j_bipush (v := 43) X dX7_orderHere_58 (by decide) ?_
    have h3 := ho.1
    have ho := ho.2
    refine j_callVi (rest := []) X (c_X7_skips (cx_inj X) 43 S h3) cw_X7_179 kc25.1 (cl_25 kc25) rfl ⟨rfl, rfl, Nat.le_of_ble_eq_true rfl, Nat.le_of_ble_eq_true rfl⟩ rfl rfl (Nat.le_of_ble_eq_true rfl) ⟨Nat.le_of_ble_eq_true rfl, Nat.le_of_ble_eq_true rfl⟩ dX7_orderHere_60 ?_
    refine j_if_eq X 81 dX7_orderHere_63 (by decide) (fun h4 => ?_) (fun h4 => ?_)
    · rw [if_pos h4] at he
      have ho := ho.1 h4
      refine j_lv [] [] rfl ?_
      exact t_X7_orderHere_81 X hr hlocks ((b_X7_skips_0 43 S).2) _ _ ho he
    · rw [if_neg h4] at he
      have ho := ho.2 h4
      refine j_aload_n X 0 dX7_orderHere_66 rfl ?_
      refine j_iload_n X 1 dX7_orderHere_67 rfl ?_
      refine j_iconst (v := 3) X dX7_orderHere_68 (by decide) ?_
      refine j_iadd X dX7_orderHere_69 ?_
      refine j_iconst (v := 1) X dX7_orderHere_70 (by decide) ?_
      have h5 := ho.1
      have ho := ho.2
      refine j_callVi (rest := []) X (c_X7_number (cx_inj X) (v1 + 3) 1 ((b_X7_skips_0 43 S).2) h5) cw_X7_182 kc25.1 (cl_25 kc25) rfl ⟨rfl, rfl, Nat.le_of_ble_eq_true rfl, Nat.le_of_ble_eq_true rfl⟩ rfl rfl (Nat.le_of_ble_eq_true rfl) ⟨Nat.le_of_ble_eq_true rfl, Nat.le_of_ble_eq_true rfl⟩ dX7_orderHere_71 ?_
      refine j_lv [] [] rfl ?_
      exact t_X7_orderHere_74 X hr hlocks ((b_X7_number_0 (v1 + 3) 1 ((b_X7_skips_0 43 S).2)).1) ((b_X7_number_0 (v1 + 3) 1 ((b_X7_skips_0 43 S).2)).2) _ _ ho he
def b_X7_orderHere_34 (v1 : Int32) (w0 : Int32) (S : Sx) : Int32 × Sx := if w0 = 0 then b_X7_orderHere_81 S else if ((b_X7_skips_0 58 S).1) = 0 then b_X7_orderHere_81 ((b_X7_skips_0 58 S).2) else b_X7_orderHere_54 v1 ((b_X7_number_0 (v1 + 2) 1 ((b_X7_skips_0 58 S).2)).1) ((b_X7_number_0 (v1 + 2) 1 ((b_X7_skips_0 58 S).2)).2)
def o_X7_orderHere_34 (v1 : Int32) (w0 : Int32) (S : Sx) : Prop := (w0 = 0 → (o_X7_orderHere_81 S)) ∧ (¬ w0 = 0 → (o_X7_skips_0 58 S ∧ ((((b_X7_skips_0 58 S).1) = 0 → (o_X7_orderHere_81 ((b_X7_skips_0 58 S).2))) ∧ (¬ ((b_X7_skips_0 58 S).1) = 0 → (o_X7_number_0 (v1 + 2) 1 ((b_X7_skips_0 58 S).2) ∧ (o_X7_orderHere_54 v1 ((b_X7_number_0 (v1 + 2) 1 ((b_X7_skips_0 58 S).2)).1) ((b_X7_number_0 (v1 + 2) 1 ((b_X7_skips_0 58 S).2)).2)))))))
set_option maxRecDepth 20000 in
theorem t_X7_orderHere_34 (X : Cx p m c cX7_orderHere 2 s args RX7 D q ad) (hr : meth.sig.returnType = some .boolean) (hlocks : meth.locks = false) (v1 : Int32) (w0 : Int32) (S : Sx) (rv : Int32) (S' : Sx) (ho : o_X7_orderHere_34 v1 w0 S) (he : b_X7_orderHere_34 v1 w0 S = (rv, S')) : Jg p l e rm_X7_orderHere s m args below meth c 0 0 (MQ below (Qi D q ad d rv S' s.heap.size) args s 0 0 (AU ad s.heap.size)) D q ad d 2 34 [(0, .ref (ad 5)), (1, .int v1)] [.int w0] S := by
  unfold b_X7_orderHere_34 at he
  unfold o_X7_orderHere_34 at ho
  refine j_if_eq X 81 dX7_orderHere_34 (by decide) (fun h2 => ?_) (fun h2 => ?_)
  · rw [if_pos h2] at he
    have ho := ho.1 h2
    refine j_lv [] [] rfl ?_
    exact t_X7_orderHere_81 X hr hlocks S _ _ ho he
  · rw [if_neg h2] at he
    have ho := ho.2 h2
    refine j_aload_n X 0 dX7_orderHere_37 rfl ?_
    refine j_bipush (v := 58) X dX7_orderHere_38 (by decide) ?_
    have h3 := ho.1
    have ho := ho.2
    refine j_callVi (rest := []) X (c_X7_skips (cx_inj X) 58 S h3) cw_X7_179 kc25.1 (cl_25 kc25) rfl ⟨rfl, rfl, Nat.le_of_ble_eq_true rfl, Nat.le_of_ble_eq_true rfl⟩ rfl rfl (Nat.le_of_ble_eq_true rfl) ⟨Nat.le_of_ble_eq_true rfl, Nat.le_of_ble_eq_true rfl⟩ dX7_orderHere_40 ?_
    refine j_if_eq X 81 dX7_orderHere_43 (by decide) (fun h4 => ?_) (fun h4 => ?_)
    · rw [if_pos h4] at he
      have ho := ho.1 h4
      refine j_lv [] [] rfl ?_
      exact t_X7_orderHere_81 X hr hlocks ((b_X7_skips_0 58 S).2) _ _ ho he
    · rw [if_neg h4] at he
      have ho := ho.2 h4
      refine j_aload_n X 0 dX7_orderHere_46 rfl ?_
      refine j_iload_n X 1 dX7_orderHere_47 rfl ?_
      refine j_iconst (v := 2) X dX7_orderHere_48 (by decide) ?_
      refine j_iadd X dX7_orderHere_49 ?_
      refine j_iconst (v := 1) X dX7_orderHere_50 (by decide) ?_
      have h5 := ho.1
      have ho := ho.2
      refine j_callVi (rest := []) X (c_X7_number (cx_inj X) (v1 + 2) 1 ((b_X7_skips_0 58 S).2) h5) cw_X7_182 kc25.1 (cl_25 kc25) rfl ⟨rfl, rfl, Nat.le_of_ble_eq_true rfl, Nat.le_of_ble_eq_true rfl⟩ rfl rfl (Nat.le_of_ble_eq_true rfl) ⟨Nat.le_of_ble_eq_true rfl, Nat.le_of_ble_eq_true rfl⟩ dX7_orderHere_51 ?_
      exact t_X7_orderHere_54 X hr hlocks v1 ((b_X7_number_0 (v1 + 2) 1 ((b_X7_skips_0 58 S).2)).1) ((b_X7_number_0 (v1 + 2) 1 ((b_X7_skips_0 58 S).2)).2) _ _ ho he
def b_X7_orderHere_17 (v1 : Int32) (S : Sx) : Int32 × Sx := if ((b_X7_skips_0 114 S).1) = 0 then b_X7_orderHere_89 v1 ((b_X7_skips_0 98 ((b_X7_skips_0 114 S).2)).1) ((b_X7_skips_0 98 ((b_X7_skips_0 114 S).2)).2) else b_X7_orderHere_34 v1 ((b_X7_number_0 (v1 + 1) 1 ((b_X7_skips_0 114 S).2)).1) ((b_X7_number_0 (v1 + 1) 1 ((b_X7_skips_0 114 S).2)).2)
def o_X7_orderHere_17 (v1 : Int32) (S : Sx) : Prop := o_X7_skips_0 114 S ∧ ((((b_X7_skips_0 114 S).1) = 0 → (o_X7_skips_0 98 ((b_X7_skips_0 114 S).2) ∧ (o_X7_orderHere_89 v1 ((b_X7_skips_0 98 ((b_X7_skips_0 114 S).2)).1) ((b_X7_skips_0 98 ((b_X7_skips_0 114 S).2)).2)))) ∧ (¬ ((b_X7_skips_0 114 S).1) = 0 → (o_X7_number_0 (v1 + 1) 1 ((b_X7_skips_0 114 S).2) ∧ (o_X7_orderHere_34 v1 ((b_X7_number_0 (v1 + 1) 1 ((b_X7_skips_0 114 S).2)).1) ((b_X7_number_0 (v1 + 1) 1 ((b_X7_skips_0 114 S).2)).2)))))
set_option maxRecDepth 20000 in
theorem t_X7_orderHere_17 (X : Cx p m c cX7_orderHere 2 s args RX7 D q ad) (hr : meth.sig.returnType = some .boolean) (hlocks : meth.locks = false) (v1 : Int32) (S : Sx) (rv : Int32) (S' : Sx) (ho : o_X7_orderHere_17 v1 S) (he : b_X7_orderHere_17 v1 S = (rv, S')) : Jg p l e rm_X7_orderHere s m args below meth c 0 0 (MQ below (Qi D q ad d rv S' s.heap.size) args s 0 0 (AU ad s.heap.size)) D q ad d 2 17 [(0, .ref (ad 5)), (1, .int v1)] [] S := by
  unfold b_X7_orderHere_17 at he
  unfold o_X7_orderHere_17 at ho
  refine j_aload_n X 0 dX7_orderHere_17 rfl ?_
  refine j_bipush (v := 114) X dX7_orderHere_18 (by decide) ?_
  have h2 := ho.1
  have ho := ho.2
  refine j_callVi (rest := []) X (c_X7_skips (cx_inj X) 114 S h2) cw_X7_179 kc25.1 (cl_25 kc25) rfl ⟨rfl, rfl, Nat.le_of_ble_eq_true rfl, Nat.le_of_ble_eq_true rfl⟩ rfl rfl (Nat.le_of_ble_eq_true rfl) ⟨Nat.le_of_ble_eq_true rfl, Nat.le_of_ble_eq_true rfl⟩ dX7_orderHere_20 ?_
  refine j_if_eq X 83 dX7_orderHere_23 (by decide) (fun h3 => ?_) (fun h3 => ?_)
  · rw [if_pos h3] at he
    have ho := ho.1 h3
    refine j_aload_n X 0 dX7_orderHere_83 rfl ?_
    refine j_bipush (v := 98) X dX7_orderHere_84 (by decide) ?_
    have h4 := ho.1
    have ho := ho.2
    refine j_callVi (rest := []) X (c_X7_skips (cx_inj X) 98 ((b_X7_skips_0 114 S).2) h4) cw_X7_179 kc25.1 (cl_25 kc25) rfl ⟨rfl, rfl, Nat.le_of_ble_eq_true rfl, Nat.le_of_ble_eq_true rfl⟩ rfl rfl (Nat.le_of_ble_eq_true rfl) ⟨Nat.le_of_ble_eq_true rfl, Nat.le_of_ble_eq_true rfl⟩ dX7_orderHere_86 ?_
    exact t_X7_orderHere_89 X hr hlocks v1 ((b_X7_skips_0 98 ((b_X7_skips_0 114 S).2)).1) ((b_X7_skips_0 98 ((b_X7_skips_0 114 S).2)).2) _ _ ho he
  · rw [if_neg h3] at he
    have ho := ho.2 h3
    refine j_aload_n X 0 dX7_orderHere_26 rfl ?_
    refine j_iload_n X 1 dX7_orderHere_27 rfl ?_
    refine j_iconst (v := 1) X dX7_orderHere_28 (by decide) ?_
    refine j_iadd X dX7_orderHere_29 ?_
    refine j_iconst (v := 1) X dX7_orderHere_30 (by decide) ?_
    have h5 := ho.1
    have ho := ho.2
    refine j_callVi (rest := []) X (c_X7_number (cx_inj X) (v1 + 1) 1 ((b_X7_skips_0 114 S).2) h5) cw_X7_182 kc25.1 (cl_25 kc25) rfl ⟨rfl, rfl, Nat.le_of_ble_eq_true rfl, Nat.le_of_ble_eq_true rfl⟩ rfl rfl (Nat.le_of_ble_eq_true rfl) ⟨Nat.le_of_ble_eq_true rfl, Nat.le_of_ble_eq_true rfl⟩ dX7_orderHere_31 ?_
    exact t_X7_orderHere_34 X hr hlocks v1 ((b_X7_number_0 (v1 + 1) 1 ((b_X7_skips_0 114 S).2)).1) ((b_X7_number_0 (v1 + 1) 1 ((b_X7_skips_0 114 S).2)).2) _ _ ho he
def b_X7_orderHere_0  (S : Sx) : Int32 × Sx := b_X7_orderHere_17 (4 * (S 5 17)) (up2 S 12 ((4 * (S 5 17)).toNatClampNeg) (b_X7_here_0 S))
def o_X7_orderHere_0  (S : Sx) : Prop := o_X7_here_0 S ∧ (vp_in (4 * (S 5 17)) 124 ∧ (o_X7_orderHere_17 (4 * (S 5 17)) (up2 S 12 ((4 * (S 5 17)).toNatClampNeg) (b_X7_here_0 S))))
set_option maxRecDepth 20000 in
theorem t_X7_orderHere_0 (X : Cx p m c cX7_orderHere 2 s args RX7 D q ad) (hr : meth.sig.returnType = some .boolean) (hlocks : meth.locks = false) (S : Sx) (rv : Int32) (S' : Sx) (ho : o_X7_orderHere_0 S) (he : b_X7_orderHere_0 S = (rv, S')) : Jg p l e rm_X7_orderHere s m args below meth c 0 0 (MQ below (Qi D q ad d rv S' s.heap.size) args s 0 0 (AU ad s.heap.size)) D q ad d 2 0 [(0, .ref (ad 5))] [] S := by
  unfold b_X7_orderHere_0 at he
  unfold o_X7_orderHere_0 at ho
  refine j_iconst (v := 4) X dX7_orderHere_0 (by decide) ?_
  refine j_aload_n X 0 dX7_orderHere_1 rfl ?_
  refine gf_25_17 X m_fl_X7_176 kc25 dX7_orderHere_2 ?_
  refine j_imul X dX7_orderHere_5 ?_
  refine j_istore_n X [(1, .int (4 * (S 5 17))), (0, .ref (ad 5))] dX7_orderHere_6 (by decide) rfl ?_
  refine j_aload_n X 1 dX7_orderHere_7 rfl ?_
  refine gf_25_16 X m_fl_X7_32 kc25 dX7_orderHere_8 ?_
  refine j_iload_n X 0 dX7_orderHere_11 rfl ?_
  refine j_aload_n X 1 dX7_orderHere_12 rfl ?_
  have h2 := ho.1
  have ho := ho.2
  refine j_callVi (rest := [.int (4 * (S 5 17)), .ref (ad 12)]) X (c_X7_here (cx_inj X) S h2) cw_X7_173 kc25.1 (cl_25 kc25) rfl ⟨rfl, rfl, Nat.le_of_ble_eq_true rfl, Nat.le_of_ble_eq_true rfl⟩ rfl rfl (Nat.le_of_ble_eq_true rfl) ⟨Nat.le_of_ble_eq_true rfl, Nat.le_of_ble_eq_true rfl⟩ dX7_orderHere_13 ?_
  have h3 := ho.1
  have ho := ho.2
  refine j_iast X kc32.1 (fun T => cl_32 kc32) h3 dX7_orderHere_16 ?_
  refine j_lv [1, 0] [(0, .ref (ad 5)), (1, .int (4 * (S 5 17)))] rfl ?_
  exact t_X7_orderHere_17 X hr hlocks (4 * (S 5 17)) (up2 S 12 ((4 * (S 5 17)).toNatClampNeg) (b_X7_here_0 S)) _ _ ho he
theorem c_X7_orderHere {l : Launch} {D : va_G} {q : Nat → ClassId} {ad : Nat → Nat} {d : UInt64} (hI : inj4 ad) (S : Sx) (ho : o_X7_orderHere_0 S) : CI l yX7_orderHere cX7_orderHere 2 .boolean rm_X7_orderHere D q ad d [.ref (ad 5)] S (b_X7_orderHere_0 S).1 (b_X7_orderHere_0 S).2 := ci_of hI (by decide +kernel) (Nat.le_of_ble_eq_true rfl) rfl (fun p e s m args below meth c X hr hlocks => t_X7_orderHere_0 X hr hlocks S _ _ ho (pe _))
end
/-! RX7.isText -/
abbrev rm_X7_isText : Room := { frames := 3, cells := 0, slots := 0, locals := 66 }
section
variable {p : Program} {l : Launch} {e : Env} {s : State} {m : MethodId} {args : Array Value} {below : List Frame} {meth : Method} {c : Code} {D : va_G} {q : Nat → ClassId} {ad : Nat → Nat} {d : UInt64}
def b_X7_isText_54 (w0 : Int32) (S : Sx) : Int32 × Sx := (w0, S)
def o_X7_isText_54 (w0 : Int32) (S : Sx) : Prop := bz w0 ∧ True
set_option maxRecDepth 20000 in
theorem t_X7_isText_54 (X : Cx p m c cX7_isText 1 s args RX7 D q ad) (hr : meth.sig.returnType = some .boolean) (hlocks : meth.locks = false) (w0 : Int32) (S : Sx) (rv : Int32) (S' : Sx) (ho : o_X7_isText_54 w0 S) (he : b_X7_isText_54 w0 S = (rv, S')) : Jg p l e rm_X7_isText s m args below meth c 0 0 (MQ below (Qi D q ad d rv S' s.heap.size) args s 0 0 (AU ad s.heap.size)) D q ad d 1 54 [] [.int w0] S := by
  unfold b_X7_isText_54 at he
  unfold o_X7_isText_54 at ho
  have h2 := ho.1
  have ho := ho.2
  exact j_zret X hr hlocks (bz_narrow h2) dX7_isText_54 (congrArg Prod.fst he) (congrArg Prod.snd he)
def b_X7_isText_29 (kk : Sx → Int32 × Sx)  (S : Sx) : Int32 × Sx := if ((b_X7_skips_0 59 S).1) = 0 then if (((b_X7_skips_0 59 S).2) 5 15) = (((b_X7_skips_0 59 S).2) 5 13) then b_X7_isText_54 1 ((b_X7_skips_0 59 S).2) else b_X7_isText_54 0 ((b_X7_skips_0 59 S).2) else kk ((b_X7_skips_0 59 S).2)
def o_X7_isText_29 (ok : Sx → Prop)  (S : Sx) : Prop := o_X7_skips_0 59 S ∧ ((((b_X7_skips_0 59 S).1) = 0 → (((((b_X7_skips_0 59 S).2) 5 15) = (((b_X7_skips_0 59 S).2) 5 13) → (o_X7_isText_54 1 ((b_X7_skips_0 59 S).2))) ∧ (¬ (((b_X7_skips_0 59 S).2) 5 15) = (((b_X7_skips_0 59 S).2) 5 13) → (o_X7_isText_54 0 ((b_X7_skips_0 59 S).2))))) ∧ (¬ ((b_X7_skips_0 59 S).1) = 0 → (ok ((b_X7_skips_0 59 S).2))))
set_option maxRecDepth 20000 in
theorem t_X7_isText_29 (X : Cx p m c cX7_isText 1 s args RX7 D q ad) (hr : meth.sig.returnType = some .boolean) (hlocks : meth.locks = false) (kk : Sx → Int32 × Sx) (ok : Sx → Prop) (hkk : ∀ (S : Sx) (rv : Int32) (S' : Sx) (ho : ok S) (he : kk S = (rv, S')), Jg p l e rm_X7_isText s m args below meth c 0 0 (MQ below (Qi D q ad d rv S' s.heap.size) args s 0 0 (AU ad s.heap.size)) D q ad d 1 10 [(0, .ref (ad 5))] [] S) (S : Sx) (rv : Int32) (S' : Sx) (ho : o_X7_isText_29 ok S) (he : b_X7_isText_29 kk S = (rv, S')) : Jg p l e rm_X7_isText s m args below meth c 0 0 (MQ below (Qi D q ad d rv S' s.heap.size) args s 0 0 (AU ad s.heap.size)) D q ad d 1 29 [(0, .ref (ad 5))] [] S := by
  unfold b_X7_isText_29 at he
  unfold o_X7_isText_29 at ho
  refine j_aload_n X 0 dX7_isText_29 rfl ?_
  refine j_bipush (v := 59) X dX7_isText_30 (by decide) ?_
  have h2 := ho.1
  have ho := ho.2
  refine j_callVi (rest := []) X (c_X7_skips (cx_inj X) 59 S h2) cw_X7_179 kc25.1 (cl_25 kc25) rfl ⟨rfl, rfl, Nat.le_of_ble_eq_true rfl, Nat.le_of_ble_eq_true rfl⟩ rfl rfl (Nat.le_of_ble_eq_true rfl) ⟨Nat.le_of_ble_eq_true rfl, Nat.le_of_ble_eq_true rfl⟩ dX7_isText_32 ?_
  refine j_if_ne X 10 dX7_isText_35 (by decide) (fun h3 => ?_) (fun h3 => ?_)
  · rw [if_neg h3] at he
    have ho := ho.2 h3
    exact hkk ((b_X7_skips_0 59 S).2) _ _ ho he
  · rw [if_pos h3] at he
    have ho := ho.1 h3
    refine j_aload_n X 0 dX7_isText_38 rfl ?_
    refine gf_25_15 X m_fl_X7_170 kc25 dX7_isText_39 ?_
    refine j_aload_n X 0 dX7_isText_42 rfl ?_
    refine gf_25_13 X m_fl_X7_167 kc25 dX7_isText_43 ?_
    refine j_icmp_ne X 53 dX7_isText_46 (by decide) (fun h4 => ?_) (fun h4 => ?_)
    · rw [if_neg h4] at he
      have ho := ho.2 h4
      refine j_iconst (v := 0) X dX7_isText_53 (by decide) ?_
      refine j_lv [] [] rfl ?_
      exact t_X7_isText_54 X hr hlocks 0 ((b_X7_skips_0 59 S).2) _ _ ho he
    · rw [if_pos h4] at he
      have ho := ho.1 h4
      refine j_iconst (v := 1) X dX7_isText_49 (by decide) ?_
      refine j_goto X 54 dX7_isText_50 (by decide) ?_
      refine j_lv [] [] rfl ?_
      exact t_X7_isText_54 X hr hlocks 1 ((b_X7_skips_0 59 S).2) _ _ ho he
def b_X7_isText_10 : Nat → Sx → Int32 × Sx
  | 0, S => (0, S)
  | n + 1, S => if ((b_X7_orderHere_0 S).1) = 0 then (0, (b_X7_orderHere_0 S).2) else b_X7_isText_29 (b_X7_isText_10 n) (up2 ((b_X7_orderHere_0 S).2) 5 17 ((((b_X7_orderHere_0 S).2) 5 17) + 1))
def o_X7_isText_10 : Nat → Sx → Prop
  | 0, _ => False
  | n + 1, S => o_X7_orderHere_0 S ∧ ((((b_X7_orderHere_0 S).1) = 0 → True) ∧ (¬ ((b_X7_orderHere_0 S).1) = 0 → (o_X7_isText_29 (o_X7_isText_10 n) (up2 ((b_X7_orderHere_0 S).2) 5 17 ((((b_X7_orderHere_0 S).2) 5 17) + 1)))))
set_option maxRecDepth 20000 in
theorem t_X7_isText_10 (X : Cx p m c cX7_isText 1 s args RX7 D q ad) (hr : meth.sig.returnType = some .boolean) (hlocks : meth.locks = false) : ∀ (n : Nat) (S : Sx) (rv : Int32) (S' : Sx) (ho : o_X7_isText_10 n S) (he : b_X7_isText_10 n S = (rv, S')), Jg p l e rm_X7_isText s m args below meth c 0 0 (MQ below (Qi D q ad d rv S' s.heap.size) args s 0 0 (AU ad s.heap.size)) D q ad d 1 10 [(0, .ref (ad 5))] [] S := by
  intro n
  induction n with
  | zero =>
    intro  S rv S' ho he
    unfold o_X7_isText_10 at ho
    exact ho.elim
  | succ n ih =>
    intro  S rv S' ho he
    unfold b_X7_isText_10 at he
    unfold o_X7_isText_10 at ho
    refine j_aload_n X 0 dX7_isText_10 rfl ?_
    have h2 := ho.1
    have ho := ho.2
    refine j_callVi (rest := []) X (c_X7_orderHere (cx_inj X) S h2) cw_X7_185 kc25.1 (cl_25 kc25) rfl ⟨rfl, rfl, Nat.le_of_ble_eq_true rfl, Nat.le_of_ble_eq_true rfl⟩ rfl rfl (Nat.le_of_ble_eq_true rfl) ⟨Nat.le_of_ble_eq_true rfl, Nat.le_of_ble_eq_true rfl⟩ dX7_isText_11 ?_
    refine j_if_ne X 19 dX7_isText_14 (by decide) (fun h3 => ?_) (fun h3 => ?_)
    · rw [if_neg h3] at he
      have ho := ho.2 h3
      refine j_aload_n X 0 dX7_isText_19 rfl ?_
      refine j_dup X dX7_isText_20 rfl ?_
      refine gf_25_17 X m_fl_X7_176 kc25 dX7_isText_21 ?_
      refine j_iconst (v := 1) X dX7_isText_24 (by decide) ?_
      refine j_iadd X dX7_isText_25 ?_
      refine pf_25_17 X m_fl_X7_176 kc25 dX7_isText_26 ?_
      exact t_X7_isText_29 X hr hlocks (b_X7_isText_10 n) (o_X7_isText_10 n) ih (up2 ((b_X7_orderHere_0 S).2) 5 17 ((((b_X7_orderHere_0 S).2) 5 17) + 1)) _ _ ho he
    · rw [if_pos h3] at he
      have ho := ho.1 h3
      refine j_iconst (v := 0) X dX7_isText_17 (by decide) ?_
      exact j_zret X hr hlocks (bz_narrow bz_0) dX7_isText_18 (congrArg Prod.fst he) (congrArg Prod.snd he)
def b_X7_isText_0  (S : Sx) : Int32 × Sx := b_X7_isText_10 100 (up2 (up2 S 5 15 0) 5 17 0)
def o_X7_isText_0  (S : Sx) : Prop := o_X7_isText_10 100 (up2 (up2 S 5 15 0) 5 17 0)
set_option maxRecDepth 20000 in
theorem t_X7_isText_0 (X : Cx p m c cX7_isText 1 s args RX7 D q ad) (hr : meth.sig.returnType = some .boolean) (hlocks : meth.locks = false) (S : Sx) (rv : Int32) (S' : Sx) (ho : o_X7_isText_0 S) (he : b_X7_isText_0 S = (rv, S')) : Jg p l e rm_X7_isText s m args below meth c 0 0 (MQ below (Qi D q ad d rv S' s.heap.size) args s 0 0 (AU ad s.heap.size)) D q ad d 1 0 [(0, .ref (ad 5))] [] S := by
  unfold b_X7_isText_0 at he
  unfold o_X7_isText_0 at ho
  refine j_aload_n X 0 dX7_isText_0 rfl ?_
  refine j_iconst (v := 0) X dX7_isText_1 (by decide) ?_
  refine pf_25_15 X m_fl_X7_170 kc25 dX7_isText_2 ?_
  refine j_aload_n X 0 dX7_isText_5 rfl ?_
  refine j_iconst (v := 0) X dX7_isText_6 (by decide) ?_
  refine pf_25_17 X m_fl_X7_176 kc25 dX7_isText_7 ?_
  exact t_X7_isText_10 X hr hlocks 100 (up2 (up2 S 5 15 0) 5 17 0) _ _ ho he
theorem c_X7_isText {l : Launch} {D : va_G} {q : Nat → ClassId} {ad : Nat → Nat} {d : UInt64} (hI : inj4 ad) (S : Sx) (ho : o_X7_isText_0 S) : CI l yX7_isText cX7_isText 1 .boolean rm_X7_isText D q ad d [.ref (ad 5)] S (b_X7_isText_0 S).1 (b_X7_isText_0 S).2 := ci_of hI (by decide +kernel) (Nat.le_of_ble_eq_true rfl) rfl (fun p e s m args below meth c X hr hlocks => t_X7_isText_0 X hr hlocks S _ _ ho (pe _))
end
/-! RX7.carries -/
abbrev rm_X7_carries : Room := { frames := 4, cells := 0, slots := 0, locals := 95 }
section
variable {p : Program} {l : Launch} {e : Env} {s : State} {m : MethodId} {args : Array Value} {below : List Frame} {meth : Method} {c : Code} {D : va_G} {q : Nat → ClassId} {ad : Nat → Nat} {d : UInt64}
def b_X7_carries_0 (x1 : Int32) (S : Sx) : Int32 × Sx := if (S 12 x1.toNatClampNeg) = 98 then ((b_X7_bowl_0 (S 12 ((x1 + 1).toNatClampNeg)) (S 12 ((x1 + 2).toNatClampNeg)) S).1, (b_X7_bowl_0 (S 12 ((x1 + 1).toNatClampNeg)) (S 12 ((x1 + 2).toNatClampNeg)) S).2) else (if (S 12 x1.toNatClampNeg) = 99 then ((b_X7_cover_0 (S 12 ((x1 + 1).toNatClampNeg)) 1 S).1, (b_X7_cover_0 (S 12 ((x1 + 1).toNatClampNeg)) 1 S).2) else (if (S 12 x1.toNatClampNeg) = 101 then ((b_X7_end_0 (S 12 ((x1 + 1).toNatClampNeg)) S).1, (b_X7_end_0 (S 12 ((x1 + 1).toNatClampNeg)) S).2) else (if (S 12 x1.toNatClampNeg) = 114 then ((b_X7_roll_0 (S 12 ((x1 + 1).toNatClampNeg)) (S 12 ((x1 + 2).toNatClampNeg)) (S 12 ((x1 + 3).toNatClampNeg)) S).1, (b_X7_roll_0 (S 12 ((x1 + 1).toNatClampNeg)) (S 12 ((x1 + 2).toNatClampNeg)) (S 12 ((x1 + 3).toNatClampNeg)) S).2) else (if (S 12 x1.toNatClampNeg) = 117 then ((b_X7_cover_0 (S 12 ((x1 + 1).toNatClampNeg)) 0 S).1, (b_X7_cover_0 (S 12 ((x1 + 1).toNatClampNeg)) 0 S).2) else ((b_X7_pass_0 (S 12 ((x1 + 1).toNatClampNeg)) S).1, (b_X7_pass_0 (S 12 ((x1 + 1).toNatClampNeg)) S).2)))))
def o_X7_carries_0 (x1 : Int32) (S : Sx) : Prop := vp_in x1 124 ∧ (((S 12 x1.toNatClampNeg) = 98 → (vp_in (x1 + 1) 124 ∧ (vp_in (x1 + 2) 124 ∧ (o_X7_bowl_0 (S 12 ((x1 + 1).toNatClampNeg)) (S 12 ((x1 + 2).toNatClampNeg)) S ∧ True)))) ∧ (¬ (S 12 x1.toNatClampNeg) = 98 → (((S 12 x1.toNatClampNeg) = 99 → (vp_in (x1 + 1) 124 ∧ (o_X7_cover_0 (S 12 ((x1 + 1).toNatClampNeg)) 1 S ∧ True))) ∧ (¬ (S 12 x1.toNatClampNeg) = 99 → (((S 12 x1.toNatClampNeg) = 101 → (vp_in (x1 + 1) 124 ∧ (o_X7_end_0 (S 12 ((x1 + 1).toNatClampNeg)) S ∧ True))) ∧ (¬ (S 12 x1.toNatClampNeg) = 101 → (((S 12 x1.toNatClampNeg) = 114 → (vp_in (x1 + 1) 124 ∧ (vp_in (x1 + 2) 124 ∧ (vp_in (x1 + 3) 124 ∧ (o_X7_roll_0 (S 12 ((x1 + 1).toNatClampNeg)) (S 12 ((x1 + 2).toNatClampNeg)) (S 12 ((x1 + 3).toNatClampNeg)) S ∧ True))))) ∧ (¬ (S 12 x1.toNatClampNeg) = 114 → (((S 12 x1.toNatClampNeg) = 117 → (vp_in (x1 + 1) 124 ∧ (o_X7_cover_0 (S 12 ((x1 + 1).toNatClampNeg)) 0 S ∧ True))) ∧ (¬ (S 12 x1.toNatClampNeg) = 117 → (vp_in (x1 + 1) 124 ∧ (o_X7_pass_0 (S 12 ((x1 + 1).toNatClampNeg)) S ∧ True))))))))))))
set_option maxRecDepth 20000 in
theorem t_X7_carries_0 (X : Cx p m c cX7_carries 2 s args RX7 D q ad) (hr : meth.sig.returnType = some .int) (hlocks : meth.locks = false) (x1 : Int32) (S : Sx) (rv : Int32) (S' : Sx) (ho : o_X7_carries_0 x1 S) (he : b_X7_carries_0 x1 S = (rv, S')) : Jg p l e rm_X7_carries s m args below meth c 0 0 (MQ below (Qi D q ad d rv S' s.heap.size) args s 0 0 (AU ad s.heap.size)) D q ad d 2 0 [(0, .ref (ad 5)), (1, .int x1)] [] S := by
  unfold b_X7_carries_0 at he
  unfold o_X7_carries_0 at ho
  refine j_aload_n X 0 dX7_carries_0 rfl ?_
  refine gf_25_16 X m_fl_X7_32 kc25 dX7_carries_1 ?_
  refine j_iload_n X 1 dX7_carries_4 rfl ?_
  have h2 := ho.1
  have ho := ho.2
  refine j_iald X kc32.1 (cl_32 kc32) h2 dX7_carries_5 ?_
  by_cases h18 : (S 12 x1.toNatClampNeg) = 98
  · rw [if_pos h18] at he
    have ho := ho.1 h18
    refine j_lookup X 79 85 dX7_carries_6 (by decide) (by rw [h18]; rfl) (by decide) ?_
    refine j_aload_n X 0 dX7_carries_85 rfl ?_
    refine j_aload_n X 0 dX7_carries_86 rfl ?_
    refine gf_25_16 X m_fl_X7_32 kc25 dX7_carries_87 ?_
    refine j_iload_n X 1 dX7_carries_90 rfl ?_
    refine j_iconst (v := 1) X dX7_carries_91 (by decide) ?_
    refine j_iadd X dX7_carries_92 ?_
    have h3 := ho.1
    have ho := ho.2
    refine j_iald X kc32.1 (cl_32 kc32) h3 dX7_carries_93 ?_
    refine j_aload_n X 0 dX7_carries_94 rfl ?_
    refine gf_25_16 X m_fl_X7_32 kc25 dX7_carries_95 ?_
    refine j_iload_n X 1 dX7_carries_98 rfl ?_
    refine j_iconst (v := 2) X dX7_carries_99 (by decide) ?_
    refine j_iadd X dX7_carries_100 ?_
    have h4 := ho.1
    have ho := ho.2
    refine j_iald X kc32.1 (cl_32 kc32) h4 dX7_carries_101 ?_
    have h5 := ho.1
    have ho := ho.2
    refine j_callVi (rest := []) X (c_X7_bowl (cx_inj X) (S 12 ((x1 + 1).toNatClampNeg)) (S 12 ((x1 + 2).toNatClampNeg)) S h5) cw_X7_192 kc25.1 (cl_25 kc25) rfl ⟨rfl, rfl, Nat.le_of_ble_eq_true rfl, Nat.le_of_ble_eq_true rfl⟩ rfl rfl (Nat.le_of_ble_eq_true rfl) ⟨Nat.le_of_ble_eq_true rfl, Nat.le_of_ble_eq_true rfl⟩ dX7_carries_102 ?_
    exact j_iret X hr hlocks dX7_carries_105 (congrArg Prod.fst he) (congrArg Prod.snd he)
  rw [if_neg h18] at he
  have ho := ho.2 h18
  by_cases h19 : (S 12 x1.toNatClampNeg) = 99
  · rw [if_pos h19] at he
    have ho := ho.1 h19
    refine j_lookup X 100 106 dX7_carries_6 (by decide) (by rw [h19]; rfl) (by decide) ?_
    refine j_aload_n X 0 dX7_carries_106 rfl ?_
    refine j_aload_n X 0 dX7_carries_107 rfl ?_
    refine gf_25_16 X m_fl_X7_32 kc25 dX7_carries_108 ?_
    refine j_iload_n X 1 dX7_carries_111 rfl ?_
    refine j_iconst (v := 1) X dX7_carries_112 (by decide) ?_
    refine j_iadd X dX7_carries_113 ?_
    have h6 := ho.1
    have ho := ho.2
    refine j_iald X kc32.1 (cl_32 kc32) h6 dX7_carries_114 ?_
    refine j_iconst (v := 1) X dX7_carries_115 (by decide) ?_
    have h7 := ho.1
    have ho := ho.2
    refine j_callVi (rest := []) X (c_X7_cover (cx_inj X) (S 12 ((x1 + 1).toNatClampNeg)) 1 S h7) cw_X7_195 kc25.1 (cl_25 kc25) rfl ⟨rfl, rfl, Nat.le_of_ble_eq_true rfl, Nat.le_of_ble_eq_true rfl⟩ rfl rfl (Nat.le_of_ble_eq_true rfl) ⟨Nat.le_of_ble_eq_true rfl, Nat.le_of_ble_eq_true rfl⟩ dX7_carries_116 ?_
    exact j_iret X hr hlocks dX7_carries_119 (congrArg Prod.fst he) (congrArg Prod.snd he)
  rw [if_neg h19] at he
  have ho := ho.2 h19
  by_cases h20 : (S 12 x1.toNatClampNeg) = 101
  · rw [if_pos h20] at he
    have ho := ho.1 h20
    refine j_lookup X 128 134 dX7_carries_6 (by decide) (by rw [h20]; rfl) (by decide) ?_
    refine j_aload_n X 0 dX7_carries_134 rfl ?_
    refine j_aload_n X 0 dX7_carries_135 rfl ?_
    refine gf_25_16 X m_fl_X7_32 kc25 dX7_carries_136 ?_
    refine j_iload_n X 1 dX7_carries_139 rfl ?_
    refine j_iconst (v := 1) X dX7_carries_140 (by decide) ?_
    refine j_iadd X dX7_carries_141 ?_
    have h8 := ho.1
    have ho := ho.2
    refine j_iald X kc32.1 (cl_32 kc32) h8 dX7_carries_142 ?_
    have h9 := ho.1
    have ho := ho.2
    refine j_callVi (rest := []) X (c_X7_end (cx_inj X) (S 12 ((x1 + 1).toNatClampNeg)) S h9) cw_X7_199 kc25.1 (cl_25 kc25) rfl ⟨rfl, rfl, Nat.le_of_ble_eq_true rfl, Nat.le_of_ble_eq_true rfl⟩ rfl rfl (Nat.le_of_ble_eq_true rfl) ⟨Nat.le_of_ble_eq_true rfl, Nat.le_of_ble_eq_true rfl⟩ dX7_carries_143 ?_
    exact j_iret X hr hlocks dX7_carries_146 (congrArg Prod.fst he) (congrArg Prod.snd he)
  rw [if_neg h20] at he
  have ho := ho.2 h20
  by_cases h21 : (S 12 x1.toNatClampNeg) = 114
  · rw [if_pos h21] at he
    have ho := ho.1 h21
    refine j_lookup X 50 56 dX7_carries_6 (by decide) (by rw [h21]; rfl) (by decide) ?_
    refine j_aload_n X 0 dX7_carries_56 rfl ?_
    refine j_aload_n X 0 dX7_carries_57 rfl ?_
    refine gf_25_16 X m_fl_X7_32 kc25 dX7_carries_58 ?_
    refine j_iload_n X 1 dX7_carries_61 rfl ?_
    refine j_iconst (v := 1) X dX7_carries_62 (by decide) ?_
    refine j_iadd X dX7_carries_63 ?_
    have h10 := ho.1
    have ho := ho.2
    refine j_iald X kc32.1 (cl_32 kc32) h10 dX7_carries_64 ?_
    refine j_aload_n X 0 dX7_carries_65 rfl ?_
    refine gf_25_16 X m_fl_X7_32 kc25 dX7_carries_66 ?_
    refine j_iload_n X 1 dX7_carries_69 rfl ?_
    refine j_iconst (v := 2) X dX7_carries_70 (by decide) ?_
    refine j_iadd X dX7_carries_71 ?_
    have h11 := ho.1
    have ho := ho.2
    refine j_iald X kc32.1 (cl_32 kc32) h11 dX7_carries_72 ?_
    refine j_aload_n X 0 dX7_carries_73 rfl ?_
    refine gf_25_16 X m_fl_X7_32 kc25 dX7_carries_74 ?_
    refine j_iload_n X 1 dX7_carries_77 rfl ?_
    refine j_iconst (v := 3) X dX7_carries_78 (by decide) ?_
    refine j_iadd X dX7_carries_79 ?_
    have h12 := ho.1
    have ho := ho.2
    refine j_iald X kc32.1 (cl_32 kc32) h12 dX7_carries_80 ?_
    have h13 := ho.1
    have ho := ho.2
    refine j_callVi (rest := []) X (c_X7_roll (cx_inj X) (S 12 ((x1 + 1).toNatClampNeg)) (S 12 ((x1 + 2).toNatClampNeg)) (S 12 ((x1 + 3).toNatClampNeg)) S h13) cw_X7_189 kc25.1 (cl_25 kc25) rfl ⟨rfl, rfl, Nat.le_of_ble_eq_true rfl, Nat.le_of_ble_eq_true rfl⟩ rfl rfl (Nat.le_of_ble_eq_true rfl) ⟨Nat.le_of_ble_eq_true rfl, Nat.le_of_ble_eq_true rfl⟩ dX7_carries_81 ?_
    exact j_iret X hr hlocks dX7_carries_84 (congrArg Prod.fst he) (congrArg Prod.snd he)
  rw [if_neg h21] at he
  have ho := ho.2 h21
  by_cases h22 : (S 12 x1.toNatClampNeg) = 117
  · rw [if_pos h22] at he
    have ho := ho.1 h22
    refine j_lookup X 114 120 dX7_carries_6 (by decide) (by rw [h22]; rfl) (by decide) ?_
    refine j_aload_n X 0 dX7_carries_120 rfl ?_
    refine j_aload_n X 0 dX7_carries_121 rfl ?_
    refine gf_25_16 X m_fl_X7_32 kc25 dX7_carries_122 ?_
    refine j_iload_n X 1 dX7_carries_125 rfl ?_
    refine j_iconst (v := 1) X dX7_carries_126 (by decide) ?_
    refine j_iadd X dX7_carries_127 ?_
    have h14 := ho.1
    have ho := ho.2
    refine j_iald X kc32.1 (cl_32 kc32) h14 dX7_carries_128 ?_
    refine j_iconst (v := 0) X dX7_carries_129 (by decide) ?_
    have h15 := ho.1
    have ho := ho.2
    refine j_callVi (rest := []) X (c_X7_cover (cx_inj X) (S 12 ((x1 + 1).toNatClampNeg)) 0 S h15) cw_X7_195 kc25.1 (cl_25 kc25) rfl ⟨rfl, rfl, Nat.le_of_ble_eq_true rfl, Nat.le_of_ble_eq_true rfl⟩ rfl rfl (Nat.le_of_ble_eq_true rfl) ⟨Nat.le_of_ble_eq_true rfl, Nat.le_of_ble_eq_true rfl⟩ dX7_carries_130 ?_
    exact j_iret X hr hlocks dX7_carries_133 (congrArg Prod.fst he) (congrArg Prod.snd he)
  rw [if_neg h22] at he
  have ho := ho.2 h22
  refine j_lookup X 141 147 dX7_carries_6 (by decide) (by show Op.lookupswitch.offset [(98, 79), (99, 100), (101, 128), (114, 50), (117, 114)] _ _ = _; rw [lv_osw (a := 98) h18 rfl, lv_osw (a := 99) h19 rfl, lv_osw (a := 101) h20 rfl, lv_osw (a := 114) h21 rfl, lv_osw (a := 117) h22 rfl]; rfl) (by decide) ?_
  refine j_aload_n X 0 dX7_carries_147 rfl ?_
  refine j_aload_n X 0 dX7_carries_148 rfl ?_
  refine gf_25_16 X m_fl_X7_32 kc25 dX7_carries_149 ?_
  refine j_iload_n X 1 dX7_carries_152 rfl ?_
  refine j_iconst (v := 1) X dX7_carries_153 (by decide) ?_
  refine j_iadd X dX7_carries_154 ?_
  have h16 := ho.1
  have ho := ho.2
  refine j_iald X kc32.1 (cl_32 kc32) h16 dX7_carries_155 ?_
  have h17 := ho.1
  have ho := ho.2
  refine j_callVi (rest := []) X (c_X7_pass (cx_inj X) (S 12 ((x1 + 1).toNatClampNeg)) S h17) cw_X7_202 kc25.1 (cl_25 kc25) rfl ⟨rfl, rfl, Nat.le_of_ble_eq_true rfl, Nat.le_of_ble_eq_true rfl⟩ rfl rfl (Nat.le_of_ble_eq_true rfl) ⟨Nat.le_of_ble_eq_true rfl, Nat.le_of_ble_eq_true rfl⟩ dX7_carries_156 ?_
  exact j_iret X hr hlocks dX7_carries_159 (congrArg Prod.fst he) (congrArg Prod.snd he)
theorem c_X7_carries {l : Launch} {D : va_G} {q : Nat → ClassId} {ad : Nat → Nat} {d : UInt64} (hI : inj4 ad) (x1 : Int32) (S : Sx) (ho : o_X7_carries_0 x1 S) : CI l yX7_carries cX7_carries 2 .int rm_X7_carries D q ad d [.ref (ad 5), .int x1] S (b_X7_carries_0 x1 S).1 (b_X7_carries_0 x1 S).2 := ci_of hI (by decide +kernel) (Nat.le_of_ble_eq_true rfl) rfl (fun p e s m args below meth c X hr hlocks => t_X7_carries_0 X hr hlocks x1 S _ _ ho (pe _))
end

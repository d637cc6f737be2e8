/-! RX7.call -/
abbrev rm_X7_call : Room := { frames := 3, cells := 0, slots := 0, locals := 67 }
section
variable {p : Program} {l : Launch} {e : Env} {s : State} {m : MethodId} {args : Array Value} {below : List Frame} {meth : Method} {c : Code} {D : va_G} {q : Nat → ClassId} {ad : Nat → Nat} {d : UInt64}
def b_X7_call_38 (w0 : Int32) (S : Sx) : Int32 × Sx := (w0, S)
set_option maxRecDepth 20000 in
theorem t_X7_call_38 (X : Cx p m c cX7_call 3 s args RX7 D q ad) (hr : meth.sig.returnType = some .int) (hlocks : meth.locks = false) (w0 : Int32) (S : Sx) (rv : Int32) (S' : Sx) (he : b_X7_call_38 w0 S = (rv, S')) : Jg p l e rm_X7_call s m args below meth c 0 0 (MQ below (Qi D q ad d rv S' s.heap.size) args s 0 0 (AU ad s.heap.size)) D q ad d 3 38 [] [.int w0] S := by
  unfold b_X7_call_38 at he
  exact j_iret X hr hlocks dX7_call_38 (congrArg Prod.fst he) (congrArg Prod.snd he)
def b_X7_call_22 (v1 : Int32) (v2 : Int32) (w0 : Int32) (S : Sx) : Int32 × Sx := if ((b_X7_fails_0 w0 S).1) = 0 then b_X7_call_38 (b_X7_calls_0 v1 v2 ((b_X7_fails_0 w0 S).2)) ((b_X7_fails_0 w0 S).2) else b_X7_call_38 0 ((b_X7_fails_0 w0 S).2)
def o_X7_call_22 (v1 : Int32) (v2 : Int32) (w0 : Int32) (S : Sx) : Prop := o_X7_fails_0 w0 S ∧ ((((b_X7_fails_0 w0 S).1) = 0 → (o_X7_calls_0 v1 v2 ((b_X7_fails_0 w0 S).2) ∧ True)) ∧ (¬ ((b_X7_fails_0 w0 S).1) = 0 → True))
set_option maxRecDepth 20000 in
theorem t_X7_call_22 (X : Cx p m c cX7_call 3 s args RX7 D q ad) (hr : meth.sig.returnType = some .int) (hlocks : meth.locks = false) (v1 : Int32) (v2 : Int32) (w0 : Int32) (S : Sx) (rv : Int32) (S' : Sx) (ho : o_X7_call_22 v1 v2 w0 S) (he : b_X7_call_22 v1 v2 w0 S = (rv, S')) : Jg p l e rm_X7_call s m args below meth c 0 0 (MQ below (Qi D q ad d rv S' s.heap.size) args s 0 0 (AU ad s.heap.size)) D q ad d 3 22 [(0, .ref (ad 5)), (1, .int v1), (2, .int v2)] [.int w0, .ref (ad 5)] S := by
  unfold b_X7_call_22 at he
  unfold o_X7_call_22 at ho
  have h2 := ho.1
  have ho := ho.2
  refine j_callVi (rest := []) X (c_X7_fails (cx_inj X) w0 S h2) cw_X7_70 kc25.1 (cl_25 kc25) rfl ⟨rfl, rfl, Nat.le_of_ble_eq_true rfl, Nat.le_of_ble_eq_true rfl⟩ rfl rfl (Nat.le_of_ble_eq_true rfl) ⟨Nat.le_of_ble_eq_true rfl, Nat.le_of_ble_eq_true rfl⟩ dX7_call_22 ?_
  refine j_if_eq X 32 dX7_call_25 (by decide) (fun h3 => ?_) (fun h3 => ?_)
  · rw [if_pos h3] at he
    have ho := ho.1 h3
    refine j_aload_n X 0 dX7_call_32 rfl ?_
    refine j_iload_n X 1 dX7_call_33 rfl ?_
    refine j_iload_n X 2 dX7_call_34 rfl ?_
    have h4 := ho.1
    have ho := ho.2
    refine j_callVi (rest := []) X (c_X7_calls (cx_inj X) v1 v2 ((b_X7_fails_0 w0 S).2) h4) cw_X7_129 kc25.1 (cl_25 kc25) rfl ⟨rfl, rfl, Nat.le_of_ble_eq_true rfl, Nat.le_of_ble_eq_true rfl⟩ rfl rfl (Nat.le_of_ble_eq_true rfl) ⟨Nat.le_of_ble_eq_true rfl, Nat.le_of_ble_eq_true rfl⟩ dX7_call_35 ?_
    refine j_lv [] [] rfl ?_
    exact t_X7_call_38 X hr hlocks (b_X7_calls_0 v1 v2 ((b_X7_fails_0 w0 S).2)) ((b_X7_fails_0 w0 S).2) _ _ he
  · rw [if_neg h3] at he
    have ho := ho.2 h3
    refine j_iconst (v := 0) X dX7_call_28 (by decide) ?_
    refine j_goto X 38 dX7_call_29 (by decide) ?_
    refine j_lv [] [] rfl ?_
    exact t_X7_call_38 X hr hlocks 0 ((b_X7_fails_0 w0 S).2) _ _ he
def b_X7_call_21 (v1 : Int32) (v2 : Int32) (S : Sx) : Int32 × Sx := b_X7_call_22 v1 v2 1 S
def o_X7_call_21 (v1 : Int32) (v2 : Int32) (S : Sx) : Prop := o_X7_call_22 v1 v2 1 S
set_option maxRecDepth 20000 in
theorem t_X7_call_21 (X : Cx p m c cX7_call 3 s args RX7 D q ad) (hr : meth.sig.returnType = some .int) (hlocks : meth.locks = false) (v1 : Int32) (v2 : Int32) (S : Sx) (rv : Int32) (S' : Sx) (ho : o_X7_call_21 v1 v2 S) (he : b_X7_call_21 v1 v2 S = (rv, S')) : Jg p l e rm_X7_call s m args below meth c 0 0 (MQ below (Qi D q ad d rv S' s.heap.size) args s 0 0 (AU ad s.heap.size)) D q ad d 3 21 [(0, .ref (ad 5)), (1, .int v1), (2, .int v2)] [.ref (ad 5)] S := by
  unfold b_X7_call_21 at he
  unfold o_X7_call_21 at ho
  refine j_iconst (v := 1) X dX7_call_21 (by decide) ?_
  exact t_X7_call_22 X hr hlocks v1 v2 1 S _ _ ho he
def b_X7_call_0 (x1 : Int32) (x2 : Int32) (S : Sx) : Int32 × Sx := if (b_X7_isUmpire_0 x1 S) = 0 then b_X7_call_21 x1 x2 S else if (b_X7_isPitch_0 x2 S) = 0 then b_X7_call_21 x1 x2 S else b_X7_call_22 x1 x2 0 S
def o_X7_call_0 (x1 : Int32) (x2 : Int32) (S : Sx) : Prop := o_X7_isUmpire_0 x1 S ∧ (((b_X7_isUmpire_0 x1 S) = 0 → (o_X7_call_21 x1 x2 S)) ∧ (¬ (b_X7_isUmpire_0 x1 S) = 0 → (o_X7_isPitch_0 x2 S ∧ (((b_X7_isPitch_0 x2 S) = 0 → (o_X7_call_21 x1 x2 S)) ∧ (¬ (b_X7_isPitch_0 x2 S) = 0 → (o_X7_call_22 x1 x2 0 S))))))
set_option maxRecDepth 20000 in
theorem t_X7_call_0 (X : Cx p m c cX7_call 3 s args RX7 D q ad) (hr : meth.sig.returnType = some .int) (hlocks : meth.locks = false) (x1 : Int32) (x2 : Int32) (S : Sx) (rv : Int32) (S' : Sx) (ho : o_X7_call_0 x1 x2 S) (he : b_X7_call_0 x1 x2 S = (rv, S')) : Jg p l e rm_X7_call s m args below meth c 0 0 (MQ below (Qi D q ad d rv S' s.heap.size) args s 0 0 (AU ad s.heap.size)) D q ad d 3 0 [(0, .ref (ad 5)), (1, .int x1), (2, .int x2)] [] S := by
  unfold b_X7_call_0 at he
  unfold o_X7_call_0 at ho
  refine j_aload_n X 0 dX7_call_0 rfl ?_
  refine j_aload_n X 0 dX7_call_1 rfl ?_
  refine j_iload_n X 1 dX7_call_2 rfl ?_
  have h2 := ho.1
  have ho := ho.2
  refine j_callVi (rest := [.ref (ad 5)]) X (c_X7_isUmpire (cx_inj X) x1 S h2) cw_X7_126 kc25.1 (cl_25 kc25) rfl ⟨rfl, rfl, Nat.le_of_ble_eq_true rfl, Nat.le_of_ble_eq_true rfl⟩ rfl rfl (Nat.le_of_ble_eq_true rfl) ⟨Nat.le_of_ble_eq_true rfl, Nat.le_of_ble_eq_true rfl⟩ dX7_call_3 ?_
  refine j_if_eq X 21 dX7_call_6 (by decide) (fun h3 => ?_) (fun h3 => ?_)
  · rw [if_pos h3] at he
    have ho := ho.1 h3
    exact t_X7_call_21 X hr hlocks x1 x2 S _ _ ho he
  · rw [if_neg h3] at he
    have ho := ho.2 h3
    refine j_aload_n X 0 dX7_call_9 rfl ?_
    refine j_iload_n X 2 dX7_call_10 rfl ?_
    have h4 := ho.1
    have ho := ho.2
    refine j_callVi (rest := [.ref (ad 5)]) X (c_X7_isPitch (cx_inj X) x2 S h4) cw_X7_91 kc25.1 (cl_25 kc25) rfl ⟨rfl, rfl, Nat.le_of_ble_eq_true rfl, Nat.le_of_ble_eq_true rfl⟩ rfl rfl (Nat.le_of_ble_eq_true rfl) ⟨Nat.le_of_ble_eq_true rfl, Nat.le_of_ble_eq_true rfl⟩ dX7_call_11 ?_
    refine j_if_eq X 21 dX7_call_14 (by decide) (fun h5 => ?_) (fun h5 => ?_)
    · rw [if_pos h5] at he
      have ho := ho.1 h5
      exact t_X7_call_21 X hr hlocks x1 x2 S _ _ ho he
    · rw [if_neg h5] at he
      have ho := ho.2 h5
      refine j_iconst (v := 0) X dX7_call_17 (by decide) ?_
      refine j_goto X 22 dX7_call_18 (by decide) ?_
      exact t_X7_call_22 X hr hlocks x1 x2 0 S _ _ ho he
theorem c_X7_call {l : Launch} {D : va_G} {q : Nat → ClassId} {ad : Nat → Nat} {d : UInt64} (hI : inj4 ad) (x1 : Int32) (x2 : Int32) (S : Sx) (ho : o_X7_call_0 x1 x2 S) : CI l yX7_call cX7_call 3 .int rm_X7_call D q ad d [.ref (ad 5), .int x1, .int x2] S (b_X7_call_0 x1 x2 S).1 (b_X7_call_0 x1 x2 S).2 := ci_of hI (by decide +kernel) (Nat.le_of_ble_eq_true rfl) rfl (fun p e s m args below meth c X hr hlocks => t_X7_call_0 X hr hlocks x1 x2 S _ _ ho (pe _))
end
/-! RX7.rolls -/
abbrev rm_X7_rolls : Room := { frames := 1, cells := 0, slots := 0, locals := 23 }
section
variable {p : Program} {l : Launch} {e : Env} {s : State} {m : MethodId} {args : Array Value} {below : List Frame} {meth : Method} {c : Code} {D : va_G} {q : Nat → ClassId} {ad : Nat → Nat} {d : UInt64}
def b_X7_rolls_154  (S : Sx) : Sx := S
set_option maxRecDepth 20000 in
theorem t_X7_rolls_154 (X : Cx p m c cX7_rolls 4 s args RX7 D q ad) (hr : meth.sig.returnType = none) (hlocks : meth.locks = false) (S : Sx) (S' : Sx) (he : b_X7_rolls_154 S = S') : Jg p l e rm_X7_rolls s m args below meth c 0 0 (MQ below (Qv D q ad d S' s.heap.size) args s 0 0 (AU ad s.heap.size)) D q ad d 4 154 [] [] S := by
  unfold b_X7_rolls_154 at he
  exact j_vret X hr hlocks dX7_rolls_154 he
def b_X7_rolls_138 (v1 : Int32) (S : Sx) : Sx := if (b_X7_ofHorse_0 v1 3 S) = 0 then b_X7_rolls_154 (b_X7_laysHorse_0 v1 4 (-1) S) else b_X7_rolls_154 S
def o_X7_rolls_138 (v1 : Int32) (S : Sx) : Prop := o_X7_ofHorse_0 v1 3 S ∧ (((b_X7_ofHorse_0 v1 3 S) = 0 → (o_X7_laysHorse_0 v1 4 (-1) S ∧ True)) ∧ (¬ (b_X7_ofHorse_0 v1 3 S) = 0 → True))
set_option maxRecDepth 20000 in
theorem t_X7_rolls_138 (X : Cx p m c cX7_rolls 4 s args RX7 D q ad) (hr : meth.sig.returnType = none) (hlocks : meth.locks = false) (v1 : Int32) (S : Sx) (S' : Sx) (ho : o_X7_rolls_138 v1 S) (he : b_X7_rolls_138 v1 S = S') : Jg p l e rm_X7_rolls s m args below meth c 0 0 (MQ below (Qv D q ad d S' s.heap.size) args s 0 0 (AU ad s.heap.size)) D q ad d 4 138 [(0, .ref (ad 5)), (1, .int v1)] [] S := by
  unfold b_X7_rolls_138 at he
  unfold o_X7_rolls_138 at ho
  refine j_aload_n X 0 dX7_rolls_138 rfl ?_
  refine j_iload_n X 1 dX7_rolls_139 rfl ?_
  refine j_iconst (v := 3) X dX7_rolls_140 (by decide) ?_
  have h2 := ho.1
  have ho := ho.2
  refine j_callVi (rest := []) X (c_X7_ofHorse (cx_inj X) v1 3 S h2) cw_X7_85 kc25.1 (cl_25 kc25) rfl ⟨rfl, rfl, Nat.le_of_ble_eq_true rfl, Nat.le_of_ble_eq_true rfl⟩ rfl rfl (Nat.le_of_ble_eq_true rfl) ⟨Nat.le_of_ble_eq_true rfl, Nat.le_of_ble_eq_true rfl⟩ dX7_rolls_141 ?_
  refine j_if_ne X 154 dX7_rolls_144 (by decide) (fun h3 => ?_) (fun h3 => ?_)
  · rw [if_neg h3] at he
    have ho := ho.2 h3
    refine j_lv [] [] rfl ?_
    exact t_X7_rolls_154 X hr hlocks S _ he
  · rw [if_pos h3] at he
    have ho := ho.1 h3
    refine j_aload_n X 0 dX7_rolls_147 rfl ?_
    refine j_iload_n X 1 dX7_rolls_148 rfl ?_
    refine j_iconst (v := 4) X dX7_rolls_149 (by decide) ?_
    refine j_iconst (v := (-1)) X dX7_rolls_150 (by decide) ?_
    have h4 := ho.1
    have ho := ho.2
    refine j_callVv (rest := []) X (c_X7_laysHorse (cx_inj X) v1 4 (-1) S h4) cw_X7_104 kc25.1 (cl_25 kc25) rfl ⟨rfl, rfl, Nat.le_of_ble_eq_true rfl, Nat.le_of_ble_eq_true rfl⟩ rfl rfl (Nat.le_of_ble_eq_true rfl) ⟨Nat.le_of_ble_eq_true rfl, Nat.le_of_ble_eq_true rfl⟩ dX7_rolls_151 ?_
    refine j_lv [] [] rfl ?_
    exact t_X7_rolls_154 X hr hlocks (b_X7_laysHorse_0 v1 4 (-1) S) _ he
def b_X7_rolls_124 (v1 : Int32) (S : Sx) : Sx := b_X7_rolls_138 v1 (b_X7_laysHorse_0 v1 5 ((b_X7_ofHorse_0 v1 5 S) + 1) S)
def o_X7_rolls_124 (v1 : Int32) (S : Sx) : Prop := o_X7_ofHorse_0 v1 5 S ∧ (o_X7_laysHorse_0 v1 5 ((b_X7_ofHorse_0 v1 5 S) + 1) S ∧ (o_X7_rolls_138 v1 (b_X7_laysHorse_0 v1 5 ((b_X7_ofHorse_0 v1 5 S) + 1) S)))
set_option maxRecDepth 20000 in
theorem t_X7_rolls_124 (X : Cx p m c cX7_rolls 4 s args RX7 D q ad) (hr : meth.sig.returnType = none) (hlocks : meth.locks = false) (v1 : Int32) (S : Sx) (S' : Sx) (ho : o_X7_rolls_124 v1 S) (he : b_X7_rolls_124 v1 S = S') : Jg p l e rm_X7_rolls s m args below meth c 0 0 (MQ below (Qv D q ad d S' s.heap.size) args s 0 0 (AU ad s.heap.size)) D q ad d 4 124 [(0, .ref (ad 5)), (1, .int v1)] [] S := by
  unfold b_X7_rolls_124 at he
  unfold o_X7_rolls_124 at ho
  refine j_aload_n X 0 dX7_rolls_124 rfl ?_
  refine j_iload_n X 1 dX7_rolls_125 rfl ?_
  refine j_iconst (v := 5) X dX7_rolls_126 (by decide) ?_
  refine j_aload_n X 0 dX7_rolls_127 rfl ?_
  refine j_iload_n X 1 dX7_rolls_128 rfl ?_
  refine j_iconst (v := 5) X dX7_rolls_129 (by decide) ?_
  have h2 := ho.1
  have ho := ho.2
  refine j_callVi (rest := [.int 5, .int v1, .ref (ad 5)]) X (c_X7_ofHorse (cx_inj X) v1 5 S h2) cw_X7_85 kc25.1 (cl_25 kc25) rfl ⟨rfl, rfl, Nat.le_of_ble_eq_true rfl, Nat.le_of_ble_eq_true rfl⟩ rfl rfl (Nat.le_of_ble_eq_true rfl) ⟨Nat.le_of_ble_eq_true rfl, Nat.le_of_ble_eq_true rfl⟩ dX7_rolls_130 ?_
  refine j_iconst (v := 1) X dX7_rolls_133 (by decide) ?_
  refine j_iadd X dX7_rolls_134 ?_
  have h3 := ho.1
  have ho := ho.2
  refine j_callVv (rest := []) X (c_X7_laysHorse (cx_inj X) v1 5 ((b_X7_ofHorse_0 v1 5 S) + 1) S h3) cw_X7_104 kc25.1 (cl_25 kc25) rfl ⟨rfl, rfl, Nat.le_of_ble_eq_true rfl, Nat.le_of_ble_eq_true rfl⟩ rfl rfl (Nat.le_of_ble_eq_true rfl) ⟨Nat.le_of_ble_eq_true rfl, Nat.le_of_ble_eq_true rfl⟩ dX7_rolls_135 ?_
  exact t_X7_rolls_138 X hr hlocks v1 (b_X7_laysHorse_0 v1 5 ((b_X7_ofHorse_0 v1 5 S) + 1) S) _ ho he
def b_X7_rolls_110 (v1 : Int32) (S : Sx) : Sx := b_X7_rolls_124 v1 (b_X7_laysHorse_0 v1 3 ((b_X7_ofHorse_0 v1 3 S) - 1) S)
def o_X7_rolls_110 (v1 : Int32) (S : Sx) : Prop := o_X7_ofHorse_0 v1 3 S ∧ (o_X7_laysHorse_0 v1 3 ((b_X7_ofHorse_0 v1 3 S) - 1) S ∧ (o_X7_rolls_124 v1 (b_X7_laysHorse_0 v1 3 ((b_X7_ofHorse_0 v1 3 S) - 1) S)))
set_option maxRecDepth 20000 in
theorem t_X7_rolls_110 (X : Cx p m c cX7_rolls 4 s args RX7 D q ad) (hr : meth.sig.returnType = none) (hlocks : meth.locks = false) (v1 : Int32) (S : Sx) (S' : Sx) (ho : o_X7_rolls_110 v1 S) (he : b_X7_rolls_110 v1 S = S') : Jg p l e rm_X7_rolls s m args below meth c 0 0 (MQ below (Qv D q ad d S' s.heap.size) args s 0 0 (AU ad s.heap.size)) D q ad d 4 110 [(0, .ref (ad 5)), (1, .int v1)] [] S := by
  unfold b_X7_rolls_110 at he
  unfold o_X7_rolls_110 at ho
  refine j_aload_n X 0 dX7_rolls_110 rfl ?_
  refine j_iload_n X 1 dX7_rolls_111 rfl ?_
  refine j_iconst (v := 3) X dX7_rolls_112 (by decide) ?_
  refine j_aload_n X 0 dX7_rolls_113 rfl ?_
  refine j_iload_n X 1 dX7_rolls_114 rfl ?_
  refine j_iconst (v := 3) X dX7_rolls_115 (by decide) ?_
  have h2 := ho.1
  have ho := ho.2
  refine j_callVi (rest := [.int 3, .int v1, .ref (ad 5)]) X (c_X7_ofHorse (cx_inj X) v1 3 S h2) cw_X7_85 kc25.1 (cl_25 kc25) rfl ⟨rfl, rfl, Nat.le_of_ble_eq_true rfl, Nat.le_of_ble_eq_true rfl⟩ rfl rfl (Nat.le_of_ble_eq_true rfl) ⟨Nat.le_of_ble_eq_true rfl, Nat.le_of_ble_eq_true rfl⟩ dX7_rolls_116 ?_
  refine j_iconst (v := 1) X dX7_rolls_119 (by decide) ?_
  refine j_isub X dX7_rolls_120 ?_
  have h3 := ho.1
  have ho := ho.2
  refine j_callVv (rest := []) X (c_X7_laysHorse (cx_inj X) v1 3 ((b_X7_ofHorse_0 v1 3 S) - 1) S h3) cw_X7_104 kc25.1 (cl_25 kc25) rfl ⟨rfl, rfl, Nat.le_of_ble_eq_true rfl, Nat.le_of_ble_eq_true rfl⟩ rfl rfl (Nat.le_of_ble_eq_true rfl) ⟨Nat.le_of_ble_eq_true rfl, Nat.le_of_ble_eq_true rfl⟩ dX7_rolls_121 ?_
  exact t_X7_rolls_124 X hr hlocks v1 (b_X7_laysHorse_0 v1 3 ((b_X7_ofHorse_0 v1 3 S) - 1) S) _ ho he
def b_X7_rolls_91 (v1 : Int32) (S : Sx) : Sx := b_X7_rolls_110 v1 (b_X7_laysHorse_0 v1 2 (b_X7_less_0 20 ((b_X7_ofHorse_0 v1 2 S) + 2) S) S)
def o_X7_rolls_91 (v1 : Int32) (S : Sx) : Prop := o_X7_ofHorse_0 v1 2 S ∧ (o_X7_laysHorse_0 v1 2 (b_X7_less_0 20 ((b_X7_ofHorse_0 v1 2 S) + 2) S) S ∧ (o_X7_rolls_110 v1 (b_X7_laysHorse_0 v1 2 (b_X7_less_0 20 ((b_X7_ofHorse_0 v1 2 S) + 2) S) S)))
set_option maxRecDepth 20000 in
theorem t_X7_rolls_91 (X : Cx p m c cX7_rolls 4 s args RX7 D q ad) (hr : meth.sig.returnType = none) (hlocks : meth.locks = false) (v1 : Int32) (S : Sx) (S' : Sx) (ho : o_X7_rolls_91 v1 S) (he : b_X7_rolls_91 v1 S = S') : Jg p l e rm_X7_rolls s m args below meth c 0 0 (MQ below (Qv D q ad d S' s.heap.size) args s 0 0 (AU ad s.heap.size)) D q ad d 4 91 [(0, .ref (ad 5)), (1, .int v1)] [] S := by
  unfold b_X7_rolls_91 at he
  unfold o_X7_rolls_91 at ho
  refine j_aload_n X 0 dX7_rolls_91 rfl ?_
  refine j_iload_n X 1 dX7_rolls_92 rfl ?_
  refine j_iconst (v := 2) X dX7_rolls_93 (by decide) ?_
  refine j_bipush (v := 20) X dX7_rolls_94 (by decide) ?_
  refine j_aload_n X 0 dX7_rolls_96 rfl ?_
  refine j_iload_n X 1 dX7_rolls_97 rfl ?_
  refine j_iconst (v := 2) X dX7_rolls_98 (by decide) ?_
  have h2 := ho.1
  have ho := ho.2
  refine j_callVi (rest := [.int 20, .int 2, .int v1, .ref (ad 5)]) X (c_X7_ofHorse (cx_inj X) v1 2 S h2) cw_X7_85 kc25.1 (cl_25 kc25) rfl ⟨rfl, rfl, Nat.le_of_ble_eq_true rfl, Nat.le_of_ble_eq_true rfl⟩ rfl rfl (Nat.le_of_ble_eq_true rfl) ⟨Nat.le_of_ble_eq_true rfl, Nat.le_of_ble_eq_true rfl⟩ dX7_rolls_99 ?_
  refine j_iconst (v := 2) X dX7_rolls_102 (by decide) ?_
  refine j_iadd X dX7_rolls_103 ?_
  refine j_callSi (rest := [.int 2, .int v1, .ref (ad 5)]) X (c_X7_less (cx_inj X) 20 ((b_X7_ofHorse_0 v1 2 S) + 2) S) cw_X7_120 ⟨rfl, rfl, Nat.le_of_ble_eq_true rfl, Nat.le_of_ble_eq_true rfl⟩ rfl rfl (Nat.le_of_ble_eq_true rfl) ⟨Nat.le_of_ble_eq_true rfl, Nat.le_of_ble_eq_true rfl⟩ dX7_rolls_104 ?_
  have h3 := ho.1
  have ho := ho.2
  refine j_callVv (rest := []) X (c_X7_laysHorse (cx_inj X) v1 2 (b_X7_less_0 20 ((b_X7_ofHorse_0 v1 2 S) + 2) S) S h3) cw_X7_104 kc25.1 (cl_25 kc25) rfl ⟨rfl, rfl, Nat.le_of_ble_eq_true rfl, Nat.le_of_ble_eq_true rfl⟩ rfl rfl (Nat.le_of_ble_eq_true rfl) ⟨Nat.le_of_ble_eq_true rfl, Nat.le_of_ble_eq_true rfl⟩ dX7_rolls_107 ?_
  exact t_X7_rolls_110 X hr hlocks v1 (b_X7_laysHorse_0 v1 2 (b_X7_less_0 20 ((b_X7_ofHorse_0 v1 2 S) + 2) S) S) _ ho he
def b_X7_rolls_53 (v1 : Int32) (v2 : Int32) (S : Sx) : Sx := if (b_X7_ofHorse_0 v1 1 S) = 0 then b_X7_rolls_91 v1 (b_X7_lays_0 v2 2 (b_X7_less_0 99 (((b_X7_of_0 v2 2 S) + ((b_X7_of_0 v2 0 S) / 10)) + 1) S) S) else b_X7_rolls_91 v1 S
def o_X7_rolls_53 (v1 : Int32) (v2 : Int32) (S : Sx) : Prop := o_X7_ofHorse_0 v1 1 S ∧ (((b_X7_ofHorse_0 v1 1 S) = 0 → (o_X7_of_0 v2 2 S ∧ (o_X7_of_0 v2 0 S ∧ (o_X7_lays_0 v2 2 (b_X7_less_0 99 (((b_X7_of_0 v2 2 S) + ((b_X7_of_0 v2 0 S) / 10)) + 1) S) S ∧ (o_X7_rolls_91 v1 (b_X7_lays_0 v2 2 (b_X7_less_0 99 (((b_X7_of_0 v2 2 S) + ((b_X7_of_0 v2 0 S) / 10)) + 1) S) S)))))) ∧ (¬ (b_X7_ofHorse_0 v1 1 S) = 0 → (o_X7_rolls_91 v1 S)))
set_option maxRecDepth 20000 in
theorem t_X7_rolls_53 (X : Cx p m c cX7_rolls 4 s args RX7 D q ad) (hr : meth.sig.returnType = none) (hlocks : meth.locks = false) (v1 : Int32) (v2 : Int32) (S : Sx) (S' : Sx) (ho : o_X7_rolls_53 v1 v2 S) (he : b_X7_rolls_53 v1 v2 S = S') : Jg p l e rm_X7_rolls s m args below meth c 0 0 (MQ below (Qv D q ad d S' s.heap.size) args s 0 0 (AU ad s.heap.size)) D q ad d 4 53 [(0, .ref (ad 5)), (1, .int v1), (2, .int v2)] [] S := by
  unfold b_X7_rolls_53 at he
  unfold o_X7_rolls_53 at ho
  refine j_aload_n X 0 dX7_rolls_53 rfl ?_
  refine j_iload_n X 1 dX7_rolls_54 rfl ?_
  refine j_iconst (v := 1) X dX7_rolls_55 (by decide) ?_
  have h2 := ho.1
  have ho := ho.2
  refine j_callVi (rest := []) X (c_X7_ofHorse (cx_inj X) v1 1 S h2) cw_X7_85 kc25.1 (cl_25 kc25) rfl ⟨rfl, rfl, Nat.le_of_ble_eq_true rfl, Nat.le_of_ble_eq_true rfl⟩ rfl rfl (Nat.le_of_ble_eq_true rfl) ⟨Nat.le_of_ble_eq_true rfl, Nat.le_of_ble_eq_true rfl⟩ dX7_rolls_56 ?_
  refine j_if_ne X 91 dX7_rolls_59 (by decide) (fun h3 => ?_) (fun h3 => ?_)
  · rw [if_neg h3] at he
    have ho := ho.2 h3
    refine j_lv [0, 1] [(0, .ref (ad 5)), (1, .int v1)] rfl ?_
    exact t_X7_rolls_91 X hr hlocks v1 S _ ho he
  · rw [if_pos h3] at he
    have ho := ho.1 h3
    refine j_aload_n X 0 dX7_rolls_62 rfl ?_
    refine j_iload_n X 2 dX7_rolls_63 rfl ?_
    refine j_iconst (v := 2) X dX7_rolls_64 (by decide) ?_
    refine j_bipush (v := 99) X dX7_rolls_65 (by decide) ?_
    refine j_aload_n X 0 dX7_rolls_67 rfl ?_
    refine j_iload_n X 2 dX7_rolls_68 rfl ?_
    refine j_iconst (v := 2) X dX7_rolls_69 (by decide) ?_
    have h4 := ho.1
    have ho := ho.2
    refine j_callVi (rest := [.int 99, .int 2, .int v2, .ref (ad 5)]) X (c_X7_of (cx_inj X) v2 2 S h4) cw_X7_98 kc25.1 (cl_25 kc25) rfl ⟨rfl, rfl, Nat.le_of_ble_eq_true rfl, Nat.le_of_ble_eq_true rfl⟩ rfl rfl (Nat.le_of_ble_eq_true rfl) ⟨Nat.le_of_ble_eq_true rfl, Nat.le_of_ble_eq_true rfl⟩ dX7_rolls_70 ?_
    refine j_aload_n X 0 dX7_rolls_73 rfl ?_
    refine j_iload_n X 2 dX7_rolls_74 rfl ?_
    refine j_iconst (v := 0) X dX7_rolls_75 (by decide) ?_
    have h5 := ho.1
    have ho := ho.2
    refine j_callVi (rest := [.int (b_X7_of_0 v2 2 S), .int 99, .int 2, .int v2, .ref (ad 5)]) X (c_X7_of (cx_inj X) v2 0 S h5) cw_X7_98 kc25.1 (cl_25 kc25) rfl ⟨rfl, rfl, Nat.le_of_ble_eq_true rfl, Nat.le_of_ble_eq_true rfl⟩ rfl rfl (Nat.le_of_ble_eq_true rfl) ⟨Nat.le_of_ble_eq_true rfl, Nat.le_of_ble_eq_true rfl⟩ dX7_rolls_76 ?_
    refine j_bipush (v := 10) X dX7_rolls_79 (by decide) ?_
    refine j_idiv X dX7_rolls_81 (by decide) ?_
    refine j_iadd X dX7_rolls_82 ?_
    refine j_iconst (v := 1) X dX7_rolls_83 (by decide) ?_
    refine j_iadd X dX7_rolls_84 ?_
    refine j_callSi (rest := [.int 2, .int v2, .ref (ad 5)]) X (c_X7_less (cx_inj X) 99 (((b_X7_of_0 v2 2 S) + ((b_X7_of_0 v2 0 S) / 10)) + 1) S) cw_X7_120 ⟨rfl, rfl, Nat.le_of_ble_eq_true rfl, Nat.le_of_ble_eq_true rfl⟩ rfl rfl (Nat.le_of_ble_eq_true rfl) ⟨Nat.le_of_ble_eq_true rfl, Nat.le_of_ble_eq_true rfl⟩ dX7_rolls_85 ?_
    have h6 := ho.1
    have ho := ho.2
    refine j_callVv (rest := []) X (c_X7_lays (cx_inj X) v2 2 (b_X7_less_0 99 (((b_X7_of_0 v2 2 S) + ((b_X7_of_0 v2 0 S) / 10)) + 1) S) S h6) cw_X7_81 kc25.1 (cl_25 kc25) rfl ⟨rfl, rfl, Nat.le_of_ble_eq_true rfl, Nat.le_of_ble_eq_true rfl⟩ rfl rfl (Nat.le_of_ble_eq_true rfl) ⟨Nat.le_of_ble_eq_true rfl, Nat.le_of_ble_eq_true rfl⟩ dX7_rolls_88 ?_
    refine j_lv [0, 1] [(0, .ref (ad 5)), (1, .int v1)] rfl ?_
    exact t_X7_rolls_91 X hr hlocks v1 (b_X7_lays_0 v2 2 (b_X7_less_0 99 (((b_X7_of_0 v2 2 S) + ((b_X7_of_0 v2 0 S) / 10)) + 1) S) S) _ ho he
def b_X7_rolls_33 (v1 : Int32) (v2 : Int32) (v3 : Int32) (S : Sx) : Sx := b_X7_rolls_53 v1 v2 (b_X7_lays_0 v2 0 (b_X7_more_0 0 ((b_X7_of_0 v2 0 S) - (v3 / 2)) S) S)
def o_X7_rolls_33 (v1 : Int32) (v2 : Int32) (v3 : Int32) (S : Sx) : Prop := o_X7_of_0 v2 0 S ∧ (o_X7_lays_0 v2 0 (b_X7_more_0 0 ((b_X7_of_0 v2 0 S) - (v3 / 2)) S) S ∧ (o_X7_rolls_53 v1 v2 (b_X7_lays_0 v2 0 (b_X7_more_0 0 ((b_X7_of_0 v2 0 S) - (v3 / 2)) S) S)))
set_option maxRecDepth 20000 in
theorem t_X7_rolls_33 (X : Cx p m c cX7_rolls 4 s args RX7 D q ad) (hr : meth.sig.returnType = none) (hlocks : meth.locks = false) (v1 : Int32) (v2 : Int32) (v3 : Int32) (S : Sx) (S' : Sx) (ho : o_X7_rolls_33 v1 v2 v3 S) (he : b_X7_rolls_33 v1 v2 v3 S = S') : Jg p l e rm_X7_rolls s m args below meth c 0 0 (MQ below (Qv D q ad d S' s.heap.size) args s 0 0 (AU ad s.heap.size)) D q ad d 4 33 [(0, .ref (ad 5)), (1, .int v1), (2, .int v2), (3, .int v3)] [] S := by
  unfold b_X7_rolls_33 at he
  unfold o_X7_rolls_33 at ho
  refine j_aload_n X 0 dX7_rolls_33 rfl ?_
  refine j_iload_n X 2 dX7_rolls_34 rfl ?_
  refine j_iconst (v := 0) X dX7_rolls_35 (by decide) ?_
  refine j_iconst (v := 0) X dX7_rolls_36 (by decide) ?_
  refine j_aload_n X 0 dX7_rolls_37 rfl ?_
  refine j_iload_n X 2 dX7_rolls_38 rfl ?_
  refine j_iconst (v := 0) X dX7_rolls_39 (by decide) ?_
  have h2 := ho.1
  have ho := ho.2
  refine j_callVi (rest := [.int 0, .int 0, .int v2, .ref (ad 5)]) X (c_X7_of (cx_inj X) v2 0 S h2) cw_X7_98 kc25.1 (cl_25 kc25) rfl ⟨rfl, rfl, Nat.le_of_ble_eq_true rfl, Nat.le_of_ble_eq_true rfl⟩ rfl rfl (Nat.le_of_ble_eq_true rfl) ⟨Nat.le_of_ble_eq_true rfl, Nat.le_of_ble_eq_true rfl⟩ dX7_rolls_40 ?_
  refine j_iload_n X 3 dX7_rolls_43 rfl ?_
  refine j_iconst (v := 2) X dX7_rolls_44 (by decide) ?_
  refine j_idiv X dX7_rolls_45 (by decide) ?_
  refine j_isub X dX7_rolls_46 ?_
  refine j_callSi (rest := [.int 0, .int v2, .ref (ad 5)]) X (c_X7_more (cx_inj X) 0 ((b_X7_of_0 v2 0 S) - (v3 / 2)) S) cw_X7_138 ⟨rfl, rfl, Nat.le_of_ble_eq_true rfl, Nat.le_of_ble_eq_true rfl⟩ rfl rfl (Nat.le_of_ble_eq_true rfl) ⟨Nat.le_of_ble_eq_true rfl, Nat.le_of_ble_eq_true rfl⟩ dX7_rolls_47 ?_
  have h3 := ho.1
  have ho := ho.2
  refine j_callVv (rest := []) X (c_X7_lays (cx_inj X) v2 0 (b_X7_more_0 0 ((b_X7_of_0 v2 0 S) - (v3 / 2)) S) S h3) cw_X7_81 kc25.1 (cl_25 kc25) rfl ⟨rfl, rfl, Nat.le_of_ble_eq_true rfl, Nat.le_of_ble_eq_true rfl⟩ rfl rfl (Nat.le_of_ble_eq_true rfl) ⟨Nat.le_of_ble_eq_true rfl, Nat.le_of_ble_eq_true rfl⟩ dX7_rolls_50 ?_
  refine j_lv [0, 1, 2] [(0, .ref (ad 5)), (1, .int v1), (2, .int v2)] rfl ?_
  exact t_X7_rolls_53 X hr hlocks v1 v2 (b_X7_lays_0 v2 0 (b_X7_more_0 0 ((b_X7_of_0 v2 0 S) - (v3 / 2)) S) S) _ ho he
def b_X7_rolls_0 (x1 : Int32) (S : Sx) : Sx := b_X7_rolls_33 x1 (b_X7_ofHorse_0 x1 4 S) (b_X7_ofHorse_0 x1 0 S) (b_X7_lays_0 (b_X7_ofHorse_0 x1 4 S) 1 (b_X7_less_0 99 ((b_X7_of_0 (b_X7_ofHorse_0 x1 4 S) 1 S) + (b_X7_ofHorse_0 x1 0 S)) S) S)
def o_X7_rolls_0 (x1 : Int32) (S : Sx) : Prop := o_X7_ofHorse_0 x1 4 S ∧ (o_X7_ofHorse_0 x1 0 S ∧ (o_X7_of_0 (b_X7_ofHorse_0 x1 4 S) 1 S ∧ (o_X7_lays_0 (b_X7_ofHorse_0 x1 4 S) 1 (b_X7_less_0 99 ((b_X7_of_0 (b_X7_ofHorse_0 x1 4 S) 1 S) + (b_X7_ofHorse_0 x1 0 S)) S) S ∧ (o_X7_rolls_33 x1 (b_X7_ofHorse_0 x1 4 S) (b_X7_ofHorse_0 x1 0 S) (b_X7_lays_0 (b_X7_ofHorse_0 x1 4 S) 1 (b_X7_less_0 99 ((b_X7_of_0 (b_X7_ofHorse_0 x1 4 S) 1 S) + (b_X7_ofHorse_0 x1 0 S)) S) S)))))
set_option maxRecDepth 20000 in
theorem t_X7_rolls_0 (X : Cx p m c cX7_rolls 4 s args RX7 D q ad) (hr : meth.sig.returnType = none) (hlocks : meth.locks = false) (x1 : Int32) (S : Sx) (S' : Sx) (ho : o_X7_rolls_0 x1 S) (he : b_X7_rolls_0 x1 S = S') : Jg p l e rm_X7_rolls s m args below meth c 0 0 (MQ below (Qv D q ad d S' s.heap.size) args s 0 0 (AU ad s.heap.size)) D q ad d 4 0 [(0, .ref (ad 5)), (1, .int x1)] [] S := by
  unfold b_X7_rolls_0 at he
  unfold o_X7_rolls_0 at ho
  refine j_aload_n X 0 dX7_rolls_0 rfl ?_
  refine j_iload_n X 1 dX7_rolls_1 rfl ?_
  refine j_iconst (v := 4) X dX7_rolls_2 (by decide) ?_
  have h2 := ho.1
  have ho := ho.2
  refine j_callVi (rest := []) X (c_X7_ofHorse (cx_inj X) x1 4 S h2) cw_X7_85 kc25.1 (cl_25 kc25) rfl ⟨rfl, rfl, Nat.le_of_ble_eq_true rfl, Nat.le_of_ble_eq_true rfl⟩ rfl rfl (Nat.le_of_ble_eq_true rfl) ⟨Nat.le_of_ble_eq_true rfl, Nat.le_of_ble_eq_true rfl⟩ dX7_rolls_3 ?_
  refine j_istore_n X [(2, .int (b_X7_ofHorse_0 x1 4 S)), (0, .ref (ad 5)), (1, .int x1)] dX7_rolls_6 (by decide) rfl ?_
  refine j_aload_n X 1 dX7_rolls_7 rfl ?_
  refine j_iload_n X 2 dX7_rolls_8 rfl ?_
  refine j_iconst (v := 0) X dX7_rolls_9 (by decide) ?_
  have h3 := ho.1
  have ho := ho.2
  refine j_callVi (rest := []) X (c_X7_ofHorse (cx_inj X) x1 0 S h3) cw_X7_85 kc25.1 (cl_25 kc25) rfl ⟨rfl, rfl, Nat.le_of_ble_eq_true rfl, Nat.le_of_ble_eq_true rfl⟩ rfl rfl (Nat.le_of_ble_eq_true rfl) ⟨Nat.le_of_ble_eq_true rfl, Nat.le_of_ble_eq_true rfl⟩ dX7_rolls_10 ?_
  refine j_istore_n X [(3, .int (b_X7_ofHorse_0 x1 0 S)), (2, .int (b_X7_ofHorse_0 x1 4 S)), (0, .ref (ad 5)), (1, .int x1)] dX7_rolls_13 (by decide) rfl ?_
  refine j_aload_n X 2 dX7_rolls_14 rfl ?_
  refine j_iload_n X 1 dX7_rolls_15 rfl ?_
  refine j_iconst (v := 1) X dX7_rolls_16 (by decide) ?_
  refine j_bipush (v := 99) X dX7_rolls_17 (by decide) ?_
  refine j_aload_n X 2 dX7_rolls_19 rfl ?_
  refine j_iload_n X 1 dX7_rolls_20 rfl ?_
  refine j_iconst (v := 1) X dX7_rolls_21 (by decide) ?_
  have h4 := ho.1
  have ho := ho.2
  refine j_callVi (rest := [.int 99, .int 1, .int (b_X7_ofHorse_0 x1 4 S), .ref (ad 5)]) X (c_X7_of (cx_inj X) (b_X7_ofHorse_0 x1 4 S) 1 S h4) cw_X7_98 kc25.1 (cl_25 kc25) rfl ⟨rfl, rfl, Nat.le_of_ble_eq_true rfl, Nat.le_of_ble_eq_true rfl⟩ rfl rfl (Nat.le_of_ble_eq_true rfl) ⟨Nat.le_of_ble_eq_true rfl, Nat.le_of_ble_eq_true rfl⟩ dX7_rolls_22 ?_
  refine j_iload_n X 0 dX7_rolls_25 rfl ?_
  refine j_iadd X dX7_rolls_26 ?_
  refine j_callSi (rest := [.int 1, .int (b_X7_ofHorse_0 x1 4 S), .ref (ad 5)]) X (c_X7_less (cx_inj X) 99 ((b_X7_of_0 (b_X7_ofHorse_0 x1 4 S) 1 S) + (b_X7_ofHorse_0 x1 0 S)) S) cw_X7_120 ⟨rfl, rfl, Nat.le_of_ble_eq_true rfl, Nat.le_of_ble_eq_true rfl⟩ rfl rfl (Nat.le_of_ble_eq_true rfl) ⟨Nat.le_of_ble_eq_true rfl, Nat.le_of_ble_eq_true rfl⟩ dX7_rolls_27 ?_
  have h5 := ho.1
  have ho := ho.2
  refine j_callVv (rest := []) X (c_X7_lays (cx_inj X) (b_X7_ofHorse_0 x1 4 S) 1 (b_X7_less_0 99 ((b_X7_of_0 (b_X7_ofHorse_0 x1 4 S) 1 S) + (b_X7_ofHorse_0 x1 0 S)) S) S h5) cw_X7_81 kc25.1 (cl_25 kc25) rfl ⟨rfl, rfl, Nat.le_of_ble_eq_true rfl, Nat.le_of_ble_eq_true rfl⟩ rfl rfl (Nat.le_of_ble_eq_true rfl) ⟨Nat.le_of_ble_eq_true rfl, Nat.le_of_ble_eq_true rfl⟩ dX7_rolls_30 ?_
  refine j_lv [2, 3, 1, 0] [(0, .ref (ad 5)), (1, .int x1), (2, .int (b_X7_ofHorse_0 x1 4 S)), (3, .int (b_X7_ofHorse_0 x1 0 S))] rfl ?_
  exact t_X7_rolls_33 X hr hlocks x1 (b_X7_ofHorse_0 x1 4 S) (b_X7_ofHorse_0 x1 0 S) (b_X7_lays_0 (b_X7_ofHorse_0 x1 4 S) 1 (b_X7_less_0 99 ((b_X7_of_0 (b_X7_ofHorse_0 x1 4 S) 1 S) + (b_X7_ofHorse_0 x1 0 S)) S) S) _ ho he
theorem c_X7_rolls {l : Launch} {D : va_G} {q : Nat → ClassId} {ad : Nat → Nat} {d : UInt64} (hI : inj4 ad) (x1 : Int32) (S : Sx) (ho : o_X7_rolls_0 x1 S) : CV l yX7_rolls cX7_rolls 4 rm_X7_rolls D q ad d [.ref (ad 5), .int x1] S (b_X7_rolls_0 x1 S) := cv_of hI (by decide +kernel) (Nat.le_of_ble_eq_true rfl) rfl (fun p e s m args below meth c X hr hlocks => t_X7_rolls_0 X hr hlocks x1 S _ ho rfl)
end
/-! RX7.hourGoes -/
abbrev rm_X7_hourGoes : Room := { frames := 2, cells := 0, slots := 0, locals := 46 }
section
variable {p : Program} {l : Launch} {e : Env} {s : State} {m : MethodId} {args : Array Value} {below : List Frame} {meth : Method} {c : Code} {D : va_G} {q : Nat → ClassId} {ad : Nat → Nat} {d : UInt64}
def b_X7_hourGoes_153 (v1 : Int32) (S : Sx) : Int32 × Sx := (v1, S)
set_option maxRecDepth 20000 in
theorem t_X7_hourGoes_153 (X : Cx p m c cX7_hourGoes 4 s args RX7 D q ad) (hr : meth.sig.returnType = some .int) (hlocks : meth.locks = false) (v1 : Int32) (S : Sx) (rv : Int32) (S' : Sx) (he : b_X7_hourGoes_153 v1 S = (rv, S')) : Jg p l e rm_X7_hourGoes s m args below meth c 0 0 (MQ below (Qi D q ad d rv S' s.heap.size) args s 0 0 (AU ad s.heap.size)) D q ad d 4 153 [(1, .int v1)] [] S := by
  unfold b_X7_hourGoes_153 at he
  refine j_iload_n X 0 dX7_hourGoes_153 rfl ?_
  exact j_iret X hr hlocks dX7_hourGoes_154 (congrArg Prod.fst he) (congrArg Prod.snd he)
def b_X7_hourGoes_137 (kk : Int32 → Int32 → Sx → Int32 × Sx) (v1 : Int32) (v2 : Int32) (S : Sx) : Int32 × Sx := kk v1 (v2 + 1) S
def o_X7_hourGoes_137 (ok : Int32 → Int32 → Sx → Prop) (v1 : Int32) (v2 : Int32) (S : Sx) : Prop := ok v1 (v2 + 1) S
set_option maxRecDepth 20000 in
theorem t_X7_hourGoes_137 (X : Cx p m c cX7_hourGoes 4 s args RX7 D q ad) (hr : meth.sig.returnType = some .int) (hlocks : meth.locks = false) (kk : Int32 → Int32 → Sx → Int32 × Sx) (ok : Int32 → Int32 → Sx → Prop) (hkk : ∀ (v1 : Int32) (v2 : Int32) (S : Sx) (rv : Int32) (S' : Sx) (ho : ok v1 v2 S) (he : kk v1 v2 S = (rv, S')), Jg p l e rm_X7_hourGoes s m args below meth c 0 0 (MQ below (Qi D q ad d rv S' s.heap.size) args s 0 0 (AU ad s.heap.size)) D q ad d 4 61 [(0, .ref (ad 5)), (1, .int v1), (2, .int v2)] [] S) (v1 : Int32) (v2 : Int32) (S : Sx) (rv : Int32) (S' : Sx) (ho : o_X7_hourGoes_137 ok v1 v2 S) (he : b_X7_hourGoes_137 kk v1 v2 S = (rv, S')) : Jg p l e rm_X7_hourGoes s m args below meth c 0 0 (MQ below (Qi D q ad d rv S' s.heap.size) args s 0 0 (AU ad s.heap.size)) D q ad d 4 137 [(0, .ref (ad 5)), (1, .int v1), (2, .int v2)] [] S := by
  unfold b_X7_hourGoes_137 at he
  unfold o_X7_hourGoes_137 at ho
  refine j_iinc X 2 (v2 + 1) [(2, .int (v2 + 1)), (0, .ref (ad 5)), (1, .int v1)] dX7_hourGoes_137 rfl rfl (by decide) rfl ?_
  refine j_goto X 61 dX7_hourGoes_140 (by decide) ?_
  refine j_lv [1, 2, 0] [(0, .ref (ad 5)), (1, .int v1), (2, .int (v2 + 1))] rfl ?_
  exact hkk v1 (v2 + 1) S _ _ ho he
def b_X7_hourGoes_131 (kk : Int32 → Int32 → Sx → Int32 × Sx) (v1 : Int32) (v2 : Int32) (w0 : Int32) (w1 : Int32) (w2 : Int32) (w3 : Int32) (S : Sx) : Int32 × Sx := b_X7_hourGoes_137 kk v1 v2 (b_X7_lays_0 w3 w2 (b_X7_more_0 w1 w0 S) S)
def o_X7_hourGoes_131 (ok : Int32 → Int32 → Sx → Prop) (v1 : Int32) (v2 : Int32) (w0 : Int32) (w1 : Int32) (w2 : Int32) (w3 : Int32) (S : Sx) : Prop := o_X7_lays_0 w3 w2 (b_X7_more_0 w1 w0 S) S ∧ (o_X7_hourGoes_137 ok v1 v2 (b_X7_lays_0 w3 w2 (b_X7_more_0 w1 w0 S) S))
set_option maxRecDepth 20000 in
theorem t_X7_hourGoes_131 (X : Cx p m c cX7_hourGoes 4 s args RX7 D q ad) (hr : meth.sig.returnType = some .int) (hlocks : meth.locks = false) (kk : Int32 → Int32 → Sx → Int32 × Sx) (ok : Int32 → Int32 → Sx → Prop) (hkk : ∀ (v1 : Int32) (v2 : Int32) (S : Sx) (rv : Int32) (S' : Sx) (ho : ok v1 v2 S) (he : kk v1 v2 S = (rv, S')), Jg p l e rm_X7_hourGoes s m args below meth c 0 0 (MQ below (Qi D q ad d rv S' s.heap.size) args s 0 0 (AU ad s.heap.size)) D q ad d 4 61 [(0, .ref (ad 5)), (1, .int v1), (2, .int v2)] [] S) (v1 : Int32) (v2 : Int32) (w0 : Int32) (w1 : Int32) (w2 : Int32) (w3 : Int32) (S : Sx) (rv : Int32) (S' : Sx) (ho : o_X7_hourGoes_131 ok v1 v2 w0 w1 w2 w3 S) (he : b_X7_hourGoes_131 kk v1 v2 w0 w1 w2 w3 S = (rv, S')) : Jg p l e rm_X7_hourGoes s m args below meth c 0 0 (MQ below (Qi D q ad d rv S' s.heap.size) args s 0 0 (AU ad s.heap.size)) D q ad d 4 131 [(0, .ref (ad 5)), (1, .int v1), (2, .int v2)] [.int w0, .int w1, .int w2, .int w3, .ref (ad 5)] S := by
  unfold b_X7_hourGoes_131 at he
  unfold o_X7_hourGoes_131 at ho
  refine j_callSi (rest := [.int w2, .int w3, .ref (ad 5)]) X (c_X7_more (cx_inj X) w1 w0 S) cw_X7_138 ⟨rfl, rfl, Nat.le_of_ble_eq_true rfl, Nat.le_of_ble_eq_true rfl⟩ rfl rfl (Nat.le_of_ble_eq_true rfl) ⟨Nat.le_of_ble_eq_true rfl, Nat.le_of_ble_eq_true rfl⟩ dX7_hourGoes_131 ?_
  have h2 := ho.1
  have ho := ho.2
  refine j_callVv (rest := []) X (c_X7_lays (cx_inj X) w3 w2 (b_X7_more_0 w1 w0 S) S h2) cw_X7_81 kc25.1 (cl_25 kc25) rfl ⟨rfl, rfl, Nat.le_of_ble_eq_true rfl, Nat.le_of_ble_eq_true rfl⟩ rfl rfl (Nat.le_of_ble_eq_true rfl) ⟨Nat.le_of_ble_eq_true rfl, Nat.le_of_ble_eq_true rfl⟩ dX7_hourGoes_134 ?_
  exact t_X7_hourGoes_137 X hr hlocks kk ok hkk v1 v2 (b_X7_lays_0 w3 w2 (b_X7_more_0 w1 w0 S) S) _ _ ho he
def b_X7_hourGoes_61 : Nat → Int32 → Int32 → Sx → Int32 × Sx
  | 0, _, _, S => (0, S)
  | n + 1, v1, v2, S => if (S 6 ((50 : Int32).toNatClampNeg)) ≤ v2 then b_X7_hourGoes_153 v1 (up2 S 6 ((0 : Int32).toNatClampNeg) ((S 6 ((0 : Int32).toNatClampNeg)) + 1)) else if (b_X7_of_0 v2 3 S) = 1 then b_X7_hourGoes_137 (b_X7_hourGoes_61 n) v1 v2 S else b_X7_hourGoes_131 (b_X7_hourGoes_61 n) v1 v2 ((b_X7_less_0 99 ((b_X7_of_0 v2 0 S) + (4 * (S 6 ((2 + (b_X7_hourOfDay_0 S)).toNatClampNeg)))) S) - ((S 6 ((26 + (b_X7_hourOfDay_0 S)).toNatClampNeg)) / 2)) 0 0 v2 S
def o_X7_hourGoes_61 : Nat → Int32 → Int32 → Sx → Prop
  | 0, _, _, _ => False
  | n + 1, v1, v2, S => ((S 6 ((50 : Int32).toNatClampNeg)) ≤ v2 → True) ∧ (¬ (S 6 ((50 : Int32).toNatClampNeg)) ≤ v2 → (o_X7_of_0 v2 3 S ∧ (((b_X7_of_0 v2 3 S) = 1 → (o_X7_hourGoes_137 (o_X7_hourGoes_61 n) v1 v2 S)) ∧ (¬ (b_X7_of_0 v2 3 S) = 1 → (o_X7_of_0 v2 0 S ∧ (vp_in (2 + (b_X7_hourOfDay_0 S)) 275 ∧ (vp_in (26 + (b_X7_hourOfDay_0 S)) 275 ∧ (o_X7_hourGoes_131 (o_X7_hourGoes_61 n) v1 v2 ((b_X7_less_0 99 ((b_X7_of_0 v2 0 S) + (4 * (S 6 ((2 + (b_X7_hourOfDay_0 S)).toNatClampNeg)))) S) - ((S 6 ((26 + (b_X7_hourOfDay_0 S)).toNatClampNeg)) / 2)) 0 0 v2 S))))))))
set_option maxRecDepth 20000 in
theorem t_X7_hourGoes_61 (X : Cx p m c cX7_hourGoes 4 s args RX7 D q ad) (hr : meth.sig.returnType = some .int) (hlocks : meth.locks = false) : ∀ (n : Nat) (v1 : Int32) (v2 : Int32) (S : Sx) (rv : Int32) (S' : Sx) (ho : o_X7_hourGoes_61 n v1 v2 S) (he : b_X7_hourGoes_61 n v1 v2 S = (rv, S')), Jg p l e rm_X7_hourGoes s m args below meth c 0 0 (MQ below (Qi D q ad d rv S' s.heap.size) args s 0 0 (AU ad s.heap.size)) D q ad d 4 61 [(0, .ref (ad 5)), (1, .int v1), (2, .int v2)] [] S := by
  intro n
  induction n with
  | zero =>
    intro v1 v2 S rv S' ho he
    unfold o_X7_hourGoes_61 at ho
    exact ho.elim
  | succ n ih =>
    intro v1 v2 S rv S' ho he
    unfold b_X7_hourGoes_61 at he
    unfold o_X7_hourGoes_61 at ho
    refine j_iload_n X 2 dX7_hourGoes_61 rfl ?_
    refine j_aload_n X 0 dX7_hourGoes_62 rfl ?_
    refine gf_25_0 X m_fl_X7_7 kc25 dX7_hourGoes_63 ?_
    refine j_bipush (v := 50) X dX7_hourGoes_66 (by decide) ?_
    refine j_iald X kc26.1 (cl_26 kc26) (by unfold vp_in; decide) dX7_hourGoes_68 ?_
    refine j_icmp_ge X 143 dX7_hourGoes_69 (by decide) (fun h2 => ?_) (fun h2 => ?_)
    · rw [if_pos h2] at he
      have ho := ho.1 h2
      refine j_aload_n X 0 dX7_hourGoes_143 rfl ?_
      refine gf_25_0 X m_fl_X7_7 kc25 dX7_hourGoes_144 ?_
      refine j_iconst (v := 0) X dX7_hourGoes_147 (by decide) ?_
      refine j_dup2 X dX7_hourGoes_148 rfl rfl ?_
      refine j_iald X kc26.1 (cl_26 kc26) (by unfold vp_in; decide) dX7_hourGoes_149 ?_
      refine j_iconst (v := 1) X dX7_hourGoes_150 (by decide) ?_
      refine j_iadd X dX7_hourGoes_151 ?_
      refine j_iast X kc26.1 (fun T => cl_26 kc26) (by unfold vp_in; decide) dX7_hourGoes_152 ?_
      refine j_lv [1] [(1, .int v1)] rfl ?_
      exact t_X7_hourGoes_153 X hr hlocks v1 (up2 S 6 ((0 : Int32).toNatClampNeg) ((S 6 ((0 : Int32).toNatClampNeg)) + 1)) _ _ he
    · rw [if_neg h2] at he
      have ho := ho.2 h2
      refine j_aload_n X 0 dX7_hourGoes_72 rfl ?_
      refine j_iload_n X 2 dX7_hourGoes_73 rfl ?_
      refine j_iconst (v := 3) X dX7_hourGoes_74 (by decide) ?_
      have h3 := ho.1
      have ho := ho.2
      refine j_callVi (rest := []) X (c_X7_of (cx_inj X) v2 3 S h3) cw_X7_98 kc25.1 (cl_25 kc25) rfl ⟨rfl, rfl, Nat.le_of_ble_eq_true rfl, Nat.le_of_ble_eq_true rfl⟩ rfl rfl (Nat.le_of_ble_eq_true rfl) ⟨Nat.le_of_ble_eq_true rfl, Nat.le_of_ble_eq_true rfl⟩ dX7_hourGoes_75 ?_
      refine j_iconst (v := 1) X dX7_hourGoes_78 (by decide) ?_
      refine j_icmp_ne X 85 dX7_hourGoes_79 (by decide) (fun h4 => ?_) (fun h4 => ?_)
      · rw [if_neg h4] at he
        have ho := ho.2 h4
        refine j_bipush (v := 99) X dX7_hourGoes_85 (by decide) ?_
        refine j_aload_n X 0 dX7_hourGoes_87 rfl ?_
        refine j_iload_n X 2 dX7_hourGoes_88 rfl ?_
        refine j_iconst (v := 0) X dX7_hourGoes_89 (by decide) ?_
        have h5 := ho.1
        have ho := ho.2
        refine j_callVi (rest := [.int 99]) X (c_X7_of (cx_inj X) v2 0 S h5) cw_X7_98 kc25.1 (cl_25 kc25) rfl ⟨rfl, rfl, Nat.le_of_ble_eq_true rfl, Nat.le_of_ble_eq_true rfl⟩ rfl rfl (Nat.le_of_ble_eq_true rfl) ⟨Nat.le_of_ble_eq_true rfl, Nat.le_of_ble_eq_true rfl⟩ dX7_hourGoes_90 ?_
        refine j_iconst (v := 4) X dX7_hourGoes_93 (by decide) ?_
        refine j_aload_n X 0 dX7_hourGoes_94 rfl ?_
        refine gf_25_0 X m_fl_X7_7 kc25 dX7_hourGoes_95 ?_
        refine j_iconst (v := 2) X dX7_hourGoes_98 (by decide) ?_
        refine j_aload_n X 0 dX7_hourGoes_99 rfl ?_
        refine j_callVi (rest := [.int 2, .ref (ad 6), .int 4, .int (b_X7_of_0 v2 0 S), .int 99]) X (c_X7_hourOfDay (cx_inj X) S) cw_X7_123 kc25.1 (cl_25 kc25) rfl ⟨rfl, rfl, Nat.le_of_ble_eq_true rfl, Nat.le_of_ble_eq_true rfl⟩ rfl rfl (Nat.le_of_ble_eq_true rfl) ⟨Nat.le_of_ble_eq_true rfl, Nat.le_of_ble_eq_true rfl⟩ dX7_hourGoes_100 ?_
        refine j_iadd X dX7_hourGoes_103 ?_
        have h6 := ho.1
        have ho := ho.2
        refine j_iald X kc26.1 (cl_26 kc26) h6 dX7_hourGoes_104 ?_
        refine j_imul X dX7_hourGoes_105 ?_
        refine j_iadd X dX7_hourGoes_106 ?_
        refine j_callSi (rest := []) X (c_X7_less (cx_inj X) 99 ((b_X7_of_0 v2 0 S) + (4 * (S 6 ((2 + (b_X7_hourOfDay_0 S)).toNatClampNeg)))) S) cw_X7_120 ⟨rfl, rfl, Nat.le_of_ble_eq_true rfl, Nat.le_of_ble_eq_true rfl⟩ rfl rfl (Nat.le_of_ble_eq_true rfl) ⟨Nat.le_of_ble_eq_true rfl, Nat.le_of_ble_eq_true rfl⟩ dX7_hourGoes_107 ?_
        refine j_istore_n X [(3, .int (b_X7_less_0 99 ((b_X7_of_0 v2 0 S) + (4 * (S 6 ((2 + (b_X7_hourOfDay_0 S)).toNatClampNeg)))) S)), (0, .ref (ad 5)), (1, .int v1), (2, .int v2)] dX7_hourGoes_110 (by decide) rfl ?_
        refine j_aload_n X 1 dX7_hourGoes_111 rfl ?_
        refine j_iload_n X 3 dX7_hourGoes_112 rfl ?_
        refine j_iconst (v := 0) X dX7_hourGoes_113 (by decide) ?_
        refine j_iconst (v := 0) X dX7_hourGoes_114 (by decide) ?_
        refine j_iload_n X 0 dX7_hourGoes_115 rfl ?_
        refine j_aload_n X 1 dX7_hourGoes_116 rfl ?_
        refine gf_25_0 X m_fl_X7_7 kc25 dX7_hourGoes_117 ?_
        refine j_bipush (v := 26) X dX7_hourGoes_120 (by decide) ?_
        refine j_aload_n X 1 dX7_hourGoes_122 rfl ?_
        refine j_callVi (rest := [.int 26, .ref (ad 6), .int (b_X7_less_0 99 ((b_X7_of_0 v2 0 S) + (4 * (S 6 ((2 + (b_X7_hourOfDay_0 S)).toNatClampNeg)))) S), .int 0, .int 0, .int v2, .ref (ad 5)]) X (c_X7_hourOfDay (cx_inj X) S) cw_X7_123 kc25.1 (cl_25 kc25) rfl ⟨rfl, rfl, Nat.le_of_ble_eq_true rfl, Nat.le_of_ble_eq_true rfl⟩ rfl rfl (Nat.le_of_ble_eq_true rfl) ⟨Nat.le_of_ble_eq_true rfl, Nat.le_of_ble_eq_true rfl⟩ dX7_hourGoes_123 ?_
        refine j_iadd X dX7_hourGoes_126 ?_
        have h7 := ho.1
        have ho := ho.2
        refine j_iald X kc26.1 (cl_26 kc26) h7 dX7_hourGoes_127 ?_
        refine j_iconst (v := 2) X dX7_hourGoes_128 (by decide) ?_
        refine j_idiv X dX7_hourGoes_129 (by decide) ?_
        refine j_isub X dX7_hourGoes_130 ?_
        refine j_lv [1, 2, 3] [(0, .ref (ad 5)), (1, .int v1), (2, .int v2)] rfl ?_
        exact t_X7_hourGoes_131 X hr hlocks (b_X7_hourGoes_61 n) (o_X7_hourGoes_61 n) ih v1 v2 ((b_X7_less_0 99 ((b_X7_of_0 v2 0 S) + (4 * (S 6 ((2 + (b_X7_hourOfDay_0 S)).toNatClampNeg)))) S) - ((S 6 ((26 + (b_X7_hourOfDay_0 S)).toNatClampNeg)) / 2)) 0 0 v2 S _ _ ho he
      · rw [if_pos h4] at he
        have ho := ho.1 h4
        refine j_goto X 137 dX7_hourGoes_82 (by decide) ?_
        exact t_X7_hourGoes_137 X hr hlocks (b_X7_hourGoes_61 n) (o_X7_hourGoes_61 n) ih v1 v2 S _ _ ho he
def b_X7_hourGoes_53 (kk : Int32 → Int32 → Sx → Int32 × Sx) (v1 : Int32) (v2 : Int32) (S : Sx) : Int32 × Sx := kk v1 (v2 + 1) S
def o_X7_hourGoes_53 (ok : Int32 → Int32 → Sx → Prop) (v1 : Int32) (v2 : Int32) (S : Sx) : Prop := ok v1 (v2 + 1) S
set_option maxRecDepth 20000 in
theorem t_X7_hourGoes_53 (X : Cx p m c cX7_hourGoes 4 s args RX7 D q ad) (hr : meth.sig.returnType = some .int) (hlocks : meth.locks = false) (kk : Int32 → Int32 → Sx → Int32 × Sx) (ok : Int32 → Int32 → Sx → Prop) (hkk : ∀ (v1 : Int32) (v2 : Int32) (S : Sx) (rv : Int32) (S' : Sx) (ho : ok v1 v2 S) (he : kk v1 v2 S = (rv, S')), Jg p l e rm_X7_hourGoes s m args below meth c 0 0 (MQ below (Qi D q ad d rv S' s.heap.size) args s 0 0 (AU ad s.heap.size)) D q ad d 4 4 [(0, .ref (ad 5)), (1, .int v1), (2, .int v2)] [] S) (v1 : Int32) (v2 : Int32) (S : Sx) (rv : Int32) (S' : Sx) (ho : o_X7_hourGoes_53 ok v1 v2 S) (he : b_X7_hourGoes_53 kk v1 v2 S = (rv, S')) : Jg p l e rm_X7_hourGoes s m args below meth c 0 0 (MQ below (Qi D q ad d rv S' s.heap.size) args s 0 0 (AU ad s.heap.size)) D q ad d 4 53 [(0, .ref (ad 5)), (1, .int v1), (2, .int v2)] [] S := by
  unfold b_X7_hourGoes_53 at he
  unfold o_X7_hourGoes_53 at ho
  refine j_iinc X 2 (v2 + 1) [(2, .int (v2 + 1)), (0, .ref (ad 5)), (1, .int v1)] dX7_hourGoes_53 rfl rfl (by decide) rfl ?_
  refine j_goto X 4 dX7_hourGoes_56 (by decide) ?_
  refine j_lv [1, 2, 0] [(0, .ref (ad 5)), (1, .int v1), (2, .int (v2 + 1))] rfl ?_
  exact hkk v1 (v2 + 1) S _ _ ho he
def b_X7_hourGoes_4 : Nat → Int32 → Int32 → Sx → Int32 × Sx
  | 0, _, _, S => (0, S)
  | n + 1, v1, v2, S => if (S 6 ((71 : Int32).toNatClampNeg)) ≤ v2 then b_X7_hourGoes_61 100 v1 0 S else if (b_X7_ofHorse_0 v2 3 S) ≤ 0 then b_X7_hourGoes_53 (b_X7_hourGoes_4 n) v1 v2 (b_X7_laysHorse_0 v2 2 (b_X7_more_0 0 ((b_X7_ofHorse_0 v2 2 S) - 1) S) S) else b_X7_hourGoes_53 (b_X7_hourGoes_4 n) (v1 + 1) v2 (b_X7_rolls_0 v2 S)
def o_X7_hourGoes_4 : Nat → Int32 → Int32 → Sx → Prop
  | 0, _, _, _ => False
  | n + 1, v1, v2, S => ((S 6 ((71 : Int32).toNatClampNeg)) ≤ v2 → (o_X7_hourGoes_61 100 v1 0 S)) ∧ (¬ (S 6 ((71 : Int32).toNatClampNeg)) ≤ v2 → (o_X7_ofHorse_0 v2 3 S ∧ (((b_X7_ofHorse_0 v2 3 S) ≤ 0 → (o_X7_ofHorse_0 v2 2 S ∧ (o_X7_laysHorse_0 v2 2 (b_X7_more_0 0 ((b_X7_ofHorse_0 v2 2 S) - 1) S) S ∧ (o_X7_hourGoes_53 (o_X7_hourGoes_4 n) v1 v2 (b_X7_laysHorse_0 v2 2 (b_X7_more_0 0 ((b_X7_ofHorse_0 v2 2 S) - 1) S) S))))) ∧ (¬ (b_X7_ofHorse_0 v2 3 S) ≤ 0 → (o_X7_rolls_0 v2 S ∧ (o_X7_hourGoes_53 (o_X7_hourGoes_4 n) (v1 + 1) v2 (b_X7_rolls_0 v2 S)))))))
set_option maxRecDepth 20000 in
theorem t_X7_hourGoes_4 (X : Cx p m c cX7_hourGoes 4 s args RX7 D q ad) (hr : meth.sig.returnType = some .int) (hlocks : meth.locks = false) : ∀ (n : Nat) (v1 : Int32) (v2 : Int32) (S : Sx) (rv : Int32) (S' : Sx) (ho : o_X7_hourGoes_4 n v1 v2 S) (he : b_X7_hourGoes_4 n v1 v2 S = (rv, S')), Jg p l e rm_X7_hourGoes s m args below meth c 0 0 (MQ below (Qi D q ad d rv S' s.heap.size) args s 0 0 (AU ad s.heap.size)) D q ad d 4 4 [(0, .ref (ad 5)), (1, .int v1), (2, .int v2)] [] S := by
  intro n
  induction n with
  | zero =>
    intro v1 v2 S rv S' ho he
    unfold o_X7_hourGoes_4 at ho
    exact ho.elim
  | succ n ih =>
    intro v1 v2 S rv S' ho he
    unfold b_X7_hourGoes_4 at he
    unfold o_X7_hourGoes_4 at ho
    refine j_iload_n X 2 dX7_hourGoes_4 rfl ?_
    refine j_aload_n X 0 dX7_hourGoes_5 rfl ?_
    refine gf_25_0 X m_fl_X7_7 kc25 dX7_hourGoes_6 ?_
    refine j_bipush (v := 71) X dX7_hourGoes_9 (by decide) ?_
    refine j_iald X kc26.1 (cl_26 kc26) (by unfold vp_in; decide) dX7_hourGoes_11 ?_
    refine j_icmp_ge X 59 dX7_hourGoes_12 (by decide) (fun h2 => ?_) (fun h2 => ?_)
    · rw [if_pos h2] at he
      have ho := ho.1 h2
      refine j_iconst (v := 0) X dX7_hourGoes_59 (by decide) ?_
      refine j_istore_n X [(2, .int 0), (0, .ref (ad 5)), (1, .int v1)] dX7_hourGoes_60 (by decide) rfl ?_
      refine j_lv [1, 2, 0] [(0, .ref (ad 5)), (1, .int v1), (2, .int 0)] rfl ?_
      exact t_X7_hourGoes_61 X hr hlocks 100 v1 0 S _ _ ho he
    · rw [if_neg h2] at he
      have ho := ho.2 h2
      refine j_aload_n X 0 dX7_hourGoes_15 rfl ?_
      refine j_iload_n X 2 dX7_hourGoes_16 rfl ?_
      refine j_iconst (v := 3) X dX7_hourGoes_17 (by decide) ?_
      have h3 := ho.1
      have ho := ho.2
      refine j_callVi (rest := []) X (c_X7_ofHorse (cx_inj X) v2 3 S h3) cw_X7_85 kc25.1 (cl_25 kc25) rfl ⟨rfl, rfl, Nat.le_of_ble_eq_true rfl, Nat.le_of_ble_eq_true rfl⟩ rfl rfl (Nat.le_of_ble_eq_true rfl) ⟨Nat.le_of_ble_eq_true rfl, Nat.le_of_ble_eq_true rfl⟩ dX7_hourGoes_18 ?_
      refine j_if_le X 35 dX7_hourGoes_21 (by decide) (fun h4 => ?_) (fun h4 => ?_)
      · rw [if_pos h4] at he
        have ho := ho.1 h4
        refine j_aload_n X 0 dX7_hourGoes_35 rfl ?_
        refine j_iload_n X 2 dX7_hourGoes_36 rfl ?_
        refine j_iconst (v := 2) X dX7_hourGoes_37 (by decide) ?_
        refine j_iconst (v := 0) X dX7_hourGoes_38 (by decide) ?_
        refine j_aload_n X 0 dX7_hourGoes_39 rfl ?_
        refine j_iload_n X 2 dX7_hourGoes_40 rfl ?_
        refine j_iconst (v := 2) X dX7_hourGoes_41 (by decide) ?_
        have h5 := ho.1
        have ho := ho.2
        refine j_callVi (rest := [.int 0, .int 2, .int v2, .ref (ad 5)]) X (c_X7_ofHorse (cx_inj X) v2 2 S h5) cw_X7_85 kc25.1 (cl_25 kc25) rfl ⟨rfl, rfl, Nat.le_of_ble_eq_true rfl, Nat.le_of_ble_eq_true rfl⟩ rfl rfl (Nat.le_of_ble_eq_true rfl) ⟨Nat.le_of_ble_eq_true rfl, Nat.le_of_ble_eq_true rfl⟩ dX7_hourGoes_42 ?_
        refine j_iconst (v := 1) X dX7_hourGoes_45 (by decide) ?_
        refine j_isub X dX7_hourGoes_46 ?_
        refine j_callSi (rest := [.int 2, .int v2, .ref (ad 5)]) X (c_X7_more (cx_inj X) 0 ((b_X7_ofHorse_0 v2 2 S) - 1) S) cw_X7_138 ⟨rfl, rfl, Nat.le_of_ble_eq_true rfl, Nat.le_of_ble_eq_true rfl⟩ rfl rfl (Nat.le_of_ble_eq_true rfl) ⟨Nat.le_of_ble_eq_true rfl, Nat.le_of_ble_eq_true rfl⟩ dX7_hourGoes_47 ?_
        have h6 := ho.1
        have ho := ho.2
        refine j_callVv (rest := []) X (c_X7_laysHorse (cx_inj X) v2 2 (b_X7_more_0 0 ((b_X7_ofHorse_0 v2 2 S) - 1) S) S h6) cw_X7_104 kc25.1 (cl_25 kc25) rfl ⟨rfl, rfl, Nat.le_of_ble_eq_true rfl, Nat.le_of_ble_eq_true rfl⟩ rfl rfl (Nat.le_of_ble_eq_true rfl) ⟨Nat.le_of_ble_eq_true rfl, Nat.le_of_ble_eq_true rfl⟩ dX7_hourGoes_50 ?_
        exact t_X7_hourGoes_53 X hr hlocks (b_X7_hourGoes_4 n) (o_X7_hourGoes_4 n) ih v1 v2 (b_X7_laysHorse_0 v2 2 (b_X7_more_0 0 ((b_X7_ofHorse_0 v2 2 S) - 1) S) S) _ _ ho he
      · rw [if_neg h4] at he
        have ho := ho.2 h4
        refine j_aload_n X 0 dX7_hourGoes_24 rfl ?_
        refine j_iload_n X 2 dX7_hourGoes_25 rfl ?_
        have h7 := ho.1
        have ho := ho.2
        refine j_callVv (rest := []) X (c_X7_rolls (cx_inj X) v2 S h7) cw_X7_163 kc25.1 (cl_25 kc25) rfl ⟨rfl, rfl, Nat.le_of_ble_eq_true rfl, Nat.le_of_ble_eq_true rfl⟩ rfl rfl (Nat.le_of_ble_eq_true rfl) ⟨Nat.le_of_ble_eq_true rfl, Nat.le_of_ble_eq_true rfl⟩ dX7_hourGoes_26 ?_
        refine j_iinc X 1 (v1 + 1) [(1, .int (v1 + 1)), (0, .ref (ad 5)), (2, .int v2)] dX7_hourGoes_29 rfl rfl (by decide) rfl ?_
        refine j_goto X 53 dX7_hourGoes_32 (by decide) ?_
        refine j_lv [1, 0, 2] [(0, .ref (ad 5)), (1, .int (v1 + 1)), (2, .int v2)] rfl ?_
        exact t_X7_hourGoes_53 X hr hlocks (b_X7_hourGoes_4 n) (o_X7_hourGoes_4 n) ih (v1 + 1) v2 (b_X7_rolls_0 v2 S) _ _ ho he
def b_X7_hourGoes_0  (S : Sx) : Int32 × Sx := b_X7_hourGoes_4 100 0 0 S
def o_X7_hourGoes_0  (S : Sx) : Prop := o_X7_hourGoes_4 100 0 0 S
set_option maxRecDepth 20000 in
theorem t_X7_hourGoes_0 (X : Cx p m c cX7_hourGoes 4 s args RX7 D q ad) (hr : meth.sig.returnType = some .int) (hlocks : meth.locks = false) (S : Sx) (rv : Int32) (S' : Sx) (ho : o_X7_hourGoes_0 S) (he : b_X7_hourGoes_0 S = (rv, S')) : Jg p l e rm_X7_hourGoes s m args below meth c 0 0 (MQ below (Qi D q ad d rv S' s.heap.size) args s 0 0 (AU ad s.heap.size)) D q ad d 4 0 [(0, .ref (ad 5))] [] S := by
  unfold b_X7_hourGoes_0 at he
  unfold o_X7_hourGoes_0 at ho
  refine j_iconst (v := 0) X dX7_hourGoes_0 (by decide) ?_
  refine j_istore_n X [(1, .int 0), (0, .ref (ad 5))] dX7_hourGoes_1 (by decide) rfl ?_
  refine j_iconst (v := 0) X dX7_hourGoes_2 (by decide) ?_
  refine j_istore_n X [(2, .int 0), (1, .int 0), (0, .ref (ad 5))] dX7_hourGoes_3 (by decide) rfl ?_
  refine j_lv [2, 1, 0] [(0, .ref (ad 5)), (1, .int 0), (2, .int 0)] rfl ?_
  exact t_X7_hourGoes_4 X hr hlocks 100 0 0 S _ _ ho he
theorem c_X7_hourGoes {l : Launch} {D : va_G} {q : Nat → ClassId} {ad : Nat → Nat} {d : UInt64} (hI : inj4 ad) (S : Sx) (ho : o_X7_hourGoes_0 S) : CI l yX7_hourGoes cX7_hourGoes 4 .int rm_X7_hourGoes D q ad d [.ref (ad 5)] S (b_X7_hourGoes_0 S).1 (b_X7_hourGoes_0 S).2 := ci_of hI (by decide +kernel) (Nat.le_of_ble_eq_true rfl) rfl (fun p e s m args below meth c X hr hlocks => t_X7_hourGoes_0 X hr hlocks S _ _ ho (pe _))
end
/-! RX7.fitIn -/
abbrev rm_X7_fitIn : Room := { frames := 3, cells := 0, slots := 0, locals := 69 }
section
variable {p : Program} {l : Launch} {e : Env} {s : State} {m : MethodId} {args : Array Value} {below : List Frame} {meth : Method} {c : Code} {D : va_G} {q : Nat → ClassId} {ad : Nat → Nat} {d : UInt64}
def b_X7_fitIn_119 (w0 : Int32) (S : Sx) : Int32 × Sx := (w0, S)
set_option maxRecDepth 20000 in
theorem t_X7_fitIn_119 (X : Cx p m c cX7_fitIn 5 s args RX7 D q ad) (hr : meth.sig.returnType = some .int) (hlocks : meth.locks = false) (w0 : Int32) (S : Sx) (rv : Int32) (S' : Sx) (he : b_X7_fitIn_119 w0 S = (rv, S')) : Jg p l e rm_X7_fitIn s m args below meth c 0 0 (MQ below (Qi D q ad d rv S' s.heap.size) args s 0 0 (AU ad s.heap.size)) D q ad d 5 119 [] [.int w0] S := by
  unfold b_X7_fitIn_119 at he
  exact j_iret X hr hlocks dX7_fitIn_119 (congrArg Prod.fst he) (congrArg Prod.snd he)
def b_X7_fitIn_108 (v3 : Int32) (w0 : Int32) (S : Sx) : Int32 × Sx := if ((b_X7_fails_0 w0 S).1) = 0 then b_X7_fitIn_119 v3 ((b_X7_fails_0 w0 S).2) else b_X7_fitIn_119 0 ((b_X7_fails_0 w0 S).2)
def o_X7_fitIn_108 (v3 : Int32) (w0 : Int32) (S : Sx) : Prop := o_X7_fails_0 w0 S ∧ True
set_option maxRecDepth 20000 in
theorem t_X7_fitIn_108 (X : Cx p m c cX7_fitIn 5 s args RX7 D q ad) (hr : meth.sig.returnType = some .int) (hlocks : meth.locks = false) (v3 : Int32) (w0 : Int32) (S : Sx) (rv : Int32) (S' : Sx) (ho : o_X7_fitIn_108 v3 w0 S) (he : b_X7_fitIn_108 v3 w0 S = (rv, S')) : Jg p l e rm_X7_fitIn s m args below meth c 0 0 (MQ below (Qi D q ad d rv S' s.heap.size) args s 0 0 (AU ad s.heap.size)) D q ad d 5 108 [(3, .int v3)] [.int w0, .ref (ad 5)] S := by
  unfold b_X7_fitIn_108 at he
  unfold o_X7_fitIn_108 at ho
  have h2 := ho.1
  have ho := ho.2
  refine j_callVi (rest := []) X (c_X7_fails (cx_inj X) w0 S h2) cw_X7_70 kc25.1 (cl_25 kc25) rfl ⟨rfl, rfl, Nat.le_of_ble_eq_true rfl, Nat.le_of_ble_eq_true rfl⟩ rfl rfl (Nat.le_of_ble_eq_true rfl) ⟨Nat.le_of_ble_eq_true rfl, Nat.le_of_ble_eq_true rfl⟩ dX7_fitIn_108 ?_
  refine j_if_eq X 118 dX7_fitIn_111 (by decide) (fun h3 => ?_) (fun h3 => ?_)
  · rw [if_pos h3] at he
    refine j_iload_n X 0 dX7_fitIn_118 rfl ?_
    refine j_lv [] [] rfl ?_
    exact t_X7_fitIn_119 X hr hlocks v3 ((b_X7_fails_0 w0 S).2) _ _ he
  · rw [if_neg h3] at he
    refine j_iconst (v := 0) X dX7_fitIn_114 (by decide) ?_
    refine j_goto X 119 dX7_fitIn_115 (by decide) ?_
    refine j_lv [] [] rfl ?_
    exact t_X7_fitIn_119 X hr hlocks 0 ((b_X7_fails_0 w0 S).2) _ _ he
def b_X7_fitIn_103 (v3 : Int32) (S : Sx) : Int32 × Sx := b_X7_fitIn_108 v3 2 S
def o_X7_fitIn_103 (v3 : Int32) (S : Sx) : Prop := o_X7_fitIn_108 v3 2 S
set_option maxRecDepth 20000 in
theorem t_X7_fitIn_103 (X : Cx p m c cX7_fitIn 5 s args RX7 D q ad) (hr : meth.sig.returnType = some .int) (hlocks : meth.locks = false) (v3 : Int32) (S : Sx) (rv : Int32) (S' : Sx) (ho : o_X7_fitIn_103 v3 S) (he : b_X7_fitIn_103 v3 S = (rv, S')) : Jg p l e rm_X7_fitIn s m args below meth c 0 0 (MQ below (Qi D q ad d rv S' s.heap.size) args s 0 0 (AU ad s.heap.size)) D q ad d 5 103 [(3, .int v3)] [.ref (ad 5)] S := by
  unfold b_X7_fitIn_103 at he
  unfold o_X7_fitIn_103 at ho
  refine j_iconst (v := 2) X dX7_fitIn_103 (by decide) ?_
  refine j_goto X 108 dX7_fitIn_104 (by decide) ?_
  exact t_X7_fitIn_108 X hr hlocks v3 2 S _ _ ho he
def b_X7_fitIn_78 (v3 : Int32) (v4 : Int32) (S : Sx) : Int32 × Sx := if v4 < 0 then b_X7_fitIn_103 v3 (b_X7_copies_0 10 0 6 0 S) else if v3 ≤ 48 then b_X7_fitIn_108 v3 0 (b_X7_copies_0 10 0 6 0 S) else b_X7_fitIn_103 v3 (b_X7_copies_0 10 0 6 0 S)
def o_X7_fitIn_78 (v3 : Int32) (v4 : Int32) (S : Sx) : Prop := o_X7_copies_0 10 0 6 0 S ∧ ((v4 < 0 → (o_X7_fitIn_103 v3 (b_X7_copies_0 10 0 6 0 S))) ∧ (¬ v4 < 0 → ((v3 ≤ 48 → (o_X7_fitIn_108 v3 0 (b_X7_copies_0 10 0 6 0 S))) ∧ (¬ v3 ≤ 48 → (o_X7_fitIn_103 v3 (b_X7_copies_0 10 0 6 0 S))))))
set_option maxRecDepth 20000 in
theorem t_X7_fitIn_78 (X : Cx p m c cX7_fitIn 5 s args RX7 D q ad) (hr : meth.sig.returnType = some .int) (hlocks : meth.locks = false) (v3 : Int32) (v4 : Int32) (S : Sx) (rv : Int32) (S' : Sx) (ho : o_X7_fitIn_78 v3 v4 S) (he : b_X7_fitIn_78 v3 v4 S = (rv, S')) : Jg p l e rm_X7_fitIn s m args below meth c 0 0 (MQ below (Qi D q ad d rv S' s.heap.size) args s 0 0 (AU ad s.heap.size)) D q ad d 5 78 [(0, .ref (ad 5)), (3, .int v3), (4, .int v4)] [] S := by
  unfold b_X7_fitIn_78 at he
  unfold o_X7_fitIn_78 at ho
  refine j_aload_n X 0 dX7_fitIn_78 rfl ?_
  refine gf_25_4 X m_fl_X7_22 kc25 dX7_fitIn_79 ?_
  refine j_iconst (v := 0) X dX7_fitIn_82 (by decide) ?_
  refine j_aload_n X 0 dX7_fitIn_83 rfl ?_
  refine gf_25_0 X m_fl_X7_7 kc25 dX7_fitIn_84 ?_
  refine j_iconst (v := 0) X dX7_fitIn_87 (by decide) ?_
  have h2 := ho.1
  have ho := ho.2
  refine j_callSv (rest := []) X (c_X7_copies (cx_inj X) 10 (isA_of30 kc30) 0 6 (isA_of26 kc26) 0 S h2) cw_X7_54 ⟨rfl, rfl, Nat.le_of_ble_eq_true rfl, Nat.le_of_ble_eq_true rfl⟩ rfl rfl (Nat.le_of_ble_eq_true rfl) ⟨Nat.le_of_ble_eq_true rfl, Nat.le_of_ble_eq_true rfl⟩ dX7_fitIn_88 ?_
  refine j_aload_n X 0 dX7_fitIn_91 rfl ?_
  refine j_iload X 2 dX7_fitIn_92 rfl ?_
  refine j_if_lt X 103 dX7_fitIn_94 (by decide) (fun h3 => ?_) (fun h3 => ?_)
  · rw [if_pos h3] at he
    have ho := ho.1 h3
    refine j_lv [1] [(3, .int v3)] rfl ?_
    exact t_X7_fitIn_103 X hr hlocks v3 (b_X7_copies_0 10 0 6 0 S) _ _ ho he
  · rw [if_neg h3] at he
    have ho := ho.2 h3
    refine j_iload_n X 1 dX7_fitIn_97 rfl ?_
    refine j_bipush (v := 48) X dX7_fitIn_98 (by decide) ?_
    refine j_icmp_le X 107 dX7_fitIn_100 (by decide) (fun h4 => ?_) (fun h4 => ?_)
    · rw [if_pos h4] at he
      have ho := ho.1 h4
      refine j_iconst (v := 0) X dX7_fitIn_107 (by decide) ?_
      refine j_lv [1] [(3, .int v3)] rfl ?_
      exact t_X7_fitIn_108 X hr hlocks v3 0 (b_X7_copies_0 10 0 6 0 S) _ _ ho he
    · rw [if_neg h4] at he
      have ho := ho.2 h4
      refine j_lv [1] [(3, .int v3)] rfl ?_
      exact t_X7_fitIn_103 X hr hlocks v3 (b_X7_copies_0 10 0 6 0 S) _ _ ho he
def b_X7_fitIn_48 : Nat → Int32 → Int32 → Int32 → Int32 → Sx → Int32 × Sx
  | 0, _, _, _, _, S => (0, S)
  | n + 1, v1, v2, v3, v4, S => if 48 < v3 then b_X7_fitIn_78 v3 v4 S else if (b_X7_calls_0 v1 v2 S) ≤ 0 then b_X7_fitIn_78 v3 v4 S else b_X7_fitIn_48 n v1 v2 (v3 + 1) (v4 + ((b_X7_hourGoes_0 S).1)) ((b_X7_hourGoes_0 S).2)
def o_X7_fitIn_48 : Nat → Int32 → Int32 → Int32 → Int32 → Sx → Prop
  | 0, _, _, _, _, _ => False
  | n + 1, v1, v2, v3, v4, S => (48 < v3 → (o_X7_fitIn_78 v3 v4 S)) ∧ (¬ 48 < v3 → (o_X7_calls_0 v1 v2 S ∧ (((b_X7_calls_0 v1 v2 S) ≤ 0 → (o_X7_fitIn_78 v3 v4 S)) ∧ (¬ (b_X7_calls_0 v1 v2 S) ≤ 0 → (o_X7_hourGoes_0 S ∧ (o_X7_fitIn_48 n v1 v2 (v3 + 1) (v4 + ((b_X7_hourGoes_0 S).1)) ((b_X7_hourGoes_0 S).2)))))))
set_option maxRecDepth 20000 in
theorem t_X7_fitIn_48 (X : Cx p m c cX7_fitIn 5 s args RX7 D q ad) (hr : meth.sig.returnType = some .int) (hlocks : meth.locks = false) : ∀ (n : Nat) (v1 : Int32) (v2 : Int32) (v3 : Int32) (v4 : Int32) (S : Sx) (rv : Int32) (S' : Sx) (ho : o_X7_fitIn_48 n v1 v2 v3 v4 S) (he : b_X7_fitIn_48 n v1 v2 v3 v4 S = (rv, S')), Jg p l e rm_X7_fitIn s m args below meth c 0 0 (MQ below (Qi D q ad d rv S' s.heap.size) args s 0 0 (AU ad s.heap.size)) D q ad d 5 48 [(0, .ref (ad 5)), (1, .int v1), (2, .int v2), (3, .int v3), (4, .int v4)] [] S := by
  intro n
  induction n with
  | zero =>
    intro v1 v2 v3 v4 S rv S' ho he
    unfold o_X7_fitIn_48 at ho
    exact ho.elim
  | succ n ih =>
    intro v1 v2 v3 v4 S rv S' ho he
    unfold b_X7_fitIn_48 at he
    unfold o_X7_fitIn_48 at ho
    refine j_iload_n X 3 dX7_fitIn_48 rfl ?_
    refine j_bipush (v := 48) X dX7_fitIn_49 (by decide) ?_
    refine j_icmp_gt X 78 dX7_fitIn_51 (by decide) (fun h2 => ?_) (fun h2 => ?_)
    · rw [if_pos h2] at he
      have ho := ho.1 h2
      refine j_lv [0, 3, 4] [(0, .ref (ad 5)), (3, .int v3), (4, .int v4)] rfl ?_
      exact t_X7_fitIn_78 X hr hlocks v3 v4 S _ _ ho he
    · rw [if_neg h2] at he
      have ho := ho.2 h2
      refine j_aload_n X 0 dX7_fitIn_54 rfl ?_
      refine j_iload_n X 1 dX7_fitIn_55 rfl ?_
      refine j_iload_n X 2 dX7_fitIn_56 rfl ?_
      have h3 := ho.1
      have ho := ho.2
      refine j_callVi (rest := []) X (c_X7_calls (cx_inj X) v1 v2 S h3) cw_X7_129 kc25.1 (cl_25 kc25) rfl ⟨rfl, rfl, Nat.le_of_ble_eq_true rfl, Nat.le_of_ble_eq_true rfl⟩ rfl rfl (Nat.le_of_ble_eq_true rfl) ⟨Nat.le_of_ble_eq_true rfl, Nat.le_of_ble_eq_true rfl⟩ dX7_fitIn_57 ?_
      refine j_if_le X 78 dX7_fitIn_60 (by decide) (fun h4 => ?_) (fun h4 => ?_)
      · rw [if_pos h4] at he
        have ho := ho.1 h4
        refine j_lv [0, 3, 4] [(0, .ref (ad 5)), (3, .int v3), (4, .int v4)] rfl ?_
        exact t_X7_fitIn_78 X hr hlocks v3 v4 S _ _ ho he
      · rw [if_neg h4] at he
        have ho := ho.2 h4
        refine j_iload X 4 dX7_fitIn_63 rfl ?_
        refine j_aload_n X 0 dX7_fitIn_65 rfl ?_
        have h5 := ho.1
        have ho := ho.2
        refine j_callVi (rest := [.int v4]) X (c_X7_hourGoes (cx_inj X) S h5) cw_X7_132 kc25.1 (cl_25 kc25) rfl ⟨rfl, rfl, Nat.le_of_ble_eq_true rfl, Nat.le_of_ble_eq_true rfl⟩ rfl rfl (Nat.le_of_ble_eq_true rfl) ⟨Nat.le_of_ble_eq_true rfl, Nat.le_of_ble_eq_true rfl⟩ dX7_fitIn_66 ?_
        refine j_iadd X dX7_fitIn_69 ?_
        refine j_istore X [(4, .int (v4 + ((b_X7_hourGoes_0 S).1))), (0, .ref (ad 5)), (1, .int v1), (2, .int v2), (3, .int v3)] dX7_fitIn_70 (by decide) rfl ?_
        refine j_iinc X 4 (v3 + 1) [(3, .int (v3 + 1)), (4, .int (v4 + ((b_X7_hourGoes_0 S).1))), (0, .ref (ad 5)), (1, .int v1), (2, .int v2)] dX7_fitIn_72 rfl rfl (by decide) rfl ?_
        refine j_goto X 48 dX7_fitIn_75 (by decide) ?_
        refine j_lv [2, 3, 4, 0, 1] [(0, .ref (ad 5)), (1, .int v1), (2, .int v2), (3, .int (v3 + 1)), (4, .int (v4 + ((b_X7_hourGoes_0 S).1)))] rfl ?_
        exact ih v1 v2 (v3 + 1) (v4 + ((b_X7_hourGoes_0 S).1)) ((b_X7_hourGoes_0 S).2) _ _ ho he
def b_X7_fitIn_43 (v1 : Int32) (v2 : Int32) (S : Sx) : Int32 × Sx := b_X7_fitIn_48 100 v1 v2 0 0 S
def o_X7_fitIn_43 (v1 : Int32) (v2 : Int32) (S : Sx) : Prop := o_X7_fitIn_48 100 v1 v2 0 0 S
set_option maxRecDepth 20000 in
theorem t_X7_fitIn_43 (X : Cx p m c cX7_fitIn 5 s args RX7 D q ad) (hr : meth.sig.returnType = some .int) (hlocks : meth.locks = false) (v1 : Int32) (v2 : Int32) (S : Sx) (rv : Int32) (S' : Sx) (ho : o_X7_fitIn_43 v1 v2 S) (he : b_X7_fitIn_43 v1 v2 S = (rv, S')) : Jg p l e rm_X7_fitIn s m args below meth c 0 0 (MQ below (Qi D q ad d rv S' s.heap.size) args s 0 0 (AU ad s.heap.size)) D q ad d 5 43 [(0, .ref (ad 5)), (1, .int v1), (2, .int v2)] [] S := by
  unfold b_X7_fitIn_43 at he
  unfold o_X7_fitIn_43 at ho
  refine j_iconst (v := 0) X dX7_fitIn_43 (by decide) ?_
  refine j_istore_n X [(3, .int 0), (0, .ref (ad 5)), (1, .int v1), (2, .int v2)] dX7_fitIn_44 (by decide) rfl ?_
  refine j_iconst (v := 0) X dX7_fitIn_45 (by decide) ?_
  refine j_istore X [(4, .int 0), (3, .int 0), (0, .ref (ad 5)), (1, .int v1), (2, .int v2)] dX7_fitIn_46 (by decide) rfl ?_
  refine j_lv [2, 3, 4, 1, 0] [(0, .ref (ad 5)), (1, .int v1), (2, .int v2), (3, .int 0), (4, .int 0)] rfl ?_
  exact t_X7_fitIn_48 X hr hlocks 100 v1 v2 0 0 S _ _ ho he
def b_X7_fitIn_22 (v1 : Int32) (v2 : Int32) (w0 : Int32) (S : Sx) : Int32 × Sx := if ((b_X7_fails_0 w0 S).1) = 0 then b_X7_fitIn_43 v1 v2 (b_X7_copies_0 6 0 10 0 ((b_X7_fails_0 w0 S).2)) else (0, (b_X7_fails_0 w0 S).2)
def o_X7_fitIn_22 (v1 : Int32) (v2 : Int32) (w0 : Int32) (S : Sx) : Prop := o_X7_fails_0 w0 S ∧ ((((b_X7_fails_0 w0 S).1) = 0 → (o_X7_copies_0 6 0 10 0 ((b_X7_fails_0 w0 S).2) ∧ (o_X7_fitIn_43 v1 v2 (b_X7_copies_0 6 0 10 0 ((b_X7_fails_0 w0 S).2))))) ∧ (¬ ((b_X7_fails_0 w0 S).1) = 0 → True))
set_option maxRecDepth 20000 in
theorem t_X7_fitIn_22 (X : Cx p m c cX7_fitIn 5 s args RX7 D q ad) (hr : meth.sig.returnType = some .int) (hlocks : meth.locks = false) (v1 : Int32) (v2 : Int32) (w0 : Int32) (S : Sx) (rv : Int32) (S' : Sx) (ho : o_X7_fitIn_22 v1 v2 w0 S) (he : b_X7_fitIn_22 v1 v2 w0 S = (rv, S')) : Jg p l e rm_X7_fitIn s m args below meth c 0 0 (MQ below (Qi D q ad d rv S' s.heap.size) args s 0 0 (AU ad s.heap.size)) D q ad d 5 22 [(0, .ref (ad 5)), (1, .int v1), (2, .int v2)] [.int w0, .ref (ad 5)] S := by
  unfold b_X7_fitIn_22 at he
  unfold o_X7_fitIn_22 at ho
  have h2 := ho.1
  have ho := ho.2
  refine j_callVi (rest := []) X (c_X7_fails (cx_inj X) w0 S h2) cw_X7_70 kc25.1 (cl_25 kc25) rfl ⟨rfl, rfl, Nat.le_of_ble_eq_true rfl, Nat.le_of_ble_eq_true rfl⟩ rfl rfl (Nat.le_of_ble_eq_true rfl) ⟨Nat.le_of_ble_eq_true rfl, Nat.le_of_ble_eq_true rfl⟩ dX7_fitIn_22 ?_
  refine j_if_eq X 30 dX7_fitIn_25 (by decide) (fun h3 => ?_) (fun h3 => ?_)
  · rw [if_pos h3] at he
    have ho := ho.1 h3
    refine j_aload_n X 0 dX7_fitIn_30 rfl ?_
    refine gf_25_0 X m_fl_X7_7 kc25 dX7_fitIn_31 ?_
    refine j_iconst (v := 0) X dX7_fitIn_34 (by decide) ?_
    refine j_aload_n X 0 dX7_fitIn_35 rfl ?_
    refine gf_25_4 X m_fl_X7_22 kc25 dX7_fitIn_36 ?_
    refine j_iconst (v := 0) X dX7_fitIn_39 (by decide) ?_
    have h4 := ho.1
    have ho := ho.2
    refine j_callSv (rest := []) X (c_X7_copies (cx_inj X) 6 (isA_of26 kc26) 0 10 (isA_of30 kc30) 0 ((b_X7_fails_0 w0 S).2) h4) cw_X7_54 ⟨rfl, rfl, Nat.le_of_ble_eq_true rfl, Nat.le_of_ble_eq_true rfl⟩ rfl rfl (Nat.le_of_ble_eq_true rfl) ⟨Nat.le_of_ble_eq_true rfl, Nat.le_of_ble_eq_true rfl⟩ dX7_fitIn_40 ?_
    exact t_X7_fitIn_43 X hr hlocks v1 v2 (b_X7_copies_0 6 0 10 0 ((b_X7_fails_0 w0 S).2)) _ _ ho he
  · rw [if_neg h3] at he
    have ho := ho.2 h3
    refine j_iconst (v := 0) X dX7_fitIn_28 (by decide) ?_
    exact j_iret X hr hlocks dX7_fitIn_29 (congrArg Prod.fst he) (congrArg Prod.snd he)
def b_X7_fitIn_21 (v1 : Int32) (v2 : Int32) (S : Sx) : Int32 × Sx := b_X7_fitIn_22 v1 v2 1 S
def o_X7_fitIn_21 (v1 : Int32) (v2 : Int32) (S : Sx) : Prop := o_X7_fitIn_22 v1 v2 1 S
set_option maxRecDepth 20000 in
theorem t_X7_fitIn_21 (X : Cx p m c cX7_fitIn 5 s args RX7 D q ad) (hr : meth.sig.returnType = some .int) (hlocks : meth.locks = false) (v1 : Int32) (v2 : Int32) (S : Sx) (rv : Int32) (S' : Sx) (ho : o_X7_fitIn_21 v1 v2 S) (he : b_X7_fitIn_21 v1 v2 S = (rv, S')) : Jg p l e rm_X7_fitIn s m args below meth c 0 0 (MQ below (Qi D q ad d rv S' s.heap.size) args s 0 0 (AU ad s.heap.size)) D q ad d 5 21 [(0, .ref (ad 5)), (1, .int v1), (2, .int v2)] [.ref (ad 5)] S := by
  unfold b_X7_fitIn_21 at he
  unfold o_X7_fitIn_21 at ho
  refine j_iconst (v := 1) X dX7_fitIn_21 (by decide) ?_
  exact t_X7_fitIn_22 X hr hlocks v1 v2 1 S _ _ ho he
def b_X7_fitIn_0 (x1 : Int32) (x2 : Int32) (S : Sx) : Int32 × Sx := if (b_X7_isUmpire_0 x1 S) = 0 then b_X7_fitIn_21 x1 x2 S else if (b_X7_isPitch_0 x2 S) = 0 then b_X7_fitIn_21 x1 x2 S else b_X7_fitIn_22 x1 x2 0 S
def o_X7_fitIn_0 (x1 : Int32) (x2 : Int32) (S : Sx) : Prop := o_X7_isUmpire_0 x1 S ∧ (((b_X7_isUmpire_0 x1 S) = 0 → (o_X7_fitIn_21 x1 x2 S)) ∧ (¬ (b_X7_isUmpire_0 x1 S) = 0 → (o_X7_isPitch_0 x2 S ∧ (((b_X7_isPitch_0 x2 S) = 0 → (o_X7_fitIn_21 x1 x2 S)) ∧ (¬ (b_X7_isPitch_0 x2 S) = 0 → (o_X7_fitIn_22 x1 x2 0 S))))))
set_option maxRecDepth 20000 in
theorem t_X7_fitIn_0 (X : Cx p m c cX7_fitIn 5 s args RX7 D q ad) (hr : meth.sig.returnType = some .int) (hlocks : meth.locks = false) (x1 : Int32) (x2 : Int32) (S : Sx) (rv : Int32) (S' : Sx) (ho : o_X7_fitIn_0 x1 x2 S) (he : b_X7_fitIn_0 x1 x2 S = (rv, S')) : Jg p l e rm_X7_fitIn s m args below meth c 0 0 (MQ below (Qi D q ad d rv S' s.heap.size) args s 0 0 (AU ad s.heap.size)) D q ad d 5 0 [(0, .ref (ad 5)), (1, .int x1), (2, .int x2)] [] S := by
  unfold b_X7_fitIn_0 at he
  unfold o_X7_fitIn_0 at ho
  refine j_aload_n X 0 dX7_fitIn_0 rfl ?_
  refine j_aload_n X 0 dX7_fitIn_1 rfl ?_
  refine j_iload_n X 1 dX7_fitIn_2 rfl ?_
  have h2 := ho.1
  have ho := ho.2
  refine j_callVi (rest := [.ref (ad 5)]) X (c_X7_isUmpire (cx_inj X) x1 S h2) cw_X7_126 kc25.1 (cl_25 kc25) rfl ⟨rfl, rfl, Nat.le_of_ble_eq_true rfl, Nat.le_of_ble_eq_true rfl⟩ rfl rfl (Nat.le_of_ble_eq_true rfl) ⟨Nat.le_of_ble_eq_true rfl, Nat.le_of_ble_eq_true rfl⟩ dX7_fitIn_3 ?_
  refine j_if_eq X 21 dX7_fitIn_6 (by decide) (fun h3 => ?_) (fun h3 => ?_)
  · rw [if_pos h3] at he
    have ho := ho.1 h3
    exact t_X7_fitIn_21 X hr hlocks x1 x2 S _ _ ho he
  · rw [if_neg h3] at he
    have ho := ho.2 h3
    refine j_aload_n X 0 dX7_fitIn_9 rfl ?_
    refine j_iload_n X 2 dX7_fitIn_10 rfl ?_
    have h4 := ho.1
    have ho := ho.2
    refine j_callVi (rest := [.ref (ad 5)]) X (c_X7_isPitch (cx_inj X) x2 S h4) cw_X7_91 kc25.1 (cl_25 kc25) rfl ⟨rfl, rfl, Nat.le_of_ble_eq_true rfl, Nat.le_of_ble_eq_true rfl⟩ rfl rfl (Nat.le_of_ble_eq_true rfl) ⟨Nat.le_of_ble_eq_true rfl, Nat.le_of_ble_eq_true rfl⟩ dX7_fitIn_11 ?_
    refine j_if_eq X 21 dX7_fitIn_14 (by decide) (fun h5 => ?_) (fun h5 => ?_)
    · rw [if_pos h5] at he
      have ho := ho.1 h5
      exact t_X7_fitIn_21 X hr hlocks x1 x2 S _ _ ho he
    · rw [if_neg h5] at he
      have ho := ho.2 h5
      refine j_iconst (v := 0) X dX7_fitIn_17 (by decide) ?_
      refine j_goto X 22 dX7_fitIn_18 (by decide) ?_
      exact t_X7_fitIn_22 X hr hlocks x1 x2 0 S _ _ ho he
theorem c_X7_fitIn {l : Launch} {D : va_G} {q : Nat → ClassId} {ad : Nat → Nat} {d : UInt64} (hI : inj4 ad) (x1 : Int32) (x2 : Int32) (S : Sx) (ho : o_X7_fitIn_0 x1 x2 S) : CI l yX7_fitIn cX7_fitIn 5 .int rm_X7_fitIn D q ad d [.ref (ad 5), .int x1, .int x2] S (b_X7_fitIn_0 x1 x2 S).1 (b_X7_fitIn_0 x1 x2 S).2 := ci_of hI (by decide +kernel) (Nat.le_of_ble_eq_true rfl) rfl (fun p e s m args below meth c X hr hlocks => t_X7_fitIn_0 X hr hlocks x1 x2 S _ _ ho (pe _))
end
/-! RX7.bestPitch -/
abbrev rm_X7_bestPitch : Room := { frames := 3, cells := 0, slots := 0, locals := 67 }
section
variable {p : Program} {l : Launch} {e : Env} {s : State} {m : MethodId} {args : Array Value} {below : List Frame} {meth : Method} {c : Code} {D : va_G} {q : Nat → ClassId} {ad : Nat → Nat} {d : UInt64}
def b_X7_bestPitch_111 (w0 : Int32) (S : Sx) : Int32 × Sx := (w0, S)
set_option maxRecDepth 20000 in
theorem t_X7_bestPitch_111 (X : Cx p m c cX7_bestPitch 4 s args RX7 D q ad) (hr : meth.sig.returnType = some .int) (hlocks : meth.locks = false) (w0 : Int32) (S : Sx) (rv : Int32) (S' : Sx) (he : b_X7_bestPitch_111 w0 S = (rv, S')) : Jg p l e rm_X7_bestPitch s m args below meth c 0 0 (MQ below (Qi D q ad d rv S' s.heap.size) args s 0 0 (AU ad s.heap.size)) D q ad d 4 111 [] [.int w0] S := by
  unfold b_X7_bestPitch_111 at he
  exact j_iret X hr hlocks dX7_bestPitch_111 (congrArg Prod.fst he) (congrArg Prod.snd he)
def b_X7_bestPitch_100 (v2 : Int32) (w0 : Int32) (S : Sx) : Int32 × Sx := if ((b_X7_fails_0 w0 S).1) = 0 then b_X7_bestPitch_111 v2 ((b_X7_fails_0 w0 S).2) else b_X7_bestPitch_111 0 ((b_X7_fails_0 w0 S).2)
def o_X7_bestPitch_100 (v2 : Int32) (w0 : Int32) (S : Sx) : Prop := o_X7_fails_0 w0 S ∧ True
set_option maxRecDepth 20000 in
theorem t_X7_bestPitch_100 (X : Cx p m c cX7_bestPitch 4 s args RX7 D q ad) (hr : meth.sig.returnType = some .int) (hlocks : meth.locks = false) (v2 : Int32) (w0 : Int32) (S : Sx) (rv : Int32) (S' : Sx) (ho : o_X7_bestPitch_100 v2 w0 S) (he : b_X7_bestPitch_100 v2 w0 S = (rv, S')) : Jg p l e rm_X7_bestPitch s m args below meth c 0 0 (MQ below (Qi D q ad d rv S' s.heap.size) args s 0 0 (AU ad s.heap.size)) D q ad d 4 100 [(2, .int v2)] [.int w0, .ref (ad 5)] S := by
  unfold b_X7_bestPitch_100 at he
  unfold o_X7_bestPitch_100 at ho
  have h2 := ho.1
  have ho := ho.2
  refine j_callVi (rest := []) X (c_X7_fails (cx_inj X) w0 S h2) cw_X7_70 kc25.1 (cl_25 kc25) rfl ⟨rfl, rfl, Nat.le_of_ble_eq_true rfl, Nat.le_of_ble_eq_true rfl⟩ rfl rfl (Nat.le_of_ble_eq_true rfl) ⟨Nat.le_of_ble_eq_true rfl, Nat.le_of_ble_eq_true rfl⟩ dX7_bestPitch_100 ?_
  refine j_if_eq X 110 dX7_bestPitch_103 (by decide) (fun h3 => ?_) (fun h3 => ?_)
  · rw [if_pos h3] at he
    refine j_iload_n X 0 dX7_bestPitch_110 rfl ?_
    refine j_lv [] [] rfl ?_
    exact t_X7_bestPitch_111 X hr hlocks v2 ((b_X7_fails_0 w0 S).2) _ _ he
  · rw [if_neg h3] at he
    refine j_iconst (v := 0) X dX7_bestPitch_106 (by decide) ?_
    refine j_goto X 111 dX7_bestPitch_107 (by decide) ?_
    refine j_lv [] [] rfl ?_
    exact t_X7_bestPitch_111 X hr hlocks 0 ((b_X7_fails_0 w0 S).2) _ _ he
def b_X7_bestPitch_84 (kk : Int32 → Int32 → Int32 → Sx → Int32 × Sx) (v1 : Int32) (v2 : Int32) (v3 : Int32) (S : Sx) : Int32 × Sx := kk v1 v2 (v3 + 1) S
def o_X7_bestPitch_84 (ok : Int32 → Int32 → Int32 → Sx → Prop) (v1 : Int32) (v2 : Int32) (v3 : Int32) (S : Sx) : Prop := ok v1 v2 (v3 + 1) S
set_option maxRecDepth 20000 in
theorem t_X7_bestPitch_84 (X : Cx p m c cX7_bestPitch 4 s args RX7 D q ad) (hr : meth.sig.returnType = some .int) (hlocks : meth.locks = false) (kk : Int32 → Int32 → Int32 → Sx → Int32 × Sx) (ok : Int32 → Int32 → Int32 → Sx → Prop) (hkk : ∀ (v1 : Int32) (v2 : Int32) (v3 : Int32) (S : Sx) (rv : Int32) (S' : Sx) (ho : ok v1 v2 v3 S) (he : kk v1 v2 v3 S = (rv, S')), Jg p l e rm_X7_bestPitch s m args below meth c 0 0 (MQ below (Qi D q ad d rv S' s.heap.size) args s 0 0 (AU ad s.heap.size)) D q ad d 4 26 [(0, .ref (ad 5)), (1, .int v1), (2, .int v2), (3, .int v3)] [] S) (v1 : Int32) (v2 : Int32) (v3 : Int32) (S : Sx) (rv : Int32) (S' : Sx) (ho : o_X7_bestPitch_84 ok v1 v2 v3 S) (he : b_X7_bestPitch_84 kk v1 v2 v3 S = (rv, S')) : Jg p l e rm_X7_bestPitch s m args below meth c 0 0 (MQ below (Qi D q ad d rv S' s.heap.size) args s 0 0 (AU ad s.heap.size)) D q ad d 4 84 [(0, .ref (ad 5)), (1, .int v1), (2, .int v2), (3, .int v3)] [] S := by
  unfold b_X7_bestPitch_84 at he
  unfold o_X7_bestPitch_84 at ho
  refine j_iinc X 3 (v3 + 1) [(3, .int (v3 + 1)), (0, .ref (ad 5)), (1, .int v1), (2, .int v2)] dX7_bestPitch_84 rfl rfl (by decide) rfl ?_
  refine j_goto X 26 dX7_bestPitch_87 (by decide) ?_
  refine j_lv [1, 2, 3, 0] [(0, .ref (ad 5)), (1, .int v1), (2, .int v2), (3, .int (v3 + 1))] rfl ?_
  exact hkk v1 v2 (v3 + 1) S _ _ ho he
def b_X7_bestPitch_82 (kk : Int32 → Int32 → Int32 → Sx → Int32 × Sx) (v1 : Int32) (v3 : Int32) (S : Sx) : Int32 × Sx := b_X7_bestPitch_84 kk v1 v3 v3 S
def o_X7_bestPitch_82 (ok : Int32 → Int32 → Int32 → Sx → Prop) (v1 : Int32) (v3 : Int32) (S : Sx) : Prop := o_X7_bestPitch_84 ok v1 v3 v3 S
set_option maxRecDepth 20000 in
theorem t_X7_bestPitch_82 (X : Cx p m c cX7_bestPitch 4 s args RX7 D q ad) (hr : meth.sig.returnType = some .int) (hlocks : meth.locks = false) (kk : Int32 → Int32 → Int32 → Sx → Int32 × Sx) (ok : Int32 → Int32 → Int32 → Sx → Prop) (hkk : ∀ (v1 : Int32) (v2 : Int32) (v3 : Int32) (S : Sx) (rv : Int32) (S' : Sx) (ho : ok v1 v2 v3 S) (he : kk v1 v2 v3 S = (rv, S')), Jg p l e rm_X7_bestPitch s m args below meth c 0 0 (MQ below (Qi D q ad d rv S' s.heap.size) args s 0 0 (AU ad s.heap.size)) D q ad d 4 26 [(0, .ref (ad 5)), (1, .int v1), (2, .int v2), (3, .int v3)] [] S) (v1 : Int32) (v3 : Int32) (S : Sx) (rv : Int32) (S' : Sx) (ho : o_X7_bestPitch_82 ok v1 v3 S) (he : b_X7_bestPitch_82 kk v1 v3 S = (rv, S')) : Jg p l e rm_X7_bestPitch s m args below meth c 0 0 (MQ below (Qi D q ad d rv S' s.heap.size) args s 0 0 (AU ad s.heap.size)) D q ad d 4 82 [(0, .ref (ad 5)), (1, .int v1), (3, .int v3)] [] S := by
  unfold b_X7_bestPitch_82 at he
  unfold o_X7_bestPitch_82 at ho
  refine j_iload_n X 2 dX7_bestPitch_82 rfl ?_
  refine j_istore_n X [(2, .int v3), (0, .ref (ad 5)), (1, .int v1), (3, .int v3)] dX7_bestPitch_83 (by decide) rfl ?_
  refine j_lv [1, 2, 0, 3] [(0, .ref (ad 5)), (1, .int v1), (2, .int v3), (3, .int v3)] rfl ?_
  exact t_X7_bestPitch_84 X hr hlocks kk ok hkk v1 v3 v3 S _ _ ho he
def b_X7_bestPitch_26 : Nat → Int32 → Int32 → Int32 → Sx → Int32 × Sx
  | 0, _, _, _, S => (0, S)
  | n + 1, v1, v2, v3, S => if (S 6 ((50 : Int32).toNatClampNeg)) ≤ v3 then if 0 ≤ v2 then b_X7_bestPitch_100 v2 0 S else b_X7_bestPitch_100 v2 2 S else if (b_X7_calls_0 v1 v3 S) ≤ 0 then if v2 < 0 then b_X7_bestPitch_82 (b_X7_bestPitch_26 n) v1 v3 S else if ((b_X7_of_0 v3 1 S) - (b_X7_of_0 v3 2 S)) ≤ ((b_X7_of_0 v2 1 S) - (b_X7_of_0 v2 2 S)) then b_X7_bestPitch_84 (b_X7_bestPitch_26 n) v1 v2 v3 S else b_X7_bestPitch_82 (b_X7_bestPitch_26 n) v1 v3 S else b_X7_bestPitch_84 (b_X7_bestPitch_26 n) v1 v2 v3 S
def o_X7_bestPitch_26 : Nat → Int32 → Int32 → Int32 → Sx → Prop
  | 0, _, _, _, _ => False
  | n + 1, v1, v2, v3, S => ((S 6 ((50 : Int32).toNatClampNeg)) ≤ v3 → ((0 ≤ v2 → (o_X7_bestPitch_100 v2 0 S)) ∧ (¬ 0 ≤ v2 → (o_X7_bestPitch_100 v2 2 S)))) ∧ (¬ (S 6 ((50 : Int32).toNatClampNeg)) ≤ v3 → (o_X7_calls_0 v1 v3 S ∧ (((b_X7_calls_0 v1 v3 S) ≤ 0 → ((v2 < 0 → (o_X7_bestPitch_82 (o_X7_bestPitch_26 n) v1 v3 S)) ∧ (¬ v2 < 0 → (o_X7_of_0 v3 1 S ∧ (o_X7_of_0 v3 2 S ∧ (o_X7_of_0 v2 1 S ∧ (o_X7_of_0 v2 2 S ∧ ((((b_X7_of_0 v3 1 S) - (b_X7_of_0 v3 2 S)) ≤ ((b_X7_of_0 v2 1 S) - (b_X7_of_0 v2 2 S)) → (o_X7_bestPitch_84 (o_X7_bestPitch_26 n) v1 v2 v3 S)) ∧ (¬ ((b_X7_of_0 v3 1 S) - (b_X7_of_0 v3 2 S)) ≤ ((b_X7_of_0 v2 1 S) - (b_X7_of_0 v2 2 S)) → (o_X7_bestPitch_82 (o_X7_bestPitch_26 n) v1 v3 S)))))))))) ∧ (¬ (b_X7_calls_0 v1 v3 S) ≤ 0 → (o_X7_bestPitch_84 (o_X7_bestPitch_26 n) v1 v2 v3 S)))))
set_option maxRecDepth 20000 in
theorem t_X7_bestPitch_26 (X : Cx p m c cX7_bestPitch 4 s args RX7 D q ad) (hr : meth.sig.returnType = some .int) (hlocks : meth.locks = false) : ∀ (n : Nat) (v1 : Int32) (v2 : Int32) (v3 : Int32) (S : Sx) (rv : Int32) (S' : Sx) (ho : o_X7_bestPitch_26 n v1 v2 v3 S) (he : b_X7_bestPitch_26 n v1 v2 v3 S = (rv, S')), Jg p l e rm_X7_bestPitch s m args below meth c 0 0 (MQ below (Qi D q ad d rv S' s.heap.size) args s 0 0 (AU ad s.heap.size)) D q ad d 4 26 [(0, .ref (ad 5)), (1, .int v1), (2, .int v2), (3, .int v3)] [] S := by
  intro n
  induction n with
  | zero =>
    intro v1 v2 v3 S rv S' ho he
    unfold o_X7_bestPitch_26 at ho
    exact ho.elim
  | succ n ih =>
    intro v1 v2 v3 S rv S' ho he
    unfold b_X7_bestPitch_26 at he
    unfold o_X7_bestPitch_26 at ho
    refine j_iload_n X 3 dX7_bestPitch_26 rfl ?_
    refine j_aload_n X 0 dX7_bestPitch_27 rfl ?_
    refine gf_25_0 X m_fl_X7_7 kc25 dX7_bestPitch_28 ?_
    refine j_bipush (v := 50) X dX7_bestPitch_31 (by decide) ?_
    refine j_iald X kc26.1 (cl_26 kc26) (by unfold vp_in; decide) dX7_bestPitch_33 ?_
    refine j_icmp_ge X 90 dX7_bestPitch_34 (by decide) (fun h2 => ?_) (fun h2 => ?_)
    · rw [if_pos h2] at he
      have ho := ho.1 h2
      refine j_aload_n X 0 dX7_bestPitch_90 rfl ?_
      refine j_iload_n X 2 dX7_bestPitch_91 rfl ?_
      refine j_if_ge X 99 dX7_bestPitch_92 (by decide) (fun h3 => ?_) (fun h3 => ?_)
      · rw [if_pos h3] at he
        have ho := ho.1 h3
        refine j_iconst (v := 0) X dX7_bestPitch_99 (by decide) ?_
        refine j_lv [2] [(2, .int v2)] rfl ?_
        exact t_X7_bestPitch_100 X hr hlocks v2 0 S _ _ ho he
      · rw [if_neg h3] at he
        have ho := ho.2 h3
        refine j_iconst (v := 2) X dX7_bestPitch_95 (by decide) ?_
        refine j_goto X 100 dX7_bestPitch_96 (by decide) ?_
        refine j_lv [2] [(2, .int v2)] rfl ?_
        exact t_X7_bestPitch_100 X hr hlocks v2 2 S _ _ ho he
    · rw [if_neg h2] at he
      have ho := ho.2 h2
      refine j_aload_n X 0 dX7_bestPitch_37 rfl ?_
      refine j_iload_n X 1 dX7_bestPitch_38 rfl ?_
      refine j_iload_n X 3 dX7_bestPitch_39 rfl ?_
      have h4 := ho.1
      have ho := ho.2
      refine j_callVi (rest := []) X (c_X7_calls (cx_inj X) v1 v3 S h4) cw_X7_129 kc25.1 (cl_25 kc25) rfl ⟨rfl, rfl, Nat.le_of_ble_eq_true rfl, Nat.le_of_ble_eq_true rfl⟩ rfl rfl (Nat.le_of_ble_eq_true rfl) ⟨Nat.le_of_ble_eq_true rfl, Nat.le_of_ble_eq_true rfl⟩ dX7_bestPitch_40 ?_
      refine j_if_le X 49 dX7_bestPitch_43 (by decide) (fun h5 => ?_) (fun h5 => ?_)
      · rw [if_pos h5] at he
        have ho := ho.1 h5
        refine j_iload_n X 2 dX7_bestPitch_49 rfl ?_
        refine j_if_lt X 82 dX7_bestPitch_50 (by decide) (fun h6 => ?_) (fun h6 => ?_)
        · rw [if_pos h6] at he
          have ho := ho.1 h6
          refine j_lv [0, 1, 3] [(0, .ref (ad 5)), (1, .int v1), (3, .int v3)] rfl ?_
          exact t_X7_bestPitch_82 X hr hlocks (b_X7_bestPitch_26 n) (o_X7_bestPitch_26 n) ih v1 v3 S _ _ ho he
        · rw [if_neg h6] at he
          have ho := ho.2 h6
          refine j_aload_n X 0 dX7_bestPitch_53 rfl ?_
          refine j_iload_n X 3 dX7_bestPitch_54 rfl ?_
          refine j_iconst (v := 1) X dX7_bestPitch_55 (by decide) ?_
          have h7 := ho.1
          have ho := ho.2
          refine j_callVi (rest := []) X (c_X7_of (cx_inj X) v3 1 S h7) cw_X7_98 kc25.1 (cl_25 kc25) rfl ⟨rfl, rfl, Nat.le_of_ble_eq_true rfl, Nat.le_of_ble_eq_true rfl⟩ rfl rfl (Nat.le_of_ble_eq_true rfl) ⟨Nat.le_of_ble_eq_true rfl, Nat.le_of_ble_eq_true rfl⟩ dX7_bestPitch_56 ?_
          refine j_aload_n X 0 dX7_bestPitch_59 rfl ?_
          refine j_iload_n X 3 dX7_bestPitch_60 rfl ?_
          refine j_iconst (v := 2) X dX7_bestPitch_61 (by decide) ?_
          have h8 := ho.1
          have ho := ho.2
          refine j_callVi (rest := [.int (b_X7_of_0 v3 1 S)]) X (c_X7_of (cx_inj X) v3 2 S h8) cw_X7_98 kc25.1 (cl_25 kc25) rfl ⟨rfl, rfl, Nat.le_of_ble_eq_true rfl, Nat.le_of_ble_eq_true rfl⟩ rfl rfl (Nat.le_of_ble_eq_true rfl) ⟨Nat.le_of_ble_eq_true rfl, Nat.le_of_ble_eq_true rfl⟩ dX7_bestPitch_62 ?_
          refine j_isub X dX7_bestPitch_65 ?_
          refine j_aload_n X 0 dX7_bestPitch_66 rfl ?_
          refine j_iload_n X 2 dX7_bestPitch_67 rfl ?_
          refine j_iconst (v := 1) X dX7_bestPitch_68 (by decide) ?_
          have h9 := ho.1
          have ho := ho.2
          refine j_callVi (rest := [.int ((b_X7_of_0 v3 1 S) - (b_X7_of_0 v3 2 S))]) X (c_X7_of (cx_inj X) v2 1 S h9) cw_X7_98 kc25.1 (cl_25 kc25) rfl ⟨rfl, rfl, Nat.le_of_ble_eq_true rfl, Nat.le_of_ble_eq_true rfl⟩ rfl rfl (Nat.le_of_ble_eq_true rfl) ⟨Nat.le_of_ble_eq_true rfl, Nat.le_of_ble_eq_true rfl⟩ dX7_bestPitch_69 ?_
          refine j_aload_n X 0 dX7_bestPitch_72 rfl ?_
          refine j_iload_n X 2 dX7_bestPitch_73 rfl ?_
          refine j_iconst (v := 2) X dX7_bestPitch_74 (by decide) ?_
          have h10 := ho.1
          have ho := ho.2
          refine j_callVi (rest := [.int (b_X7_of_0 v2 1 S), .int ((b_X7_of_0 v3 1 S) - (b_X7_of_0 v3 2 S))]) X (c_X7_of (cx_inj X) v2 2 S h10) cw_X7_98 kc25.1 (cl_25 kc25) rfl ⟨rfl, rfl, Nat.le_of_ble_eq_true rfl, Nat.le_of_ble_eq_true rfl⟩ rfl rfl (Nat.le_of_ble_eq_true rfl) ⟨Nat.le_of_ble_eq_true rfl, Nat.le_of_ble_eq_true rfl⟩ dX7_bestPitch_75 ?_
          refine j_isub X dX7_bestPitch_78 ?_
          refine j_icmp_le X 84 dX7_bestPitch_79 (by decide) (fun h11 => ?_) (fun h11 => ?_)
          · rw [if_pos h11] at he
            have ho := ho.1 h11
            exact t_X7_bestPitch_84 X hr hlocks (b_X7_bestPitch_26 n) (o_X7_bestPitch_26 n) ih v1 v2 v3 S _ _ ho he
          · rw [if_neg h11] at he
            have ho := ho.2 h11
            refine j_lv [0, 1, 3] [(0, .ref (ad 5)), (1, .int v1), (3, .int v3)] rfl ?_
            exact t_X7_bestPitch_82 X hr hlocks (b_X7_bestPitch_26 n) (o_X7_bestPitch_26 n) ih v1 v3 S _ _ ho he
      · rw [if_neg h5] at he
        have ho := ho.2 h5
        refine j_goto X 84 dX7_bestPitch_46 (by decide) ?_
        exact t_X7_bestPitch_84 X hr hlocks (b_X7_bestPitch_26 n) (o_X7_bestPitch_26 n) ih v1 v2 v3 S _ _ ho he
def b_X7_bestPitch_14 (v1 : Int32) (w0 : Int32) (S : Sx) : Int32 × Sx := if ((b_X7_fails_0 w0 S).1) = 0 then b_X7_bestPitch_26 100 v1 (-1) 0 ((b_X7_fails_0 w0 S).2) else (0, (b_X7_fails_0 w0 S).2)
def o_X7_bestPitch_14 (v1 : Int32) (w0 : Int32) (S : Sx) : Prop := o_X7_fails_0 w0 S ∧ ((((b_X7_fails_0 w0 S).1) = 0 → (o_X7_bestPitch_26 100 v1 (-1) 0 ((b_X7_fails_0 w0 S).2))) ∧ (¬ ((b_X7_fails_0 w0 S).1) = 0 → True))
set_option maxRecDepth 20000 in
theorem t_X7_bestPitch_14 (X : Cx p m c cX7_bestPitch 4 s args RX7 D q ad) (hr : meth.sig.returnType = some .int) (hlocks : meth.locks = false) (v1 : Int32) (w0 : Int32) (S : Sx) (rv : Int32) (S' : Sx) (ho : o_X7_bestPitch_14 v1 w0 S) (he : b_X7_bestPitch_14 v1 w0 S = (rv, S')) : Jg p l e rm_X7_bestPitch s m args below meth c 0 0 (MQ below (Qi D q ad d rv S' s.heap.size) args s 0 0 (AU ad s.heap.size)) D q ad d 4 14 [(0, .ref (ad 5)), (1, .int v1)] [.int w0, .ref (ad 5)] S := by
  unfold b_X7_bestPitch_14 at he
  unfold o_X7_bestPitch_14 at ho
  have h2 := ho.1
  have ho := ho.2
  refine j_callVi (rest := []) X (c_X7_fails (cx_inj X) w0 S h2) cw_X7_70 kc25.1 (cl_25 kc25) rfl ⟨rfl, rfl, Nat.le_of_ble_eq_true rfl, Nat.le_of_ble_eq_true rfl⟩ rfl rfl (Nat.le_of_ble_eq_true rfl) ⟨Nat.le_of_ble_eq_true rfl, Nat.le_of_ble_eq_true rfl⟩ dX7_bestPitch_14 ?_
  refine j_if_eq X 22 dX7_bestPitch_17 (by decide) (fun h3 => ?_) (fun h3 => ?_)
  · rw [if_pos h3] at he
    have ho := ho.1 h3
    refine j_iconst (v := (-1)) X dX7_bestPitch_22 (by decide) ?_
    refine j_istore_n X [(2, .int (-1)), (0, .ref (ad 5)), (1, .int v1)] dX7_bestPitch_23 (by decide) rfl ?_
    refine j_iconst (v := 0) X dX7_bestPitch_24 (by decide) ?_
    refine j_istore_n X [(3, .int 0), (2, .int (-1)), (0, .ref (ad 5)), (1, .int v1)] dX7_bestPitch_25 (by decide) rfl ?_
    refine j_lv [2, 3, 1, 0] [(0, .ref (ad 5)), (1, .int v1), (2, .int (-1)), (3, .int 0)] rfl ?_
    exact t_X7_bestPitch_26 X hr hlocks 100 v1 (-1) 0 ((b_X7_fails_0 w0 S).2) _ _ ho he
  · rw [if_neg h3] at he
    have ho := ho.2 h3
    refine j_iconst (v := 0) X dX7_bestPitch_20 (by decide) ?_
    exact j_iret X hr hlocks dX7_bestPitch_21 (congrArg Prod.fst he) (congrArg Prod.snd he)
def b_X7_bestPitch_0 (x1 : Int32) (S : Sx) : Int32 × Sx := if (b_X7_isUmpire_0 x1 S) = 0 then b_X7_bestPitch_14 x1 1 S else b_X7_bestPitch_14 x1 0 S
def o_X7_bestPitch_0 (x1 : Int32) (S : Sx) : Prop := o_X7_isUmpire_0 x1 S ∧ (((b_X7_isUmpire_0 x1 S) = 0 → (o_X7_bestPitch_14 x1 1 S)) ∧ (¬ (b_X7_isUmpire_0 x1 S) = 0 → (o_X7_bestPitch_14 x1 0 S)))
set_option maxRecDepth 20000 in
theorem t_X7_bestPitch_0 (X : Cx p m c cX7_bestPitch 4 s args RX7 D q ad) (hr : meth.sig.returnType = some .int) (hlocks : meth.locks = false) (x1 : Int32) (S : Sx) (rv : Int32) (S' : Sx) (ho : o_X7_bestPitch_0 x1 S) (he : b_X7_bestPitch_0 x1 S = (rv, S')) : Jg p l e rm_X7_bestPitch s m args below meth c 0 0 (MQ below (Qi D q ad d rv S' s.heap.size) args s 0 0 (AU ad s.heap.size)) D q ad d 4 0 [(0, .ref (ad 5)), (1, .int x1)] [] S := by
  unfold b_X7_bestPitch_0 at he
  unfold o_X7_bestPitch_0 at ho
  refine j_aload_n X 0 dX7_bestPitch_0 rfl ?_
  refine j_aload_n X 0 dX7_bestPitch_1 rfl ?_
  refine j_iload_n X 1 dX7_bestPitch_2 rfl ?_
  have h2 := ho.1
  have ho := ho.2
  refine j_callVi (rest := [.ref (ad 5)]) X (c_X7_isUmpire (cx_inj X) x1 S h2) cw_X7_126 kc25.1 (cl_25 kc25) rfl ⟨rfl, rfl, Nat.le_of_ble_eq_true rfl, Nat.le_of_ble_eq_true rfl⟩ rfl rfl (Nat.le_of_ble_eq_true rfl) ⟨Nat.le_of_ble_eq_true rfl, Nat.le_of_ble_eq_true rfl⟩ dX7_bestPitch_3 ?_
  refine j_if_eq X 13 dX7_bestPitch_6 (by decide) (fun h3 => ?_) (fun h3 => ?_)
  · rw [if_pos h3] at he
    have ho := ho.1 h3
    refine j_iconst (v := 1) X dX7_bestPitch_13 (by decide) ?_
    exact t_X7_bestPitch_14 X hr hlocks x1 1 S _ _ ho he
  · rw [if_neg h3] at he
    have ho := ho.2 h3
    refine j_iconst (v := 0) X dX7_bestPitch_9 (by decide) ?_
    refine j_goto X 14 dX7_bestPitch_10 (by decide) ?_
    exact t_X7_bestPitch_14 X hr hlocks x1 0 S _ _ ho he
theorem c_X7_bestPitch {l : Launch} {D : va_G} {q : Nat → ClassId} {ad : Nat → Nat} {d : UInt64} (hI : inj4 ad) (x1 : Int32) (S : Sx) (ho : o_X7_bestPitch_0 x1 S) : CI l yX7_bestPitch cX7_bestPitch 4 .int rm_X7_bestPitch D q ad d [.ref (ad 5), .int x1] S (b_X7_bestPitch_0 x1 S).1 (b_X7_bestPitch_0 x1 S).2 := ci_of hI (by decide +kernel) (Nat.le_of_ble_eq_true rfl) rfl (fun p e s m args below meth c X hr hlocks => t_X7_bestPitch_0 X hr hlocks x1 S _ _ ho (pe _))
end
/-! RX7.innings -/
abbrev rm_X7_innings : Room := { frames := 3, cells := 0, slots := 0, locals := 67 }
section
variable {p : Program} {l : Launch} {e : Env} {s : State} {m : MethodId} {args : Array Value} {below : List Frame} {meth : Method} {c : Code} {D : va_G} {q : Nat → ClassId} {ad : Nat → Nat} {d : UInt64}
def b_X7_innings_178 (v3 : Int32) (v4 : Int32) (S : Sx) : Int32 × Sx := (v4, b_X7_laysInnings_0 v4 2 v3 S)
def o_X7_innings_178 (v3 : Int32) (v4 : Int32) (S : Sx) : Prop := o_X7_laysInnings_0 v4 2 v3 S ∧ True
set_option maxRecDepth 20000 in
theorem t_X7_innings_178 (X : Cx p m c cX7_innings 6 s args RX7 D q ad) (hr : meth.sig.returnType = some .int) (hlocks : meth.locks = false) (v3 : Int32) (v4 : Int32) (S : Sx) (rv : Int32) (S' : Sx) (ho : o_X7_innings_178 v3 v4 S) (he : b_X7_innings_178 v3 v4 S = (rv, S')) : Jg p l e rm_X7_innings s m args below meth c 0 0 (MQ below (Qi D q ad d rv S' s.heap.size) args s 0 0 (AU ad s.heap.size)) D q ad d 6 178 [(0, .ref (ad 5)), (3, .int v3), (4, .int v4)] [] S := by
  unfold b_X7_innings_178 at he
  unfold o_X7_innings_178 at ho
  refine j_aload_n X 0 dX7_innings_178 rfl ?_
  refine j_iload X 2 dX7_innings_179 rfl ?_
  refine j_iconst (v := 2) X dX7_innings_181 (by decide) ?_
  refine j_iload_n X 1 dX7_innings_182 rfl ?_
  have h2 := ho.1
  have ho := ho.2
  refine j_callVv (rest := []) X (c_X7_laysInnings (cx_inj X) v4 2 v3 S h2) cw_X7_135 kc25.1 (cl_25 kc25) rfl ⟨rfl, rfl, Nat.le_of_ble_eq_true rfl, Nat.le_of_ble_eq_true rfl⟩ rfl rfl (Nat.le_of_ble_eq_true rfl) ⟨Nat.le_of_ble_eq_true rfl, Nat.le_of_ble_eq_true rfl⟩ dX7_innings_183 ?_
  refine j_iload X 2 dX7_innings_186 rfl ?_
  exact j_iret X hr hlocks dX7_innings_188 (congrArg Prod.fst he) (congrArg Prod.snd he)
def b_X7_innings_140 : Nat → Int32 → Int32 → Int32 → Int32 → Int32 → Sx → Int32 × Sx
  | 0, _, _, _, _, _, S => (0, S)
  | n + 1, v1, v2, v3, v4, v5, S => if 14 ≤ v5 then b_X7_innings_178 v3 v4 (b_X7_laysInnings_0 v4 1 v2 (b_X7_laysInnings_0 v4 0 v1 S)) else b_X7_innings_140 n v1 v2 v3 v4 (v5 + 1) (b_X7_laysInnings_0 v4 v5 0 S)
def o_X7_innings_140 : Nat → Int32 → Int32 → Int32 → Int32 → Int32 → Sx → Prop
  | 0, _, _, _, _, _, _ => False
  | n + 1, v1, v2, v3, v4, v5, S => (14 ≤ v5 → (o_X7_laysInnings_0 v4 0 v1 S ∧ (o_X7_laysInnings_0 v4 1 v2 (b_X7_laysInnings_0 v4 0 v1 S) ∧ (o_X7_innings_178 v3 v4 (b_X7_laysInnings_0 v4 1 v2 (b_X7_laysInnings_0 v4 0 v1 S)))))) ∧ (¬ 14 ≤ v5 → (o_X7_laysInnings_0 v4 v5 0 S ∧ (o_X7_innings_140 n v1 v2 v3 v4 (v5 + 1) (b_X7_laysInnings_0 v4 v5 0 S))))
set_option maxRecDepth 20000 in
theorem t_X7_innings_140 (X : Cx p m c cX7_innings 6 s args RX7 D q ad) (hr : meth.sig.returnType = some .int) (hlocks : meth.locks = false) : ∀ (n : Nat) (v1 : Int32) (v2 : Int32) (v3 : Int32) (v4 : Int32) (v5 : Int32) (S : Sx) (rv : Int32) (S' : Sx) (ho : o_X7_innings_140 n v1 v2 v3 v4 v5 S) (he : b_X7_innings_140 n v1 v2 v3 v4 v5 S = (rv, S')), Jg p l e rm_X7_innings s m args below meth c 0 0 (MQ below (Qi D q ad d rv S' s.heap.size) args s 0 0 (AU ad s.heap.size)) D q ad d 6 140 [(0, .ref (ad 5)), (1, .int v1), (2, .int v2), (3, .int v3), (4, .int v4), (5, .int v5)] [] S := by
  intro n
  induction n with
  | zero =>
    intro v1 v2 v3 v4 v5 S rv S' ho he
    unfold o_X7_innings_140 at ho
    exact ho.elim
  | succ n ih =>
    intro v1 v2 v3 v4 v5 S rv S' ho he
    unfold b_X7_innings_140 at he
    unfold o_X7_innings_140 at ho
    refine j_iload X 5 dX7_innings_140 rfl ?_
    refine j_bipush (v := 14) X dX7_innings_142 (by decide) ?_
    refine j_icmp_ge X 162 dX7_innings_144 (by decide) (fun h2 => ?_) (fun h2 => ?_)
    · rw [if_pos h2] at he
      have ho := ho.1 h2
      refine j_aload_n X 0 dX7_innings_162 rfl ?_
      refine j_iload X 4 dX7_innings_163 rfl ?_
      refine j_iconst (v := 0) X dX7_innings_165 (by decide) ?_
      refine j_iload_n X 1 dX7_innings_166 rfl ?_
      have h3 := ho.1
      have ho := ho.2
      refine j_callVv (rest := []) X (c_X7_laysInnings (cx_inj X) v4 0 v1 S h3) cw_X7_135 kc25.1 (cl_25 kc25) rfl ⟨rfl, rfl, Nat.le_of_ble_eq_true rfl, Nat.le_of_ble_eq_true rfl⟩ rfl rfl (Nat.le_of_ble_eq_true rfl) ⟨Nat.le_of_ble_eq_true rfl, Nat.le_of_ble_eq_true rfl⟩ dX7_innings_167 ?_
      refine j_aload_n X 0 dX7_innings_170 rfl ?_
      refine j_iload X 4 dX7_innings_171 rfl ?_
      refine j_iconst (v := 1) X dX7_innings_173 (by decide) ?_
      refine j_iload_n X 2 dX7_innings_174 rfl ?_
      have h4 := ho.1
      have ho := ho.2
      refine j_callVv (rest := []) X (c_X7_laysInnings (cx_inj X) v4 1 v2 (b_X7_laysInnings_0 v4 0 v1 S) h4) cw_X7_135 kc25.1 (cl_25 kc25) rfl ⟨rfl, rfl, Nat.le_of_ble_eq_true rfl, Nat.le_of_ble_eq_true rfl⟩ rfl rfl (Nat.le_of_ble_eq_true rfl) ⟨Nat.le_of_ble_eq_true rfl, Nat.le_of_ble_eq_true rfl⟩ dX7_innings_175 ?_
      refine j_lv [0, 3, 4] [(0, .ref (ad 5)), (3, .int v3), (4, .int v4)] rfl ?_
      exact t_X7_innings_178 X hr hlocks v3 v4 (b_X7_laysInnings_0 v4 1 v2 (b_X7_laysInnings_0 v4 0 v1 S)) _ _ ho he
    · rw [if_neg h2] at he
      have ho := ho.2 h2
      refine j_aload_n X 0 dX7_innings_147 rfl ?_
      refine j_iload X 4 dX7_innings_148 rfl ?_
      refine j_iload X 5 dX7_innings_150 rfl ?_
      refine j_iconst (v := 0) X dX7_innings_152 (by decide) ?_
      have h5 := ho.1
      have ho := ho.2
      refine j_callVv (rest := []) X (c_X7_laysInnings (cx_inj X) v4 v5 0 S h5) cw_X7_135 kc25.1 (cl_25 kc25) rfl ⟨rfl, rfl, Nat.le_of_ble_eq_true rfl, Nat.le_of_ble_eq_true rfl⟩ rfl rfl (Nat.le_of_ble_eq_true rfl) ⟨Nat.le_of_ble_eq_true rfl, Nat.le_of_ble_eq_true rfl⟩ dX7_innings_153 ?_
      refine j_iinc X 5 (v5 + 1) [(5, .int (v5 + 1)), (0, .ref (ad 5)), (1, .int v1), (2, .int v2), (3, .int v3), (4, .int v4)] dX7_innings_156 rfl rfl (by decide) rfl ?_
      refine j_goto X 140 dX7_innings_159 (by decide) ?_
      refine j_lv [1, 2, 3, 4, 5, 0] [(0, .ref (ad 5)), (1, .int v1), (2, .int v2), (3, .int v3), (4, .int v4), (5, .int (v5 + 1))] rfl ?_
      exact ih v1 v2 v3 v4 (v5 + 1) (b_X7_laysInnings_0 v4 v5 0 S) _ _ ho he
def b_X7_innings_137 (v1 : Int32) (v2 : Int32) (v3 : Int32) (v4 : Int32) (S : Sx) : Int32 × Sx := b_X7_innings_140 100 v1 v2 v3 v4 0 S
def o_X7_innings_137 (v1 : Int32) (v2 : Int32) (v3 : Int32) (v4 : Int32) (S : Sx) : Prop := o_X7_innings_140 100 v1 v2 v3 v4 0 S
set_option maxRecDepth 20000 in
theorem t_X7_innings_137 (X : Cx p m c cX7_innings 6 s args RX7 D q ad) (hr : meth.sig.returnType = some .int) (hlocks : meth.locks = false) (v1 : Int32) (v2 : Int32) (v3 : Int32) (v4 : Int32) (S : Sx) (rv : Int32) (S' : Sx) (ho : o_X7_innings_137 v1 v2 v3 v4 S) (he : b_X7_innings_137 v1 v2 v3 v4 S = (rv, S')) : Jg p l e rm_X7_innings s m args below meth c 0 0 (MQ below (Qi D q ad d rv S' s.heap.size) args s 0 0 (AU ad s.heap.size)) D q ad d 6 137 [(0, .ref (ad 5)), (1, .int v1), (2, .int v2), (3, .int v3), (4, .int v4)] [] S := by
  unfold b_X7_innings_137 at he
  unfold o_X7_innings_137 at ho
  refine j_iconst (v := 0) X dX7_innings_137 (by decide) ?_
  refine j_istore X [(5, .int 0), (0, .ref (ad 5)), (1, .int v1), (2, .int v2), (3, .int v3), (4, .int v4)] dX7_innings_138 (by decide) rfl ?_
  refine j_lv [1, 2, 3, 4, 5, 0] [(0, .ref (ad 5)), (1, .int v1), (2, .int v2), (3, .int v3), (4, .int v4), (5, .int 0)] rfl ?_
  exact t_X7_innings_140 X hr hlocks 100 v1 v2 v3 v4 0 S _ _ ho he
def b_X7_innings_37 (v1 : Int32) (v2 : Int32) (v3 : Int32) (w0 : Int32) (S : Sx) : Int32 × Sx := if ((b_X7_fails_0 w0 S).1) = 0 then if (((b_X7_fails_0 w0 S).2) 6 ((106 : Int32).toNatClampNeg)) = 12 then ((b_X7_refuses_0 3 1 12 ((b_X7_fails_0 w0 S).2)).1, (b_X7_refuses_0 3 1 12 ((b_X7_fails_0 w0 S).2)).2) else if (b_X7_openOn_0 v1 ((b_X7_fails_0 w0 S).2)) < 0 then if (b_X7_calls_0 v2 v1 ((b_X7_fails_0 w0 S).2)) ≤ 0 then b_X7_innings_137 v1 v2 v3 ((b_X7_keeps_0 6 ((b_X7_fails_0 w0 S).2)) 6 ((106 : Int32).toNatClampNeg)) (up2 (b_X7_keeps_0 6 ((b_X7_fails_0 w0 S).2)) 6 ((106 : Int32).toNatClampNeg) (((b_X7_keeps_0 6 ((b_X7_fails_0 w0 S).2)) 6 ((106 : Int32).toNatClampNeg)) + 1)) else ((b_X7_refuses_0 3 8 (b_X7_calls_0 v2 v1 ((b_X7_fails_0 w0 S).2)) ((b_X7_fails_0 w0 S).2)).1, (b_X7_refuses_0 3 8 (b_X7_calls_0 v2 v1 ((b_X7_fails_0 w0 S).2)) ((b_X7_fails_0 w0 S).2)).2) else ((b_X7_refuses_0 3 5 (b_X7_openOn_0 v1 ((b_X7_fails_0 w0 S).2)) ((b_X7_fails_0 w0 S).2)).1, (b_X7_refuses_0 3 5 (b_X7_openOn_0 v1 ((b_X7_fails_0 w0 S).2)) ((b_X7_fails_0 w0 S).2)).2) else (0, (b_X7_fails_0 w0 S).2)
def o_X7_innings_37 (v1 : Int32) (v2 : Int32) (v3 : Int32) (w0 : Int32) (S : Sx) : Prop := o_X7_fails_0 w0 S ∧ ((((b_X7_fails_0 w0 S).1) = 0 → (((((b_X7_fails_0 w0 S).2) 6 ((106 : Int32).toNatClampNeg)) = 12 → True) ∧ (¬ (((b_X7_fails_0 w0 S).2) 6 ((106 : Int32).toNatClampNeg)) = 12 → (o_X7_openOn_0 v1 ((b_X7_fails_0 w0 S).2) ∧ (((b_X7_openOn_0 v1 ((b_X7_fails_0 w0 S).2)) < 0 → (o_X7_calls_0 v2 v1 ((b_X7_fails_0 w0 S).2) ∧ (((b_X7_calls_0 v2 v1 ((b_X7_fails_0 w0 S).2)) ≤ 0 → (o_X7_keeps_0 6 ((b_X7_fails_0 w0 S).2) ∧ (o_X7_innings_137 v1 v2 v3 ((b_X7_keeps_0 6 ((b_X7_fails_0 w0 S).2)) 6 ((106 : Int32).toNatClampNeg)) (up2 (b_X7_keeps_0 6 ((b_X7_fails_0 w0 S).2)) 6 ((106 : Int32).toNatClampNeg) (((b_X7_keeps_0 6 ((b_X7_fails_0 w0 S).2)) 6 ((106 : Int32).toNatClampNeg)) + 1))))) ∧ (¬ (b_X7_calls_0 v2 v1 ((b_X7_fails_0 w0 S).2)) ≤ 0 → (o_X7_calls_0 v2 v1 ((b_X7_fails_0 w0 S).2) ∧ True))))) ∧ (¬ (b_X7_openOn_0 v1 ((b_X7_fails_0 w0 S).2)) < 0 → (o_X7_openOn_0 v1 ((b_X7_fails_0 w0 S).2) ∧ True))))))) ∧ (¬ ((b_X7_fails_0 w0 S).1) = 0 → True))
set_option maxRecDepth 20000 in
theorem t_X7_innings_37 (X : Cx p m c cX7_innings 6 s args RX7 D q ad) (hr : meth.sig.returnType = some .int) (hlocks : meth.locks = false) (v1 : Int32) (v2 : Int32) (v3 : Int32) (w0 : Int32) (S : Sx) (rv : Int32) (S' : Sx) (ho : o_X7_innings_37 v1 v2 v3 w0 S) (he : b_X7_innings_37 v1 v2 v3 w0 S = (rv, S')) : Jg p l e rm_X7_innings s m args below meth c 0 0 (MQ below (Qi D q ad d rv S' s.heap.size) args s 0 0 (AU ad s.heap.size)) D q ad d 6 37 [(0, .ref (ad 5)), (1, .int v1), (2, .int v2), (3, .int v3)] [.int w0, .ref (ad 5)] S := by
  unfold b_X7_innings_37 at he
  unfold o_X7_innings_37 at ho
  have h2 := ho.1
  have ho := ho.2
  refine j_callVi (rest := []) X (c_X7_fails (cx_inj X) w0 S h2) cw_X7_70 kc25.1 (cl_25 kc25) rfl ⟨rfl, rfl, Nat.le_of_ble_eq_true rfl, Nat.le_of_ble_eq_true rfl⟩ rfl rfl (Nat.le_of_ble_eq_true rfl) ⟨Nat.le_of_ble_eq_true rfl, Nat.le_of_ble_eq_true rfl⟩ dX7_innings_37 ?_
  refine j_if_eq X 45 dX7_innings_40 (by decide) (fun h3 => ?_) (fun h3 => ?_)
  · rw [if_pos h3] at he
    have ho := ho.1 h3
    refine j_aload_n X 0 dX7_innings_45 rfl ?_
    refine gf_25_0 X m_fl_X7_7 kc25 dX7_innings_46 ?_
    refine j_bipush (v := 106) X dX7_innings_49 (by decide) ?_
    refine j_iald X kc26.1 (cl_26 kc26) (by unfold vp_in; decide) dX7_innings_51 ?_
    refine j_bipush (v := 12) X dX7_innings_52 (by decide) ?_
    refine j_icmp_ne X 66 dX7_innings_54 (by decide) (fun h4 => ?_) (fun h4 => ?_)
    · rw [if_neg h4] at he
      have ho := ho.2 h4
      refine j_aload_n X 0 dX7_innings_66 rfl ?_
      refine j_iload_n X 1 dX7_innings_67 rfl ?_
      have h5 := ho.1
      have ho := ho.2
      refine j_callVi (rest := []) X (c_X7_openOn (cx_inj X) v1 ((b_X7_fails_0 w0 S).2) h5) cw_X7_101 kc25.1 (cl_25 kc25) rfl ⟨rfl, rfl, Nat.le_of_ble_eq_true rfl, Nat.le_of_ble_eq_true rfl⟩ rfl rfl (Nat.le_of_ble_eq_true rfl) ⟨Nat.le_of_ble_eq_true rfl, Nat.le_of_ble_eq_true rfl⟩ dX7_innings_68 ?_
      refine j_if_lt X 86 dX7_innings_71 (by decide) (fun h6 => ?_) (fun h6 => ?_)
      · rw [if_pos h6] at he
        have ho := ho.1 h6
        refine j_aload_n X 0 dX7_innings_86 rfl ?_
        refine j_iload_n X 2 dX7_innings_87 rfl ?_
        refine j_iload_n X 1 dX7_innings_88 rfl ?_
        have h7 := ho.1
        have ho := ho.2
        refine j_callVi (rest := []) X (c_X7_calls (cx_inj X) v2 v1 ((b_X7_fails_0 w0 S).2) h7) cw_X7_129 kc25.1 (cl_25 kc25) rfl ⟨rfl, rfl, Nat.le_of_ble_eq_true rfl, Nat.le_of_ble_eq_true rfl⟩ rfl rfl (Nat.le_of_ble_eq_true rfl) ⟨Nat.le_of_ble_eq_true rfl, Nat.le_of_ble_eq_true rfl⟩ dX7_innings_89 ?_
        refine j_if_le X 109 dX7_innings_92 (by decide) (fun h8 => ?_) (fun h8 => ?_)
        · rw [if_pos h8] at he
          have ho := ho.1 h8
          refine j_aload_n X 0 dX7_innings_109 rfl ?_
          refine j_aload_n X 0 dX7_innings_110 rfl ?_
          refine gf_25_0 X m_fl_X7_7 kc25 dX7_innings_111 ?_
          have h9 := ho.1
          have ho := ho.2
          refine j_callVv (rest := []) X (c_X7_keeps (cx_inj X) 6 (isA_of26 kc26) ((b_X7_fails_0 w0 S).2) h9) cw_X7_62 kc25.1 (cl_25 kc25) rfl ⟨rfl, rfl, Nat.le_of_ble_eq_true rfl, Nat.le_of_ble_eq_true rfl⟩ rfl rfl (Nat.le_of_ble_eq_true rfl) ⟨Nat.le_of_ble_eq_true rfl, Nat.le_of_ble_eq_true rfl⟩ dX7_innings_114 ?_
          refine j_aload_n X 0 dX7_innings_117 rfl ?_
          refine gf_25_0 X m_fl_X7_7 kc25 dX7_innings_118 ?_
          refine j_bipush (v := 106) X dX7_innings_121 (by decide) ?_
          refine j_iald X kc26.1 (cl_26 kc26) (by unfold vp_in; decide) dX7_innings_123 ?_
          refine j_istore X [(4, .int ((b_X7_keeps_0 6 ((b_X7_fails_0 w0 S).2)) 6 ((106 : Int32).toNatClampNeg))), (0, .ref (ad 5)), (1, .int v1), (2, .int v2), (3, .int v3)] dX7_innings_124 (by decide) rfl ?_
          refine j_aload_n X 1 dX7_innings_126 rfl ?_
          refine gf_25_0 X m_fl_X7_7 kc25 dX7_innings_127 ?_
          refine j_bipush (v := 106) X dX7_innings_130 (by decide) ?_
          refine j_dup2 X dX7_innings_132 rfl rfl ?_
          refine j_iald X kc26.1 (cl_26 kc26) (by unfold vp_in; decide) dX7_innings_133 ?_
          refine j_iconst (v := 1) X dX7_innings_134 (by decide) ?_
          refine j_iadd X dX7_innings_135 ?_
          refine j_iast X kc26.1 (fun T => cl_26 kc26) (by unfold vp_in; decide) dX7_innings_136 ?_
          refine j_lv [1, 2, 3, 4, 0] [(0, .ref (ad 5)), (1, .int v1), (2, .int v2), (3, .int v3), (4, .int ((b_X7_keeps_0 6 ((b_X7_fails_0 w0 S).2)) 6 ((106 : Int32).toNatClampNeg)))] rfl ?_
          exact t_X7_innings_137 X hr hlocks v1 v2 v3 ((b_X7_keeps_0 6 ((b_X7_fails_0 w0 S).2)) 6 ((106 : Int32).toNatClampNeg)) (up2 (b_X7_keeps_0 6 ((b_X7_fails_0 w0 S).2)) 6 ((106 : Int32).toNatClampNeg) (((b_X7_keeps_0 6 ((b_X7_fails_0 w0 S).2)) 6 ((106 : Int32).toNatClampNeg)) + 1)) _ _ ho he
        · rw [if_neg h8] at he
          have ho := ho.2 h8
          refine j_aload_n X 0 dX7_innings_95 rfl ?_
          refine j_iconst (v := 3) X dX7_innings_96 (by decide) ?_
          refine j_bipush (v := 8) X dX7_innings_97 (by decide) ?_
          refine j_aload_n X 0 dX7_innings_99 rfl ?_
          refine j_iload_n X 2 dX7_innings_100 rfl ?_
          refine j_iload_n X 1 dX7_innings_101 rfl ?_
          have h10 := ho.1
          have ho := ho.2
          refine j_callVi (rest := [.int 8, .int 3, .ref (ad 5)]) X (c_X7_calls (cx_inj X) v2 v1 ((b_X7_fails_0 w0 S).2) h10) cw_X7_129 kc25.1 (cl_25 kc25) rfl ⟨rfl, rfl, Nat.le_of_ble_eq_true rfl, Nat.le_of_ble_eq_true rfl⟩ rfl rfl (Nat.le_of_ble_eq_true rfl) ⟨Nat.le_of_ble_eq_true rfl, Nat.le_of_ble_eq_true rfl⟩ dX7_innings_102 ?_
          refine j_callVi (rest := []) X (c_X7_refuses (cx_inj X) 3 8 (b_X7_calls_0 v2 v1 ((b_X7_fails_0 w0 S).2)) ((b_X7_fails_0 w0 S).2)) cw_X7_77 kc25.1 (cl_25 kc25) rfl ⟨rfl, rfl, Nat.le_of_ble_eq_true rfl, Nat.le_of_ble_eq_true rfl⟩ rfl rfl (Nat.le_of_ble_eq_true rfl) ⟨Nat.le_of_ble_eq_true rfl, Nat.le_of_ble_eq_true rfl⟩ dX7_innings_105 ?_
          exact j_iret X hr hlocks dX7_innings_108 (congrArg Prod.fst he) (congrArg Prod.snd he)
      · rw [if_neg h6] at he
        have ho := ho.2 h6
        refine j_aload_n X 0 dX7_innings_74 rfl ?_
        refine j_iconst (v := 3) X dX7_innings_75 (by decide) ?_
        refine j_iconst (v := 5) X dX7_innings_76 (by decide) ?_
        refine j_aload_n X 0 dX7_innings_77 rfl ?_
        refine j_iload_n X 1 dX7_innings_78 rfl ?_
        have h11 := ho.1
        have ho := ho.2
        refine j_callVi (rest := [.int 5, .int 3, .ref (ad 5)]) X (c_X7_openOn (cx_inj X) v1 ((b_X7_fails_0 w0 S).2) h11) cw_X7_101 kc25.1 (cl_25 kc25) rfl ⟨rfl, rfl, Nat.le_of_ble_eq_true rfl, Nat.le_of_ble_eq_true rfl⟩ rfl rfl (Nat.le_of_ble_eq_true rfl) ⟨Nat.le_of_ble_eq_true rfl, Nat.le_of_ble_eq_true rfl⟩ dX7_innings_79 ?_
        refine j_callVi (rest := []) X (c_X7_refuses (cx_inj X) 3 5 (b_X7_openOn_0 v1 ((b_X7_fails_0 w0 S).2)) ((b_X7_fails_0 w0 S).2)) cw_X7_77 kc25.1 (cl_25 kc25) rfl ⟨rfl, rfl, Nat.le_of_ble_eq_true rfl, Nat.le_of_ble_eq_true rfl⟩ rfl rfl (Nat.le_of_ble_eq_true rfl) ⟨Nat.le_of_ble_eq_true rfl, Nat.le_of_ble_eq_true rfl⟩ dX7_innings_82 ?_
        exact j_iret X hr hlocks dX7_innings_85 (congrArg Prod.fst he) (congrArg Prod.snd he)
    · rw [if_pos h4] at he
      have ho := ho.1 h4
      refine j_aload_n X 0 dX7_innings_57 rfl ?_
      refine j_iconst (v := 3) X dX7_innings_58 (by decide) ?_
      refine j_iconst (v := 1) X dX7_innings_59 (by decide) ?_
      refine j_bipush (v := 12) X dX7_innings_60 (by decide) ?_
      refine j_callVi (rest := []) X (c_X7_refuses (cx_inj X) 3 1 12 ((b_X7_fails_0 w0 S).2)) cw_X7_77 kc25.1 (cl_25 kc25) rfl ⟨rfl, rfl, Nat.le_of_ble_eq_true rfl, Nat.le_of_ble_eq_true rfl⟩ rfl rfl (Nat.le_of_ble_eq_true rfl) ⟨Nat.le_of_ble_eq_true rfl, Nat.le_of_ble_eq_true rfl⟩ dX7_innings_62 ?_
      exact j_iret X hr hlocks dX7_innings_65 (congrArg Prod.fst he) (congrArg Prod.snd he)
  · rw [if_neg h3] at he
    have ho := ho.2 h3
    refine j_iconst (v := 0) X dX7_innings_43 (by decide) ?_
    exact j_iret X hr hlocks dX7_innings_44 (congrArg Prod.fst he) (congrArg Prod.snd he)
def b_X7_innings_17 (v1 : Int32) (v2 : Int32) (v3 : Int32) (S : Sx) : Int32 × Sx := b_X7_innings_37 v1 v2 v3 1 S
def o_X7_innings_17 (v1 : Int32) (v2 : Int32) (v3 : Int32) (S : Sx) : Prop := o_X7_innings_37 v1 v2 v3 1 S
set_option maxRecDepth 20000 in
theorem t_X7_innings_17 (X : Cx p m c cX7_innings 6 s args RX7 D q ad) (hr : meth.sig.returnType = some .int) (hlocks : meth.locks = false) (v1 : Int32) (v2 : Int32) (v3 : Int32) (S : Sx) (rv : Int32) (S' : Sx) (ho : o_X7_innings_17 v1 v2 v3 S) (he : b_X7_innings_17 v1 v2 v3 S = (rv, S')) : Jg p l e rm_X7_innings s m args below meth c 0 0 (MQ below (Qi D q ad d rv S' s.heap.size) args s 0 0 (AU ad s.heap.size)) D q ad d 6 17 [(0, .ref (ad 5)), (1, .int v1), (2, .int v2), (3, .int v3)] [.ref (ad 5)] S := by
  unfold b_X7_innings_17 at he
  unfold o_X7_innings_17 at ho
  refine j_iconst (v := 1) X dX7_innings_17 (by decide) ?_
  refine j_goto X 37 dX7_innings_18 (by decide) ?_
  exact t_X7_innings_37 X hr hlocks v1 v2 v3 1 S _ _ ho he
def b_X7_innings_0 (x1 : Int32) (x2 : Int32) (x3 : Int32) (S : Sx) : Int32 × Sx := if (b_X7_isPitch_0 x1 S) = 0 then b_X7_innings_17 x1 x2 x3 S else if (b_X7_isUmpire_0 x2 S) = 0 then b_X7_innings_17 x1 x2 x3 S else if (b_X7_in_0 x3 6 120 S) = 0 then b_X7_innings_37 x1 x2 x3 2 S else b_X7_innings_37 x1 x2 x3 0 S
def o_X7_innings_0 (x1 : Int32) (x2 : Int32) (x3 : Int32) (S : Sx) : Prop := o_X7_isPitch_0 x1 S ∧ (((b_X7_isPitch_0 x1 S) = 0 → (o_X7_innings_17 x1 x2 x3 S)) ∧ (¬ (b_X7_isPitch_0 x1 S) = 0 → (o_X7_isUmpire_0 x2 S ∧ (((b_X7_isUmpire_0 x2 S) = 0 → (o_X7_innings_17 x1 x2 x3 S)) ∧ (¬ (b_X7_isUmpire_0 x2 S) = 0 → (o_X7_in_0 x3 6 120 S ∧ (((b_X7_in_0 x3 6 120 S) = 0 → (o_X7_innings_37 x1 x2 x3 2 S)) ∧ (¬ (b_X7_in_0 x3 6 120 S) = 0 → (o_X7_innings_37 x1 x2 x3 0 S)))))))))
set_option maxRecDepth 20000 in
theorem t_X7_innings_0 (X : Cx p m c cX7_innings 6 s args RX7 D q ad) (hr : meth.sig.returnType = some .int) (hlocks : meth.locks = false) (x1 : Int32) (x2 : Int32) (x3 : Int32) (S : Sx) (rv : Int32) (S' : Sx) (ho : o_X7_innings_0 x1 x2 x3 S) (he : b_X7_innings_0 x1 x2 x3 S = (rv, S')) : Jg p l e rm_X7_innings s m args below meth c 0 0 (MQ below (Qi D q ad d rv S' s.heap.size) args s 0 0 (AU ad s.heap.size)) D q ad d 6 0 [(0, .ref (ad 5)), (1, .int x1), (2, .int x2), (3, .int x3)] [] S := by
  unfold b_X7_innings_0 at he
  unfold o_X7_innings_0 at ho
  refine j_aload_n X 0 dX7_innings_0 rfl ?_
  refine j_aload_n X 0 dX7_innings_1 rfl ?_
  refine j_iload_n X 1 dX7_innings_2 rfl ?_
  have h2 := ho.1
  have ho := ho.2
  refine j_callVi (rest := [.ref (ad 5)]) X (c_X7_isPitch (cx_inj X) x1 S h2) cw_X7_91 kc25.1 (cl_25 kc25) rfl ⟨rfl, rfl, Nat.le_of_ble_eq_true rfl, Nat.le_of_ble_eq_true rfl⟩ rfl rfl (Nat.le_of_ble_eq_true rfl) ⟨Nat.le_of_ble_eq_true rfl, Nat.le_of_ble_eq_true rfl⟩ dX7_innings_3 ?_
  refine j_if_eq X 17 dX7_innings_6 (by decide) (fun h3 => ?_) (fun h3 => ?_)
  · rw [if_pos h3] at he
    have ho := ho.1 h3
    exact t_X7_innings_17 X hr hlocks x1 x2 x3 S _ _ ho he
  · rw [if_neg h3] at he
    have ho := ho.2 h3
    refine j_aload_n X 0 dX7_innings_9 rfl ?_
    refine j_iload_n X 2 dX7_innings_10 rfl ?_
    have h4 := ho.1
    have ho := ho.2
    refine j_callVi (rest := [.ref (ad 5)]) X (c_X7_isUmpire (cx_inj X) x2 S h4) cw_X7_126 kc25.1 (cl_25 kc25) rfl ⟨rfl, rfl, Nat.le_of_ble_eq_true rfl, Nat.le_of_ble_eq_true rfl⟩ rfl rfl (Nat.le_of_ble_eq_true rfl) ⟨Nat.le_of_ble_eq_true rfl, Nat.le_of_ble_eq_true rfl⟩ dX7_innings_11 ?_
    refine j_if_ne X 21 dX7_innings_14 (by decide) (fun h5 => ?_) (fun h5 => ?_)
    · rw [if_neg h5] at he
      have ho := ho.2 h5
      refine j_iload_n X 3 dX7_innings_21 rfl ?_
      refine j_bipush (v := 6) X dX7_innings_22 (by decide) ?_
      refine j_bipush (v := 120) X dX7_innings_24 (by decide) ?_
      have h6 := ho.1
      have ho := ho.2
      refine j_callSi (rest := [.ref (ad 5)]) X (c_X7_in (cx_inj X) x3 6 120 S h6) cw_X7_58 ⟨rfl, rfl, Nat.le_of_ble_eq_true rfl, Nat.le_of_ble_eq_true rfl⟩ rfl rfl (Nat.le_of_ble_eq_true rfl) ⟨Nat.le_of_ble_eq_true rfl, Nat.le_of_ble_eq_true rfl⟩ dX7_innings_26 ?_
      refine j_if_eq X 36 dX7_innings_29 (by decide) (fun h7 => ?_) (fun h7 => ?_)
      · rw [if_pos h7] at he
        have ho := ho.1 h7
        refine j_iconst (v := 2) X dX7_innings_36 (by decide) ?_
        exact t_X7_innings_37 X hr hlocks x1 x2 x3 2 S _ _ ho he
      · rw [if_neg h7] at he
        have ho := ho.2 h7
        refine j_iconst (v := 0) X dX7_innings_32 (by decide) ?_
        refine j_goto X 37 dX7_innings_33 (by decide) ?_
        exact t_X7_innings_37 X hr hlocks x1 x2 x3 0 S _ _ ho he
    · rw [if_pos h5] at he
      have ho := ho.1 h5
      exact t_X7_innings_17 X hr hlocks x1 x2 x3 S _ _ ho he
theorem c_X7_innings {l : Launch} {D : va_G} {q : Nat → ClassId} {ad : Nat → Nat} {d : UInt64} (hI : inj4 ad) (x1 : Int32) (x2 : Int32) (x3 : Int32) (S : Sx) (ho : o_X7_innings_0 x1 x2 x3 S) : CI l yX7_innings cX7_innings 6 .int rm_X7_innings D q ad d [.ref (ad 5), .int x1, .int x2, .int x3] S (b_X7_innings_0 x1 x2 x3 S).1 (b_X7_innings_0 x1 x2 x3 S).2 := ci_of hI (by decide +kernel) (Nat.le_of_ble_eq_true rfl) rfl (fun p e s m args below meth c X hr hlocks => t_X7_innings_0 X hr hlocks x1 x2 x3 S _ _ ho (pe _))
end
/-! RX7.ball -/
abbrev rm_X7_ball : Room := { frames := 1, cells := 0, slots := 0, locals := 23 }
section
variable {p : Program} {l : Launch} {e : Env} {s : State} {m : MethodId} {args : Array Value} {below : List Frame} {meth : Method} {c : Code} {D : va_G} {q : Nat → ClassId} {ad : Nat → Nat} {d : UInt64}
def b_X7_ball_187 (v5 : Int32) (S : Sx) : Int32 × Sx := (v5, S)
set_option maxRecDepth 20000 in
theorem t_X7_ball_187 (X : Cx p m c cX7_ball 6 s args RX7 D q ad) (hr : meth.sig.returnType = some .int) (hlocks : meth.locks = false) (v5 : Int32) (S : Sx) (rv : Int32) (S' : Sx) (he : b_X7_ball_187 v5 S = (rv, S')) : Jg p l e rm_X7_ball s m args below meth c 0 0 (MQ below (Qi D q ad d rv S' s.heap.size) args s 0 0 (AU ad s.heap.size)) D q ad d 6 187 [(5, .int v5)] [] S := by
  unfold b_X7_ball_187 at he
  refine j_iload X 0 dX7_ball_187 rfl ?_
  exact j_iret X hr hlocks dX7_ball_189 (congrArg Prod.fst he) (congrArg Prod.snd he)
def b_X7_ball_179 (v1 : Int32) (v5 : Int32) (S : Sx) : Int32 × Sx := b_X7_ball_187 v5 (b_X7_laysInnings_0 v1 6 1 S)
def o_X7_ball_179 (v1 : Int32) (v5 : Int32) (S : Sx) : Prop := o_X7_laysInnings_0 v1 6 1 S ∧ True
set_option maxRecDepth 20000 in
theorem t_X7_ball_179 (X : Cx p m c cX7_ball 6 s args RX7 D q ad) (hr : meth.sig.returnType = some .int) (hlocks : meth.locks = false) (v1 : Int32) (v5 : Int32) (S : Sx) (rv : Int32) (S' : Sx) (ho : o_X7_ball_179 v1 v5 S) (he : b_X7_ball_179 v1 v5 S = (rv, S')) : Jg p l e rm_X7_ball s m args below meth c 0 0 (MQ below (Qi D q ad d rv S' s.heap.size) args s 0 0 (AU ad s.heap.size)) D q ad d 6 179 [(0, .ref (ad 5)), (1, .int v1), (5, .int v5)] [] S := by
  unfold b_X7_ball_179 at he
  unfold o_X7_ball_179 at ho
  refine j_aload_n X 0 dX7_ball_179 rfl ?_
  refine j_iload_n X 1 dX7_ball_180 rfl ?_
  refine j_bipush (v := 6) X dX7_ball_181 (by decide) ?_
  refine j_iconst (v := 1) X dX7_ball_183 (by decide) ?_
  have h2 := ho.1
  have ho := ho.2
  refine j_callVv (rest := []) X (c_X7_laysInnings (cx_inj X) v1 6 1 S h2) cw_X7_135 kc25.1 (cl_25 kc25) rfl ⟨rfl, rfl, Nat.le_of_ble_eq_true rfl, Nat.le_of_ble_eq_true rfl⟩ rfl rfl (Nat.le_of_ble_eq_true rfl) ⟨Nat.le_of_ble_eq_true rfl, Nat.le_of_ble_eq_true rfl⟩ dX7_ball_184 ?_
  refine j_lv [2] [(5, .int v5)] rfl ?_
  exact t_X7_ball_187 X hr hlocks v5 (b_X7_laysInnings_0 v1 6 1 S) _ _ he
def b_X7_ball_156 (v1 : Int32) (v3 : Int32) (v5 : Int32) (S : Sx) : Int32 × Sx := if (v3 + 1) = (b_X7_ofInnings_0 v1 2 S) then b_X7_ball_179 v1 v5 S else if (b_X7_ofInnings_0 v1 5 S) = 10 then b_X7_ball_179 v1 v5 S else b_X7_ball_187 v5 S
def o_X7_ball_156 (v1 : Int32) (v3 : Int32) (v5 : Int32) (S : Sx) : Prop := o_X7_ofInnings_0 v1 2 S ∧ (((v3 + 1) = (b_X7_ofInnings_0 v1 2 S) → (o_X7_ball_179 v1 v5 S)) ∧ (¬ (v3 + 1) = (b_X7_ofInnings_0 v1 2 S) → (o_X7_ofInnings_0 v1 5 S ∧ (((b_X7_ofInnings_0 v1 5 S) = 10 → (o_X7_ball_179 v1 v5 S)) ∧ (¬ (b_X7_ofInnings_0 v1 5 S) = 10 → True)))))
set_option maxRecDepth 20000 in
theorem t_X7_ball_156 (X : Cx p m c cX7_ball 6 s args RX7 D q ad) (hr : meth.sig.returnType = some .int) (hlocks : meth.locks = false) (v1 : Int32) (v3 : Int32) (v5 : Int32) (S : Sx) (rv : Int32) (S' : Sx) (ho : o_X7_ball_156 v1 v3 v5 S) (he : b_X7_ball_156 v1 v3 v5 S = (rv, S')) : Jg p l e rm_X7_ball s m args below meth c 0 0 (MQ below (Qi D q ad d rv S' s.heap.size) args s 0 0 (AU ad s.heap.size)) D q ad d 6 156 [(0, .ref (ad 5)), (1, .int v1), (3, .int v3), (5, .int v5)] [] S := by
  unfold b_X7_ball_156 at he
  unfold o_X7_ball_156 at ho
  refine j_iload_n X 2 dX7_ball_156 rfl ?_
  refine j_iconst (v := 1) X dX7_ball_157 (by decide) ?_
  refine j_iadd X dX7_ball_158 ?_
  refine j_aload_n X 0 dX7_ball_159 rfl ?_
  refine j_iload_n X 1 dX7_ball_160 rfl ?_
  refine j_iconst (v := 2) X dX7_ball_161 (by decide) ?_
  have h2 := ho.1
  have ho := ho.2
  refine j_callVi (rest := [.int (v3 + 1)]) X (c_X7_ofInnings (cx_inj X) v1 2 S h2) cw_X7_88 kc25.1 (cl_25 kc25) rfl ⟨rfl, rfl, Nat.le_of_ble_eq_true rfl, Nat.le_of_ble_eq_true rfl⟩ rfl rfl (Nat.le_of_ble_eq_true rfl) ⟨Nat.le_of_ble_eq_true rfl, Nat.le_of_ble_eq_true rfl⟩ dX7_ball_162 ?_
  refine j_icmp_eq X 179 dX7_ball_165 (by decide) (fun h3 => ?_) (fun h3 => ?_)
  · rw [if_pos h3] at he
    have ho := ho.1 h3
    refine j_lv [0, 1, 3] [(0, .ref (ad 5)), (1, .int v1), (5, .int v5)] rfl ?_
    exact t_X7_ball_179 X hr hlocks v1 v5 S _ _ ho he
  · rw [if_neg h3] at he
    have ho := ho.2 h3
    refine j_aload_n X 0 dX7_ball_168 rfl ?_
    refine j_iload_n X 1 dX7_ball_169 rfl ?_
    refine j_iconst (v := 5) X dX7_ball_170 (by decide) ?_
    have h4 := ho.1
    have ho := ho.2
    refine j_callVi (rest := []) X (c_X7_ofInnings (cx_inj X) v1 5 S h4) cw_X7_88 kc25.1 (cl_25 kc25) rfl ⟨rfl, rfl, Nat.le_of_ble_eq_true rfl, Nat.le_of_ble_eq_true rfl⟩ rfl rfl (Nat.le_of_ble_eq_true rfl) ⟨Nat.le_of_ble_eq_true rfl, Nat.le_of_ble_eq_true rfl⟩ dX7_ball_171 ?_
    refine j_bipush (v := 10) X dX7_ball_174 (by decide) ?_
    refine j_icmp_ne X 187 dX7_ball_176 (by decide) (fun h5 => ?_) (fun h5 => ?_)
    · rw [if_neg h5] at he
      have ho := ho.2 h5
      refine j_lv [3] [(5, .int v5)] rfl ?_
      exact t_X7_ball_187 X hr hlocks v5 S _ _ he
    · rw [if_pos h5] at he
      have ho := ho.1 h5
      refine j_lv [0, 1, 3] [(0, .ref (ad 5)), (1, .int v1), (5, .int v5)] rfl ?_
      exact t_X7_ball_179 X hr hlocks v1 v5 S _ _ ho he
def b_X7_ball_142 (v1 : Int32) (v2 : Int32) (v3 : Int32) (v5 : Int32) (S : Sx) : Int32 × Sx := b_X7_ball_156 v1 v3 v5 (b_X7_lays_0 v2 4 ((b_X7_of_0 v2 4 S) + 1) S)
def o_X7_ball_142 (v1 : Int32) (v2 : Int32) (v3 : Int32) (v5 : Int32) (S : Sx) : Prop := o_X7_of_0 v2 4 S ∧ (o_X7_lays_0 v2 4 ((b_X7_of_0 v2 4 S) + 1) S ∧ (o_X7_ball_156 v1 v3 v5 (b_X7_lays_0 v2 4 ((b_X7_of_0 v2 4 S) + 1) S)))
set_option maxRecDepth 20000 in
theorem t_X7_ball_142 (X : Cx p m c cX7_ball 6 s args RX7 D q ad) (hr : meth.sig.returnType = some .int) (hlocks : meth.locks = false) (v1 : Int32) (v2 : Int32) (v3 : Int32) (v5 : Int32) (S : Sx) (rv : Int32) (S' : Sx) (ho : o_X7_ball_142 v1 v2 v3 v5 S) (he : b_X7_ball_142 v1 v2 v3 v5 S = (rv, S')) : Jg p l e rm_X7_ball s m args below meth c 0 0 (MQ below (Qi D q ad d rv S' s.heap.size) args s 0 0 (AU ad s.heap.size)) D q ad d 6 142 [(0, .ref (ad 5)), (1, .int v1), (2, .int v2), (3, .int v3), (5, .int v5)] [] S := by
  unfold b_X7_ball_142 at he
  unfold o_X7_ball_142 at ho
  refine j_aload_n X 0 dX7_ball_142 rfl ?_
  refine j_iload_n X 2 dX7_ball_143 rfl ?_
  refine j_iconst (v := 4) X dX7_ball_144 (by decide) ?_
  refine j_aload_n X 0 dX7_ball_145 rfl ?_
  refine j_iload_n X 2 dX7_ball_146 rfl ?_
  refine j_iconst (v := 4) X dX7_ball_147 (by decide) ?_
  have h2 := ho.1
  have ho := ho.2
  refine j_callVi (rest := [.int 4, .int v2, .ref (ad 5)]) X (c_X7_of (cx_inj X) v2 4 S h2) cw_X7_98 kc25.1 (cl_25 kc25) rfl ⟨rfl, rfl, Nat.le_of_ble_eq_true rfl, Nat.le_of_ble_eq_true rfl⟩ rfl rfl (Nat.le_of_ble_eq_true rfl) ⟨Nat.le_of_ble_eq_true rfl, Nat.le_of_ble_eq_true rfl⟩ dX7_ball_148 ?_
  refine j_iconst (v := 1) X dX7_ball_151 (by decide) ?_
  refine j_iadd X dX7_ball_152 ?_
  have h3 := ho.1
  have ho := ho.2
  refine j_callVv (rest := []) X (c_X7_lays (cx_inj X) v2 4 ((b_X7_of_0 v2 4 S) + 1) S h3) cw_X7_81 kc25.1 (cl_25 kc25) rfl ⟨rfl, rfl, Nat.le_of_ble_eq_true rfl, Nat.le_of_ble_eq_true rfl⟩ rfl rfl (Nat.le_of_ble_eq_true rfl) ⟨Nat.le_of_ble_eq_true rfl, Nat.le_of_ble_eq_true rfl⟩ dX7_ball_153 ?_
  refine j_lv [0, 1, 3, 4] [(0, .ref (ad 5)), (1, .int v1), (3, .int v3), (5, .int v5)] rfl ?_
  exact t_X7_ball_156 X hr hlocks v1 v3 v5 (b_X7_lays_0 v2 4 ((b_X7_of_0 v2 4 S) + 1) S) _ _ ho he
def b_X7_ball_116 (v1 : Int32) (v2 : Int32) (v3 : Int32) (v5 : Int32) (S : Sx) : Int32 × Sx := if (i_rem v3 6) = 5 then b_X7_ball_142 v1 v2 v3 v5 (b_X7_lays_0 v2 1 (b_X7_more_0 0 ((b_X7_of_0 v2 1 S) - 1) S) S) else b_X7_ball_142 v1 v2 v3 v5 S
def o_X7_ball_116 (v1 : Int32) (v2 : Int32) (v3 : Int32) (v5 : Int32) (S : Sx) : Prop := ((i_rem v3 6) = 5 → (o_X7_of_0 v2 1 S ∧ (o_X7_lays_0 v2 1 (b_X7_more_0 0 ((b_X7_of_0 v2 1 S) - 1) S) S ∧ (o_X7_ball_142 v1 v2 v3 v5 (b_X7_lays_0 v2 1 (b_X7_more_0 0 ((b_X7_of_0 v2 1 S) - 1) S) S))))) ∧ (¬ (i_rem v3 6) = 5 → (o_X7_ball_142 v1 v2 v3 v5 S))
set_option maxRecDepth 20000 in
theorem t_X7_ball_116 (X : Cx p m c cX7_ball 6 s args RX7 D q ad) (hr : meth.sig.returnType = some .int) (hlocks : meth.locks = false) (v1 : Int32) (v2 : Int32) (v3 : Int32) (v5 : Int32) (S : Sx) (rv : Int32) (S' : Sx) (ho : o_X7_ball_116 v1 v2 v3 v5 S) (he : b_X7_ball_116 v1 v2 v3 v5 S = (rv, S')) : Jg p l e rm_X7_ball s m args below meth c 0 0 (MQ below (Qi D q ad d rv S' s.heap.size) args s 0 0 (AU ad s.heap.size)) D q ad d 6 116 [(0, .ref (ad 5)), (1, .int v1), (2, .int v2), (3, .int v3), (5, .int v5)] [] S := by
  unfold b_X7_ball_116 at he
  unfold o_X7_ball_116 at ho
  refine j_iload_n X 3 dX7_ball_116 rfl ?_
  refine j_bipush (v := 6) X dX7_ball_117 (by decide) ?_
  refine j_irem X dX7_ball_119 (by decide) ?_
  refine j_iconst (v := 5) X dX7_ball_120 (by decide) ?_
  refine j_icmp_ne X 142 dX7_ball_121 (by decide) (fun h2 => ?_) (fun h2 => ?_)
  · rw [if_neg h2] at he
    have ho := ho.2 h2
    exact t_X7_ball_142 X hr hlocks v1 v2 v3 v5 S _ _ ho he
  · rw [if_pos h2] at he
    have ho := ho.1 h2
    refine j_aload_n X 0 dX7_ball_124 rfl ?_
    refine j_iload_n X 2 dX7_ball_125 rfl ?_
    refine j_iconst (v := 1) X dX7_ball_126 (by decide) ?_
    refine j_iconst (v := 0) X dX7_ball_127 (by decide) ?_
    refine j_aload_n X 0 dX7_ball_128 rfl ?_
    refine j_iload_n X 2 dX7_ball_129 rfl ?_
    refine j_iconst (v := 1) X dX7_ball_130 (by decide) ?_
    have h3 := ho.1
    have ho := ho.2
    refine j_callVi (rest := [.int 0, .int 1, .int v2, .ref (ad 5)]) X (c_X7_of (cx_inj X) v2 1 S h3) cw_X7_98 kc25.1 (cl_25 kc25) rfl ⟨rfl, rfl, Nat.le_of_ble_eq_true rfl, Nat.le_of_ble_eq_true rfl⟩ rfl rfl (Nat.le_of_ble_eq_true rfl) ⟨Nat.le_of_ble_eq_true rfl, Nat.le_of_ble_eq_true rfl⟩ dX7_ball_131 ?_
    refine j_iconst (v := 1) X dX7_ball_134 (by decide) ?_
    refine j_isub X dX7_ball_135 ?_
    refine j_callSi (rest := [.int 1, .int v2, .ref (ad 5)]) X (c_X7_more (cx_inj X) 0 ((b_X7_of_0 v2 1 S) - 1) S) cw_X7_138 ⟨rfl, rfl, Nat.le_of_ble_eq_true rfl, Nat.le_of_ble_eq_true rfl⟩ rfl rfl (Nat.le_of_ble_eq_true rfl) ⟨Nat.le_of_ble_eq_true rfl, Nat.le_of_ble_eq_true rfl⟩ dX7_ball_136 ?_
    have h4 := ho.1
    have ho := ho.2
    refine j_callVv (rest := []) X (c_X7_lays (cx_inj X) v2 1 (b_X7_more_0 0 ((b_X7_of_0 v2 1 S) - 1) S) S h4) cw_X7_81 kc25.1 (cl_25 kc25) rfl ⟨rfl, rfl, Nat.le_of_ble_eq_true rfl, Nat.le_of_ble_eq_true rfl⟩ rfl rfl (Nat.le_of_ble_eq_true rfl) ⟨Nat.le_of_ble_eq_true rfl, Nat.le_of_ble_eq_true rfl⟩ dX7_ball_139 ?_
    exact t_X7_ball_142 X hr hlocks v1 v2 v3 v5 (b_X7_lays_0 v2 1 (b_X7_more_0 0 ((b_X7_of_0 v2 1 S) - 1) S) S) _ _ ho he
def b_X7_ball_96 (v1 : Int32) (v2 : Int32) (v3 : Int32) (v4 : Int32) (v5 : Int32) (S : Sx) : Int32 × Sx := if v4 = 5 then b_X7_ball_116 v1 v2 v3 v5 (b_X7_laysInnings_0 v1 5 ((b_X7_ofInnings_0 v1 5 S) + 1) S) else b_X7_ball_116 v1 v2 v3 v5 S
def o_X7_ball_96 (v1 : Int32) (v2 : Int32) (v3 : Int32) (v4 : Int32) (v5 : Int32) (S : Sx) : Prop := (v4 = 5 → (o_X7_ofInnings_0 v1 5 S ∧ (o_X7_laysInnings_0 v1 5 ((b_X7_ofInnings_0 v1 5 S) + 1) S ∧ (o_X7_ball_116 v1 v2 v3 v5 (b_X7_laysInnings_0 v1 5 ((b_X7_ofInnings_0 v1 5 S) + 1) S))))) ∧ (¬ v4 = 5 → (o_X7_ball_116 v1 v2 v3 v5 S))
set_option maxRecDepth 20000 in
theorem t_X7_ball_96 (X : Cx p m c cX7_ball 6 s args RX7 D q ad) (hr : meth.sig.returnType = some .int) (hlocks : meth.locks = false) (v1 : Int32) (v2 : Int32) (v3 : Int32) (v4 : Int32) (v5 : Int32) (S : Sx) (rv : Int32) (S' : Sx) (ho : o_X7_ball_96 v1 v2 v3 v4 v5 S) (he : b_X7_ball_96 v1 v2 v3 v4 v5 S = (rv, S')) : Jg p l e rm_X7_ball s m args below meth c 0 0 (MQ below (Qi D q ad d rv S' s.heap.size) args s 0 0 (AU ad s.heap.size)) D q ad d 6 96 [(0, .ref (ad 5)), (1, .int v1), (2, .int v2), (3, .int v3), (4, .int v4), (5, .int v5)] [] S := by
  unfold b_X7_ball_96 at he
  unfold o_X7_ball_96 at ho
  refine j_iload X 4 dX7_ball_96 rfl ?_
  refine j_iconst (v := 5) X dX7_ball_98 (by decide) ?_
  refine j_icmp_ne X 116 dX7_ball_99 (by decide) (fun h2 => ?_) (fun h2 => ?_)
  · rw [if_neg h2] at he
    have ho := ho.2 h2
    refine j_lv [0, 1, 2, 3, 5] [(0, .ref (ad 5)), (1, .int v1), (2, .int v2), (3, .int v3), (5, .int v5)] rfl ?_
    exact t_X7_ball_116 X hr hlocks v1 v2 v3 v5 S _ _ ho he
  · rw [if_pos h2] at he
    have ho := ho.1 h2
    refine j_aload_n X 0 dX7_ball_102 rfl ?_
    refine j_iload_n X 1 dX7_ball_103 rfl ?_
    refine j_iconst (v := 5) X dX7_ball_104 (by decide) ?_
    refine j_aload_n X 0 dX7_ball_105 rfl ?_
    refine j_iload_n X 1 dX7_ball_106 rfl ?_
    refine j_iconst (v := 5) X dX7_ball_107 (by decide) ?_
    have h3 := ho.1
    have ho := ho.2
    refine j_callVi (rest := [.int 5, .int v1, .ref (ad 5)]) X (c_X7_ofInnings (cx_inj X) v1 5 S h3) cw_X7_88 kc25.1 (cl_25 kc25) rfl ⟨rfl, rfl, Nat.le_of_ble_eq_true rfl, Nat.le_of_ble_eq_true rfl⟩ rfl rfl (Nat.le_of_ble_eq_true rfl) ⟨Nat.le_of_ble_eq_true rfl, Nat.le_of_ble_eq_true rfl⟩ dX7_ball_108 ?_
    refine j_iconst (v := 1) X dX7_ball_111 (by decide) ?_
    refine j_iadd X dX7_ball_112 ?_
    have h4 := ho.1
    have ho := ho.2
    refine j_callVv (rest := []) X (c_X7_laysInnings (cx_inj X) v1 5 ((b_X7_ofInnings_0 v1 5 S) + 1) S h4) cw_X7_135 kc25.1 (cl_25 kc25) rfl ⟨rfl, rfl, Nat.le_of_ble_eq_true rfl, Nat.le_of_ble_eq_true rfl⟩ rfl rfl (Nat.le_of_ble_eq_true rfl) ⟨Nat.le_of_ble_eq_true rfl, Nat.le_of_ble_eq_true rfl⟩ dX7_ball_113 ?_
    refine j_lv [0, 1, 2, 3, 5] [(0, .ref (ad 5)), (1, .int v1), (2, .int v2), (3, .int v3), (5, .int v5)] rfl ?_
    exact t_X7_ball_116 X hr hlocks v1 v2 v3 v5 (b_X7_laysInnings_0 v1 5 ((b_X7_ofInnings_0 v1 5 S) + 1) S) _ _ ho he
def b_X7_ball_72 (v1 : Int32) (v2 : Int32) (v3 : Int32) (v4 : Int32) (v5 : Int32) (S : Sx) : Int32 × Sx := b_X7_ball_96 v1 v2 v3 v4 v5 (b_X7_laysInnings_0 v1 4 ((b_X7_ofInnings_0 v1 4 (b_X7_laysInnings_0 v1 3 (v3 + 1) S)) + v5) (b_X7_laysInnings_0 v1 3 (v3 + 1) S))
def o_X7_ball_72 (v1 : Int32) (v2 : Int32) (v3 : Int32) (v4 : Int32) (v5 : Int32) (S : Sx) : Prop := o_X7_laysInnings_0 v1 3 (v3 + 1) S ∧ (o_X7_ofInnings_0 v1 4 (b_X7_laysInnings_0 v1 3 (v3 + 1) S) ∧ (o_X7_laysInnings_0 v1 4 ((b_X7_ofInnings_0 v1 4 (b_X7_laysInnings_0 v1 3 (v3 + 1) S)) + v5) (b_X7_laysInnings_0 v1 3 (v3 + 1) S) ∧ (o_X7_ball_96 v1 v2 v3 v4 v5 (b_X7_laysInnings_0 v1 4 ((b_X7_ofInnings_0 v1 4 (b_X7_laysInnings_0 v1 3 (v3 + 1) S)) + v5) (b_X7_laysInnings_0 v1 3 (v3 + 1) S)))))
set_option maxRecDepth 20000 in
theorem t_X7_ball_72 (X : Cx p m c cX7_ball 6 s args RX7 D q ad) (hr : meth.sig.returnType = some .int) (hlocks : meth.locks = false) (v1 : Int32) (v2 : Int32) (v3 : Int32) (v4 : Int32) (v5 : Int32) (S : Sx) (rv : Int32) (S' : Sx) (ho : o_X7_ball_72 v1 v2 v3 v4 v5 S) (he : b_X7_ball_72 v1 v2 v3 v4 v5 S = (rv, S')) : Jg p l e rm_X7_ball s m args below meth c 0 0 (MQ below (Qi D q ad d rv S' s.heap.size) args s 0 0 (AU ad s.heap.size)) D q ad d 6 72 [(0, .ref (ad 5)), (1, .int v1), (2, .int v2), (3, .int v3), (4, .int v4), (5, .int v5)] [] S := by
  unfold b_X7_ball_72 at he
  unfold o_X7_ball_72 at ho
  refine j_aload_n X 0 dX7_ball_72 rfl ?_
  refine j_iload_n X 1 dX7_ball_73 rfl ?_
  refine j_iconst (v := 3) X dX7_ball_74 (by decide) ?_
  refine j_iload_n X 3 dX7_ball_75 rfl ?_
  refine j_iconst (v := 1) X dX7_ball_76 (by decide) ?_
  refine j_iadd X dX7_ball_77 ?_
  have h2 := ho.1
  have ho := ho.2
  refine j_callVv (rest := []) X (c_X7_laysInnings (cx_inj X) v1 3 (v3 + 1) S h2) cw_X7_135 kc25.1 (cl_25 kc25) rfl ⟨rfl, rfl, Nat.le_of_ble_eq_true rfl, Nat.le_of_ble_eq_true rfl⟩ rfl rfl (Nat.le_of_ble_eq_true rfl) ⟨Nat.le_of_ble_eq_true rfl, Nat.le_of_ble_eq_true rfl⟩ dX7_ball_78 ?_
  refine j_aload_n X 0 dX7_ball_81 rfl ?_
  refine j_iload_n X 1 dX7_ball_82 rfl ?_
  refine j_iconst (v := 4) X dX7_ball_83 (by decide) ?_
  refine j_aload_n X 0 dX7_ball_84 rfl ?_
  refine j_iload_n X 1 dX7_ball_85 rfl ?_
  refine j_iconst (v := 4) X dX7_ball_86 (by decide) ?_
  have h3 := ho.1
  have ho := ho.2
  refine j_callVi (rest := [.int 4, .int v1, .ref (ad 5)]) X (c_X7_ofInnings (cx_inj X) v1 4 (b_X7_laysInnings_0 v1 3 (v3 + 1) S) h3) cw_X7_88 kc25.1 (cl_25 kc25) rfl ⟨rfl, rfl, Nat.le_of_ble_eq_true rfl, Nat.le_of_ble_eq_true rfl⟩ rfl rfl (Nat.le_of_ble_eq_true rfl) ⟨Nat.le_of_ble_eq_true rfl, Nat.le_of_ble_eq_true rfl⟩ dX7_ball_87 ?_
  refine j_iload X 5 dX7_ball_90 rfl ?_
  refine j_iadd X dX7_ball_92 ?_
  have h4 := ho.1
  have ho := ho.2
  refine j_callVv (rest := []) X (c_X7_laysInnings (cx_inj X) v1 4 ((b_X7_ofInnings_0 v1 4 (b_X7_laysInnings_0 v1 3 (v3 + 1) S)) + v5) (b_X7_laysInnings_0 v1 3 (v3 + 1) S) h4) cw_X7_135 kc25.1 (cl_25 kc25) rfl ⟨rfl, rfl, Nat.le_of_ble_eq_true rfl, Nat.le_of_ble_eq_true rfl⟩ rfl rfl (Nat.le_of_ble_eq_true rfl) ⟨Nat.le_of_ble_eq_true rfl, Nat.le_of_ble_eq_true rfl⟩ dX7_ball_93 ?_
  exact t_X7_ball_96 X hr hlocks v1 v2 v3 v4 v5 (b_X7_laysInnings_0 v1 4 ((b_X7_ofInnings_0 v1 4 (b_X7_laysInnings_0 v1 3 (v3 + 1) S)) + v5) (b_X7_laysInnings_0 v1 3 (v3 + 1) S)) _ _ ho he
def b_X7_ball_48 (v1 : Int32) (v2 : Int32) (v3 : Int32) (v4 : Int32) (w0 : Int32) (S : Sx) : Int32 × Sx := b_X7_ball_72 v1 v2 v3 v4 w0 (b_X7_laysInnings_0 v1 (7 + v4) ((b_X7_ofInnings_0 v1 (7 + v4) S) + 1) S)
def o_X7_ball_48 (v1 : Int32) (v2 : Int32) (v3 : Int32) (v4 : Int32) (w0 : Int32) (S : Sx) : Prop := o_X7_ofInnings_0 v1 (7 + v4) S ∧ (o_X7_laysInnings_0 v1 (7 + v4) ((b_X7_ofInnings_0 v1 (7 + v4) S) + 1) S ∧ (o_X7_ball_72 v1 v2 v3 v4 w0 (b_X7_laysInnings_0 v1 (7 + v4) ((b_X7_ofInnings_0 v1 (7 + v4) S) + 1) S)))
set_option maxRecDepth 20000 in
theorem t_X7_ball_48 (X : Cx p m c cX7_ball 6 s args RX7 D q ad) (hr : meth.sig.returnType = some .int) (hlocks : meth.locks = false) (v1 : Int32) (v2 : Int32) (v3 : Int32) (v4 : Int32) (w0 : Int32) (S : Sx) (rv : Int32) (S' : Sx) (ho : o_X7_ball_48 v1 v2 v3 v4 w0 S) (he : b_X7_ball_48 v1 v2 v3 v4 w0 S = (rv, S')) : Jg p l e rm_X7_ball s m args below meth c 0 0 (MQ below (Qi D q ad d rv S' s.heap.size) args s 0 0 (AU ad s.heap.size)) D q ad d 6 48 [(0, .ref (ad 5)), (1, .int v1), (2, .int v2), (3, .int v3), (4, .int v4)] [.int w0] S := by
  unfold b_X7_ball_48 at he
  unfold o_X7_ball_48 at ho
  refine j_istore X [(5, .int w0), (0, .ref (ad 5)), (1, .int v1), (2, .int v2), (3, .int v3), (4, .int v4)] dX7_ball_48 (by decide) rfl ?_
  refine j_aload_n X 1 dX7_ball_50 rfl ?_
  refine j_iload_n X 2 dX7_ball_51 rfl ?_
  refine j_bipush (v := 7) X dX7_ball_52 (by decide) ?_
  refine j_iload X 5 dX7_ball_54 rfl ?_
  refine j_iadd X dX7_ball_56 ?_
  refine j_aload_n X 1 dX7_ball_57 rfl ?_
  refine j_iload_n X 2 dX7_ball_58 rfl ?_
  refine j_bipush (v := 7) X dX7_ball_59 (by decide) ?_
  refine j_iload X 5 dX7_ball_61 rfl ?_
  refine j_iadd X dX7_ball_63 ?_
  have h2 := ho.1
  have ho := ho.2
  refine j_callVi (rest := [.int (7 + v4), .int v1, .ref (ad 5)]) X (c_X7_ofInnings (cx_inj X) v1 (7 + v4) S h2) cw_X7_88 kc25.1 (cl_25 kc25) rfl ⟨rfl, rfl, Nat.le_of_ble_eq_true rfl, Nat.le_of_ble_eq_true rfl⟩ rfl rfl (Nat.le_of_ble_eq_true rfl) ⟨Nat.le_of_ble_eq_true rfl, Nat.le_of_ble_eq_true rfl⟩ dX7_ball_64 ?_
  refine j_iconst (v := 1) X dX7_ball_67 (by decide) ?_
  refine j_iadd X dX7_ball_68 ?_
  have h3 := ho.1
  have ho := ho.2
  refine j_callVv (rest := []) X (c_X7_laysInnings (cx_inj X) v1 (7 + v4) ((b_X7_ofInnings_0 v1 (7 + v4) S) + 1) S h3) cw_X7_135 kc25.1 (cl_25 kc25) rfl ⟨rfl, rfl, Nat.le_of_ble_eq_true rfl, Nat.le_of_ble_eq_true rfl⟩ rfl rfl (Nat.le_of_ble_eq_true rfl) ⟨Nat.le_of_ble_eq_true rfl, Nat.le_of_ble_eq_true rfl⟩ dX7_ball_69 ?_
  refine j_lv [1, 2, 3, 4, 5, 0] [(0, .ref (ad 5)), (1, .int v1), (2, .int v2), (3, .int v3), (4, .int v4), (5, .int w0)] rfl ?_
  exact t_X7_ball_72 X hr hlocks v1 v2 v3 v4 w0 (b_X7_laysInnings_0 v1 (7 + v4) ((b_X7_ofInnings_0 v1 (7 + v4) S) + 1) S) _ _ ho he
def b_X7_ball_0 (x1 : Int32) (S : Sx) : Int32 × Sx := if (i_rem (((b_X7_of_0 (b_X7_ofInnings_0 x1 0 S) 1 S) + (3 * (b_X7_ofInnings_0 x1 3 S))) + (b_X7_of_0 (b_X7_ofInnings_0 x1 0 S) 2 S)) 7) = 5 then b_X7_ball_48 x1 (b_X7_ofInnings_0 x1 0 S) (b_X7_ofInnings_0 x1 3 S) (i_rem (((b_X7_of_0 (b_X7_ofInnings_0 x1 0 S) 1 S) + (3 * (b_X7_ofInnings_0 x1 3 S))) + (b_X7_of_0 (b_X7_ofInnings_0 x1 0 S) 2 S)) 7) 0 S else b_X7_ball_48 x1 (b_X7_ofInnings_0 x1 0 S) (b_X7_ofInnings_0 x1 3 S) (i_rem (((b_X7_of_0 (b_X7_ofInnings_0 x1 0 S) 1 S) + (3 * (b_X7_ofInnings_0 x1 3 S))) + (b_X7_of_0 (b_X7_ofInnings_0 x1 0 S) 2 S)) 7) (i_rem (((b_X7_of_0 (b_X7_ofInnings_0 x1 0 S) 1 S) + (3 * (b_X7_ofInnings_0 x1 3 S))) + (b_X7_of_0 (b_X7_ofInnings_0 x1 0 S) 2 S)) 7) S
def o_X7_ball_0 (x1 : Int32) (S : Sx) : Prop := o_X7_ofInnings_0 x1 0 S ∧ (o_X7_ofInnings_0 x1 3 S ∧ (o_X7_of_0 (b_X7_ofInnings_0 x1 0 S) 1 S ∧ (o_X7_of_0 (b_X7_ofInnings_0 x1 0 S) 2 S ∧ (((i_rem (((b_X7_of_0 (b_X7_ofInnings_0 x1 0 S) 1 S) + (3 * (b_X7_ofInnings_0 x1 3 S))) + (b_X7_of_0 (b_X7_ofInnings_0 x1 0 S) 2 S)) 7) = 5 → (o_X7_ball_48 x1 (b_X7_ofInnings_0 x1 0 S) (b_X7_ofInnings_0 x1 3 S) (i_rem (((b_X7_of_0 (b_X7_ofInnings_0 x1 0 S) 1 S) + (3 * (b_X7_ofInnings_0 x1 3 S))) + (b_X7_of_0 (b_X7_ofInnings_0 x1 0 S) 2 S)) 7) 0 S)) ∧ (¬ (i_rem (((b_X7_of_0 (b_X7_ofInnings_0 x1 0 S) 1 S) + (3 * (b_X7_ofInnings_0 x1 3 S))) + (b_X7_of_0 (b_X7_ofInnings_0 x1 0 S) 2 S)) 7) = 5 → (o_X7_ball_48 x1 (b_X7_ofInnings_0 x1 0 S) (b_X7_ofInnings_0 x1 3 S) (i_rem (((b_X7_of_0 (b_X7_ofInnings_0 x1 0 S) 1 S) + (3 * (b_X7_ofInnings_0 x1 3 S))) + (b_X7_of_0 (b_X7_ofInnings_0 x1 0 S) 2 S)) 7) (i_rem (((b_X7_of_0 (b_X7_ofInnings_0 x1 0 S) 1 S) + (3 * (b_X7_ofInnings_0 x1 3 S))) + (b_X7_of_0 (b_X7_ofInnings_0 x1 0 S) 2 S)) 7) S))))))
set_option maxRecDepth 20000 in
theorem t_X7_ball_0 (X : Cx p m c cX7_ball 6 s args RX7 D q ad) (hr : meth.sig.returnType = some .int) (hlocks : meth.locks = false) (x1 : Int32) (S : Sx) (rv : Int32) (S' : Sx) (ho : o_X7_ball_0 x1 S) (he : b_X7_ball_0 x1 S = (rv, S')) : Jg p l e rm_X7_ball s m args below meth c 0 0 (MQ below (Qi D q ad d rv S' s.heap.size) args s 0 0 (AU ad s.heap.size)) D q ad d 6 0 [(0, .ref (ad 5)), (1, .int x1)] [] S := by
  unfold b_X7_ball_0 at he
  unfold o_X7_ball_0 at ho
  refine j_aload_n X 0 dX7_ball_0 rfl ?_
  refine j_iload_n X 1 dX7_ball_1 rfl ?_
  refine j_iconst (v := 0) X dX7_ball_2 (by decide) ?_
  have h2 := ho.1
  have ho := ho.2
  refine j_callVi (rest := []) X (c_X7_ofInnings (cx_inj X) x1 0 S h2) cw_X7_88 kc25.1 (cl_25 kc25) rfl ⟨rfl, rfl, Nat.le_of_ble_eq_true rfl, Nat.le_of_ble_eq_true rfl⟩ rfl rfl (Nat.le_of_ble_eq_true rfl) ⟨Nat.le_of_ble_eq_true rfl, Nat.le_of_ble_eq_true rfl⟩ dX7_ball_3 ?_
  refine j_istore_n X [(2, .int (b_X7_ofInnings_0 x1 0 S)), (0, .ref (ad 5)), (1, .int x1)] dX7_ball_6 (by decide) rfl ?_
  refine j_aload_n X 1 dX7_ball_7 rfl ?_
  refine j_iload_n X 2 dX7_ball_8 rfl ?_
  refine j_iconst (v := 3) X dX7_ball_9 (by decide) ?_
  have h3 := ho.1
  have ho := ho.2
  refine j_callVi (rest := []) X (c_X7_ofInnings (cx_inj X) x1 3 S h3) cw_X7_88 kc25.1 (cl_25 kc25) rfl ⟨rfl, rfl, Nat.le_of_ble_eq_true rfl, Nat.le_of_ble_eq_true rfl⟩ rfl rfl (Nat.le_of_ble_eq_true rfl) ⟨Nat.le_of_ble_eq_true rfl, Nat.le_of_ble_eq_true rfl⟩ dX7_ball_10 ?_
  refine j_istore_n X [(3, .int (b_X7_ofInnings_0 x1 3 S)), (2, .int (b_X7_ofInnings_0 x1 0 S)), (0, .ref (ad 5)), (1, .int x1)] dX7_ball_13 (by decide) rfl ?_
  refine j_aload_n X 2 dX7_ball_14 rfl ?_
  refine j_iload_n X 1 dX7_ball_15 rfl ?_
  refine j_iconst (v := 1) X dX7_ball_16 (by decide) ?_
  have h4 := ho.1
  have ho := ho.2
  refine j_callVi (rest := []) X (c_X7_of (cx_inj X) (b_X7_ofInnings_0 x1 0 S) 1 S h4) cw_X7_98 kc25.1 (cl_25 kc25) rfl ⟨rfl, rfl, Nat.le_of_ble_eq_true rfl, Nat.le_of_ble_eq_true rfl⟩ rfl rfl (Nat.le_of_ble_eq_true rfl) ⟨Nat.le_of_ble_eq_true rfl, Nat.le_of_ble_eq_true rfl⟩ dX7_ball_17 ?_
  refine j_iconst (v := 3) X dX7_ball_20 (by decide) ?_
  refine j_iload_n X 0 dX7_ball_21 rfl ?_
  refine j_imul X dX7_ball_22 ?_
  refine j_iadd X dX7_ball_23 ?_
  refine j_aload_n X 2 dX7_ball_24 rfl ?_
  refine j_iload_n X 1 dX7_ball_25 rfl ?_
  refine j_iconst (v := 2) X dX7_ball_26 (by decide) ?_
  have h5 := ho.1
  have ho := ho.2
  refine j_callVi (rest := [.int ((b_X7_of_0 (b_X7_ofInnings_0 x1 0 S) 1 S) + (3 * (b_X7_ofInnings_0 x1 3 S)))]) X (c_X7_of (cx_inj X) (b_X7_ofInnings_0 x1 0 S) 2 S h5) cw_X7_98 kc25.1 (cl_25 kc25) rfl ⟨rfl, rfl, Nat.le_of_ble_eq_true rfl, Nat.le_of_ble_eq_true rfl⟩ rfl rfl (Nat.le_of_ble_eq_true rfl) ⟨Nat.le_of_ble_eq_true rfl, Nat.le_of_ble_eq_true rfl⟩ dX7_ball_27 ?_
  refine j_iadd X dX7_ball_30 ?_
  refine j_bipush (v := 7) X dX7_ball_31 (by decide) ?_
  refine j_irem X dX7_ball_33 (by decide) ?_
  refine j_istore X [(4, .int (i_rem (((b_X7_of_0 (b_X7_ofInnings_0 x1 0 S) 1 S) + (3 * (b_X7_ofInnings_0 x1 3 S))) + (b_X7_of_0 (b_X7_ofInnings_0 x1 0 S) 2 S)) 7)), (3, .int (b_X7_ofInnings_0 x1 3 S)), (2, .int (b_X7_ofInnings_0 x1 0 S)), (0, .ref (ad 5)), (1, .int x1)] dX7_ball_34 (by decide) rfl ?_
  refine j_iload X 0 dX7_ball_36 rfl ?_
  refine j_iconst (v := 5) X dX7_ball_38 (by decide) ?_
  refine j_icmp_ne X 46 dX7_ball_39 (by decide) (fun h6 => ?_) (fun h6 => ?_)
  · rw [if_neg h6] at he
    have ho := ho.2 h6
    refine j_iload X 0 dX7_ball_46 rfl ?_
    refine j_lv [3, 4, 2, 1, 0] [(0, .ref (ad 5)), (1, .int x1), (2, .int (b_X7_ofInnings_0 x1 0 S)), (3, .int (b_X7_ofInnings_0 x1 3 S)), (4, .int (i_rem (((b_X7_of_0 (b_X7_ofInnings_0 x1 0 S) 1 S) + (3 * (b_X7_ofInnings_0 x1 3 S))) + (b_X7_of_0 (b_X7_ofInnings_0 x1 0 S) 2 S)) 7))] rfl ?_
    exact t_X7_ball_48 X hr hlocks x1 (b_X7_ofInnings_0 x1 0 S) (b_X7_ofInnings_0 x1 3 S) (i_rem (((b_X7_of_0 (b_X7_ofInnings_0 x1 0 S) 1 S) + (3 * (b_X7_ofInnings_0 x1 3 S))) + (b_X7_of_0 (b_X7_ofInnings_0 x1 0 S) 2 S)) 7) (i_rem (((b_X7_of_0 (b_X7_ofInnings_0 x1 0 S) 1 S) + (3 * (b_X7_ofInnings_0 x1 3 S))) + (b_X7_of_0 (b_X7_ofInnings_0 x1 0 S) 2 S)) 7) S _ _ ho he
  · rw [if_pos h6] at he
    have ho := ho.1 h6
    refine j_iconst (v := 0) X dX7_ball_42 (by decide) ?_
    refine j_goto X 48 dX7_ball_43 (by decide) ?_
    refine j_lv [3, 4, 2, 1, 0] [(0, .ref (ad 5)), (1, .int x1), (2, .int (b_X7_ofInnings_0 x1 0 S)), (3, .int (b_X7_ofInnings_0 x1 3 S)), (4, .int (i_rem (((b_X7_of_0 (b_X7_ofInnings_0 x1 0 S) 1 S) + (3 * (b_X7_ofInnings_0 x1 3 S))) + (b_X7_of_0 (b_X7_ofInnings_0 x1 0 S) 2 S)) 7))] rfl ?_
    exact t_X7_ball_48 X hr hlocks x1 (b_X7_ofInnings_0 x1 0 S) (b_X7_ofInnings_0 x1 3 S) (i_rem (((b_X7_of_0 (b_X7_ofInnings_0 x1 0 S) 1 S) + (3 * (b_X7_ofInnings_0 x1 3 S))) + (b_X7_of_0 (b_X7_ofInnings_0 x1 0 S) 2 S)) 7) 0 S _ _ ho he
theorem c_X7_ball {l : Launch} {D : va_G} {q : Nat → ClassId} {ad : Nat → Nat} {d : UInt64} (hI : inj4 ad) (x1 : Int32) (S : Sx) (ho : o_X7_ball_0 x1 S) : CI l yX7_ball cX7_ball 6 .int rm_X7_ball D q ad d [.ref (ad 5), .int x1] S (b_X7_ball_0 x1 S).1 (b_X7_ball_0 x1 S).2 := ci_of hI (by decide +kernel) (Nat.le_of_ble_eq_true rfl) rfl (fun p e s m args below meth c X hr hlocks => t_X7_ball_0 X hr hlocks x1 S _ _ ho (pe _))
end
/-! RX7.bowls -/
abbrev rm_X7_bowls : Room := { frames := 2, cells := 0, slots := 0, locals := 48 }
section
variable {p : Program} {l : Launch} {e : Env} {s : State} {m : MethodId} {args : Array Value} {below : List Frame} {meth : Method} {c : Code} {D : va_G} {q : Nat → ClassId} {ad : Nat → Nat} {d : UInt64}
def b_X7_bowls_35 (v3 : Int32) (S : Sx) : Int32 × Sx := (v3, S)
set_option maxRecDepth 20000 in
theorem t_X7_bowls_35 (X : Cx p m c cX7_bowls 5 s args RX7 D q ad) (hr : meth.sig.returnType = some .int) (hlocks : meth.locks = false) (v3 : Int32) (S : Sx) (rv : Int32) (S' : Sx) (he : b_X7_bowls_35 v3 S = (rv, S')) : Jg p l e rm_X7_bowls s m args below meth c 0 0 (MQ below (Qi D q ad d rv S' s.heap.size) args s 0 0 (AU ad s.heap.size)) D q ad d 5 35 [(3, .int v3)] [] S := by
  unfold b_X7_bowls_35 at he
  refine j_iload_n X 0 dX7_bowls_35 rfl ?_
  exact j_iret X hr hlocks dX7_bowls_36 (congrArg Prod.fst he) (congrArg Prod.snd he)
def b_X7_bowls_5 : Nat → Int32 → Int32 → Int32 → Int32 → Sx → Int32 × Sx
  | 0, _, _, _, _, S => (0, S)
  | n + 1, v1, v2, v3, v4, S => if v2 ≤ v4 then b_X7_bowls_35 v3 S else if (b_X7_ofInnings_0 v1 6 S) = 0 then b_X7_bowls_5 n v1 v2 (v3 + ((b_X7_ball_0 v1 S).1)) (v4 + 1) ((b_X7_ball_0 v1 S).2) else b_X7_bowls_35 v3 S
def o_X7_bowls_5 : Nat → Int32 → Int32 → Int32 → Int32 → Sx → Prop
  | 0, _, _, _, _, _ => False
  | n + 1, v1, v2, v3, v4, S => (v2 ≤ v4 → True) ∧ (¬ v2 ≤ v4 → (o_X7_ofInnings_0 v1 6 S ∧ (((b_X7_ofInnings_0 v1 6 S) = 0 → (o_X7_ball_0 v1 S ∧ (o_X7_bowls_5 n v1 v2 (v3 + ((b_X7_ball_0 v1 S).1)) (v4 + 1) ((b_X7_ball_0 v1 S).2)))) ∧ (¬ (b_X7_ofInnings_0 v1 6 S) = 0 → True))))
set_option maxRecDepth 20000 in
theorem t_X7_bowls_5 (X : Cx p m c cX7_bowls 5 s args RX7 D q ad) (hr : meth.sig.returnType = some .int) (hlocks : meth.locks = false) : ∀ (n : Nat) (v1 : Int32) (v2 : Int32) (v3 : Int32) (v4 : Int32) (S : Sx) (rv : Int32) (S' : Sx) (ho : o_X7_bowls_5 n v1 v2 v3 v4 S) (he : b_X7_bowls_5 n v1 v2 v3 v4 S = (rv, S')), Jg p l e rm_X7_bowls s m args below meth c 0 0 (MQ below (Qi D q ad d rv S' s.heap.size) args s 0 0 (AU ad s.heap.size)) D q ad d 5 5 [(0, .ref (ad 5)), (1, .int v1), (2, .int v2), (3, .int v3), (4, .int v4)] [] S := by
  intro n
  induction n with
  | zero =>
    intro v1 v2 v3 v4 S rv S' ho he
    unfold o_X7_bowls_5 at ho
    exact ho.elim
  | succ n ih =>
    intro v1 v2 v3 v4 S rv S' ho he
    unfold b_X7_bowls_5 at he
    unfold o_X7_bowls_5 at ho
    refine j_iload X 4 dX7_bowls_5 rfl ?_
    refine j_iload_n X 2 dX7_bowls_7 rfl ?_
    refine j_icmp_ge X 35 dX7_bowls_8 (by decide) (fun h2 => ?_) (fun h2 => ?_)
    · rw [if_pos h2] at he
      have ho := ho.1 h2
      refine j_lv [3] [(3, .int v3)] rfl ?_
      exact t_X7_bowls_35 X hr hlocks v3 S _ _ he
    · rw [if_neg h2] at he
      have ho := ho.2 h2
      refine j_aload_n X 0 dX7_bowls_11 rfl ?_
      refine j_iload_n X 1 dX7_bowls_12 rfl ?_
      refine j_bipush (v := 6) X dX7_bowls_13 (by decide) ?_
      have h3 := ho.1
      have ho := ho.2
      refine j_callVi (rest := []) X (c_X7_ofInnings (cx_inj X) v1 6 S h3) cw_X7_88 kc25.1 (cl_25 kc25) rfl ⟨rfl, rfl, Nat.le_of_ble_eq_true rfl, Nat.le_of_ble_eq_true rfl⟩ rfl rfl (Nat.le_of_ble_eq_true rfl) ⟨Nat.le_of_ble_eq_true rfl, Nat.le_of_ble_eq_true rfl⟩ dX7_bowls_15 ?_
      refine j_if_ne X 35 dX7_bowls_18 (by decide) (fun h4 => ?_) (fun h4 => ?_)
      · rw [if_neg h4] at he
        have ho := ho.2 h4
        refine j_lv [3] [(3, .int v3)] rfl ?_
        exact t_X7_bowls_35 X hr hlocks v3 S _ _ he
      · rw [if_pos h4] at he
        have ho := ho.1 h4
        refine j_iload_n X 3 dX7_bowls_21 rfl ?_
        refine j_aload_n X 0 dX7_bowls_22 rfl ?_
        refine j_iload_n X 1 dX7_bowls_23 rfl ?_
        have h5 := ho.1
        have ho := ho.2
        refine j_callVi (rest := [.int v3]) X (c_X7_ball (cx_inj X) v1 S h5) cw_X7_141 kc25.1 (cl_25 kc25) rfl ⟨rfl, rfl, Nat.le_of_ble_eq_true rfl, Nat.le_of_ble_eq_true rfl⟩ rfl rfl (Nat.le_of_ble_eq_true rfl) ⟨Nat.le_of_ble_eq_true rfl, Nat.le_of_ble_eq_true rfl⟩ dX7_bowls_24 ?_
        refine j_iadd X dX7_bowls_27 ?_
        refine j_istore_n X [(3, .int (v3 + ((b_X7_ball_0 v1 S).1))), (0, .ref (ad 5)), (1, .int v1), (2, .int v2), (4, .int v4)] dX7_bowls_28 (by decide) rfl ?_
        refine j_iinc X 4 (v4 + 1) [(4, .int (v4 + 1)), (3, .int (v3 + ((b_X7_ball_0 v1 S).1))), (0, .ref (ad 5)), (1, .int v1), (2, .int v2)] dX7_bowls_29 rfl rfl (by decide) rfl ?_
        refine j_goto X 5 dX7_bowls_32 (by decide) ?_
        refine j_lv [2, 3, 4, 1, 0] [(0, .ref (ad 5)), (1, .int v1), (2, .int v2), (3, .int (v3 + ((b_X7_ball_0 v1 S).1))), (4, .int (v4 + 1))] rfl ?_
        exact ih v1 v2 (v3 + ((b_X7_ball_0 v1 S).1)) (v4 + 1) ((b_X7_ball_0 v1 S).2) _ _ ho he
def b_X7_bowls_0 (x1 : Int32) (x2 : Int32) (S : Sx) : Int32 × Sx := b_X7_bowls_5 100 x1 x2 0 0 S
def o_X7_bowls_0 (x1 : Int32) (x2 : Int32) (S : Sx) : Prop := o_X7_bowls_5 100 x1 x2 0 0 S
set_option maxRecDepth 20000 in
theorem t_X7_bowls_0 (X : Cx p m c cX7_bowls 5 s args RX7 D q ad) (hr : meth.sig.returnType = some .int) (hlocks : meth.locks = false) (x1 : Int32) (x2 : Int32) (S : Sx) (rv : Int32) (S' : Sx) (ho : o_X7_bowls_0 x1 x2 S) (he : b_X7_bowls_0 x1 x2 S = (rv, S')) : Jg p l e rm_X7_bowls s m args below meth c 0 0 (MQ below (Qi D q ad d rv S' s.heap.size) args s 0 0 (AU ad s.heap.size)) D q ad d 5 0 [(0, .ref (ad 5)), (1, .int x1), (2, .int x2)] [] S := by
  unfold b_X7_bowls_0 at he
  unfold o_X7_bowls_0 at ho
  refine j_iconst (v := 0) X dX7_bowls_0 (by decide) ?_
  refine j_istore_n X [(3, .int 0), (0, .ref (ad 5)), (1, .int x1), (2, .int x2)] dX7_bowls_1 (by decide) rfl ?_
  refine j_iconst (v := 0) X dX7_bowls_2 (by decide) ?_
  refine j_istore X [(4, .int 0), (3, .int 0), (0, .ref (ad 5)), (1, .int x1), (2, .int x2)] dX7_bowls_3 (by decide) rfl ?_
  refine j_lv [2, 3, 4, 1, 0] [(0, .ref (ad 5)), (1, .int x1), (2, .int x2), (3, .int 0), (4, .int 0)] rfl ?_
  exact t_X7_bowls_5 X hr hlocks 100 x1 x2 0 0 S _ _ ho he
theorem c_X7_bowls {l : Launch} {D : va_G} {q : Nat → ClassId} {ad : Nat → Nat} {d : UInt64} (hI : inj4 ad) (x1 : Int32) (x2 : Int32) (S : Sx) (ho : o_X7_bowls_0 x1 x2 S) : CI l yX7_bowls cX7_bowls 5 .int rm_X7_bowls D q ad d [.ref (ad 5), .int x1, .int x2] S (b_X7_bowls_0 x1 x2 S).1 (b_X7_bowls_0 x1 x2 S).2 := ci_of hI (by decide +kernel) (Nat.le_of_ble_eq_true rfl) rfl (fun p e s m args below meth c X hr hlocks => t_X7_bowls_0 X hr hlocks x1 x2 S _ _ ho (pe _))
end
/-! RX7.left -/
abbrev rm_X7_left : Room := { frames := 1, cells := 0, slots := 0, locals := 22 }
section
variable {p : Program} {l : Launch} {e : Env} {s : State} {m : MethodId} {args : Array Value} {below : List Frame} {meth : Method} {c : Code} {D : va_G} {q : Nat → ClassId} {ad : Nat → Nat} {d : UInt64}
def b_X7_left_0 (x1 : Int32) (S : Sx) : Int32 := (b_X7_ofInnings_0 x1 2 S) - (b_X7_ofInnings_0 x1 3 S)
def o_X7_left_0 (x1 : Int32) (S : Sx) : Prop := o_X7_ofInnings_0 x1 2 S ∧ (o_X7_ofInnings_0 x1 3 S ∧ True)
set_option maxRecDepth 20000 in
theorem t_X7_left_0 (X : Cx p m c cX7_left 2 s args RX7 D q ad) (hr : meth.sig.returnType = some .int) (hlocks : meth.locks = false) (x1 : Int32) (S : Sx) (rv : Int32) (ho : o_X7_left_0 x1 S) (he : b_X7_left_0 x1 S = rv) : Jg p l e rm_X7_left s m args below meth c 0 0 (MQ below (Qi D q ad d rv S s.heap.size) args s 0 0 (AU ad s.heap.size)) D q ad d 2 0 [(0, .ref (ad 5)), (1, .int x1)] [] S := by
  unfold b_X7_left_0 at he
  unfold o_X7_left_0 at ho
  refine j_aload_n X 0 dX7_left_0 rfl ?_
  refine j_iload_n X 1 dX7_left_1 rfl ?_
  refine j_iconst (v := 2) X dX7_left_2 (by decide) ?_
  have h2 := ho.1
  have ho := ho.2
  refine j_callVi (rest := []) X (c_X7_ofInnings (cx_inj X) x1 2 S h2) cw_X7_88 kc25.1 (cl_25 kc25) rfl ⟨rfl, rfl, Nat.le_of_ble_eq_true rfl, Nat.le_of_ble_eq_true rfl⟩ rfl rfl (Nat.le_of_ble_eq_true rfl) ⟨Nat.le_of_ble_eq_true rfl, Nat.le_of_ble_eq_true rfl⟩ dX7_left_3 ?_
  refine j_aload_n X 0 dX7_left_6 rfl ?_
  refine j_iload_n X 1 dX7_left_7 rfl ?_
  refine j_iconst (v := 3) X dX7_left_8 (by decide) ?_
  have h3 := ho.1
  have ho := ho.2
  refine j_callVi (rest := [.int (b_X7_ofInnings_0 x1 2 S)]) X (c_X7_ofInnings (cx_inj X) x1 3 S h3) cw_X7_88 kc25.1 (cl_25 kc25) rfl ⟨rfl, rfl, Nat.le_of_ble_eq_true rfl, Nat.le_of_ble_eq_true rfl⟩ rfl rfl (Nat.le_of_ble_eq_true rfl) ⟨Nat.le_of_ble_eq_true rfl, Nat.le_of_ble_eq_true rfl⟩ dX7_left_9 ?_
  refine j_isub X dX7_left_12 ?_
  exact j_iret X hr hlocks dX7_left_13 he rfl
theorem c_X7_left {l : Launch} {D : va_G} {q : Nat → ClassId} {ad : Nat → Nat} {d : UInt64} (hI : inj4 ad) (x1 : Int32) (S : Sx) (ho : o_X7_left_0 x1 S) : CI l yX7_left cX7_left 2 .int rm_X7_left D q ad d [.ref (ad 5), .int x1] S (b_X7_left_0 x1 S) S := ci_of hI (by decide +kernel) (Nat.le_of_ble_eq_true rfl) rfl (fun p e s m args below meth c X hr hlocks => t_X7_left_0 X hr hlocks x1 S _ ho rfl)
end
/-! RX7.bowl -/
abbrev rm_X7_bowl : Room := { frames := 3, cells := 0, slots := 0, locals := 72 }
section
variable {p : Program} {l : Launch} {e : Env} {s : State} {m : MethodId} {args : Array Value} {below : List Frame} {meth : Method} {c : Code} {D : va_G} {q : Nat → ClassId} {ad : Nat → Nat} {d : UInt64}
def b_X7_bowl_28 (v1 : Int32) (v2 : Int32) (w0 : Int32) (S : Sx) : Int32 × Sx := if ((b_X7_fails_0 w0 S).1) = 0 then if (b_X7_ofInnings_0 v1 6 ((b_X7_fails_0 w0 S).2)) = 1 then ((b_X7_refuses_0 3 9 v1 ((b_X7_fails_0 w0 S).2)).1, (b_X7_refuses_0 3 9 v1 ((b_X7_fails_0 w0 S).2)).2) else if v2 ≤ (b_X7_left_0 v1 ((b_X7_fails_0 w0 S).2)) then if (b_X7_calls_0 (b_X7_ofInnings_0 v1 1 ((b_X7_fails_0 w0 S).2)) (b_X7_ofInnings_0 v1 0 ((b_X7_fails_0 w0 S).2)) ((b_X7_fails_0 w0 S).2)) ≤ 0 then ((b_X7_bowls_0 v1 v2 (b_X7_keeps_0 6 ((b_X7_fails_0 w0 S).2))).1, (b_X7_bowls_0 v1 v2 (b_X7_keeps_0 6 ((b_X7_fails_0 w0 S).2))).2) else ((b_X7_refuses_0 3 8 (b_X7_calls_0 (b_X7_ofInnings_0 v1 1 ((b_X7_fails_0 w0 S).2)) (b_X7_ofInnings_0 v1 0 ((b_X7_fails_0 w0 S).2)) ((b_X7_fails_0 w0 S).2)) ((b_X7_fails_0 w0 S).2)).1, (b_X7_refuses_0 3 8 (b_X7_calls_0 (b_X7_ofInnings_0 v1 1 ((b_X7_fails_0 w0 S).2)) (b_X7_ofInnings_0 v1 0 ((b_X7_fails_0 w0 S).2)) ((b_X7_fails_0 w0 S).2)) ((b_X7_fails_0 w0 S).2)).2) else ((b_X7_refuses_0 3 10 (b_X7_left_0 v1 ((b_X7_fails_0 w0 S).2)) ((b_X7_fails_0 w0 S).2)).1, (b_X7_refuses_0 3 10 (b_X7_left_0 v1 ((b_X7_fails_0 w0 S).2)) ((b_X7_fails_0 w0 S).2)).2) else (0, (b_X7_fails_0 w0 S).2)
def o_X7_bowl_28 (v1 : Int32) (v2 : Int32) (w0 : Int32) (S : Sx) : Prop := o_X7_fails_0 w0 S ∧ ((((b_X7_fails_0 w0 S).1) = 0 → (o_X7_ofInnings_0 v1 1 ((b_X7_fails_0 w0 S).2) ∧ (o_X7_ofInnings_0 v1 0 ((b_X7_fails_0 w0 S).2) ∧ (o_X7_calls_0 (b_X7_ofInnings_0 v1 1 ((b_X7_fails_0 w0 S).2)) (b_X7_ofInnings_0 v1 0 ((b_X7_fails_0 w0 S).2)) ((b_X7_fails_0 w0 S).2) ∧ (o_X7_ofInnings_0 v1 6 ((b_X7_fails_0 w0 S).2) ∧ (((b_X7_ofInnings_0 v1 6 ((b_X7_fails_0 w0 S).2)) = 1 → True) ∧ (¬ (b_X7_ofInnings_0 v1 6 ((b_X7_fails_0 w0 S).2)) = 1 → (o_X7_left_0 v1 ((b_X7_fails_0 w0 S).2) ∧ ((v2 ≤ (b_X7_left_0 v1 ((b_X7_fails_0 w0 S).2)) → (((b_X7_calls_0 (b_X7_ofInnings_0 v1 1 ((b_X7_fails_0 w0 S).2)) (b_X7_ofInnings_0 v1 0 ((b_X7_fails_0 w0 S).2)) ((b_X7_fails_0 w0 S).2)) ≤ 0 → (o_X7_keeps_0 6 ((b_X7_fails_0 w0 S).2) ∧ (o_X7_bowls_0 v1 v2 (b_X7_keeps_0 6 ((b_X7_fails_0 w0 S).2)) ∧ True))) ∧ (¬ (b_X7_calls_0 (b_X7_ofInnings_0 v1 1 ((b_X7_fails_0 w0 S).2)) (b_X7_ofInnings_0 v1 0 ((b_X7_fails_0 w0 S).2)) ((b_X7_fails_0 w0 S).2)) ≤ 0 → True))) ∧ (¬ v2 ≤ (b_X7_left_0 v1 ((b_X7_fails_0 w0 S).2)) → (o_X7_left_0 v1 ((b_X7_fails_0 w0 S).2) ∧ True))))))))))) ∧ (¬ ((b_X7_fails_0 w0 S).1) = 0 → True))
set_option maxRecDepth 20000 in
theorem t_X7_bowl_28 (X : Cx p m c cX7_bowl 4 s args RX7 D q ad) (hr : meth.sig.returnType = some .int) (hlocks : meth.locks = false) (v1 : Int32) (v2 : Int32) (w0 : Int32) (S : Sx) (rv : Int32) (S' : Sx) (ho : o_X7_bowl_28 v1 v2 w0 S) (he : b_X7_bowl_28 v1 v2 w0 S = (rv, S')) : Jg p l e rm_X7_bowl s m args below meth c 0 0 (MQ below (Qi D q ad d rv S' s.heap.size) args s 0 0 (AU ad s.heap.size)) D q ad d 4 28 [(0, .ref (ad 5)), (1, .int v1), (2, .int v2)] [.int w0, .ref (ad 5)] S := by
  unfold b_X7_bowl_28 at he
  unfold o_X7_bowl_28 at ho
  have h2 := ho.1
  have ho := ho.2
  refine j_callVi (rest := []) X (c_X7_fails (cx_inj X) w0 S h2) cw_X7_70 kc25.1 (cl_25 kc25) rfl ⟨rfl, rfl, Nat.le_of_ble_eq_true rfl, Nat.le_of_ble_eq_true rfl⟩ rfl rfl (Nat.le_of_ble_eq_true rfl) ⟨Nat.le_of_ble_eq_true rfl, Nat.le_of_ble_eq_true rfl⟩ dX7_bowl_28 ?_
  refine j_if_eq X 36 dX7_bowl_31 (by decide) (fun h3 => ?_) (fun h3 => ?_)
  · rw [if_pos h3] at he
    have ho := ho.1 h3
    refine j_aload_n X 0 dX7_bowl_36 rfl ?_
    refine j_aload_n X 0 dX7_bowl_37 rfl ?_
    refine j_iload_n X 1 dX7_bowl_38 rfl ?_
    refine j_iconst (v := 1) X dX7_bowl_39 (by decide) ?_
    have h4 := ho.1
    have ho := ho.2
    refine j_callVi (rest := [.ref (ad 5)]) X (c_X7_ofInnings (cx_inj X) v1 1 ((b_X7_fails_0 w0 S).2) h4) cw_X7_88 kc25.1 (cl_25 kc25) rfl ⟨rfl, rfl, Nat.le_of_ble_eq_true rfl, Nat.le_of_ble_eq_true rfl⟩ rfl rfl (Nat.le_of_ble_eq_true rfl) ⟨Nat.le_of_ble_eq_true rfl, Nat.le_of_ble_eq_true rfl⟩ dX7_bowl_40 ?_
    refine j_aload_n X 0 dX7_bowl_43 rfl ?_
    refine j_iload_n X 1 dX7_bowl_44 rfl ?_
    refine j_iconst (v := 0) X dX7_bowl_45 (by decide) ?_
    have h5 := ho.1
    have ho := ho.2
    refine j_callVi (rest := [.int (b_X7_ofInnings_0 v1 1 ((b_X7_fails_0 w0 S).2)), .ref (ad 5)]) X (c_X7_ofInnings (cx_inj X) v1 0 ((b_X7_fails_0 w0 S).2) h5) cw_X7_88 kc25.1 (cl_25 kc25) rfl ⟨rfl, rfl, Nat.le_of_ble_eq_true rfl, Nat.le_of_ble_eq_true rfl⟩ rfl rfl (Nat.le_of_ble_eq_true rfl) ⟨Nat.le_of_ble_eq_true rfl, Nat.le_of_ble_eq_true rfl⟩ dX7_bowl_46 ?_
    have h6 := ho.1
    have ho := ho.2
    refine j_callVi (rest := []) X (c_X7_calls (cx_inj X) (b_X7_ofInnings_0 v1 1 ((b_X7_fails_0 w0 S).2)) (b_X7_ofInnings_0 v1 0 ((b_X7_fails_0 w0 S).2)) ((b_X7_fails_0 w0 S).2) h6) cw_X7_129 kc25.1 (cl_25 kc25) rfl ⟨rfl, rfl, Nat.le_of_ble_eq_true rfl, Nat.le_of_ble_eq_true rfl⟩ rfl rfl (Nat.le_of_ble_eq_true rfl) ⟨Nat.le_of_ble_eq_true rfl, Nat.le_of_ble_eq_true rfl⟩ dX7_bowl_49 ?_
    refine j_istore_n X [(3, .int (b_X7_calls_0 (b_X7_ofInnings_0 v1 1 ((b_X7_fails_0 w0 S).2)) (b_X7_ofInnings_0 v1 0 ((b_X7_fails_0 w0 S).2)) ((b_X7_fails_0 w0 S).2))), (0, .ref (ad 5)), (1, .int v1), (2, .int v2)] dX7_bowl_52 (by decide) rfl ?_
    refine j_aload_n X 1 dX7_bowl_53 rfl ?_
    refine j_iload_n X 2 dX7_bowl_54 rfl ?_
    refine j_bipush (v := 6) X dX7_bowl_55 (by decide) ?_
    have h7 := ho.1
    have ho := ho.2
    refine j_callVi (rest := []) X (c_X7_ofInnings (cx_inj X) v1 6 ((b_X7_fails_0 w0 S).2) h7) cw_X7_88 kc25.1 (cl_25 kc25) rfl ⟨rfl, rfl, Nat.le_of_ble_eq_true rfl, Nat.le_of_ble_eq_true rfl⟩ rfl rfl (Nat.le_of_ble_eq_true rfl) ⟨Nat.le_of_ble_eq_true rfl, Nat.le_of_ble_eq_true rfl⟩ dX7_bowl_57 ?_
    refine j_iconst (v := 1) X dX7_bowl_60 (by decide) ?_
    refine j_icmp_ne X 73 dX7_bowl_61 (by decide) (fun h8 => ?_) (fun h8 => ?_)
    · rw [if_neg h8] at he
      have ho := ho.2 h8
      refine j_aload_n X 1 dX7_bowl_73 rfl ?_
      refine j_iload_n X 2 dX7_bowl_74 rfl ?_
      have h9 := ho.1
      have ho := ho.2
      refine j_callVi (rest := []) X (c_X7_left (cx_inj X) v1 ((b_X7_fails_0 w0 S).2) h9) cw_X7_147 kc25.1 (cl_25 kc25) rfl ⟨rfl, rfl, Nat.le_of_ble_eq_true rfl, Nat.le_of_ble_eq_true rfl⟩ rfl rfl (Nat.le_of_ble_eq_true rfl) ⟨Nat.le_of_ble_eq_true rfl, Nat.le_of_ble_eq_true rfl⟩ dX7_bowl_75 ?_
      refine j_iload_n X 3 dX7_bowl_78 rfl ?_
      refine j_icmp_ge X 95 dX7_bowl_79 (by decide) (fun h10 => ?_) (fun h10 => ?_)
      · rw [if_pos h10] at he
        have ho := ho.1 h10
        refine j_iload_n X 0 dX7_bowl_95 rfl ?_
        refine j_if_le X 108 dX7_bowl_96 (by decide) (fun h11 => ?_) (fun h11 => ?_)
        · rw [if_pos h11] at he
          have ho := ho.1 h11
          refine j_aload_n X 1 dX7_bowl_108 rfl ?_
          refine j_aload_n X 1 dX7_bowl_109 rfl ?_
          refine gf_25_0 X m_fl_X7_7 kc25 dX7_bowl_110 ?_
          have h12 := ho.1
          have ho := ho.2
          refine j_callVv (rest := []) X (c_X7_keeps (cx_inj X) 6 (isA_of26 kc26) ((b_X7_fails_0 w0 S).2) h12) cw_X7_62 kc25.1 (cl_25 kc25) rfl ⟨rfl, rfl, Nat.le_of_ble_eq_true rfl, Nat.le_of_ble_eq_true rfl⟩ rfl rfl (Nat.le_of_ble_eq_true rfl) ⟨Nat.le_of_ble_eq_true rfl, Nat.le_of_ble_eq_true rfl⟩ dX7_bowl_113 ?_
          refine j_aload_n X 1 dX7_bowl_116 rfl ?_
          refine j_iload_n X 2 dX7_bowl_117 rfl ?_
          refine j_iload_n X 3 dX7_bowl_118 rfl ?_
          have h13 := ho.1
          have ho := ho.2
          refine j_callVi (rest := []) X (c_X7_bowls (cx_inj X) v1 v2 (b_X7_keeps_0 6 ((b_X7_fails_0 w0 S).2)) h13) cw_X7_150 kc25.1 (cl_25 kc25) rfl ⟨rfl, rfl, Nat.le_of_ble_eq_true rfl, Nat.le_of_ble_eq_true rfl⟩ rfl rfl (Nat.le_of_ble_eq_true rfl) ⟨Nat.le_of_ble_eq_true rfl, Nat.le_of_ble_eq_true rfl⟩ dX7_bowl_119 ?_
          exact j_iret X hr hlocks dX7_bowl_122 (congrArg Prod.fst he) (congrArg Prod.snd he)
        · rw [if_neg h11] at he
          have ho := ho.2 h11
          refine j_aload_n X 1 dX7_bowl_99 rfl ?_
          refine j_iconst (v := 3) X dX7_bowl_100 (by decide) ?_
          refine j_bipush (v := 8) X dX7_bowl_101 (by decide) ?_
          refine j_iload_n X 0 dX7_bowl_103 rfl ?_
          refine j_callVi (rest := []) X (c_X7_refuses (cx_inj X) 3 8 (b_X7_calls_0 (b_X7_ofInnings_0 v1 1 ((b_X7_fails_0 w0 S).2)) (b_X7_ofInnings_0 v1 0 ((b_X7_fails_0 w0 S).2)) ((b_X7_fails_0 w0 S).2)) ((b_X7_fails_0 w0 S).2)) cw_X7_77 kc25.1 (cl_25 kc25) rfl ⟨rfl, rfl, Nat.le_of_ble_eq_true rfl, Nat.le_of_ble_eq_true rfl⟩ rfl rfl (Nat.le_of_ble_eq_true rfl) ⟨Nat.le_of_ble_eq_true rfl, Nat.le_of_ble_eq_true rfl⟩ dX7_bowl_104 ?_
          exact j_iret X hr hlocks dX7_bowl_107 (congrArg Prod.fst he) (congrArg Prod.snd he)
      · rw [if_neg h10] at he
        have ho := ho.2 h10
        refine j_aload_n X 1 dX7_bowl_82 rfl ?_
        refine j_iconst (v := 3) X dX7_bowl_83 (by decide) ?_
        refine j_bipush (v := 10) X dX7_bowl_84 (by decide) ?_
        refine j_aload_n X 1 dX7_bowl_86 rfl ?_
        refine j_iload_n X 2 dX7_bowl_87 rfl ?_
        have h14 := ho.1
        have ho := ho.2
        refine j_callVi (rest := [.int 10, .int 3, .ref (ad 5)]) X (c_X7_left (cx_inj X) v1 ((b_X7_fails_0 w0 S).2) h14) cw_X7_147 kc25.1 (cl_25 kc25) rfl ⟨rfl, rfl, Nat.le_of_ble_eq_true rfl, Nat.le_of_ble_eq_true rfl⟩ rfl rfl (Nat.le_of_ble_eq_true rfl) ⟨Nat.le_of_ble_eq_true rfl, Nat.le_of_ble_eq_true rfl⟩ dX7_bowl_88 ?_
        refine j_callVi (rest := []) X (c_X7_refuses (cx_inj X) 3 10 (b_X7_left_0 v1 ((b_X7_fails_0 w0 S).2)) ((b_X7_fails_0 w0 S).2)) cw_X7_77 kc25.1 (cl_25 kc25) rfl ⟨rfl, rfl, Nat.le_of_ble_eq_true rfl, Nat.le_of_ble_eq_true rfl⟩ rfl rfl (Nat.le_of_ble_eq_true rfl) ⟨Nat.le_of_ble_eq_true rfl, Nat.le_of_ble_eq_true rfl⟩ dX7_bowl_91 ?_
        exact j_iret X hr hlocks dX7_bowl_94 (congrArg Prod.fst he) (congrArg Prod.snd he)
    · rw [if_pos h8] at he
      have ho := ho.1 h8
      refine j_aload_n X 1 dX7_bowl_64 rfl ?_
      refine j_iconst (v := 3) X dX7_bowl_65 (by decide) ?_
      refine j_bipush (v := 9) X dX7_bowl_66 (by decide) ?_
      refine j_iload_n X 2 dX7_bowl_68 rfl ?_
      refine j_callVi (rest := []) X (c_X7_refuses (cx_inj X) 3 9 v1 ((b_X7_fails_0 w0 S).2)) cw_X7_77 kc25.1 (cl_25 kc25) rfl ⟨rfl, rfl, Nat.le_of_ble_eq_true rfl, Nat.le_of_ble_eq_true rfl⟩ rfl rfl (Nat.le_of_ble_eq_true rfl) ⟨Nat.le_of_ble_eq_true rfl, Nat.le_of_ble_eq_true rfl⟩ dX7_bowl_69 ?_
      exact j_iret X hr hlocks dX7_bowl_72 (congrArg Prod.fst he) (congrArg Prod.snd he)
  · rw [if_neg h3] at he
    have ho := ho.2 h3
    refine j_iconst (v := 0) X dX7_bowl_34 (by decide) ?_
    exact j_iret X hr hlocks dX7_bowl_35 (congrArg Prod.fst he) (congrArg Prod.snd he)
def b_X7_bowl_0 (x1 : Int32) (x2 : Int32) (S : Sx) : Int32 × Sx := if (b_X7_isInnings_0 x1 S) = 0 then b_X7_bowl_28 x1 x2 1 S else if (b_X7_in_0 x2 1 36 S) = 0 then b_X7_bowl_28 x1 x2 2 S else b_X7_bowl_28 x1 x2 0 S
def o_X7_bowl_0 (x1 : Int32) (x2 : Int32) (S : Sx) : Prop := o_X7_isInnings_0 x1 S ∧ (((b_X7_isInnings_0 x1 S) = 0 → (o_X7_bowl_28 x1 x2 1 S)) ∧ (¬ (b_X7_isInnings_0 x1 S) = 0 → (o_X7_in_0 x2 1 36 S ∧ (((b_X7_in_0 x2 1 36 S) = 0 → (o_X7_bowl_28 x1 x2 2 S)) ∧ (¬ (b_X7_in_0 x2 1 36 S) = 0 → (o_X7_bowl_28 x1 x2 0 S))))))
set_option maxRecDepth 20000 in
theorem t_X7_bowl_0 (X : Cx p m c cX7_bowl 4 s args RX7 D q ad) (hr : meth.sig.returnType = some .int) (hlocks : meth.locks = false) (x1 : Int32) (x2 : Int32) (S : Sx) (rv : Int32) (S' : Sx) (ho : o_X7_bowl_0 x1 x2 S) (he : b_X7_bowl_0 x1 x2 S = (rv, S')) : Jg p l e rm_X7_bowl s m args below meth c 0 0 (MQ below (Qi D q ad d rv S' s.heap.size) args s 0 0 (AU ad s.heap.size)) D q ad d 4 0 [(0, .ref (ad 5)), (1, .int x1), (2, .int x2)] [] S := by
  unfold b_X7_bowl_0 at he
  unfold o_X7_bowl_0 at ho
  refine j_aload_n X 0 dX7_bowl_0 rfl ?_
  refine j_aload_n X 0 dX7_bowl_1 rfl ?_
  refine j_iload_n X 1 dX7_bowl_2 rfl ?_
  have h2 := ho.1
  have ho := ho.2
  refine j_callVi (rest := [.ref (ad 5)]) X (c_X7_isInnings (cx_inj X) x1 S h2) cw_X7_144 kc25.1 (cl_25 kc25) rfl ⟨rfl, rfl, Nat.le_of_ble_eq_true rfl, Nat.le_of_ble_eq_true rfl⟩ rfl rfl (Nat.le_of_ble_eq_true rfl) ⟨Nat.le_of_ble_eq_true rfl, Nat.le_of_ble_eq_true rfl⟩ dX7_bowl_3 ?_
  refine j_if_ne X 13 dX7_bowl_6 (by decide) (fun h3 => ?_) (fun h3 => ?_)
  · rw [if_neg h3] at he
    have ho := ho.2 h3
    refine j_iload_n X 2 dX7_bowl_13 rfl ?_
    refine j_iconst (v := 1) X dX7_bowl_14 (by decide) ?_
    refine j_bipush (v := 36) X dX7_bowl_15 (by decide) ?_
    have h4 := ho.1
    have ho := ho.2
    refine j_callSi (rest := [.ref (ad 5)]) X (c_X7_in (cx_inj X) x2 1 36 S h4) cw_X7_58 ⟨rfl, rfl, Nat.le_of_ble_eq_true rfl, Nat.le_of_ble_eq_true rfl⟩ rfl rfl (Nat.le_of_ble_eq_true rfl) ⟨Nat.le_of_ble_eq_true rfl, Nat.le_of_ble_eq_true rfl⟩ dX7_bowl_17 ?_
    refine j_if_eq X 27 dX7_bowl_20 (by decide) (fun h5 => ?_) (fun h5 => ?_)
    · rw [if_pos h5] at he
      have ho := ho.1 h5
      refine j_iconst (v := 2) X dX7_bowl_27 (by decide) ?_
      exact t_X7_bowl_28 X hr hlocks x1 x2 2 S _ _ ho he
    · rw [if_neg h5] at he
      have ho := ho.2 h5
      refine j_iconst (v := 0) X dX7_bowl_23 (by decide) ?_
      refine j_goto X 28 dX7_bowl_24 (by decide) ?_
      exact t_X7_bowl_28 X hr hlocks x1 x2 0 S _ _ ho he
  · rw [if_pos h3] at he
    have ho := ho.1 h3
    refine j_iconst (v := 1) X dX7_bowl_9 (by decide) ?_
    refine j_goto X 28 dX7_bowl_10 (by decide) ?_
    exact t_X7_bowl_28 X hr hlocks x1 x2 1 S _ _ ho he
theorem c_X7_bowl {l : Launch} {D : va_G} {q : Nat → ClassId} {ad : Nat → Nat} {d : UInt64} (hI : inj4 ad) (x1 : Int32) (x2 : Int32) (S : Sx) (ho : o_X7_bowl_0 x1 x2 S) : CI l yX7_bowl cX7_bowl 4 .int rm_X7_bowl D q ad d [.ref (ad 5), .int x1, .int x2] S (b_X7_bowl_0 x1 x2 S).1 (b_X7_bowl_0 x1 x2 S).2 := ci_of hI (by decide +kernel) (Nat.le_of_ble_eq_true rfl) rfl (fun p e s m args below meth c X hr hlocks => t_X7_bowl_0 X hr hlocks x1 x2 S _ _ ho (pe _))
end

/-! RX6.settle -/
abbrev rm_X6_settle : Room := { frames := 6, cells := 1, slots := 6, locals := 90 }
section
variable {p : Program} {l : Launch} {e : Env} {s : State} {m : MethodId} {args : Array Value} {below : List Frame} {meth : Method} {c : Code} {D : va_G} {q : Nat → ClassId} {ad : Nat → Nat} {d : UInt64} {sa : Nat → Nat}
def b_X6_settle_55  (S : Sx) : Nat × Int32 × Sx := (3, 0, S)
set_option maxRecDepth 20000 in
theorem t_X6_settle_55 (X : Cx p m c cX6_settle 2 s args RX6 D q ad) (F : XF ad s.heap.size sa s) (hnt : ∀ x ∈ c.exceptionTable.toList, False) (hst : l.stackTraces = false) (hr : meth.sig.returnType = none) (hlocks : meth.locks = false) (S : Sx) (xc : Nat) (rv : Int32) (S' : Sx) (he : b_X6_settle_55 S = (xc, rv, S')) : Jg p l e rm_X6_settle s m args below meth c 0 0 (vx_MQ below (QvX D q ad d xc S' s.heap.size) (XQ D q ad d xc S' s.heap.size) args s 1 6 (AU ad s.heap.size)) D q ad d 2 55 [] [] S := by
  unfold b_X6_settle_55 at he
  exact j_throwW X F hnt hlocks hst (k := 3) (by decide) ⟨by decide +kernel, by decide +kernel⟩ m_cl_X6_363 m_in_UnsupportedOperationException m_sr_365 thA_3 thG_3 dX6_settle_55 dX6_settle_58 dX6_settle_59 dX6_settle_62 dX6_settle_65 ⟨Nat.le_of_ble_eq_true rfl, Nat.le_of_ble_eq_true rfl, Nat.le_of_ble_eq_true rfl, Nat.le_of_ble_eq_true rfl⟩ ⟨by decide, by decide⟩ (pe2 he)
def b_X6_settle_0 (x1 : Int32) (S : Sx) : Nat × Int32 × Sx := if x1 = (-1) then (1, 0, S) else if x1 = (-2) then (2, 0, S) else if x1 = 0 then (0, 0, S) else b_X6_settle_55 (up2 (up2 S 0 6 (x1 / 1000)) 0 7 (i_rem x1 1000))
set_option maxRecDepth 20000 in
theorem t_X6_settle_0 (X : Cx p m c cX6_settle 2 s args RX6 D q ad) (F : XF ad s.heap.size sa s) (hnt : ∀ x ∈ c.exceptionTable.toList, False) (hst : l.stackTraces = false) (hr : meth.sig.returnType = none) (hlocks : meth.locks = false) (x1 : Int32) (S : Sx) (xc : Nat) (rv : Int32) (S' : Sx) (he : b_X6_settle_0 x1 S = (xc, rv, S')) : Jg p l e rm_X6_settle s m args below meth c 0 0 (vx_MQ below (QvX D q ad d xc S' s.heap.size) (XQ D q ad d xc S' s.heap.size) args s 1 6 (AU ad s.heap.size)) D q ad d 2 0 [(0, .ref (ad 0)), (1, .int x1)] [] S := by
  unfold b_X6_settle_0 at he
  refine j_iload_n X 1 dX6_settle_0 rfl ?_
  refine j_iconst (v := (-1)) X dX6_settle_1 (by decide) ?_
  refine j_icmp_ne X 16 dX6_settle_2 (by decide) (fun h2 => ?_) (fun h2 => ?_)
  · rw [if_neg h2] at he
    refine j_iload_n X 1 dX6_settle_16 rfl ?_
    refine j_bipush (v := (-2)) X dX6_settle_17 (by decide) ?_
    refine j_icmp_ne X 33 dX6_settle_19 (by decide) (fun h3 => ?_) (fun h3 => ?_)
    · rw [if_neg h3] at he
      refine j_iload_n X 1 dX6_settle_33 rfl ?_
      refine j_if_eq X 66 dX6_settle_34 (by decide) (fun h4 => ?_) (fun h4 => ?_)
      · rw [if_pos h4] at he
        exact j_vretX X hr hlocks ⟨by decide, by decide⟩ dX6_settle_66 (pe2 he)
      · rw [if_neg h4] at he
        refine j_aload_n X 0 dX6_settle_37 rfl ?_
        refine j_iload_n X 1 dX6_settle_38 rfl ?_
        refine j_sipush (v := 1000) X dX6_settle_39 (by decide) ?_
        refine j_idiv X dX6_settle_42 (by decide) ?_
        refine pf_20_6 X m_fl_X6_36 kc20 dX6_settle_43 ?_
        refine j_aload_n X 0 dX6_settle_46 rfl ?_
        refine j_iload_n X 1 dX6_settle_47 rfl ?_
        refine j_sipush (v := 1000) X dX6_settle_48 (by decide) ?_
        refine j_irem X dX6_settle_51 (by decide) ?_
        refine pf_20_7 X m_fl_X6_40 kc20 dX6_settle_52 ?_
        refine j_lv [] [] rfl ?_
        exact t_X6_settle_55 X F hnt hst hr hlocks (up2 (up2 S 0 6 (x1 / 1000)) 0 7 (i_rem x1 1000)) _ _ _ he
    · rw [if_pos h3] at he
      exact j_throwW X F hnt hlocks hst (k := 2) (by decide) ⟨by decide +kernel, by decide +kernel⟩ m_cl_X6_113 m_in_IllegalArgumentException m_sr_361 thA_2 thG_2 dX6_settle_22 dX6_settle_25 dX6_settle_26 dX6_settle_29 dX6_settle_32 ⟨Nat.le_of_ble_eq_true rfl, Nat.le_of_ble_eq_true rfl, Nat.le_of_ble_eq_true rfl, Nat.le_of_ble_eq_true rfl⟩ ⟨by decide, by decide⟩ (pe2 he)
  · rw [if_pos h2] at he
    exact j_throwW X F hnt hlocks hst (k := 1) (by decide) ⟨by decide +kernel, by decide +kernel⟩ m_cl_X6_356 m_in_IndexOutOfBoundsException m_sr_358 thA_1 thG_1 dX6_settle_5 dX6_settle_8 dX6_settle_9 dX6_settle_12 dX6_settle_15 ⟨Nat.le_of_ble_eq_true rfl, Nat.le_of_ble_eq_true rfl, Nat.le_of_ble_eq_true rfl, Nat.le_of_ble_eq_true rfl⟩ ⟨by decide, by decide⟩ (pe2 he)
theorem c_X6_settle {l : Launch} {D : va_G} {q : Nat → ClassId} {ad : Nat → Nat} {d : UInt64} {sa : Nat → Nat} (hst : l.stackTraces = false) (hI : inj4 ad) (x1 : Int32) (S : Sx) : CXv l yX6_settle cX6_settle 2 rm_X6_settle 1 6 D q ad d sa [.ref (ad 0), .int x1] S (b_X6_settle_0 x1 S).1 (b_X6_settle_0 x1 S).2.2 := cxv_of hI (by decide +kernel) (Nat.le_of_ble_eq_true rfl) rfl (fun p e s m args below meth c X F hnt hr hlocks => t_X6_settle_0 X F hnt hst hr hlocks x1 S _ _ _ (pe3i _))
end
/-! RX6 . admits -/
abbrev rm_X6_admit : Room := { frames := 7, cells := 1, slots := 6, locals := 111 }
section
variable {p : Program} {l : Launch} {e : Env} {s : State} {m : MethodId} {args : Array Value} {below : List Frame} {meth : Method} {c : Code} {D : va_G} {q : Nat → ClassId} {ad : Nat → Nat} {d : UInt64} {sa : Nat → Nat}
def b_X6_admit_5  (S : Sx) : Nat × Int32 × Sx := (0, 0, b_X4_keep_0 15 S)
def o_X6_admit_5  (S : Sx) : Prop := o_X4_keep_0 15 S ∧ True
set_option maxRecDepth 20000 in
theorem t_X6_admit_5 (X : Cx p m c cX6_admit 2 s args RX6 D q ad) (F : XF ad s.heap.size sa s) (hnt : ∀ x ∈ c.exceptionTable.toList, False) (hst : l.stackTraces = false) (hr : meth.sig.returnType = none) (hlocks : meth.locks = false) (S : Sx) (xc : Nat) (rv : Int32) (S' : Sx) (ho : o_X6_admit_5 S) (he : b_X6_admit_5 S = (xc, rv, S')) : Jg p l e rm_X6_admit s m args below meth c 1 6 (vx_MQ below (QvX D q ad d xc S' s.heap.size) (XQ D q ad d xc S' s.heap.size) args s 1 6 (AU ad s.heap.size)) D q ad d 2 5 [(0, .ref (ad 0))] [] S := by
  unfold b_X6_admit_5 at he
  unfold o_X6_admit_5 at ho
  refine j_aload_n X 0 dX6_admit_5 rfl ?_
  refine gf_20_4 X m_fl_X6_25 kc20 dX6_admit_6 ?_
  refine j_aload_n X 0 dX6_admit_9 rfl ?_
  refine gf_20_0 X m_fl_X6_10 kc20 dX6_admit_10 ?_
  have h2 := ho.1
  have ho := ho.2
  refine j_callVv (rest := []) X (c_X4_keep (cx_inj X) 15 kg0 S h2) cw_X6_368 kc21.1 (cl_21 kc21) rfl ⟨rfl, rfl, Nat.le_of_ble_eq_true rfl, Nat.le_of_ble_eq_true rfl⟩ rfl rfl (Nat.le_of_ble_eq_true rfl) ⟨Nat.le_of_ble_eq_true rfl, Nat.le_of_ble_eq_true rfl⟩ dX6_admit_13 ?_
  exact j_vretX X hr hlocks ⟨by decide, by decide⟩ dX6_admit_16 (pe2 he)
def b_X6_admit_0 (x1 : Int32) (S : Sx) : Nat × Int32 × Sx := if (b_X6_settle_0 x1 S).1 = 0 then b_X6_admit_5 ((b_X6_settle_0 x1 S).2.2) else ((b_X6_settle_0 x1 S).1, 0, (b_X6_settle_0 x1 S).2.2)
def o_X6_admit_0 (x1 : Int32) (S : Sx) : Prop := (b_X6_settle_0 x1 S).1 = 0 → (o_X6_admit_5 ((b_X6_settle_0 x1 S).2.2))
set_option maxRecDepth 20000 in
theorem t_X6_admit_0 (X : Cx p m c cX6_admit 2 s args RX6 D q ad) (F : XF ad s.heap.size sa s) (hnt : ∀ x ∈ c.exceptionTable.toList, False) (hst : l.stackTraces = false) (hr : meth.sig.returnType = none) (hlocks : meth.locks = false) (x1 : Int32) (S : Sx) (xc : Nat) (rv : Int32) (S' : Sx) (ho : o_X6_admit_0 x1 S) (he : b_X6_admit_0 x1 S = (xc, rv, S')) : Jg p l e rm_X6_admit s m args below meth c 0 0 (vx_MQ below (QvX D q ad d xc S' s.heap.size) (XQ D q ad d xc S' s.heap.size) args s 1 6 (AU ad s.heap.size)) D q ad d 2 0 [(0, .ref (ad 0)), (1, .int x1)] [] S := by
  unfold b_X6_admit_0 at he
  unfold o_X6_admit_0 at ho
  refine j_aload_n X 0 dX6_admit_0 rfl ?_
  refine j_iload_n X 1 dX6_admit_1 rfl ?_
  refine j_callXv (rest := []) X F hnt hlocks (c_X6_settle hst (cx_inj X) x1 S) cw_X6_69 kc20.1 (cl_20 kc20) rfl ⟨rfl, rfl, Nat.le_of_ble_eq_true rfl, Nat.le_of_ble_eq_true rfl⟩ rfl rfl (Nat.le_of_ble_eq_true rfl) ⟨Nat.le_of_ble_eq_true rfl, Nat.le_of_ble_eq_true rfl⟩ ⟨by decide, by decide⟩ dX6_admit_2 (fun h2 => ?_) (fun h2 => ?_)
  · rw [if_neg h2] at he
    exact pe2 he
  · rw [if_pos h2] at he
    have ho := ho h2
    refine j_lv [0] [(0, .ref (ad 0))] rfl ?_
    exact t_X6_admit_5 X F hnt hst hr hlocks ((b_X6_settle_0 x1 S).2.2) _ _ _ ho he
theorem c_X6_admit {l : Launch} {D : va_G} {q : Nat → ClassId} {ad : Nat → Nat} {d : UInt64} {sa : Nat → Nat} (hst : l.stackTraces = false) (hI : inj4 ad) (x1 : Int32) (S : Sx) (ho : o_X6_admit_0 x1 S) : CXv l yX6_admit cX6_admit 2 rm_X6_admit 1 6 D q ad d sa [.ref (ad 0), .int x1] S (b_X6_admit_0 x1 S).1 (b_X6_admit_0 x1 S).2.2 := cxv_of hI (by decide +kernel) (Nat.le_of_ble_eq_true rfl) rfl (fun p e s m args below meth c X F hnt hr hlocks => t_X6_admit_0 X F hnt hst hr hlocks x1 S _ _ _ ho (pe3i _))
end
/-! RX6.rain -/
abbrev rm_X6_rain : Room := { frames := 8, cells := 1, slots := 6, locals := 132 }
section
variable {p : Program} {l : Launch} {e : Env} {s : State} {m : MethodId} {args : Array Value} {below : List Frame} {meth : Method} {c : Code} {D : va_G} {q : Nat → ClassId} {ad : Nat → Nat} {d : UInt64} {sa : Nat → Nat}
def b_X6_rain_9 (v1 : Int32) (v2 : Int32) (S : Sx) : Nat × Int32 × Sx := (0, (b_X6_exchange_0 (15 + 1) v1 v2 S).1, (b_X6_exchange_0 (15 + 1) v1 v2 S).2)
def o_X6_rain_9 (v1 : Int32) (v2 : Int32) (S : Sx) : Prop := o_X6_exchange_0 (15 + 1) v1 v2 S ∧ True
set_option maxRecDepth 20000 in
theorem t_X6_rain_9 (X : Cx p m c cX6_rain 3 s args RX6 D q ad) (F : XF ad s.heap.size sa s) (hnt : ∀ x ∈ c.exceptionTable.toList, False) (hst : l.stackTraces = false) (hr : meth.sig.returnType = some .int) (hlocks : meth.locks = false) (v1 : Int32) (v2 : Int32) (S : Sx) (xc : Nat) (rv : Int32) (S' : Sx) (ho : o_X6_rain_9 v1 v2 S) (he : b_X6_rain_9 v1 v2 S = (xc, rv, S')) : Jg p l e rm_X6_rain s m args below meth c 1 6 (vx_MQ below (QiX D q ad d xc rv S' s.heap.size) (XQ D q ad d xc S' s.heap.size) args s 1 6 (AU ad s.heap.size)) D q ad d 3 9 [(0, .ref (ad 0)), (1, .int v1), (2, .int v2)] [] S := by
  unfold b_X6_rain_9 at he
  unfold o_X6_rain_9 at ho
  refine j_aload_n X 0 dX6_rain_9 rfl ?_
  refine gf_20_0 X m_fl_X6_10 kc20 dX6_rain_10 ?_
  refine gf_0_2 X m_fl_X6_51 kg0 dX6_rain_13 ?_
  refine j_iload_n X 1 dX6_rain_16 rfl ?_
  refine j_iload_n X 2 dX6_rain_17 rfl ?_
  have h2 := ho.1
  have ho := ho.2
  refine j_callSi (rest := []) X (c_X6_exchange (cx_inj X) (15 + 1) (isA_of1 (k0_1 kg0)) v1 v2 S h2) cw_X6_55 ⟨rfl, rfl, Nat.le_of_ble_eq_true rfl, Nat.le_of_ble_eq_true rfl⟩ rfl rfl (Nat.le_of_ble_eq_true rfl) ⟨Nat.le_of_ble_eq_true rfl, Nat.le_of_ble_eq_true rfl⟩ dX6_rain_18 ?_
  exact j_iretX X hr hlocks ⟨by decide, by decide⟩ dX6_rain_21 (pe3 he)
def b_X6_rain_0 (x1 : Int32) (x2 : Int32) (S : Sx) : Nat × Int32 × Sx := if (b_X6_admit_0 (b_X6_weatherVerdict_0 x1 x2 S) S).1 = 0 then b_X6_rain_9 x1 x2 ((b_X6_admit_0 (b_X6_weatherVerdict_0 x1 x2 S) S).2.2) else ((b_X6_admit_0 (b_X6_weatherVerdict_0 x1 x2 S) S).1, 0, (b_X6_admit_0 (b_X6_weatherVerdict_0 x1 x2 S) S).2.2)
def o_X6_rain_0 (x1 : Int32) (x2 : Int32) (S : Sx) : Prop := o_X6_admit_0 (b_X6_weatherVerdict_0 x1 x2 S) S ∧ ((b_X6_admit_0 (b_X6_weatherVerdict_0 x1 x2 S) S).1 = 0 → (o_X6_rain_9 x1 x2 ((b_X6_admit_0 (b_X6_weatherVerdict_0 x1 x2 S) S).2.2)))
set_option maxRecDepth 20000 in
theorem t_X6_rain_0 (X : Cx p m c cX6_rain 3 s args RX6 D q ad) (F : XF ad s.heap.size sa s) (hnt : ∀ x ∈ c.exceptionTable.toList, False) (hst : l.stackTraces = false) (hr : meth.sig.returnType = some .int) (hlocks : meth.locks = false) (x1 : Int32) (x2 : Int32) (S : Sx) (xc : Nat) (rv : Int32) (S' : Sx) (ho : o_X6_rain_0 x1 x2 S) (he : b_X6_rain_0 x1 x2 S = (xc, rv, S')) : Jg p l e rm_X6_rain s m args below meth c 0 0 (vx_MQ below (QiX D q ad d xc rv S' s.heap.size) (XQ D q ad d xc S' s.heap.size) args s 1 6 (AU ad s.heap.size)) D q ad d 3 0 [(0, .ref (ad 0)), (1, .int x1), (2, .int x2)] [] S := by
  unfold b_X6_rain_0 at he
  unfold o_X6_rain_0 at ho
  refine j_aload_n X 0 dX6_rain_0 rfl ?_
  refine j_iload_n X 1 dX6_rain_1 rfl ?_
  refine j_iload_n X 2 dX6_rain_2 rfl ?_
  refine j_callSi (rest := [.ref (ad 0)]) X (c_X6_weatherVerdict (cx_inj X) x1 x2 S) cw_X6_43 ⟨rfl, rfl, Nat.le_of_ble_eq_true rfl, Nat.le_of_ble_eq_true rfl⟩ rfl rfl (Nat.le_of_ble_eq_true rfl) ⟨Nat.le_of_ble_eq_true rfl, Nat.le_of_ble_eq_true rfl⟩ dX6_rain_3 ?_
  have h2 := ho.1
  have ho := ho.2
  refine j_callXv (rest := []) X F hnt hlocks (c_X6_admit hst (cx_inj X) (b_X6_weatherVerdict_0 x1 x2 S) S h2) cw_X6_47 kc20.1 (cl_20 kc20) rfl ⟨rfl, rfl, Nat.le_of_ble_eq_true rfl, Nat.le_of_ble_eq_true rfl⟩ rfl rfl (Nat.le_of_ble_eq_true rfl) ⟨Nat.le_of_ble_eq_true rfl, Nat.le_of_ble_eq_true rfl⟩ ⟨by decide, by decide⟩ dX6_rain_6 (fun h3 => ?_) (fun h3 => ?_)
  · rw [if_neg h3] at he
    exact pe2 he
  · rw [if_pos h3] at he
    have ho := ho h3
    exact t_X6_rain_9 X F hnt hst hr hlocks x1 x2 ((b_X6_admit_0 (b_X6_weatherVerdict_0 x1 x2 S) S).2.2) _ _ _ ho he
theorem c_X6_rain {l : Launch} {D : va_G} {q : Nat → ClassId} {ad : Nat → Nat} {d : UInt64} {sa : Nat → Nat} (hst : l.stackTraces = false) (hI : inj4 ad) (x1 : Int32) (x2 : Int32) (S : Sx) (ho : o_X6_rain_0 x1 x2 S) : CXi l yX6_rain cX6_rain 3 .int rm_X6_rain 1 6 D q ad d sa [.ref (ad 0), .int x1, .int x2] S (b_X6_rain_0 x1 x2 S).1 (b_X6_rain_0 x1 x2 S).2.1 (b_X6_rain_0 x1 x2 S).2.2 := cxi_of hI (by decide +kernel) (Nat.le_of_ble_eq_true rfl) rfl (fun p e s m args below meth c X F hnt hr hlocks => t_X6_rain_0 X F hnt hst hr hlocks x1 x2 S _ _ _ ho (pe3i _))
end
/-! RX6.light -/
abbrev rm_X6_light : Room := { frames := 8, cells := 1, slots := 6, locals := 132 }
section
variable {p : Program} {l : Launch} {e : Env} {s : State} {m : MethodId} {args : Array Value} {below : List Frame} {meth : Method} {c : Code} {D : va_G} {q : Nat → ClassId} {ad : Nat → Nat} {d : UInt64} {sa : Nat → Nat}
def b_X6_light_9 (v1 : Int32) (v2 : Int32) (S : Sx) : Nat × Int32 × Sx := (0, (b_X6_exchange_0 (15 + 2) v1 v2 S).1, (b_X6_exchange_0 (15 + 2) v1 v2 S).2)
def o_X6_light_9 (v1 : Int32) (v2 : Int32) (S : Sx) : Prop := o_X6_exchange_0 (15 + 2) v1 v2 S ∧ True
set_option maxRecDepth 20000 in
theorem t_X6_light_9 (X : Cx p m c cX6_light 3 s args RX6 D q ad) (F : XF ad s.heap.size sa s) (hnt : ∀ x ∈ c.exceptionTable.toList, False) (hst : l.stackTraces = false) (hr : meth.sig.returnType = some .int) (hlocks : meth.locks = false) (v1 : Int32) (v2 : Int32) (S : Sx) (xc : Nat) (rv : Int32) (S' : Sx) (ho : o_X6_light_9 v1 v2 S) (he : b_X6_light_9 v1 v2 S = (xc, rv, S')) : Jg p l e rm_X6_light s m args below meth c 1 6 (vx_MQ below (QiX D q ad d xc rv S' s.heap.size) (XQ D q ad d xc S' s.heap.size) args s 1 6 (AU ad s.heap.size)) D q ad d 3 9 [(0, .ref (ad 0)), (1, .int v1), (2, .int v2)] [] S := by
  unfold b_X6_light_9 at he
  unfold o_X6_light_9 at ho
  refine j_aload_n X 0 dX6_light_9 rfl ?_
  refine gf_20_0 X m_fl_X6_10 kc20 dX6_light_10 ?_
  refine gf_0_3 X m_fl_X6_59 kg0 dX6_light_13 ?_
  refine j_iload_n X 1 dX6_light_16 rfl ?_
  refine j_iload_n X 2 dX6_light_17 rfl ?_
  have h2 := ho.1
  have ho := ho.2
  refine j_callSi (rest := []) X (c_X6_exchange (cx_inj X) (15 + 2) (isA_of2 (k0_2 kg0)) v1 v2 S h2) cw_X6_55 ⟨rfl, rfl, Nat.le_of_ble_eq_true rfl, Nat.le_of_ble_eq_true rfl⟩ rfl rfl (Nat.le_of_ble_eq_true rfl) ⟨Nat.le_of_ble_eq_true rfl, Nat.le_of_ble_eq_true rfl⟩ dX6_light_18 ?_
  exact j_iretX X hr hlocks ⟨by decide, by decide⟩ dX6_light_21 (pe3 he)
def b_X6_light_0 (x1 : Int32) (x2 : Int32) (S : Sx) : Nat × Int32 × Sx := if (b_X6_admit_0 (b_X6_weatherVerdict_0 x1 x2 S) S).1 = 0 then b_X6_light_9 x1 x2 ((b_X6_admit_0 (b_X6_weatherVerdict_0 x1 x2 S) S).2.2) else ((b_X6_admit_0 (b_X6_weatherVerdict_0 x1 x2 S) S).1, 0, (b_X6_admit_0 (b_X6_weatherVerdict_0 x1 x2 S) S).2.2)
def o_X6_light_0 (x1 : Int32) (x2 : Int32) (S : Sx) : Prop := o_X6_admit_0 (b_X6_weatherVerdict_0 x1 x2 S) S ∧ ((b_X6_admit_0 (b_X6_weatherVerdict_0 x1 x2 S) S).1 = 0 → (o_X6_light_9 x1 x2 ((b_X6_admit_0 (b_X6_weatherVerdict_0 x1 x2 S) S).2.2)))
set_option maxRecDepth 20000 in
theorem t_X6_light_0 (X : Cx p m c cX6_light 3 s args RX6 D q ad) (F : XF ad s.heap.size sa s) (hnt : ∀ x ∈ c.exceptionTable.toList, False) (hst : l.stackTraces = false) (hr : meth.sig.returnType = some .int) (hlocks : meth.locks = false) (x1 : Int32) (x2 : Int32) (S : Sx) (xc : Nat) (rv : Int32) (S' : Sx) (ho : o_X6_light_0 x1 x2 S) (he : b_X6_light_0 x1 x2 S = (xc, rv, S')) : Jg p l e rm_X6_light s m args below meth c 0 0 (vx_MQ below (QiX D q ad d xc rv S' s.heap.size) (XQ D q ad d xc S' s.heap.size) args s 1 6 (AU ad s.heap.size)) D q ad d 3 0 [(0, .ref (ad 0)), (1, .int x1), (2, .int x2)] [] S := by
  unfold b_X6_light_0 at he
  unfold o_X6_light_0 at ho
  refine j_aload_n X 0 dX6_light_0 rfl ?_
  refine j_iload_n X 1 dX6_light_1 rfl ?_
  refine j_iload_n X 2 dX6_light_2 rfl ?_
  refine j_callSi (rest := [.ref (ad 0)]) X (c_X6_weatherVerdict (cx_inj X) x1 x2 S) cw_X6_43 ⟨rfl, rfl, Nat.le_of_ble_eq_true rfl, Nat.le_of_ble_eq_true rfl⟩ rfl rfl (Nat.le_of_ble_eq_true rfl) ⟨Nat.le_of_ble_eq_true rfl, Nat.le_of_ble_eq_true rfl⟩ dX6_light_3 ?_
  have h2 := ho.1
  have ho := ho.2
  refine j_callXv (rest := []) X F hnt hlocks (c_X6_admit hst (cx_inj X) (b_X6_weatherVerdict_0 x1 x2 S) S h2) cw_X6_47 kc20.1 (cl_20 kc20) rfl ⟨rfl, rfl, Nat.le_of_ble_eq_true rfl, Nat.le_of_ble_eq_true rfl⟩ rfl rfl (Nat.le_of_ble_eq_true rfl) ⟨Nat.le_of_ble_eq_true rfl, Nat.le_of_ble_eq_true rfl⟩ ⟨by decide, by decide⟩ dX6_light_6 (fun h3 => ?_) (fun h3 => ?_)
  · rw [if_neg h3] at he
    exact pe2 he
  · rw [if_pos h3] at he
    have ho := ho h3
    exact t_X6_light_9 X F hnt hst hr hlocks x1 x2 ((b_X6_admit_0 (b_X6_weatherVerdict_0 x1 x2 S) S).2.2) _ _ _ ho he
theorem c_X6_light {l : Launch} {D : va_G} {q : Nat → ClassId} {ad : Nat → Nat} {d : UInt64} {sa : Nat → Nat} (hst : l.stackTraces = false) (hI : inj4 ad) (x1 : Int32) (x2 : Int32) (S : Sx) (ho : o_X6_light_0 x1 x2 S) : CXi l yX6_light cX6_light 3 .int rm_X6_light 1 6 D q ad d sa [.ref (ad 0), .int x1, .int x2] S (b_X6_light_0 x1 x2 S).1 (b_X6_light_0 x1 x2 S).2.1 (b_X6_light_0 x1 x2 S).2.2 := cxi_of hI (by decide +kernel) (Nat.le_of_ble_eq_true rfl) rfl (fun p e s m args below meth c X F hnt hr hlocks => t_X6_light_0 X F hnt hst hr hlocks x1 x2 S _ _ _ ho (pe3i _))
end
/-! RX6.bell -/
abbrev rm_X6_bell : Room := { frames := 8, cells := 1, slots := 6, locals := 132 }
section
variable {p : Program} {l : Launch} {e : Env} {s : State} {m : MethodId} {args : Array Value} {below : List Frame} {meth : Method} {c : Code} {D : va_G} {q : Nat → ClassId} {ad : Nat → Nat} {d : UInt64} {sa : Nat → Nat}
def b_X6_bell_8 (v1 : Int32) (S : Sx) : Nat × Int32 × Sx := (0, S 15 1, up2 S 15 1 v1)
set_option maxRecDepth 20000 in
theorem t_X6_bell_8 (X : Cx p m c cX6_bell 3 s args RX6 D q ad) (F : XF ad s.heap.size sa s) (hnt : ∀ x ∈ c.exceptionTable.toList, False) (hst : l.stackTraces = false) (hr : meth.sig.returnType = some .int) (hlocks : meth.locks = false) (v1 : Int32) (S : Sx) (xc : Nat) (rv : Int32) (S' : Sx) (he : b_X6_bell_8 v1 S = (xc, rv, S')) : Jg p l e rm_X6_bell s m args below meth c 1 6 (vx_MQ below (QiX D q ad d xc rv S' s.heap.size) (XQ D q ad d xc S' s.heap.size) args s 1 6 (AU ad s.heap.size)) D q ad d 3 8 [(0, .ref (ad 0)), (1, .int v1)] [] S := by
  unfold b_X6_bell_8 at he
  refine j_aload_n X 0 dX6_bell_8 rfl ?_
  refine gf_20_0 X m_fl_X6_10 kc20 dX6_bell_9 ?_
  refine gf_0_1 X m_fl_X6_66 kg0 dX6_bell_12 ?_
  refine j_istore_n X [(2, .int (S 15 1)), (0, .ref (ad 0)), (1, .int v1)] dX6_bell_15 (by decide) rfl ?_
  refine j_aload_n X 1 dX6_bell_16 rfl ?_
  refine gf_20_0 X m_fl_X6_10 kc20 dX6_bell_17 ?_
  refine j_iload_n X 2 dX6_bell_20 rfl ?_
  refine pf_0_1 X m_fl_X6_66 kg0 dX6_bell_21 ?_
  refine j_iload_n X 0 dX6_bell_24 rfl ?_
  exact j_iretX X hr hlocks ⟨by decide, by decide⟩ dX6_bell_25 (pe3 he)
def b_X6_bell_0 (x1 : Int32) (S : Sx) : Nat × Int32 × Sx := if (b_X6_admit_0 (b_X6_hourVerdict_0 x1 S) S).1 = 0 then b_X6_bell_8 x1 ((b_X6_admit_0 (b_X6_hourVerdict_0 x1 S) S).2.2) else ((b_X6_admit_0 (b_X6_hourVerdict_0 x1 S) S).1, 0, (b_X6_admit_0 (b_X6_hourVerdict_0 x1 S) S).2.2)
def o_X6_bell_0 (x1 : Int32) (S : Sx) : Prop := o_X6_admit_0 (b_X6_hourVerdict_0 x1 S) S ∧ True
set_option maxRecDepth 20000 in
theorem t_X6_bell_0 (X : Cx p m c cX6_bell 3 s args RX6 D q ad) (F : XF ad s.heap.size sa s) (hnt : ∀ x ∈ c.exceptionTable.toList, False) (hst : l.stackTraces = false) (hr : meth.sig.returnType = some .int) (hlocks : meth.locks = false) (x1 : Int32) (S : Sx) (xc : Nat) (rv : Int32) (S' : Sx) (ho : o_X6_bell_0 x1 S) (he : b_X6_bell_0 x1 S = (xc, rv, S')) : Jg p l e rm_X6_bell s m args below meth c 0 0 (vx_MQ below (QiX D q ad d xc rv S' s.heap.size) (XQ D q ad d xc S' s.heap.size) args s 1 6 (AU ad s.heap.size)) D q ad d 3 0 [(0, .ref (ad 0)), (1, .int x1)] [] S := by
  unfold b_X6_bell_0 at he
  unfold o_X6_bell_0 at ho
  refine j_aload_n X 0 dX6_bell_0 rfl ?_
  refine j_iload_n X 1 dX6_bell_1 rfl ?_
  refine j_callSi (rest := [.ref (ad 0)]) X (c_X6_hourVerdict (cx_inj X) x1 S) cw_X6_62 ⟨rfl, rfl, Nat.le_of_ble_eq_true rfl, Nat.le_of_ble_eq_true rfl⟩ rfl rfl (Nat.le_of_ble_eq_true rfl) ⟨Nat.le_of_ble_eq_true rfl, Nat.le_of_ble_eq_true rfl⟩ dX6_bell_2 ?_
  have h2 := ho.1
  have ho := ho.2
  refine j_callXv (rest := []) X F hnt hlocks (c_X6_admit hst (cx_inj X) (b_X6_hourVerdict_0 x1 S) S h2) cw_X6_47 kc20.1 (cl_20 kc20) rfl ⟨rfl, rfl, Nat.le_of_ble_eq_true rfl, Nat.le_of_ble_eq_true rfl⟩ rfl rfl (Nat.le_of_ble_eq_true rfl) ⟨Nat.le_of_ble_eq_true rfl, Nat.le_of_ble_eq_true rfl⟩ ⟨by decide, by decide⟩ dX6_bell_5 (fun h3 => ?_) (fun h3 => ?_)
  · rw [if_neg h3] at he
    exact pe2 he
  · rw [if_pos h3] at he
    exact t_X6_bell_8 X F hnt hst hr hlocks x1 ((b_X6_admit_0 (b_X6_hourVerdict_0 x1 S) S).2.2) _ _ _ he
theorem c_X6_bell {l : Launch} {D : va_G} {q : Nat → ClassId} {ad : Nat → Nat} {d : UInt64} {sa : Nat → Nat} (hst : l.stackTraces = false) (hI : inj4 ad) (x1 : Int32) (S : Sx) (ho : o_X6_bell_0 x1 S) : CXi l yX6_bell cX6_bell 3 .int rm_X6_bell 1 6 D q ad d sa [.ref (ad 0), .int x1] S (b_X6_bell_0 x1 S).1 (b_X6_bell_0 x1 S).2.1 (b_X6_bell_0 x1 S).2.2 := cxi_of hI (by decide +kernel) (Nat.le_of_ble_eq_true rfl) rfl (fun p e s m args below meth c X F hnt hr hlocks => t_X6_bell_0 X F hnt hst hr hlocks x1 S _ _ _ ho (pe3i _))
end
/-! RX6.weather -/
abbrev rm_X6_weather : Room := { frames := 7, cells := 1, slots := 6, locals := 111 }
section
variable {p : Program} {l : Launch} {e : Env} {s : State} {m : MethodId} {args : Array Value} {below : List Frame} {meth : Method} {c : Code} {D : va_G} {q : Nat → ClassId} {ad : Nat → Nat} {d : UInt64} {sa : Nat → Nat}
def b_X6_weather_33 (w0 : Int32) (S : Sx) : Nat × Int32 × Sx := (0, w0, S)
set_option maxRecDepth 20000 in
theorem t_X6_weather_33 (X : Cx p m c cX6_weather 3 s args RX6 D q ad) (F : XF ad s.heap.size sa s) (hnt : ∀ x ∈ c.exceptionTable.toList, False) (hst : l.stackTraces = false) (hr : meth.sig.returnType = some .int) (hlocks : meth.locks = false) (w0 : Int32) (S : Sx) (xc : Nat) (rv : Int32) (S' : Sx) (he : b_X6_weather_33 w0 S = (xc, rv, S')) : Jg p l e rm_X6_weather s m args below meth c 1 6 (vx_MQ below (QiX D q ad d xc rv S' s.heap.size) (XQ D q ad d xc S' s.heap.size) args s 1 6 (AU ad s.heap.size)) D q ad d 3 33 [] [.int w0] S := by
  unfold b_X6_weather_33 at he
  exact j_iretX X hr hlocks ⟨by decide, by decide⟩ dX6_weather_33 (pe3 he)
def b_X6_weather_8 (v1 : Int32) (v2 : Int32) (S : Sx) : Nat × Int32 × Sx := if v2 = 0 then b_X6_weather_33 (S (15 + 1) v1.toNatClampNeg) S else b_X6_weather_33 (S (15 + 2) v1.toNatClampNeg) S
def o_X6_weather_8 (v1 : Int32) (v2 : Int32) (S : Sx) : Prop := (v2 = 0 → (vp_in v1 24 ∧ True)) ∧ (¬ v2 = 0 → (vp_in v1 24 ∧ True))
set_option maxRecDepth 20000 in
theorem t_X6_weather_8 (X : Cx p m c cX6_weather 3 s args RX6 D q ad) (F : XF ad s.heap.size sa s) (hnt : ∀ x ∈ c.exceptionTable.toList, False) (hst : l.stackTraces = false) (hr : meth.sig.returnType = some .int) (hlocks : meth.locks = false) (v1 : Int32) (v2 : Int32) (S : Sx) (xc : Nat) (rv : Int32) (S' : Sx) (ho : o_X6_weather_8 v1 v2 S) (he : b_X6_weather_8 v1 v2 S = (xc, rv, S')) : Jg p l e rm_X6_weather s m args below meth c 1 6 (vx_MQ below (QiX D q ad d xc rv S' s.heap.size) (XQ D q ad d xc S' s.heap.size) args s 1 6 (AU ad s.heap.size)) D q ad d 3 8 [(0, .ref (ad 0)), (1, .int v1), (2, .int v2)] [] S := by
  unfold b_X6_weather_8 at he
  unfold o_X6_weather_8 at ho
  refine j_iload_n X 2 dX6_weather_8 rfl ?_
  refine j_if_eq X 24 dX6_weather_9 (by decide) (fun h2 => ?_) (fun h2 => ?_)
  · rw [if_pos h2] at he
    have ho := ho.1 h2
    refine j_aload_n X 0 dX6_weather_24 rfl ?_
    refine gf_20_0 X m_fl_X6_10 kc20 dX6_weather_25 ?_
    refine gf_0_2 X m_fl_X6_51 kg0 dX6_weather_28 ?_
    refine j_iload_n X 1 dX6_weather_31 rfl ?_
    have h3 := ho.1
    have ho := ho.2
    refine j_iald X (k0_1 kg0).1 (cl_1 (k0_1 kg0)) h3 dX6_weather_32 ?_
    refine j_lv [] [] rfl ?_
    exact t_X6_weather_33 X F hnt hst hr hlocks (S (15 + 1) v1.toNatClampNeg) S _ _ _ he
  · rw [if_neg h2] at he
    have ho := ho.2 h2
    refine j_aload_n X 0 dX6_weather_12 rfl ?_
    refine gf_20_0 X m_fl_X6_10 kc20 dX6_weather_13 ?_
    refine gf_0_3 X m_fl_X6_59 kg0 dX6_weather_16 ?_
    refine j_iload_n X 1 dX6_weather_19 rfl ?_
    have h4 := ho.1
    have ho := ho.2
    refine j_iald X (k0_2 kg0).1 (cl_2 (k0_2 kg0)) h4 dX6_weather_20 ?_
    refine j_goto X 33 dX6_weather_21 (by decide) ?_
    refine j_lv [] [] rfl ?_
    exact t_X6_weather_33 X F hnt hst hr hlocks (S (15 + 2) v1.toNatClampNeg) S _ _ _ he
def b_X6_weather_0 (x1 : Int32) (x2 : Int32) (S : Sx) : Nat × Int32 × Sx := if (b_X6_settle_0 (b_X6_hourVerdict_0 x1 S) S).1 = 0 then b_X6_weather_8 x1 x2 ((b_X6_settle_0 (b_X6_hourVerdict_0 x1 S) S).2.2) else ((b_X6_settle_0 (b_X6_hourVerdict_0 x1 S) S).1, 0, (b_X6_settle_0 (b_X6_hourVerdict_0 x1 S) S).2.2)
def o_X6_weather_0 (x1 : Int32) (x2 : Int32) (S : Sx) : Prop := (b_X6_settle_0 (b_X6_hourVerdict_0 x1 S) S).1 = 0 → (o_X6_weather_8 x1 x2 ((b_X6_settle_0 (b_X6_hourVerdict_0 x1 S) S).2.2))
set_option maxRecDepth 20000 in
theorem t_X6_weather_0 (X : Cx p m c cX6_weather 3 s args RX6 D q ad) (F : XF ad s.heap.size sa s) (hnt : ∀ x ∈ c.exceptionTable.toList, False) (hst : l.stackTraces = false) (hr : meth.sig.returnType = some .int) (hlocks : meth.locks = false) (x1 : Int32) (x2 : Int32) (S : Sx) (xc : Nat) (rv : Int32) (S' : Sx) (ho : o_X6_weather_0 x1 x2 S) (he : b_X6_weather_0 x1 x2 S = (xc, rv, S')) : Jg p l e rm_X6_weather s m args below meth c 0 0 (vx_MQ below (QiX D q ad d xc rv S' s.heap.size) (XQ D q ad d xc S' s.heap.size) args s 1 6 (AU ad s.heap.size)) D q ad d 3 0 [(0, .ref (ad 0)), (1, .int x1), (2, .int x2)] [] S := by
  unfold b_X6_weather_0 at he
  unfold o_X6_weather_0 at ho
  refine j_aload_n X 0 dX6_weather_0 rfl ?_
  refine j_iload_n X 1 dX6_weather_1 rfl ?_
  refine j_callSi (rest := [.ref (ad 0)]) X (c_X6_hourVerdict (cx_inj X) x1 S) cw_X6_62 ⟨rfl, rfl, Nat.le_of_ble_eq_true rfl, Nat.le_of_ble_eq_true rfl⟩ rfl rfl (Nat.le_of_ble_eq_true rfl) ⟨Nat.le_of_ble_eq_true rfl, Nat.le_of_ble_eq_true rfl⟩ dX6_weather_2 ?_
  refine j_callXv (rest := []) X F hnt hlocks (c_X6_settle hst (cx_inj X) (b_X6_hourVerdict_0 x1 S) S) cw_X6_69 kc20.1 (cl_20 kc20) rfl ⟨rfl, rfl, Nat.le_of_ble_eq_true rfl, Nat.le_of_ble_eq_true rfl⟩ rfl rfl (Nat.le_of_ble_eq_true rfl) ⟨Nat.le_of_ble_eq_true rfl, Nat.le_of_ble_eq_true rfl⟩ ⟨by decide, by decide⟩ dX6_weather_5 (fun h2 => ?_) (fun h2 => ?_)
  · rw [if_neg h2] at he
    exact pe2 he
  · rw [if_pos h2] at he
    have ho := ho h2
    exact t_X6_weather_8 X F hnt hst hr hlocks x1 x2 ((b_X6_settle_0 (b_X6_hourVerdict_0 x1 S) S).2.2) _ _ _ ho he
theorem c_X6_weather {l : Launch} {D : va_G} {q : Nat → ClassId} {ad : Nat → Nat} {d : UInt64} {sa : Nat → Nat} (hst : l.stackTraces = false) (hI : inj4 ad) (x1 : Int32) (x2 : Int32) (S : Sx) (ho : o_X6_weather_0 x1 x2 S) : CXi l yX6_weather cX6_weather 3 .int rm_X6_weather 1 6 D q ad d sa [.ref (ad 0), .int x1, .int x2] S (b_X6_weather_0 x1 x2 S).1 (b_X6_weather_0 x1 x2 S).2.1 (b_X6_weather_0 x1 x2 S).2.2 := cxi_of hI (by decide +kernel) (Nat.le_of_ble_eq_true rfl) rfl (fun p e s m args below meth c X F hnt hr hlocks => t_X6_weather_0 X F hnt hst hr hlocks x1 x2 S _ _ _ ho (pe3i _))
end
/-! RX6.pitch -/
abbrev rm_X6_pitch : Room := { frames := 8, cells := 1, slots := 6, locals := 132 }
section
variable {p : Program} {l : Launch} {e : Env} {s : State} {m : MethodId} {args : Array Value} {below : List Frame} {meth : Method} {c : Code} {D : va_G} {q : Nat → ClassId} {ad : Nat → Nat} {d : UInt64} {sa : Nat → Nat}
def b_X6_pitch_15  (S : Sx) : Nat × Int32 × Sx := (0, S 15 4, up2 S 15 4 ((S 15 4) + 1))
set_option maxRecDepth 20000 in
theorem t_X6_pitch_15 (X : Cx p m c cX6_pitch 1 s args RX6 D q ad) (F : XF ad s.heap.size sa s) (hnt : ∀ x ∈ c.exceptionTable.toList, False) (hst : l.stackTraces = false) (hr : meth.sig.returnType = some .int) (hlocks : meth.locks = false) (S : Sx) (xc : Nat) (rv : Int32) (S' : Sx) (he : b_X6_pitch_15 S = (xc, rv, S')) : Jg p l e rm_X6_pitch s m args below meth c 1 6 (vx_MQ below (QiX D q ad d xc rv S' s.heap.size) (XQ D q ad d xc S' s.heap.size) args s 1 6 (AU ad s.heap.size)) D q ad d 1 15 [(0, .ref (ad 0))] [] S := by
  unfold b_X6_pitch_15 at he
  refine j_aload_n X 0 dX6_pitch_15 rfl ?_
  refine gf_20_0 X m_fl_X6_10 kc20 dX6_pitch_16 ?_
  refine j_dup X dX6_pitch_19 rfl ?_
  refine gf_0_4 X m_fl_X6_72 kg0 dX6_pitch_20 ?_
  refine j_dup_x1 X dX6_pitch_23 rfl rfl ?_
  refine j_iconst (v := 1) X dX6_pitch_24 (by decide) ?_
  refine j_iadd X dX6_pitch_25 ?_
  refine pf_0_4 X m_fl_X6_72 kg0 dX6_pitch_26 ?_
  exact j_iretX X hr hlocks ⟨by decide, by decide⟩ dX6_pitch_29 (pe3 he)
def b_X6_pitch_0  (S : Sx) : Nat × Int32 × Sx := if (b_X6_admit_0 (b_X6_roomVerdict_0 (S 15 4) 4 S) S).1 = 0 then b_X6_pitch_15 ((b_X6_admit_0 (b_X6_roomVerdict_0 (S 15 4) 4 S) S).2.2) else ((b_X6_admit_0 (b_X6_roomVerdict_0 (S 15 4) 4 S) S).1, 0, (b_X6_admit_0 (b_X6_roomVerdict_0 (S 15 4) 4 S) S).2.2)
def o_X6_pitch_0  (S : Sx) : Prop := o_X6_admit_0 (b_X6_roomVerdict_0 (S 15 4) 4 S) S ∧ True
set_option maxRecDepth 20000 in
theorem t_X6_pitch_0 (X : Cx p m c cX6_pitch 1 s args RX6 D q ad) (F : XF ad s.heap.size sa s) (hnt : ∀ x ∈ c.exceptionTable.toList, False) (hst : l.stackTraces = false) (hr : meth.sig.returnType = some .int) (hlocks : meth.locks = false) (S : Sx) (xc : Nat) (rv : Int32) (S' : Sx) (ho : o_X6_pitch_0 S) (he : b_X6_pitch_0 S = (xc, rv, S')) : Jg p l e rm_X6_pitch s m args below meth c 0 0 (vx_MQ below (QiX D q ad d xc rv S' s.heap.size) (XQ D q ad d xc S' s.heap.size) args s 1 6 (AU ad s.heap.size)) D q ad d 1 0 [(0, .ref (ad 0))] [] S := by
  unfold b_X6_pitch_0 at he
  unfold o_X6_pitch_0 at ho
  refine j_aload_n X 0 dX6_pitch_0 rfl ?_
  refine j_aload_n X 0 dX6_pitch_1 rfl ?_
  refine gf_20_0 X m_fl_X6_10 kc20 dX6_pitch_2 ?_
  refine gf_0_4 X m_fl_X6_72 kg0 dX6_pitch_5 ?_
  refine j_iconst (v := 4) X dX6_pitch_8 (by decide) ?_
  refine j_callSi (rest := [.ref (ad 0)]) X (c_X6_roomVerdict (cx_inj X) (S 15 4) 4 S) cw_X6_75 ⟨rfl, rfl, Nat.le_of_ble_eq_true rfl, Nat.le_of_ble_eq_true rfl⟩ rfl rfl (Nat.le_of_ble_eq_true rfl) ⟨Nat.le_of_ble_eq_true rfl, Nat.le_of_ble_eq_true rfl⟩ dX6_pitch_9 ?_
  have h2 := ho.1
  have ho := ho.2
  refine j_callXv (rest := []) X F hnt hlocks (c_X6_admit hst (cx_inj X) (b_X6_roomVerdict_0 (S 15 4) 4 S) S h2) cw_X6_47 kc20.1 (cl_20 kc20) rfl ⟨rfl, rfl, Nat.le_of_ble_eq_true rfl, Nat.le_of_ble_eq_true rfl⟩ rfl rfl (Nat.le_of_ble_eq_true rfl) ⟨Nat.le_of_ble_eq_true rfl, Nat.le_of_ble_eq_true rfl⟩ ⟨by decide, by decide⟩ dX6_pitch_12 (fun h3 => ?_) (fun h3 => ?_)
  · rw [if_neg h3] at he
    exact pe2 he
  · rw [if_pos h3] at he
    exact t_X6_pitch_15 X F hnt hst hr hlocks ((b_X6_admit_0 (b_X6_roomVerdict_0 (S 15 4) 4 S) S).2.2) _ _ _ he
theorem c_X6_pitch {l : Launch} {D : va_G} {q : Nat → ClassId} {ad : Nat → Nat} {d : UInt64} {sa : Nat → Nat} (hst : l.stackTraces = false) (hI : inj4 ad) (S : Sx) (ho : o_X6_pitch_0 S) : CXi l yX6_pitch cX6_pitch 1 .int rm_X6_pitch 1 6 D q ad d sa [.ref (ad 0)] S (b_X6_pitch_0 S).1 (b_X6_pitch_0 S).2.1 (b_X6_pitch_0 S).2.2 := cxi_of hI (by decide +kernel) (Nat.le_of_ble_eq_true rfl) rfl (fun p e s m args below meth c X F hnt hr hlocks => t_X6_pitch_0 X F hnt hst hr hlocks S _ _ _ ho (pe3i _))
end
/-! RX6.cover -/
abbrev rm_X6_cover : Room := { frames := 8, cells := 1, slots := 6, locals := 132 }
section
variable {p : Program} {l : Launch} {e : Env} {s : State} {m : MethodId} {args : Array Value} {below : List Frame} {meth : Method} {c : Code} {D : va_G} {q : Nat → ClassId} {ad : Nat → Nat} {d : UInt64} {sa : Nat → Nat}
def b_X6_cover_13 (v1 : Int32) (v2 : Int32) (S : Sx) : Nat × Int32 × Sx := (0, (up2 S (15 + 7 + v1.toNatClampNeg) 3 v2) (15 + 7 + v1.toNatClampNeg) 0, up2 S (15 + 7 + v1.toNatClampNeg) 3 v2)
def o_X6_cover_13 (v1 : Int32) (v2 : Int32) (S : Sx) : Prop := vp_in v1 4 ∧ (bz v2 ∧ (vp_in v1 4 ∧ True))
set_option maxRecDepth 20000 in
theorem t_X6_cover_13 (X : Cx p m c cX6_cover 3 s args RX6 D q ad) (F : XF ad s.heap.size sa s) (hnt : ∀ x ∈ c.exceptionTable.toList, False) (hst : l.stackTraces = false) (hr : meth.sig.returnType = some .int) (hlocks : meth.locks = false) (v1 : Int32) (v2 : Int32) (S : Sx) (xc : Nat) (rv : Int32) (S' : Sx) (ho : o_X6_cover_13 v1 v2 S) (he : b_X6_cover_13 v1 v2 S = (xc, rv, S')) : Jg p l e rm_X6_cover s m args below meth c 1 6 (vx_MQ below (QiX D q ad d xc rv S' s.heap.size) (XQ D q ad d xc S' s.heap.size) args s 1 6 (AU ad s.heap.size)) D q ad d 3 13 [(0, .ref (ad 0)), (1, .int v1), (2, .int v2)] [] S := by
  unfold b_X6_cover_13 at he
  unfold o_X6_cover_13 at ho
  refine j_aload_n X 0 dX6_cover_13 rfl ?_
  refine gf_20_0 X m_fl_X6_10 kc20 dX6_cover_14 ?_
  refine gf_0_5 X m_fl_X6_82 kg0 dX6_cover_17 ?_
  refine j_iload_n X 1 dX6_cover_20 rfl ?_
  have h2 := ho.1
  have ho := ho.2
  refine j_aald (a := ad (15 + 7 + v1.toNatClampNeg)) X 1 (k0_4 kg0).1 (cl_4 (k0_4 kg0)) rfl h2 rfl dX6_cover_21 ?_
  have hk3 : isK 7 (15 + 7 + v1.toNatClampNeg) := k0_7 kg0 (vlt h2)
  refine j_iload_n X 2 dX6_cover_22 rfl ?_
  have h4 := ho.1
  have ho := ho.2
  refine pf_7_3 X h4 m_fl_X6_86 hk3 dX6_cover_23 ?_
  refine j_aload_n X 0 dX6_cover_26 rfl ?_
  refine gf_20_0 X m_fl_X6_10 kc20 dX6_cover_27 ?_
  refine gf_0_5 X m_fl_X6_82 kg0 dX6_cover_30 ?_
  refine j_iload_n X 1 dX6_cover_33 rfl ?_
  have h5 := ho.1
  have ho := ho.2
  refine j_aald (a := ad (15 + 7 + v1.toNatClampNeg)) X 1 (k0_4 kg0).1 (cl_4 (k0_4 kg0)) rfl h5 rfl dX6_cover_34 ?_
  have hk6 : isK 7 (15 + 7 + v1.toNatClampNeg) := k0_7 kg0 (vlt h5)
  refine gf_7_0 X m_fl_X6_92 hk6 dX6_cover_35 ?_
  exact j_iretX X hr hlocks ⟨by decide, by decide⟩ dX6_cover_38 (pe3 he)
def b_X6_cover_0 (x1 : Int32) (x2 : Int32) (S : Sx) : Nat × Int32 × Sx := if (b_X6_admit_0 (b_X0_coverVerdict_0 15 x1 x2 S) S).1 = 0 then b_X6_cover_13 x1 x2 ((b_X6_admit_0 (b_X0_coverVerdict_0 15 x1 x2 S) S).2.2) else ((b_X6_admit_0 (b_X0_coverVerdict_0 15 x1 x2 S) S).1, 0, (b_X6_admit_0 (b_X0_coverVerdict_0 15 x1 x2 S) S).2.2)
def o_X6_cover_0 (x1 : Int32) (x2 : Int32) (S : Sx) : Prop := o_X0_coverVerdict_0 15 x1 x2 S ∧ (o_X6_admit_0 (b_X0_coverVerdict_0 15 x1 x2 S) S ∧ ((b_X6_admit_0 (b_X0_coverVerdict_0 15 x1 x2 S) S).1 = 0 → (o_X6_cover_13 x1 x2 ((b_X6_admit_0 (b_X0_coverVerdict_0 15 x1 x2 S) S).2.2))))
set_option maxRecDepth 20000 in
theorem t_X6_cover_0 (X : Cx p m c cX6_cover 3 s args RX6 D q ad) (F : XF ad s.heap.size sa s) (hnt : ∀ x ∈ c.exceptionTable.toList, False) (hst : l.stackTraces = false) (hr : meth.sig.returnType = some .int) (hlocks : meth.locks = false) (x1 : Int32) (x2 : Int32) (S : Sx) (xc : Nat) (rv : Int32) (S' : Sx) (ho : o_X6_cover_0 x1 x2 S) (he : b_X6_cover_0 x1 x2 S = (xc, rv, S')) : Jg p l e rm_X6_cover s m args below meth c 0 0 (vx_MQ below (QiX D q ad d xc rv S' s.heap.size) (XQ D q ad d xc S' s.heap.size) args s 1 6 (AU ad s.heap.size)) D q ad d 3 0 [(0, .ref (ad 0)), (1, .int x1), (2, .int x2)] [] S := by
  unfold b_X6_cover_0 at he
  unfold o_X6_cover_0 at ho
  refine j_aload_n X 0 dX6_cover_0 rfl ?_
  refine j_aload_n X 0 dX6_cover_1 rfl ?_
  refine gf_20_0 X m_fl_X6_10 kc20 dX6_cover_2 ?_
  refine j_iload_n X 1 dX6_cover_5 rfl ?_
  refine j_iload_n X 2 dX6_cover_6 rfl ?_
  have h2 := ho.1
  have ho := ho.2
  refine j_callVi (rest := [.ref (ad 0)]) X (c_X0_coverVerdict (cx_inj X) 15 kg0 x1 x2 S h2) cw_X6_78 kg0.1 (cl_0 kg0) rfl ⟨rfl, rfl, Nat.le_of_ble_eq_true rfl, Nat.le_of_ble_eq_true rfl⟩ rfl rfl (Nat.le_of_ble_eq_true rfl) ⟨Nat.le_of_ble_eq_true rfl, Nat.le_of_ble_eq_true rfl⟩ dX6_cover_7 ?_
  have h3 := ho.1
  have ho := ho.2
  refine j_callXv (rest := []) X F hnt hlocks (c_X6_admit hst (cx_inj X) (b_X0_coverVerdict_0 15 x1 x2 S) S h3) cw_X6_47 kc20.1 (cl_20 kc20) rfl ⟨rfl, rfl, Nat.le_of_ble_eq_true rfl, Nat.le_of_ble_eq_true rfl⟩ rfl rfl (Nat.le_of_ble_eq_true rfl) ⟨Nat.le_of_ble_eq_true rfl, Nat.le_of_ble_eq_true rfl⟩ ⟨by decide, by decide⟩ dX6_cover_10 (fun h4 => ?_) (fun h4 => ?_)
  · rw [if_neg h4] at he
    exact pe2 he
  · rw [if_pos h4] at he
    have ho := ho h4
    exact t_X6_cover_13 X F hnt hst hr hlocks x1 x2 ((b_X6_admit_0 (b_X0_coverVerdict_0 15 x1 x2 S) S).2.2) _ _ _ ho he
theorem c_X6_cover {l : Launch} {D : va_G} {q : Nat → ClassId} {ad : Nat → Nat} {d : UInt64} {sa : Nat → Nat} (hst : l.stackTraces = false) (hI : inj4 ad) (x1 : Int32) (x2 : Int32) (S : Sx) (ho : o_X6_cover_0 x1 x2 S) : CXi l yX6_cover cX6_cover 3 .int rm_X6_cover 1 6 D q ad d sa [.ref (ad 0), .int x1, .int x2] S (b_X6_cover_0 x1 x2 S).1 (b_X6_cover_0 x1 x2 S).2.1 (b_X6_cover_0 x1 x2 S).2.2 := cxi_of hI (by decide +kernel) (Nat.le_of_ble_eq_true rfl) rfl (fun p e s m args below meth c X F hnt hr hlocks => t_X6_cover_0 X F hnt hst hr hlocks x1 x2 S _ _ _ ho (pe3i _))
end
/-! RX6.pitchOf -/
abbrev rm_X6_pitchOf : Room := { frames := 7, cells := 2, slots := 12, locals := 111 }
section
variable {p : Program} {l : Launch} {e : Env} {s : State} {m : MethodId} {args : Array Value} {below : List Frame} {meth : Method} {c : Code} {D : va_G} {q : Nat → ClassId} {ad : Nat → Nat} {d : UInt64} {sa : Nat → Nat}
def b_X6_pitchOf_91 (w0 : Int32) (S : Sx) : Nat × Int32 × Sx := (0, w0, S)
set_option maxRecDepth 20000 in
theorem t_X6_pitchOf_91 (X : Cx p m c cX6_pitchOf 4 s args RX6 D q ad) (F : XF ad s.heap.size sa s) (hnt : ∀ x ∈ c.exceptionTable.toList, False) (hst : l.stackTraces = false) (hr : meth.sig.returnType = some .int) (hlocks : meth.locks = false) (w0 : Int32) (S : Sx) (xc : Nat) (rv : Int32) (S' : Sx) (he : b_X6_pitchOf_91 w0 S = (xc, rv, S')) : Jg p l e rm_X6_pitchOf s m args below meth c 1 6 (vx_MQ below (QiX D q ad d xc rv S' s.heap.size) (XQ D q ad d xc S' s.heap.size) args s 2 12 (AU ad s.heap.size)) D q ad d 4 91 [] [.int w0] S := by
  unfold b_X6_pitchOf_91 at he
  exact j_iretX X hr hlocks ⟨by decide, by decide⟩ dX6_pitchOf_91 (pe3 he)
def b_X6_pitchOf_12 (v1 : Int32) (v2 : Int32) (S : Sx) : Nat × Int32 × Sx := if v2 = 0 then (0, S (15 + 7 + v1.toNatClampNeg) 0, S) else (if v2 = 1 then (0, S (15 + 7 + v1.toNatClampNeg) 1, S) else (if v2 = 2 then (0, S (15 + 7 + v1.toNatClampNeg) 2, S) else (if v2 = 3 then if (nb (S (15 + 7 + v1.toNatClampNeg) 3)) = 0 then b_X6_pitchOf_91 0 S else b_X6_pitchOf_91 1 S else (if v2 = 4 then (0, b_X0_rollerOf_0 15 v1 S, S) else (if v2 = 5 then (0, b_X0_playedOn_0 15 v1 S, S) else (if v2 = 6 then (0, S (15 + 7 + v1.toNatClampNeg) 4, S) else (2, 0, S)))))))
def o_X6_pitchOf_12 (v1 : Int32) (v2 : Int32) (S : Sx) : Prop := vp_in v1 4 ∧ ((v2 = 0 → True) ∧ (¬ v2 = 0 → ((v2 = 1 → True) ∧ (¬ v2 = 1 → ((v2 = 2 → True) ∧ (¬ v2 = 2 → ((v2 = 3 → True) ∧ (¬ v2 = 3 → ((v2 = 4 → (o_X0_rollerOf_0 15 v1 S ∧ True)) ∧ (¬ v2 = 4 → ((v2 = 5 → (o_X0_playedOn_0 15 v1 S ∧ True)) ∧ (¬ v2 = 5 → ((v2 = 6 → True) ∧ (¬ v2 = 6 → True))))))))))))))
set_option maxRecDepth 20000 in
theorem t_X6_pitchOf_12 (X : Cx p m c cX6_pitchOf 4 s args RX6 D q ad) (F : XF ad s.heap.size sa s) (hnt : ∀ x ∈ c.exceptionTable.toList, False) (hst : l.stackTraces = false) (hr : meth.sig.returnType = some .int) (hlocks : meth.locks = false) (v1 : Int32) (v2 : Int32) (S : Sx) (xc : Nat) (rv : Int32) (S' : Sx) (ho : o_X6_pitchOf_12 v1 v2 S) (he : b_X6_pitchOf_12 v1 v2 S = (xc, rv, S')) : Jg p l e rm_X6_pitchOf s m args below meth c 1 6 (vx_MQ below (QiX D q ad d xc rv S' s.heap.size) (XQ D q ad d xc S' s.heap.size) args s 2 12 (AU ad s.heap.size)) D q ad d 4 12 [(0, .ref (ad 0)), (1, .int v1), (2, .int v2)] [] S := by
  unfold b_X6_pitchOf_12 at he
  unfold o_X6_pitchOf_12 at ho
  refine j_aload_n X 0 dX6_pitchOf_12 rfl ?_
  refine gf_20_0 X m_fl_X6_10 kc20 dX6_pitchOf_13 ?_
  refine gf_0_5 X m_fl_X6_82 kg0 dX6_pitchOf_16 ?_
  refine j_iload_n X 1 dX6_pitchOf_19 rfl ?_
  have h2 := ho.1
  have ho := ho.2
  refine j_aald (a := ad (15 + 7 + v1.toNatClampNeg)) X 1 (k0_4 kg0).1 (cl_4 (k0_4 kg0)) rfl h2 rfl dX6_pitchOf_20 ?_
  have hk3 : isK 7 (15 + 7 + v1.toNatClampNeg) := k0_7 kg0 (vlt h2)
  refine j_astore_n X [(3, .ref (ad (15 + 7 + v1.toNatClampNeg))), (0, .ref (ad 0)), (1, .int v1), (2, .int v2)] dX6_pitchOf_21 (by decide) rfl ?_
  refine j_iload_n X 3 dX6_pitchOf_22 rfl ?_
  by_cases h7 : v2 = 0
  · rw [if_pos h7] at he
    have ho := ho.1 h7
    refine j_tableIn X 0 41 64 dX6_pitchOf_23 (by rw [h7]; rfl) (by decide) (by decide) rfl (by decide) ?_
    refine j_aload_n X 0 dX6_pitchOf_64 rfl ?_
    refine gf_7_0 X m_fl_X6_92 hk3 dX6_pitchOf_65 ?_
    exact j_iretX X hr hlocks ⟨by decide, by decide⟩ dX6_pitchOf_68 (pe3 he)
  rw [if_neg h7] at he
  have ho := ho.2 h7
  by_cases h8 : v2 = 1
  · rw [if_pos h8] at he
    have ho := ho.1 h8
    refine j_tableIn X 1 46 69 dX6_pitchOf_23 (by rw [h8]; rfl) (by decide) (by decide) rfl (by decide) ?_
    refine j_aload_n X 0 dX6_pitchOf_69 rfl ?_
    refine gf_7_1 X m_fl_X6_98 hk3 dX6_pitchOf_70 ?_
    exact j_iretX X hr hlocks ⟨by decide, by decide⟩ dX6_pitchOf_73 (pe3 he)
  rw [if_neg h8] at he
  have ho := ho.2 h8
  by_cases h9 : v2 = 2
  · rw [if_pos h9] at he
    have ho := ho.1 h9
    refine j_tableIn X 2 51 74 dX6_pitchOf_23 (by rw [h9]; rfl) (by decide) (by decide) rfl (by decide) ?_
    refine j_aload_n X 0 dX6_pitchOf_74 rfl ?_
    refine gf_7_2 X m_fl_X6_101 hk3 dX6_pitchOf_75 ?_
    exact j_iretX X hr hlocks ⟨by decide, by decide⟩ dX6_pitchOf_78 (pe3 he)
  rw [if_neg h9] at he
  have ho := ho.2 h9
  by_cases h10 : v2 = 3
  · rw [if_pos h10] at he
    have ho := ho.1 h10
    refine j_tableIn X 3 56 79 dX6_pitchOf_23 (by rw [h10]; rfl) (by decide) (by decide) rfl (by decide) ?_
    refine j_aload_n X 0 dX6_pitchOf_79 rfl ?_
    refine gf_7_3 X m_fl_X6_86 hk3 dX6_pitchOf_80 ?_
    refine j_if_eq X 90 dX6_pitchOf_83 (by decide) (fun h4 => ?_) (fun h4 => ?_)
    · rw [if_pos h4] at he
      refine j_iconst (v := 0) X dX6_pitchOf_90 (by decide) ?_
      refine j_lv [] [] rfl ?_
      exact t_X6_pitchOf_91 X F hnt hst hr hlocks 0 S _ _ _ he
    · rw [if_neg h4] at he
      refine j_iconst (v := 1) X dX6_pitchOf_86 (by decide) ?_
      refine j_goto X 91 dX6_pitchOf_87 (by decide) ?_
      refine j_lv [] [] rfl ?_
      exact t_X6_pitchOf_91 X F hnt hst hr hlocks 1 S _ _ _ he
  rw [if_neg h10] at he
  have ho := ho.2 h10
  by_cases h11 : v2 = 4
  · rw [if_pos h11] at he
    have ho := ho.1 h11
    refine j_tableIn X 4 69 92 dX6_pitchOf_23 (by rw [h11]; rfl) (by decide) (by decide) rfl (by decide) ?_
    refine j_aload_n X 1 dX6_pitchOf_92 rfl ?_
    refine gf_20_0 X m_fl_X6_10 kc20 dX6_pitchOf_93 ?_
    refine j_iload_n X 2 dX6_pitchOf_96 rfl ?_
    have h5 := ho.1
    have ho := ho.2
    refine j_callVi (rest := []) X (c_X0_rollerOf (cx_inj X) 15 kg0 v1 S h5) cw_X6_104 kg0.1 (cl_0 kg0) rfl ⟨rfl, rfl, Nat.le_of_ble_eq_true rfl, Nat.le_of_ble_eq_true rfl⟩ rfl rfl (Nat.le_of_ble_eq_true rfl) ⟨Nat.le_of_ble_eq_true rfl, Nat.le_of_ble_eq_true rfl⟩ dX6_pitchOf_97 ?_
    exact j_iretX X hr hlocks ⟨by decide, by decide⟩ dX6_pitchOf_100 (pe3 he)
  rw [if_neg h11] at he
  have ho := ho.2 h11
  by_cases h12 : v2 = 5
  · rw [if_pos h12] at he
    have ho := ho.1 h12
    refine j_tableIn X 5 78 101 dX6_pitchOf_23 (by rw [h12]; rfl) (by decide) (by decide) rfl (by decide) ?_
    refine j_aload_n X 1 dX6_pitchOf_101 rfl ?_
    refine gf_20_0 X m_fl_X6_10 kc20 dX6_pitchOf_102 ?_
    refine j_iload_n X 2 dX6_pitchOf_105 rfl ?_
    have h6 := ho.1
    have ho := ho.2
    refine j_callVi (rest := []) X (c_X0_playedOn (cx_inj X) 15 kg0 v1 S h6) cw_X6_107 kg0.1 (cl_0 kg0) rfl ⟨rfl, rfl, Nat.le_of_ble_eq_true rfl, Nat.le_of_ble_eq_true rfl⟩ rfl rfl (Nat.le_of_ble_eq_true rfl) ⟨Nat.le_of_ble_eq_true rfl, Nat.le_of_ble_eq_true rfl⟩ dX6_pitchOf_106 ?_
    exact j_iretX X hr hlocks ⟨by decide, by decide⟩ dX6_pitchOf_109 (pe3 he)
  rw [if_neg h12] at he
  have ho := ho.2 h12
  by_cases h13 : v2 = 6
  · rw [if_pos h13] at he
    have ho := ho.1 h13
    refine j_tableIn X 6 87 110 dX6_pitchOf_23 (by rw [h13]; rfl) (by decide) (by decide) rfl (by decide) ?_
    refine j_aload_n X 0 dX6_pitchOf_110 rfl ?_
    refine gf_7_4 X m_fl_X6_110 hk3 dX6_pitchOf_111 ?_
    exact j_iretX X hr hlocks ⟨by decide, by decide⟩ dX6_pitchOf_114 (pe3 he)
  rw [if_neg h13] at he
  have ho := ho.2 h13
  have e14 := lv_neT (a := 0) h7 rfl
  have e15 := lv_neT (a := 1) h8 rfl
  have e16 := lv_neT (a := 2) h9 rfl
  have e17 := lv_neT (a := 3) h10 rfl
  have e18 := lv_neT (a := 4) h11 rfl
  have e19 := lv_neT (a := 5) h12 rfl
  have e20 := lv_neT (a := 6) h13 rfl
  refine j_tableOut X 115 dX6_pitchOf_23 (by omega) (by decide) ?_
  exact j_throw X F hnt hlocks hst (k := 2) (by decide) ⟨by decide +kernel, by decide +kernel⟩ m_cl_X6_113 m_in_IllegalArgumentException m_sr_115 thA_2 thG_2 dX6_pitchOf_115 dX6_pitchOf_118 dX6_pitchOf_119 dX6_pitchOf_121 dX6_pitchOf_124 ⟨Nat.le_of_ble_eq_true rfl, Nat.le_of_ble_eq_true rfl, Nat.le_of_ble_eq_true rfl, Nat.le_of_ble_eq_true rfl⟩ ⟨by decide, by decide⟩ (pe2 he)
def b_X6_pitchOf_0 (x1 : Int32) (x2 : Int32) (S : Sx) : Nat × Int32 × Sx := if (b_X6_settle_0 (b_X0_pitchVerdict_0 15 x1 S) S).1 = 0 then b_X6_pitchOf_12 x1 x2 ((b_X6_settle_0 (b_X0_pitchVerdict_0 15 x1 S) S).2.2) else ((b_X6_settle_0 (b_X0_pitchVerdict_0 15 x1 S) S).1, 0, (b_X6_settle_0 (b_X0_pitchVerdict_0 15 x1 S) S).2.2)
def o_X6_pitchOf_0 (x1 : Int32) (x2 : Int32) (S : Sx) : Prop := (b_X6_settle_0 (b_X0_pitchVerdict_0 15 x1 S) S).1 = 0 → (o_X6_pitchOf_12 x1 x2 ((b_X6_settle_0 (b_X0_pitchVerdict_0 15 x1 S) S).2.2))
set_option maxRecDepth 20000 in
theorem t_X6_pitchOf_0 (X : Cx p m c cX6_pitchOf 4 s args RX6 D q ad) (F : XF ad s.heap.size sa s) (hnt : ∀ x ∈ c.exceptionTable.toList, False) (hst : l.stackTraces = false) (hr : meth.sig.returnType = some .int) (hlocks : meth.locks = false) (x1 : Int32) (x2 : Int32) (S : Sx) (xc : Nat) (rv : Int32) (S' : Sx) (ho : o_X6_pitchOf_0 x1 x2 S) (he : b_X6_pitchOf_0 x1 x2 S = (xc, rv, S')) : Jg p l e rm_X6_pitchOf s m args below meth c 0 0 (vx_MQ below (QiX D q ad d xc rv S' s.heap.size) (XQ D q ad d xc S' s.heap.size) args s 2 12 (AU ad s.heap.size)) D q ad d 4 0 [(0, .ref (ad 0)), (1, .int x1), (2, .int x2)] [] S := by
  unfold b_X6_pitchOf_0 at he
  unfold o_X6_pitchOf_0 at ho
  refine j_aload_n X 0 dX6_pitchOf_0 rfl ?_
  refine j_aload_n X 0 dX6_pitchOf_1 rfl ?_
  refine gf_20_0 X m_fl_X6_10 kc20 dX6_pitchOf_2 ?_
  refine j_iload_n X 1 dX6_pitchOf_5 rfl ?_
  refine j_callVi (rest := [.ref (ad 0)]) X (c_X0_pitchVerdict (cx_inj X) 15 kg0 x1 S) cw_X6_95 kg0.1 (cl_0 kg0) rfl ⟨rfl, rfl, Nat.le_of_ble_eq_true rfl, Nat.le_of_ble_eq_true rfl⟩ rfl rfl (Nat.le_of_ble_eq_true rfl) ⟨Nat.le_of_ble_eq_true rfl, Nat.le_of_ble_eq_true rfl⟩ dX6_pitchOf_6 ?_
  refine j_callXv (rest := []) X F hnt hlocks (c_X6_settle hst (cx_inj X) (b_X0_pitchVerdict_0 15 x1 S) S) cw_X6_69 kc20.1 (cl_20 kc20) rfl ⟨rfl, rfl, Nat.le_of_ble_eq_true rfl, Nat.le_of_ble_eq_true rfl⟩ rfl rfl (Nat.le_of_ble_eq_true rfl) ⟨Nat.le_of_ble_eq_true rfl, Nat.le_of_ble_eq_true rfl⟩ ⟨by decide, by decide⟩ dX6_pitchOf_9 (fun h2 => ?_) (fun h2 => ?_)
  · rw [if_neg h2] at he
    exact pe2 he
  · rw [if_pos h2] at he
    have ho := ho h2
    exact t_X6_pitchOf_12 X F hnt hst hr hlocks x1 x2 ((b_X6_settle_0 (b_X0_pitchVerdict_0 15 x1 S) S).2.2) _ _ _ ho he
theorem c_X6_pitchOf {l : Launch} {D : va_G} {q : Nat → ClassId} {ad : Nat → Nat} {d : UInt64} {sa : Nat → Nat} (hst : l.stackTraces = false) (hI : inj4 ad) (x1 : Int32) (x2 : Int32) (S : Sx) (ho : o_X6_pitchOf_0 x1 x2 S) : CXi l yX6_pitchOf cX6_pitchOf 4 .int rm_X6_pitchOf 2 12 D q ad d sa [.ref (ad 0), .int x1, .int x2] S (b_X6_pitchOf_0 x1 x2 S).1 (b_X6_pitchOf_0 x1 x2 S).2.1 (b_X6_pitchOf_0 x1 x2 S).2.2 := cxi_of hI (by decide +kernel) (Nat.le_of_ble_eq_true rfl) rfl (fun p e s m args below meth c X F hnt hr hlocks => t_X6_pitchOf_0 X F hnt hst hr hlocks x1 x2 S _ _ _ ho (pe3i _))
end
/-! RX6.sign -/
abbrev rm_X6_sign : Room := { frames := 7, cells := 1, slots := 6, locals := 111 }
section
variable {p : Program} {l : Launch} {e : Env} {s : State} {m : MethodId} {args : Array Value} {below : List Frame} {meth : Method} {c : Code} {D : va_G} {q : Nat → ClassId} {ad : Nat → Nat} {d : UInt64} {sa : Nat → Nat}
def b_X6_sign_84 (w0 : Int32) (S : Sx) : Nat × Int32 × Sx := (0, w0, S)
def o_X6_sign_84 (w0 : Int32) (S : Sx) : Prop := cz w0 ∧ True
set_option maxRecDepth 20000 in
theorem t_X6_sign_84 (X : Cx p m c cX6_sign 2 s args RX6 D q ad) (F : XF ad s.heap.size sa s) (hnt : ∀ x ∈ c.exceptionTable.toList, False) (hst : l.stackTraces = false) (hr : meth.sig.returnType = some .char) (hlocks : meth.locks = false) (w0 : Int32) (S : Sx) (xc : Nat) (rv : Int32) (S' : Sx) (ho : o_X6_sign_84 w0 S) (he : b_X6_sign_84 w0 S = (xc, rv, S')) : Jg p l e rm_X6_sign s m args below meth c 1 6 (vx_MQ below (QiX D q ad d xc rv S' s.heap.size) (XQ D q ad d xc S' s.heap.size) args s 1 6 (AU ad s.heap.size)) D q ad d 2 84 [] [.int w0] S := by
  unfold b_X6_sign_84 at he
  unfold o_X6_sign_84 at ho
  have h2 := ho.1
  have ho := ho.2
  exact j_zretX X hr hlocks h2 ⟨by decide, by decide⟩ dX6_sign_84 (pe3 he)
def b_X6_sign_12 (v1 : Int32) (S : Sx) : Nat × Int32 × Sx := if (nb (S (15 + 7 + v1.toNatClampNeg) 3)) = 0 then if (b_X0_rollerOf_0 15 v1 S) = (-1) then if (b_X0_playedOn_0 15 v1 S) = (-1) then if (S (15 + 7 + v1.toNatClampNeg) 0) ≤ 60 then b_X6_sign_84 100 S else b_X6_sign_84 119 S else (0, 105, S) else (0, 104, S) else (0, 99, S)
def o_X6_sign_12 (v1 : Int32) (S : Sx) : Prop := vp_in v1 4 ∧ (((nb (S (15 + 7 + v1.toNatClampNeg) 3)) = 0 → (o_X0_rollerOf_0 15 v1 S ∧ (((b_X0_rollerOf_0 15 v1 S) = (-1) → (o_X0_playedOn_0 15 v1 S ∧ (((b_X0_playedOn_0 15 v1 S) = (-1) → (vp_in v1 4 ∧ (((S (15 + 7 + v1.toNatClampNeg) 0) ≤ 60 → (o_X6_sign_84 100 S)) ∧ (¬ (S (15 + 7 + v1.toNatClampNeg) 0) ≤ 60 → (o_X6_sign_84 119 S))))) ∧ (¬ (b_X0_playedOn_0 15 v1 S) = (-1) → True)))) ∧ (¬ (b_X0_rollerOf_0 15 v1 S) = (-1) → True)))) ∧ (¬ (nb (S (15 + 7 + v1.toNatClampNeg) 3)) = 0 → True))
set_option maxRecDepth 20000 in
theorem t_X6_sign_12 (X : Cx p m c cX6_sign 2 s args RX6 D q ad) (F : XF ad s.heap.size sa s) (hnt : ∀ x ∈ c.exceptionTable.toList, False) (hst : l.stackTraces = false) (hr : meth.sig.returnType = some .char) (hlocks : meth.locks = false) (v1 : Int32) (S : Sx) (xc : Nat) (rv : Int32) (S' : Sx) (ho : o_X6_sign_12 v1 S) (he : b_X6_sign_12 v1 S = (xc, rv, S')) : Jg p l e rm_X6_sign s m args below meth c 1 6 (vx_MQ below (QiX D q ad d xc rv S' s.heap.size) (XQ D q ad d xc S' s.heap.size) args s 1 6 (AU ad s.heap.size)) D q ad d 2 12 [(0, .ref (ad 0)), (1, .int v1)] [] S := by
  unfold b_X6_sign_12 at he
  unfold o_X6_sign_12 at ho
  refine j_aload_n X 0 dX6_sign_12 rfl ?_
  refine gf_20_0 X m_fl_X6_10 kc20 dX6_sign_13 ?_
  refine gf_0_5 X m_fl_X6_82 kg0 dX6_sign_16 ?_
  refine j_iload_n X 1 dX6_sign_19 rfl ?_
  have h2 := ho.1
  have ho := ho.2
  refine j_aald (a := ad (15 + 7 + v1.toNatClampNeg)) X 1 (k0_4 kg0).1 (cl_4 (k0_4 kg0)) rfl h2 rfl dX6_sign_20 ?_
  have hk3 : isK 7 (15 + 7 + v1.toNatClampNeg) := k0_7 kg0 (vlt h2)
  refine gf_7_3 X m_fl_X6_86 hk3 dX6_sign_21 ?_
  refine j_if_eq X 30 dX6_sign_24 (by decide) (fun h4 => ?_) (fun h4 => ?_)
  · rw [if_pos h4] at he
    have ho := ho.1 h4
    refine j_aload_n X 0 dX6_sign_30 rfl ?_
    refine gf_20_0 X m_fl_X6_10 kc20 dX6_sign_31 ?_
    refine j_iload_n X 1 dX6_sign_34 rfl ?_
    have h5 := ho.1
    have ho := ho.2
    refine j_callVi (rest := []) X (c_X0_rollerOf (cx_inj X) 15 kg0 v1 S h5) cw_X6_104 kg0.1 (cl_0 kg0) rfl ⟨rfl, rfl, Nat.le_of_ble_eq_true rfl, Nat.le_of_ble_eq_true rfl⟩ rfl rfl (Nat.le_of_ble_eq_true rfl) ⟨Nat.le_of_ble_eq_true rfl, Nat.le_of_ble_eq_true rfl⟩ dX6_sign_35 ?_
    refine j_iconst (v := (-1)) X dX6_sign_38 (by decide) ?_
    refine j_icmp_eq X 45 dX6_sign_39 (by decide) (fun h6 => ?_) (fun h6 => ?_)
    · rw [if_pos h6] at he
      have ho := ho.1 h6
      refine j_aload_n X 0 dX6_sign_45 rfl ?_
      refine gf_20_0 X m_fl_X6_10 kc20 dX6_sign_46 ?_
      refine j_iload_n X 1 dX6_sign_49 rfl ?_
      have h7 := ho.1
      have ho := ho.2
      refine j_callVi (rest := []) X (c_X0_playedOn (cx_inj X) 15 kg0 v1 S h7) cw_X6_107 kg0.1 (cl_0 kg0) rfl ⟨rfl, rfl, Nat.le_of_ble_eq_true rfl, Nat.le_of_ble_eq_true rfl⟩ rfl rfl (Nat.le_of_ble_eq_true rfl) ⟨Nat.le_of_ble_eq_true rfl, Nat.le_of_ble_eq_true rfl⟩ dX6_sign_50 ?_
      refine j_iconst (v := (-1)) X dX6_sign_53 (by decide) ?_
      refine j_icmp_eq X 60 dX6_sign_54 (by decide) (fun h8 => ?_) (fun h8 => ?_)
      · rw [if_pos h8] at he
        have ho := ho.1 h8
        refine j_aload_n X 0 dX6_sign_60 rfl ?_
        refine gf_20_0 X m_fl_X6_10 kc20 dX6_sign_61 ?_
        refine gf_0_5 X m_fl_X6_82 kg0 dX6_sign_64 ?_
        refine j_iload_n X 1 dX6_sign_67 rfl ?_
        have h9 := ho.1
        have ho := ho.2
        refine j_aald (a := ad (15 + 7 + v1.toNatClampNeg)) X 1 (k0_4 kg0).1 (cl_4 (k0_4 kg0)) rfl h9 rfl dX6_sign_68 ?_
        have hk10 : isK 7 (15 + 7 + v1.toNatClampNeg) := k0_7 kg0 (vlt h9)
        refine gf_7_0 X m_fl_X6_92 hk10 dX6_sign_69 ?_
        refine j_bipush (v := 60) X dX6_sign_72 (by decide) ?_
        refine j_icmp_le X 82 dX6_sign_74 (by decide) (fun h11 => ?_) (fun h11 => ?_)
        · rw [if_pos h11] at he
          have ho := ho.1 h11
          refine j_bipush (v := 100) X dX6_sign_82 (by decide) ?_
          refine j_lv [] [] rfl ?_
          exact t_X6_sign_84 X F hnt hst hr hlocks 100 S _ _ _ ho he
        · rw [if_neg h11] at he
          have ho := ho.2 h11
          refine j_bipush (v := 119) X dX6_sign_77 (by decide) ?_
          refine j_goto X 84 dX6_sign_79 (by decide) ?_
          refine j_lv [] [] rfl ?_
          exact t_X6_sign_84 X F hnt hst hr hlocks 119 S _ _ _ ho he
      · rw [if_neg h8] at he
        have ho := ho.2 h8
        refine j_bipush (v := 105) X dX6_sign_57 (by decide) ?_
        exact j_zretX X hr hlocks rfl ⟨by decide, by decide⟩ dX6_sign_59 (pe3 he)
    · rw [if_neg h6] at he
      have ho := ho.2 h6
      refine j_bipush (v := 104) X dX6_sign_42 (by decide) ?_
      exact j_zretX X hr hlocks rfl ⟨by decide, by decide⟩ dX6_sign_44 (pe3 he)
  · rw [if_neg h4] at he
    have ho := ho.2 h4
    refine j_bipush (v := 99) X dX6_sign_27 (by decide) ?_
    exact j_zretX X hr hlocks rfl ⟨by decide, by decide⟩ dX6_sign_29 (pe3 he)
def b_X6_sign_0 (x1 : Int32) (S : Sx) : Nat × Int32 × Sx := if (b_X6_settle_0 (b_X0_pitchVerdict_0 15 x1 S) S).1 = 0 then b_X6_sign_12 x1 ((b_X6_settle_0 (b_X0_pitchVerdict_0 15 x1 S) S).2.2) else ((b_X6_settle_0 (b_X0_pitchVerdict_0 15 x1 S) S).1, 0, (b_X6_settle_0 (b_X0_pitchVerdict_0 15 x1 S) S).2.2)
def o_X6_sign_0 (x1 : Int32) (S : Sx) : Prop := (b_X6_settle_0 (b_X0_pitchVerdict_0 15 x1 S) S).1 = 0 → (o_X6_sign_12 x1 ((b_X6_settle_0 (b_X0_pitchVerdict_0 15 x1 S) S).2.2))
set_option maxRecDepth 20000 in
theorem t_X6_sign_0 (X : Cx p m c cX6_sign 2 s args RX6 D q ad) (F : XF ad s.heap.size sa s) (hnt : ∀ x ∈ c.exceptionTable.toList, False) (hst : l.stackTraces = false) (hr : meth.sig.returnType = some .char) (hlocks : meth.locks = false) (x1 : Int32) (S : Sx) (xc : Nat) (rv : Int32) (S' : Sx) (ho : o_X6_sign_0 x1 S) (he : b_X6_sign_0 x1 S = (xc, rv, S')) : Jg p l e rm_X6_sign s m args below meth c 0 0 (vx_MQ below (QiX D q ad d xc rv S' s.heap.size) (XQ D q ad d xc S' s.heap.size) args s 1 6 (AU ad s.heap.size)) D q ad d 2 0 [(0, .ref (ad 0)), (1, .int x1)] [] S := by
  unfold b_X6_sign_0 at he
  unfold o_X6_sign_0 at ho
  refine j_aload_n X 0 dX6_sign_0 rfl ?_
  refine j_aload_n X 0 dX6_sign_1 rfl ?_
  refine gf_20_0 X m_fl_X6_10 kc20 dX6_sign_2 ?_
  refine j_iload_n X 1 dX6_sign_5 rfl ?_
  refine j_callVi (rest := [.ref (ad 0)]) X (c_X0_pitchVerdict (cx_inj X) 15 kg0 x1 S) cw_X6_95 kg0.1 (cl_0 kg0) rfl ⟨rfl, rfl, Nat.le_of_ble_eq_true rfl, Nat.le_of_ble_eq_true rfl⟩ rfl rfl (Nat.le_of_ble_eq_true rfl) ⟨Nat.le_of_ble_eq_true rfl, Nat.le_of_ble_eq_true rfl⟩ dX6_sign_6 ?_
  refine j_callXv (rest := []) X F hnt hlocks (c_X6_settle hst (cx_inj X) (b_X0_pitchVerdict_0 15 x1 S) S) cw_X6_69 kc20.1 (cl_20 kc20) rfl ⟨rfl, rfl, Nat.le_of_ble_eq_true rfl, Nat.le_of_ble_eq_true rfl⟩ rfl rfl (Nat.le_of_ble_eq_true rfl) ⟨Nat.le_of_ble_eq_true rfl, Nat.le_of_ble_eq_true rfl⟩ ⟨by decide, by decide⟩ dX6_sign_9 (fun h2 => ?_) (fun h2 => ?_)
  · rw [if_neg h2] at he
    exact pe2 he
  · rw [if_pos h2] at he
    have ho := ho h2
    exact t_X6_sign_12 X F hnt hst hr hlocks x1 ((b_X6_settle_0 (b_X0_pitchVerdict_0 15 x1 S) S).2.2) _ _ _ ho he
theorem c_X6_sign {l : Launch} {D : va_G} {q : Nat → ClassId} {ad : Nat → Nat} {d : UInt64} {sa : Nat → Nat} (hst : l.stackTraces = false) (hI : inj4 ad) (x1 : Int32) (S : Sx) (ho : o_X6_sign_0 x1 S) : CXi l yX6_sign cX6_sign 2 .char rm_X6_sign 1 6 D q ad d sa [.ref (ad 0), .int x1] S (b_X6_sign_0 x1 S).1 (b_X6_sign_0 x1 S).2.1 (b_X6_sign_0 x1 S).2.2 := cxi_of hI (by decide +kernel) (Nat.le_of_ble_eq_true rfl) rfl (fun p e s m args below meth c X F hnt hr hlocks => t_X6_sign_0 X F hnt hst hr hlocks x1 S _ _ _ ho (pe3i _))
end
/-! RX6.horse -/
abbrev rm_X6_horse : Room := { frames := 8, cells := 2, slots := 12, locals := 132 }
section
variable {p : Program} {l : Launch} {e : Env} {s : State} {m : MethodId} {args : Array Value} {below : List Frame} {meth : Method} {c : Code} {D : va_G} {q : Nat → ClassId} {ad : Nat → Nat} {d : UInt64} {sa : Nat → Nat}
def b_X6_horse_64  (S : Sx) : Nat × Int32 × Sx := (0, S 15 6, up2 S 15 6 ((S 15 6) + 1))
set_option maxRecDepth 20000 in
theorem t_X6_horse_64 (X : Cx p m c cX6_horse 3 s args RX6 D q ad) (F : XF ad s.heap.size sa s) (hnt : ∀ x ∈ c.exceptionTable.toList, False) (hst : l.stackTraces = false) (hr : meth.sig.returnType = some .int) (hlocks : meth.locks = false) (S : Sx) (xc : Nat) (rv : Int32) (S' : Sx) (he : b_X6_horse_64 S = (xc, rv, S')) : Jg p l e rm_X6_horse s m args below meth c 2 12 (vx_MQ below (QiX D q ad d xc rv S' s.heap.size) (XQ D q ad d xc S' s.heap.size) args s 2 12 (AU ad s.heap.size)) D q ad d 3 64 [(0, .ref (ad 0))] [] S := by
  unfold b_X6_horse_64 at he
  refine j_aload_n X 0 dX6_horse_64 rfl ?_
  refine gf_20_0 X m_fl_X6_10 kc20 dX6_horse_65 ?_
  refine j_dup X dX6_horse_68 rfl ?_
  refine gf_0_6 X m_fl_X6_124 kg0 dX6_horse_69 ?_
  refine j_dup_x1 X dX6_horse_72 rfl rfl ?_
  refine j_iconst (v := 1) X dX6_horse_73 (by decide) ?_
  refine j_iadd X dX6_horse_74 ?_
  refine pf_0_6 X m_fl_X6_124 kg0 dX6_horse_75 ?_
  exact j_iretX X hr hlocks ⟨by decide, by decide⟩ dX6_horse_78 (pe3 he)
def b_X6_horse_45 (v2 : Int32) (S : Sx) : Nat × Int32 × Sx := b_X6_horse_64 (up2 S (15 + 11 + (S 15 6).toNatClampNeg) 1 v2)
def o_X6_horse_45 (v2 : Int32) (S : Sx) : Prop := vp_in (S 15 6) 5 ∧ (bz v2 ∧ True)
set_option maxRecDepth 20000 in
theorem t_X6_horse_45 (X : Cx p m c cX6_horse 3 s args RX6 D q ad) (F : XF ad s.heap.size sa s) (hnt : ∀ x ∈ c.exceptionTable.toList, False) (hst : l.stackTraces = false) (hr : meth.sig.returnType = some .int) (hlocks : meth.locks = false) (v2 : Int32) (S : Sx) (xc : Nat) (rv : Int32) (S' : Sx) (ho : o_X6_horse_45 v2 S) (he : b_X6_horse_45 v2 S = (xc, rv, S')) : Jg p l e rm_X6_horse s m args below meth c 2 12 (vx_MQ below (QiX D q ad d xc rv S' s.heap.size) (XQ D q ad d xc S' s.heap.size) args s 2 12 (AU ad s.heap.size)) D q ad d 3 45 [(0, .ref (ad 0)), (2, .int v2)] [] S := by
  unfold b_X6_horse_45 at he
  unfold o_X6_horse_45 at ho
  refine j_aload_n X 0 dX6_horse_45 rfl ?_
  refine gf_20_0 X m_fl_X6_10 kc20 dX6_horse_46 ?_
  refine gf_0_7 X m_fl_X6_127 kg0 dX6_horse_49 ?_
  refine j_aload_n X 0 dX6_horse_52 rfl ?_
  refine gf_20_0 X m_fl_X6_10 kc20 dX6_horse_53 ?_
  refine gf_0_6 X m_fl_X6_124 kg0 dX6_horse_56 ?_
  have h2 := ho.1
  have ho := ho.2
  refine j_aald (a := ad (15 + 11 + (S 15 6).toNatClampNeg)) X 2 (k0_5 kg0).1 (cl_5 (k0_5 kg0)) rfl h2 rfl dX6_horse_59 ?_
  have hk3 : isK 8 (15 + 11 + (S 15 6).toNatClampNeg) := k0_8 kg0 (vlt h2)
  refine j_iload_n X 1 dX6_horse_60 rfl ?_
  have h4 := ho.1
  have ho := ho.2
  refine pf_8_1 X h4 m_fl_X6_136 hk3 dX6_horse_61 ?_
  refine j_lv [0] [(0, .ref (ad 0))] rfl ?_
  exact t_X6_horse_64 X F hnt hst hr hlocks (up2 S (15 + 11 + (S 15 6).toNatClampNeg) 1 v2) _ _ _ he
def b_X6_horse_26 (v1 : Int32) (v2 : Int32) (S : Sx) : Nat × Int32 × Sx := b_X6_horse_45 v2 (up2 S (15 + 11 + (S 15 6).toNatClampNeg) 0 v1)
def o_X6_horse_26 (v1 : Int32) (v2 : Int32) (S : Sx) : Prop := vp_in (S 15 6) 5 ∧ (o_X6_horse_45 v2 (up2 S (15 + 11 + (S 15 6).toNatClampNeg) 0 v1))
set_option maxRecDepth 20000 in
theorem t_X6_horse_26 (X : Cx p m c cX6_horse 3 s args RX6 D q ad) (F : XF ad s.heap.size sa s) (hnt : ∀ x ∈ c.exceptionTable.toList, False) (hst : l.stackTraces = false) (hr : meth.sig.returnType = some .int) (hlocks : meth.locks = false) (v1 : Int32) (v2 : Int32) (S : Sx) (xc : Nat) (rv : Int32) (S' : Sx) (ho : o_X6_horse_26 v1 v2 S) (he : b_X6_horse_26 v1 v2 S = (xc, rv, S')) : Jg p l e rm_X6_horse s m args below meth c 2 12 (vx_MQ below (QiX D q ad d xc rv S' s.heap.size) (XQ D q ad d xc S' s.heap.size) args s 2 12 (AU ad s.heap.size)) D q ad d 3 26 [(0, .ref (ad 0)), (1, .int v1), (2, .int v2)] [] S := by
  unfold b_X6_horse_26 at he
  unfold o_X6_horse_26 at ho
  refine j_aload_n X 0 dX6_horse_26 rfl ?_
  refine gf_20_0 X m_fl_X6_10 kc20 dX6_horse_27 ?_
  refine gf_0_7 X m_fl_X6_127 kg0 dX6_horse_30 ?_
  refine j_aload_n X 0 dX6_horse_33 rfl ?_
  refine gf_20_0 X m_fl_X6_10 kc20 dX6_horse_34 ?_
  refine gf_0_6 X m_fl_X6_124 kg0 dX6_horse_37 ?_
  have h2 := ho.1
  have ho := ho.2
  refine j_aald (a := ad (15 + 11 + (S 15 6).toNatClampNeg)) X 2 (k0_5 kg0).1 (cl_5 (k0_5 kg0)) rfl h2 rfl dX6_horse_40 ?_
  have hk3 : isK 8 (15 + 11 + (S 15 6).toNatClampNeg) := k0_8 kg0 (vlt h2)
  refine j_iload_n X 1 dX6_horse_41 rfl ?_
  refine pf_8_0 X m_fl_X6_131 hk3 dX6_horse_42 ?_
  refine j_lv [0, 2] [(0, .ref (ad 0)), (2, .int v2)] rfl ?_
  exact t_X6_horse_45 X F hnt hst hr hlocks v2 (up2 S (15 + 11 + (S 15 6).toNatClampNeg) 0 v1) _ _ _ ho he
def b_X6_horse_11 (v1 : Int32) (v2 : Int32) (S : Sx) : Nat × Int32 × Sx := if (b_X6_admit_0 (b_X6_roomVerdict_0 (S 15 6) 5 S) S).1 = 0 then b_X6_horse_26 v1 v2 ((b_X6_admit_0 (b_X6_roomVerdict_0 (S 15 6) 5 S) S).2.2) else ((b_X6_admit_0 (b_X6_roomVerdict_0 (S 15 6) 5 S) S).1, 0, (b_X6_admit_0 (b_X6_roomVerdict_0 (S 15 6) 5 S) S).2.2)
def o_X6_horse_11 (v1 : Int32) (v2 : Int32) (S : Sx) : Prop := o_X6_admit_0 (b_X6_roomVerdict_0 (S 15 6) 5 S) S ∧ ((b_X6_admit_0 (b_X6_roomVerdict_0 (S 15 6) 5 S) S).1 = 0 → (o_X6_horse_26 v1 v2 ((b_X6_admit_0 (b_X6_roomVerdict_0 (S 15 6) 5 S) S).2.2)))
set_option maxRecDepth 20000 in
theorem t_X6_horse_11 (X : Cx p m c cX6_horse 3 s args RX6 D q ad) (F : XF ad s.heap.size sa s) (hnt : ∀ x ∈ c.exceptionTable.toList, False) (hst : l.stackTraces = false) (hr : meth.sig.returnType = some .int) (hlocks : meth.locks = false) (v1 : Int32) (v2 : Int32) (S : Sx) (xc : Nat) (rv : Int32) (S' : Sx) (ho : o_X6_horse_11 v1 v2 S) (he : b_X6_horse_11 v1 v2 S = (xc, rv, S')) : Jg p l e rm_X6_horse s m args below meth c 1 6 (vx_MQ below (QiX D q ad d xc rv S' s.heap.size) (XQ D q ad d xc S' s.heap.size) args s 2 12 (AU ad s.heap.size)) D q ad d 3 11 [(0, .ref (ad 0)), (1, .int v1), (2, .int v2)] [] S := by
  unfold b_X6_horse_11 at he
  unfold o_X6_horse_11 at ho
  refine j_aload_n X 0 dX6_horse_11 rfl ?_
  refine j_aload_n X 0 dX6_horse_12 rfl ?_
  refine gf_20_0 X m_fl_X6_10 kc20 dX6_horse_13 ?_
  refine gf_0_6 X m_fl_X6_124 kg0 dX6_horse_16 ?_
  refine j_iconst (v := 5) X dX6_horse_19 (by decide) ?_
  refine j_callSi (rest := [.ref (ad 0)]) X (c_X6_roomVerdict (cx_inj X) (S 15 6) 5 S) cw_X6_75 ⟨rfl, rfl, Nat.le_of_ble_eq_true rfl, Nat.le_of_ble_eq_true rfl⟩ rfl rfl (Nat.le_of_ble_eq_true rfl) ⟨Nat.le_of_ble_eq_true rfl, Nat.le_of_ble_eq_true rfl⟩ dX6_horse_20 ?_
  have h2 := ho.1
  have ho := ho.2
  refine j_callXv (rest := []) X F hnt hlocks (c_X6_admit hst (cx_inj X) (b_X6_roomVerdict_0 (S 15 6) 5 S) S h2) cw_X6_47 kc20.1 (cl_20 kc20) rfl ⟨rfl, rfl, Nat.le_of_ble_eq_true rfl, Nat.le_of_ble_eq_true rfl⟩ rfl rfl (Nat.le_of_ble_eq_true rfl) ⟨Nat.le_of_ble_eq_true rfl, Nat.le_of_ble_eq_true rfl⟩ ⟨by decide, by decide⟩ dX6_horse_23 (fun h3 => ?_) (fun h3 => ?_)
  · rw [if_neg h3] at he
    exact pe2 he
  · rw [if_pos h3] at he
    have ho := ho h3
    exact t_X6_horse_26 X F hnt hst hr hlocks v1 v2 ((b_X6_admit_0 (b_X6_roomVerdict_0 (S 15 6) 5 S) S).2.2) _ _ _ ho he
def b_X6_horse_0 (x1 : Int32) (x2 : Int32) (S : Sx) : Nat × Int32 × Sx := if (b_X6_settle_0 (b_X6_rangeVerdict_0 x1 1 9 S) S).1 = 0 then b_X6_horse_11 x1 x2 ((b_X6_settle_0 (b_X6_rangeVerdict_0 x1 1 9 S) S).2.2) else ((b_X6_settle_0 (b_X6_rangeVerdict_0 x1 1 9 S) S).1, 0, (b_X6_settle_0 (b_X6_rangeVerdict_0 x1 1 9 S) S).2.2)
def o_X6_horse_0 (x1 : Int32) (x2 : Int32) (S : Sx) : Prop := (b_X6_settle_0 (b_X6_rangeVerdict_0 x1 1 9 S) S).1 = 0 → (o_X6_horse_11 x1 x2 ((b_X6_settle_0 (b_X6_rangeVerdict_0 x1 1 9 S) S).2.2))
set_option maxRecDepth 20000 in
theorem t_X6_horse_0 (X : Cx p m c cX6_horse 3 s args RX6 D q ad) (F : XF ad s.heap.size sa s) (hnt : ∀ x ∈ c.exceptionTable.toList, False) (hst : l.stackTraces = false) (hr : meth.sig.returnType = some .int) (hlocks : meth.locks = false) (x1 : Int32) (x2 : Int32) (S : Sx) (xc : Nat) (rv : Int32) (S' : Sx) (ho : o_X6_horse_0 x1 x2 S) (he : b_X6_horse_0 x1 x2 S = (xc, rv, S')) : Jg p l e rm_X6_horse s m args below meth c 0 0 (vx_MQ below (QiX D q ad d xc rv S' s.heap.size) (XQ D q ad d xc S' s.heap.size) args s 2 12 (AU ad s.heap.size)) D q ad d 3 0 [(0, .ref (ad 0)), (1, .int x1), (2, .int x2)] [] S := by
  unfold b_X6_horse_0 at he
  unfold o_X6_horse_0 at ho
  refine j_aload_n X 0 dX6_horse_0 rfl ?_
  refine j_iload_n X 1 dX6_horse_1 rfl ?_
  refine j_iconst (v := 1) X dX6_horse_2 (by decide) ?_
  refine j_bipush (v := 9) X dX6_horse_3 (by decide) ?_
  refine j_callSi (rest := [.ref (ad 0)]) X (c_X6_rangeVerdict (cx_inj X) x1 1 9 S) cw_X6_120 ⟨rfl, rfl, Nat.le_of_ble_eq_true rfl, Nat.le_of_ble_eq_true rfl⟩ rfl rfl (Nat.le_of_ble_eq_true rfl) ⟨Nat.le_of_ble_eq_true rfl, Nat.le_of_ble_eq_true rfl⟩ dX6_horse_5 ?_
  refine j_callXv (rest := []) X F hnt hlocks (c_X6_settle hst (cx_inj X) (b_X6_rangeVerdict_0 x1 1 9 S) S) cw_X6_69 kc20.1 (cl_20 kc20) rfl ⟨rfl, rfl, Nat.le_of_ble_eq_true rfl, Nat.le_of_ble_eq_true rfl⟩ rfl rfl (Nat.le_of_ble_eq_true rfl) ⟨Nat.le_of_ble_eq_true rfl, Nat.le_of_ble_eq_true rfl⟩ ⟨by decide, by decide⟩ dX6_horse_8 (fun h2 => ?_) (fun h2 => ?_)
  · rw [if_neg h2] at he
    exact pe2 he
  · rw [if_pos h2] at he
    have ho := ho h2
    exact t_X6_horse_11 X F hnt hst hr hlocks x1 x2 ((b_X6_settle_0 (b_X6_rangeVerdict_0 x1 1 9 S) S).2.2) _ _ _ ho he
theorem c_X6_horse {l : Launch} {D : va_G} {q : Nat → ClassId} {ad : Nat → Nat} {d : UInt64} {sa : Nat → Nat} (hst : l.stackTraces = false) (hI : inj4 ad) (x1 : Int32) (x2 : Int32) (S : Sx) (ho : o_X6_horse_0 x1 x2 S) : CXi l yX6_horse cX6_horse 3 .int rm_X6_horse 2 12 D q ad d sa [.ref (ad 0), .int x1, .int x2] S (b_X6_horse_0 x1 x2 S).1 (b_X6_horse_0 x1 x2 S).2.1 (b_X6_horse_0 x1 x2 S).2.2 := cxi_of hI (by decide +kernel) (Nat.le_of_ble_eq_true rfl) rfl (fun p e s m args below meth c X F hnt hr hlocks => t_X6_horse_0 X F hnt hst hr hlocks x1 x2 S _ _ _ ho (pe3i _))
end
/-! RX6.boots -/
abbrev rm_X6_boots : Room := { frames := 8, cells := 1, slots := 6, locals := 132 }
section
variable {p : Program} {l : Launch} {e : Env} {s : State} {m : MethodId} {args : Array Value} {below : List Frame} {meth : Method} {c : Code} {D : va_G} {q : Nat → ClassId} {ad : Nat → Nat} {d : UInt64} {sa : Nat → Nat}
def b_X6_boots_12 (v1 : Int32) (v2 : Int32) (S : Sx) : Nat × Int32 × Sx := (0, b_X0_bootedHorses_0 15 (up2 S (15 + 11 + v1.toNatClampNeg) 1 v2), up2 S (15 + 11 + v1.toNatClampNeg) 1 v2)
def o_X6_boots_12 (v1 : Int32) (v2 : Int32) (S : Sx) : Prop := vp_in v1 5 ∧ (bz v2 ∧ (o_X0_bootedHorses_0 15 (up2 S (15 + 11 + v1.toNatClampNeg) 1 v2) ∧ True))
set_option maxRecDepth 20000 in
theorem t_X6_boots_12 (X : Cx p m c cX6_boots 3 s args RX6 D q ad) (F : XF ad s.heap.size sa s) (hnt : ∀ x ∈ c.exceptionTable.toList, False) (hst : l.stackTraces = false) (hr : meth.sig.returnType = some .int) (hlocks : meth.locks = false) (v1 : Int32) (v2 : Int32) (S : Sx) (xc : Nat) (rv : Int32) (S' : Sx) (ho : o_X6_boots_12 v1 v2 S) (he : b_X6_boots_12 v1 v2 S = (xc, rv, S')) : Jg p l e rm_X6_boots s m args below meth c 1 6 (vx_MQ below (QiX D q ad d xc rv S' s.heap.size) (XQ D q ad d xc S' s.heap.size) args s 1 6 (AU ad s.heap.size)) D q ad d 3 12 [(0, .ref (ad 0)), (1, .int v1), (2, .int v2)] [] S := by
  unfold b_X6_boots_12 at he
  unfold o_X6_boots_12 at ho
  refine j_aload_n X 0 dX6_boots_12 rfl ?_
  refine gf_20_0 X m_fl_X6_10 kc20 dX6_boots_13 ?_
  refine gf_0_7 X m_fl_X6_127 kg0 dX6_boots_16 ?_
  refine j_iload_n X 1 dX6_boots_19 rfl ?_
  have h2 := ho.1
  have ho := ho.2
  refine j_aald (a := ad (15 + 11 + v1.toNatClampNeg)) X 2 (k0_5 kg0).1 (cl_5 (k0_5 kg0)) rfl h2 rfl dX6_boots_20 ?_
  have hk3 : isK 8 (15 + 11 + v1.toNatClampNeg) := k0_8 kg0 (vlt h2)
  refine j_iload_n X 2 dX6_boots_21 rfl ?_
  have h4 := ho.1
  have ho := ho.2
  refine pf_8_1 X h4 m_fl_X6_136 hk3 dX6_boots_22 ?_
  refine j_aload_n X 0 dX6_boots_25 rfl ?_
  refine gf_20_0 X m_fl_X6_10 kc20 dX6_boots_26 ?_
  have h5 := ho.1
  have ho := ho.2
  refine j_callVi (rest := []) X (c_X0_bootedHorses (cx_inj X) 15 kg0 (up2 S (15 + 11 + v1.toNatClampNeg) 1 v2) h5) cw_X6_142 kg0.1 (cl_0 kg0) rfl ⟨rfl, rfl, Nat.le_of_ble_eq_true rfl, Nat.le_of_ble_eq_true rfl⟩ rfl rfl (Nat.le_of_ble_eq_true rfl) ⟨Nat.le_of_ble_eq_true rfl, Nat.le_of_ble_eq_true rfl⟩ dX6_boots_29 ?_
  exact j_iretX X hr hlocks ⟨by decide, by decide⟩ dX6_boots_32 (pe3 he)
def b_X6_boots_0 (x1 : Int32) (x2 : Int32) (S : Sx) : Nat × Int32 × Sx := if (b_X6_admit_0 (b_X0_bootsVerdict_0 15 x1 S) S).1 = 0 then b_X6_boots_12 x1 x2 ((b_X6_admit_0 (b_X0_bootsVerdict_0 15 x1 S) S).2.2) else ((b_X6_admit_0 (b_X0_bootsVerdict_0 15 x1 S) S).1, 0, (b_X6_admit_0 (b_X0_bootsVerdict_0 15 x1 S) S).2.2)
def o_X6_boots_0 (x1 : Int32) (x2 : Int32) (S : Sx) : Prop := o_X0_bootsVerdict_0 15 x1 S ∧ (o_X6_admit_0 (b_X0_bootsVerdict_0 15 x1 S) S ∧ ((b_X6_admit_0 (b_X0_bootsVerdict_0 15 x1 S) S).1 = 0 → (o_X6_boots_12 x1 x2 ((b_X6_admit_0 (b_X0_bootsVerdict_0 15 x1 S) S).2.2))))
set_option maxRecDepth 20000 in
theorem t_X6_boots_0 (X : Cx p m c cX6_boots 3 s args RX6 D q ad) (F : XF ad s.heap.size sa s) (hnt : ∀ x ∈ c.exceptionTable.toList, False) (hst : l.stackTraces = false) (hr : meth.sig.returnType = some .int) (hlocks : meth.locks = false) (x1 : Int32) (x2 : Int32) (S : Sx) (xc : Nat) (rv : Int32) (S' : Sx) (ho : o_X6_boots_0 x1 x2 S) (he : b_X6_boots_0 x1 x2 S = (xc, rv, S')) : Jg p l e rm_X6_boots s m args below meth c 0 0 (vx_MQ below (QiX D q ad d xc rv S' s.heap.size) (XQ D q ad d xc S' s.heap.size) args s 1 6 (AU ad s.heap.size)) D q ad d 3 0 [(0, .ref (ad 0)), (1, .int x1), (2, .int x2)] [] S := by
  unfold b_X6_boots_0 at he
  unfold o_X6_boots_0 at ho
  refine j_aload_n X 0 dX6_boots_0 rfl ?_
  refine j_aload_n X 0 dX6_boots_1 rfl ?_
  refine gf_20_0 X m_fl_X6_10 kc20 dX6_boots_2 ?_
  refine j_iload_n X 1 dX6_boots_5 rfl ?_
  have h2 := ho.1
  have ho := ho.2
  refine j_callVi (rest := [.ref (ad 0)]) X (c_X0_bootsVerdict (cx_inj X) 15 kg0 x1 S h2) cw_X6_139 kg0.1 (cl_0 kg0) rfl ⟨rfl, rfl, Nat.le_of_ble_eq_true rfl, Nat.le_of_ble_eq_true rfl⟩ rfl rfl (Nat.le_of_ble_eq_true rfl) ⟨Nat.le_of_ble_eq_true rfl, Nat.le_of_ble_eq_true rfl⟩ dX6_boots_6 ?_
  have h3 := ho.1
  have ho := ho.2
  refine j_callXv (rest := []) X F hnt hlocks (c_X6_admit hst (cx_inj X) (b_X0_bootsVerdict_0 15 x1 S) S h3) cw_X6_47 kc20.1 (cl_20 kc20) rfl ⟨rfl, rfl, Nat.le_of_ble_eq_true rfl, Nat.le_of_ble_eq_true rfl⟩ rfl rfl (Nat.le_of_ble_eq_true rfl) ⟨Nat.le_of_ble_eq_true rfl, Nat.le_of_ble_eq_true rfl⟩ ⟨by decide, by decide⟩ dX6_boots_9 (fun h4 => ?_) (fun h4 => ?_)
  · rw [if_neg h4] at he
    exact pe2 he
  · rw [if_pos h4] at he
    have ho := ho h4
    exact t_X6_boots_12 X F hnt hst hr hlocks x1 x2 ((b_X6_admit_0 (b_X0_bootsVerdict_0 15 x1 S) S).2.2) _ _ _ ho he
theorem c_X6_boots {l : Launch} {D : va_G} {q : Nat → ClassId} {ad : Nat → Nat} {d : UInt64} {sa : Nat → Nat} (hst : l.stackTraces = false) (hI : inj4 ad) (x1 : Int32) (x2 : Int32) (S : Sx) (ho : o_X6_boots_0 x1 x2 S) : CXi l yX6_boots cX6_boots 3 .int rm_X6_boots 1 6 D q ad d sa [.ref (ad 0), .int x1, .int x2] S (b_X6_boots_0 x1 x2 S).1 (b_X6_boots_0 x1 x2 S).2.1 (b_X6_boots_0 x1 x2 S).2.2 := cxi_of hI (by decide +kernel) (Nat.le_of_ble_eq_true rfl) rfl (fun p e s m args below meth c X F hnt hr hlocks => t_X6_boots_0 X F hnt hst hr hlocks x1 x2 S _ _ _ ho (pe3i _))
end
/-! RX6.horseOf -/
abbrev rm_X6_horseOf : Room := { frames := 7, cells := 2, slots := 12, locals := 111 }
section
variable {p : Program} {l : Launch} {e : Env} {s : State} {m : MethodId} {args : Array Value} {below : List Frame} {meth : Method} {c : Code} {D : va_G} {q : Nat → ClassId} {ad : Nat → Nat} {d : UInt64} {sa : Nat → Nat}
def b_X6_horseOf_103 (w0 : Int32) (S : Sx) : Nat × Int32 × Sx := (0, w0, S)
set_option maxRecDepth 20000 in
theorem t_X6_horseOf_103 (X : Cx p m c cX6_horseOf 4 s args RX6 D q ad) (F : XF ad s.heap.size sa s) (hnt : ∀ x ∈ c.exceptionTable.toList, False) (hst : l.stackTraces = false) (hr : meth.sig.returnType = some .int) (hlocks : meth.locks = false) (w0 : Int32) (S : Sx) (xc : Nat) (rv : Int32) (S' : Sx) (he : b_X6_horseOf_103 w0 S = (xc, rv, S')) : Jg p l e rm_X6_horseOf s m args below meth c 1 6 (vx_MQ below (QiX D q ad d xc rv S' s.heap.size) (XQ D q ad d xc S' s.heap.size) args s 2 12 (AU ad s.heap.size)) D q ad d 4 103 [] [.int w0] S := by
  unfold b_X6_horseOf_103 at he
  exact j_iretX X hr hlocks ⟨by decide, by decide⟩ dX6_horseOf_103 (pe3 he)
def b_X6_horseOf_77 (w0 : Int32) (S : Sx) : Nat × Int32 × Sx := (0, w0, S)
set_option maxRecDepth 20000 in
theorem t_X6_horseOf_77 (X : Cx p m c cX6_horseOf 4 s args RX6 D q ad) (F : XF ad s.heap.size sa s) (hnt : ∀ x ∈ c.exceptionTable.toList, False) (hst : l.stackTraces = false) (hr : meth.sig.returnType = some .int) (hlocks : meth.locks = false) (w0 : Int32) (S : Sx) (xc : Nat) (rv : Int32) (S' : Sx) (he : b_X6_horseOf_77 w0 S = (xc, rv, S')) : Jg p l e rm_X6_horseOf s m args below meth c 1 6 (vx_MQ below (QiX D q ad d xc rv S' s.heap.size) (XQ D q ad d xc S' s.heap.size) args s 2 12 (AU ad s.heap.size)) D q ad d 4 77 [] [.int w0] S := by
  unfold b_X6_horseOf_77 at he
  exact j_iretX X hr hlocks ⟨by decide, by decide⟩ dX6_horseOf_77 (pe3 he)
def b_X6_horseOf_12 (v1 : Int32) (v2 : Int32) (S : Sx) : Nat × Int32 × Sx := if v2 = 0 then (0, S (15 + 11 + v1.toNatClampNeg) 0, S) else (if v2 = 1 then if (nb (S (15 + 11 + v1.toNatClampNeg) 1)) = 0 then b_X6_horseOf_77 0 S else b_X6_horseOf_77 1 S else (if v2 = 2 then (0, S (15 + 11 + v1.toNatClampNeg) 2, S) else (if v2 = 3 then (0, S (15 + 11 + v1.toNatClampNeg) 3, S) else (if v2 = 4 then if (b_X1_isRolling_0 (15 + 11 + v1.toNatClampNeg) S) = 0 then b_X6_horseOf_103 (-1) S else b_X6_horseOf_103 (S (15 + 11 + v1.toNatClampNeg) 4) S else (if v2 = 5 then (0, S (15 + 11 + v1.toNatClampNeg) 5, S) else (2, 0, S))))))
def o_X6_horseOf_12 (v1 : Int32) (v2 : Int32) (S : Sx) : Prop := vp_in v1 5 ∧ ((v2 = 0 → True) ∧ (¬ v2 = 0 → ((v2 = 1 → True) ∧ (¬ v2 = 1 → ((v2 = 2 → True) ∧ (¬ v2 = 2 → ((v2 = 3 → True) ∧ (¬ v2 = 3 → ((v2 = 4 → (o_X1_isRolling_0 (15 + 11 + v1.toNatClampNeg) S ∧ True)) ∧ (¬ v2 = 4 → ((v2 = 5 → True) ∧ (¬ v2 = 5 → True))))))))))))
set_option maxRecDepth 20000 in
theorem t_X6_horseOf_12 (X : Cx p m c cX6_horseOf 4 s args RX6 D q ad) (F : XF ad s.heap.size sa s) (hnt : ∀ x ∈ c.exceptionTable.toList, False) (hst : l.stackTraces = false) (hr : meth.sig.returnType = some .int) (hlocks : meth.locks = false) (v1 : Int32) (v2 : Int32) (S : Sx) (xc : Nat) (rv : Int32) (S' : Sx) (ho : o_X6_horseOf_12 v1 v2 S) (he : b_X6_horseOf_12 v1 v2 S = (xc, rv, S')) : Jg p l e rm_X6_horseOf s m args below meth c 1 6 (vx_MQ below (QiX D q ad d xc rv S' s.heap.size) (XQ D q ad d xc S' s.heap.size) args s 2 12 (AU ad s.heap.size)) D q ad d 4 12 [(0, .ref (ad 0)), (1, .int v1), (2, .int v2)] [] S := by
  unfold b_X6_horseOf_12 at he
  unfold o_X6_horseOf_12 at ho
  refine j_aload_n X 0 dX6_horseOf_12 rfl ?_
  refine gf_20_0 X m_fl_X6_10 kc20 dX6_horseOf_13 ?_
  refine gf_0_7 X m_fl_X6_127 kg0 dX6_horseOf_16 ?_
  refine j_iload_n X 1 dX6_horseOf_19 rfl ?_
  have h2 := ho.1
  have ho := ho.2
  refine j_aald (a := ad (15 + 11 + v1.toNatClampNeg)) X 2 (k0_5 kg0).1 (cl_5 (k0_5 kg0)) rfl h2 rfl dX6_horseOf_20 ?_
  have hk3 : isK 8 (15 + 11 + v1.toNatClampNeg) := k0_8 kg0 (vlt h2)
  refine j_astore_n X [(3, .ref (ad (15 + 11 + v1.toNatClampNeg))), (0, .ref (ad 0)), (1, .int v1), (2, .int v2)] dX6_horseOf_21 (by decide) rfl ?_
  refine j_iload_n X 3 dX6_horseOf_22 rfl ?_
  by_cases h7 : v2 = 0
  · rw [if_pos h7] at he
    have ho := ho.1 h7
    refine j_tableIn X 0 37 60 dX6_horseOf_23 (by rw [h7]; rfl) (by decide) (by decide) rfl (by decide) ?_
    refine j_aload_n X 0 dX6_horseOf_60 rfl ?_
    refine gf_8_0 X m_fl_X6_131 hk3 dX6_horseOf_61 ?_
    exact j_iretX X hr hlocks ⟨by decide, by decide⟩ dX6_horseOf_64 (pe3 he)
  rw [if_neg h7] at he
  have ho := ho.2 h7
  by_cases h8 : v2 = 1
  · rw [if_pos h8] at he
    have ho := ho.1 h8
    refine j_tableIn X 1 42 65 dX6_horseOf_23 (by rw [h8]; rfl) (by decide) (by decide) rfl (by decide) ?_
    refine j_aload_n X 0 dX6_horseOf_65 rfl ?_
    refine gf_8_1 X m_fl_X6_136 hk3 dX6_horseOf_66 ?_
    refine j_if_eq X 76 dX6_horseOf_69 (by decide) (fun h4 => ?_) (fun h4 => ?_)
    · rw [if_pos h4] at he
      refine j_iconst (v := 0) X dX6_horseOf_76 (by decide) ?_
      refine j_lv [] [] rfl ?_
      exact t_X6_horseOf_77 X F hnt hst hr hlocks 0 S _ _ _ he
    · rw [if_neg h4] at he
      refine j_iconst (v := 1) X dX6_horseOf_72 (by decide) ?_
      refine j_goto X 77 dX6_horseOf_73 (by decide) ?_
      refine j_lv [] [] rfl ?_
      exact t_X6_horseOf_77 X F hnt hst hr hlocks 1 S _ _ _ he
  rw [if_neg h8] at he
  have ho := ho.2 h8
  by_cases h9 : v2 = 2
  · rw [if_pos h9] at he
    have ho := ho.1 h9
    refine j_tableIn X 2 55 78 dX6_horseOf_23 (by rw [h9]; rfl) (by decide) (by decide) rfl (by decide) ?_
    refine j_aload_n X 0 dX6_horseOf_78 rfl ?_
    refine gf_8_2 X m_fl_X6_149 hk3 dX6_horseOf_79 ?_
    exact j_iretX X hr hlocks ⟨by decide, by decide⟩ dX6_horseOf_82 (pe3 he)
  rw [if_neg h9] at he
  have ho := ho.2 h9
  by_cases h10 : v2 = 3
  · rw [if_pos h10] at he
    have ho := ho.1 h10
    refine j_tableIn X 3 60 83 dX6_horseOf_23 (by rw [h10]; rfl) (by decide) (by decide) rfl (by decide) ?_
    refine j_aload_n X 0 dX6_horseOf_83 rfl ?_
    refine gf_8_3 X m_fl_X6_152 hk3 dX6_horseOf_84 ?_
    exact j_iretX X hr hlocks ⟨by decide, by decide⟩ dX6_horseOf_87 (pe3 he)
  rw [if_neg h10] at he
  have ho := ho.2 h10
  by_cases h11 : v2 = 4
  · rw [if_pos h11] at he
    have ho := ho.1 h11
    refine j_tableIn X 4 65 88 dX6_horseOf_23 (by rw [h11]; rfl) (by decide) (by decide) rfl (by decide) ?_
    refine j_aload_n X 0 dX6_horseOf_88 rfl ?_
    have h5 := ho.1
    have ho := ho.2
    refine j_callVi (rest := []) X (c_X1_isRolling (cx_inj X) (15 + 11 + v1.toNatClampNeg) hk3 S h5) cw_X6_155 hk3.1 (cl_8 hk3) rfl ⟨rfl, rfl, Nat.le_of_ble_eq_true rfl, Nat.le_of_ble_eq_true rfl⟩ rfl rfl (Nat.le_of_ble_eq_true rfl) ⟨Nat.le_of_ble_eq_true rfl, Nat.le_of_ble_eq_true rfl⟩ dX6_horseOf_89 ?_
    refine j_if_eq X 102 dX6_horseOf_92 (by decide) (fun h6 => ?_) (fun h6 => ?_)
    · rw [if_pos h6] at he
      refine j_iconst (v := (-1)) X dX6_horseOf_102 (by decide) ?_
      refine j_lv [] [] rfl ?_
      exact t_X6_horseOf_103 X F hnt hst hr hlocks (-1) S _ _ _ he
    · rw [if_neg h6] at he
      refine j_aload_n X 0 dX6_horseOf_95 rfl ?_
      refine gf_8_4 X m_fl_X6_159 hk3 dX6_horseOf_96 ?_
      refine j_goto X 103 dX6_horseOf_99 (by decide) ?_
      refine j_lv [] [] rfl ?_
      exact t_X6_horseOf_103 X F hnt hst hr hlocks (S (15 + 11 + v1.toNatClampNeg) 4) S _ _ _ he
  rw [if_neg h11] at he
  have ho := ho.2 h11
  by_cases h12 : v2 = 5
  · rw [if_pos h12] at he
    have ho := ho.1 h12
    refine j_tableIn X 5 81 104 dX6_horseOf_23 (by rw [h12]; rfl) (by decide) (by decide) rfl (by decide) ?_
    refine j_aload_n X 0 dX6_horseOf_104 rfl ?_
    refine gf_8_5 X m_fl_X6_162 hk3 dX6_horseOf_105 ?_
    exact j_iretX X hr hlocks ⟨by decide, by decide⟩ dX6_horseOf_108 (pe3 he)
  rw [if_neg h12] at he
  have ho := ho.2 h12
  have e13 := lv_neT (a := 0) h7 rfl
  have e14 := lv_neT (a := 1) h8 rfl
  have e15 := lv_neT (a := 2) h9 rfl
  have e16 := lv_neT (a := 3) h10 rfl
  have e17 := lv_neT (a := 4) h11 rfl
  have e18 := lv_neT (a := 5) h12 rfl
  refine j_tableOut X 109 dX6_horseOf_23 (by omega) (by decide) ?_
  exact j_throw X F hnt hlocks hst (k := 2) (by decide) ⟨by decide +kernel, by decide +kernel⟩ m_cl_X6_113 m_in_IllegalArgumentException m_sr_165 thA_2 thG_2 dX6_horseOf_109 dX6_horseOf_112 dX6_horseOf_113 dX6_horseOf_115 dX6_horseOf_118 ⟨Nat.le_of_ble_eq_true rfl, Nat.le_of_ble_eq_true rfl, Nat.le_of_ble_eq_true rfl, Nat.le_of_ble_eq_true rfl⟩ ⟨by decide, by decide⟩ (pe2 he)
def b_X6_horseOf_0 (x1 : Int32) (x2 : Int32) (S : Sx) : Nat × Int32 × Sx := if (b_X6_settle_0 (b_X0_horseVerdict_0 15 x1 S) S).1 = 0 then b_X6_horseOf_12 x1 x2 ((b_X6_settle_0 (b_X0_horseVerdict_0 15 x1 S) S).2.2) else ((b_X6_settle_0 (b_X0_horseVerdict_0 15 x1 S) S).1, 0, (b_X6_settle_0 (b_X0_horseVerdict_0 15 x1 S) S).2.2)
def o_X6_horseOf_0 (x1 : Int32) (x2 : Int32) (S : Sx) : Prop := (b_X6_settle_0 (b_X0_horseVerdict_0 15 x1 S) S).1 = 0 → (o_X6_horseOf_12 x1 x2 ((b_X6_settle_0 (b_X0_horseVerdict_0 15 x1 S) S).2.2))
set_option maxRecDepth 20000 in
theorem t_X6_horseOf_0 (X : Cx p m c cX6_horseOf 4 s args RX6 D q ad) (F : XF ad s.heap.size sa s) (hnt : ∀ x ∈ c.exceptionTable.toList, False) (hst : l.stackTraces = false) (hr : meth.sig.returnType = some .int) (hlocks : meth.locks = false) (x1 : Int32) (x2 : Int32) (S : Sx) (xc : Nat) (rv : Int32) (S' : Sx) (ho : o_X6_horseOf_0 x1 x2 S) (he : b_X6_horseOf_0 x1 x2 S = (xc, rv, S')) : Jg p l e rm_X6_horseOf s m args below meth c 0 0 (vx_MQ below (QiX D q ad d xc rv S' s.heap.size) (XQ D q ad d xc S' s.heap.size) args s 2 12 (AU ad s.heap.size)) D q ad d 4 0 [(0, .ref (ad 0)), (1, .int x1), (2, .int x2)] [] S := by
  unfold b_X6_horseOf_0 at he
  unfold o_X6_horseOf_0 at ho
  refine j_aload_n X 0 dX6_horseOf_0 rfl ?_
  refine j_aload_n X 0 dX6_horseOf_1 rfl ?_
  refine gf_20_0 X m_fl_X6_10 kc20 dX6_horseOf_2 ?_
  refine j_iload_n X 1 dX6_horseOf_5 rfl ?_
  refine j_callVi (rest := [.ref (ad 0)]) X (c_X0_horseVerdict (cx_inj X) 15 kg0 x1 S) cw_X6_146 kg0.1 (cl_0 kg0) rfl ⟨rfl, rfl, Nat.le_of_ble_eq_true rfl, Nat.le_of_ble_eq_true rfl⟩ rfl rfl (Nat.le_of_ble_eq_true rfl) ⟨Nat.le_of_ble_eq_true rfl, Nat.le_of_ble_eq_true rfl⟩ dX6_horseOf_6 ?_
  refine j_callXv (rest := []) X F hnt hlocks (c_X6_settle hst (cx_inj X) (b_X0_horseVerdict_0 15 x1 S) S) cw_X6_69 kc20.1 (cl_20 kc20) rfl ⟨rfl, rfl, Nat.le_of_ble_eq_true rfl, Nat.le_of_ble_eq_true rfl⟩ rfl rfl (Nat.le_of_ble_eq_true rfl) ⟨Nat.le_of_ble_eq_true rfl, Nat.le_of_ble_eq_true rfl⟩ ⟨by decide, by decide⟩ dX6_horseOf_9 (fun h2 => ?_) (fun h2 => ?_)
  · rw [if_neg h2] at he
    exact pe2 he
  · rw [if_pos h2] at he
    have ho := ho h2
    exact t_X6_horseOf_12 X F hnt hst hr hlocks x1 x2 ((b_X6_settle_0 (b_X0_horseVerdict_0 15 x1 S) S).2.2) _ _ _ ho he
theorem c_X6_horseOf {l : Launch} {D : va_G} {q : Nat → ClassId} {ad : Nat → Nat} {d : UInt64} {sa : Nat → Nat} (hst : l.stackTraces = false) (hI : inj4 ad) (x1 : Int32) (x2 : Int32) (S : Sx) (ho : o_X6_horseOf_0 x1 x2 S) : CXi l yX6_horseOf cX6_horseOf 4 .int rm_X6_horseOf 2 12 D q ad d sa [.ref (ad 0), .int x1, .int x2] S (b_X6_horseOf_0 x1 x2 S).1 (b_X6_horseOf_0 x1 x2 S).2.1 (b_X6_horseOf_0 x1 x2 S).2.2 := cxi_of hI (by decide +kernel) (Nat.le_of_ble_eq_true rfl) rfl (fun p e s m args below meth c X F hnt hr hlocks => t_X6_horseOf_0 X F hnt hst hr hlocks x1 x2 S _ _ _ ho (pe3i _))
end
/-! RX6.roll -/
abbrev rm_X6_roll : Room := { frames := 8, cells := 1, slots := 6, locals := 132 }
section
variable {p : Program} {l : Launch} {e : Env} {s : State} {m : MethodId} {args : Array Value} {below : List Frame} {meth : Method} {c : Code} {D : va_G} {q : Nat → ClassId} {ad : Nat → Nat} {d : UInt64} {sa : Nat → Nat}
def b_X6_roll_14 (v1 : Int32) (v2 : Int32) (v3 : Int32) (S : Sx) : Nat × Int32 × Sx := (0, if (((b_X0_beginRolling_0 15 v1 v2 v3 S) (15 + 7 + v2.toNatClampNeg) 1) + (v3 * ((b_X0_beginRolling_0 15 v1 v2 v3 S) (15 + 11 + v1.toNatClampNeg) 0))) < 99 then (((b_X0_beginRolling_0 15 v1 v2 v3 S) (15 + 7 + v2.toNatClampNeg) 1) + (v3 * ((b_X0_beginRolling_0 15 v1 v2 v3 S) (15 + 11 + v1.toNatClampNeg) 0))) else 99, b_X0_beginRolling_0 15 v1 v2 v3 S)
def o_X6_roll_14 (v1 : Int32) (v2 : Int32) (v3 : Int32) (S : Sx) : Prop := o_X0_beginRolling_0 15 v1 v2 v3 S ∧ (vp_in v2 4 ∧ (vp_in v1 5 ∧ True))
set_option maxRecDepth 20000 in
theorem t_X6_roll_14 (X : Cx p m c cX6_roll 5 s args RX6 D q ad) (F : XF ad s.heap.size sa s) (hnt : ∀ x ∈ c.exceptionTable.toList, False) (hst : l.stackTraces = false) (hr : meth.sig.returnType = some .int) (hlocks : meth.locks = false) (v1 : Int32) (v2 : Int32) (v3 : Int32) (S : Sx) (xc : Nat) (rv : Int32) (S' : Sx) (ho : o_X6_roll_14 v1 v2 v3 S) (he : b_X6_roll_14 v1 v2 v3 S = (xc, rv, S')) : Jg p l e rm_X6_roll s m args below meth c 1 6 (vx_MQ below (QiX D q ad d xc rv S' s.heap.size) (XQ D q ad d xc S' s.heap.size) args s 1 6 (AU ad s.heap.size)) D q ad d 5 14 [(0, .ref (ad 0)), (1, .int v1), (2, .int v2), (3, .int v3)] [] S := by
  unfold b_X6_roll_14 at he
  unfold o_X6_roll_14 at ho
  refine j_aload_n X 0 dX6_roll_14 rfl ?_
  refine gf_20_0 X m_fl_X6_10 kc20 dX6_roll_15 ?_
  refine j_iload_n X 1 dX6_roll_18 rfl ?_
  refine j_iload_n X 2 dX6_roll_19 rfl ?_
  refine j_iload_n X 3 dX6_roll_20 rfl ?_
  have h2 := ho.1
  have ho := ho.2
  refine j_callVv (rest := []) X (c_X0_beginRolling (cx_inj X) 15 kg0 v1 v2 v3 S h2) cw_X6_170 kg0.1 (cl_0 kg0) rfl ⟨rfl, rfl, Nat.le_of_ble_eq_true rfl, Nat.le_of_ble_eq_true rfl⟩ rfl rfl (Nat.le_of_ble_eq_true rfl) ⟨Nat.le_of_ble_eq_true rfl, Nat.le_of_ble_eq_true rfl⟩ dX6_roll_21 ?_
  refine j_aload_n X 0 dX6_roll_24 rfl ?_
  refine gf_20_0 X m_fl_X6_10 kc20 dX6_roll_25 ?_
  refine gf_0_5 X m_fl_X6_82 kg0 dX6_roll_28 ?_
  refine j_iload_n X 2 dX6_roll_31 rfl ?_
  have h3 := ho.1
  have ho := ho.2
  refine j_aald (a := ad (15 + 7 + v2.toNatClampNeg)) X 1 (k0_4 kg0).1 (cl_4 (k0_4 kg0)) rfl h3 rfl dX6_roll_32 ?_
  have hk4 : isK 7 (15 + 7 + v2.toNatClampNeg) := k0_7 kg0 (vlt h3)
  refine gf_7_1 X m_fl_X6_98 hk4 dX6_roll_33 ?_
  refine j_iload_n X 3 dX6_roll_36 rfl ?_
  refine j_aload_n X 0 dX6_roll_37 rfl ?_
  refine gf_20_0 X m_fl_X6_10 kc20 dX6_roll_38 ?_
  refine gf_0_7 X m_fl_X6_127 kg0 dX6_roll_41 ?_
  refine j_iload_n X 1 dX6_roll_44 rfl ?_
  have h5 := ho.1
  have ho := ho.2
  refine j_aald (a := ad (15 + 11 + v1.toNatClampNeg)) X 2 (k0_5 kg0).1 (cl_5 (k0_5 kg0)) rfl h5 rfl dX6_roll_45 ?_
  have hk6 : isK 8 (15 + 11 + v1.toNatClampNeg) := k0_8 kg0 (vlt h5)
  refine gf_8_0 X m_fl_X6_131 hk6 dX6_roll_46 ?_
  refine j_imul X dX6_roll_49 ?_
  refine j_iadd X dX6_roll_50 ?_
  refine j_istore X [(4, .int (((b_X0_beginRolling_0 15 v1 v2 v3 S) (15 + 7 + v2.toNatClampNeg) 1) + (v3 * ((b_X0_beginRolling_0 15 v1 v2 v3 S) (15 + 11 + v1.toNatClampNeg) 0)))), (0, .ref (ad 0)), (1, .int v1), (2, .int v2), (3, .int v3)] dX6_roll_51 (by decide) rfl ?_
  refine j_bipush (v := 99) X dX6_roll_53 (by decide) ?_
  refine j_iload X 0 dX6_roll_55 rfl ?_
  refine j_min X m_ml_X6_174 m_st_Math_min m_in_J9 m_co_Math_min (Nat.le_of_ble_eq_true rfl) (Nat.le_of_ble_eq_true rfl) ⟨Nat.le_of_ble_eq_true rfl, Nat.le_of_ble_eq_true rfl⟩ dX6_roll_57 ?_
  exact j_iretX X hr hlocks ⟨by decide, by decide⟩ dX6_roll_60 (pe3 he)
def b_X6_roll_0 (x1 : Int32) (x2 : Int32) (x3 : Int32) (S : Sx) : Nat × Int32 × Sx := if (b_X6_admit_0 (b_X0_rollVerdict_0 15 x1 x2 x3 S) S).1 = 0 then b_X6_roll_14 x1 x2 x3 ((b_X6_admit_0 (b_X0_rollVerdict_0 15 x1 x2 x3 S) S).2.2) else ((b_X6_admit_0 (b_X0_rollVerdict_0 15 x1 x2 x3 S) S).1, 0, (b_X6_admit_0 (b_X0_rollVerdict_0 15 x1 x2 x3 S) S).2.2)
def o_X6_roll_0 (x1 : Int32) (x2 : Int32) (x3 : Int32) (S : Sx) : Prop := o_X0_rollVerdict_0 15 x1 x2 x3 S ∧ (o_X6_admit_0 (b_X0_rollVerdict_0 15 x1 x2 x3 S) S ∧ ((b_X6_admit_0 (b_X0_rollVerdict_0 15 x1 x2 x3 S) S).1 = 0 → (o_X6_roll_14 x1 x2 x3 ((b_X6_admit_0 (b_X0_rollVerdict_0 15 x1 x2 x3 S) S).2.2))))
set_option maxRecDepth 20000 in
theorem t_X6_roll_0 (X : Cx p m c cX6_roll 5 s args RX6 D q ad) (F : XF ad s.heap.size sa s) (hnt : ∀ x ∈ c.exceptionTable.toList, False) (hst : l.stackTraces = false) (hr : meth.sig.returnType = some .int) (hlocks : meth.locks = false) (x1 : Int32) (x2 : Int32) (x3 : Int32) (S : Sx) (xc : Nat) (rv : Int32) (S' : Sx) (ho : o_X6_roll_0 x1 x2 x3 S) (he : b_X6_roll_0 x1 x2 x3 S = (xc, rv, S')) : Jg p l e rm_X6_roll s m args below meth c 0 0 (vx_MQ below (QiX D q ad d xc rv S' s.heap.size) (XQ D q ad d xc S' s.heap.size) args s 1 6 (AU ad s.heap.size)) D q ad d 5 0 [(0, .ref (ad 0)), (1, .int x1), (2, .int x2), (3, .int x3)] [] S := by
  unfold b_X6_roll_0 at he
  unfold o_X6_roll_0 at ho
  refine j_aload_n X 0 dX6_roll_0 rfl ?_
  refine j_aload_n X 0 dX6_roll_1 rfl ?_
  refine gf_20_0 X m_fl_X6_10 kc20 dX6_roll_2 ?_
  refine j_iload_n X 1 dX6_roll_5 rfl ?_
  refine j_iload_n X 2 dX6_roll_6 rfl ?_
  refine j_iload_n X 3 dX6_roll_7 rfl ?_
  have h2 := ho.1
  have ho := ho.2
  refine j_callVi (rest := [.ref (ad 0)]) X (c_X0_rollVerdict (cx_inj X) 15 kg0 x1 x2 x3 S h2) cw_X6_167 kg0.1 (cl_0 kg0) rfl ⟨rfl, rfl, Nat.le_of_ble_eq_true rfl, Nat.le_of_ble_eq_true rfl⟩ rfl rfl (Nat.le_of_ble_eq_true rfl) ⟨Nat.le_of_ble_eq_true rfl, Nat.le_of_ble_eq_true rfl⟩ dX6_roll_8 ?_
  have h3 := ho.1
  have ho := ho.2
  refine j_callXv (rest := []) X F hnt hlocks (c_X6_admit hst (cx_inj X) (b_X0_rollVerdict_0 15 x1 x2 x3 S) S h3) cw_X6_47 kc20.1 (cl_20 kc20) rfl ⟨rfl, rfl, Nat.le_of_ble_eq_true rfl, Nat.le_of_ble_eq_true rfl⟩ rfl rfl (Nat.le_of_ble_eq_true rfl) ⟨Nat.le_of_ble_eq_true rfl, Nat.le_of_ble_eq_true rfl⟩ ⟨by decide, by decide⟩ dX6_roll_11 (fun h4 => ?_) (fun h4 => ?_)
  · rw [if_neg h4] at he
    exact pe2 he
  · rw [if_pos h4] at he
    have ho := ho h4
    exact t_X6_roll_14 X F hnt hst hr hlocks x1 x2 x3 ((b_X6_admit_0 (b_X0_rollVerdict_0 15 x1 x2 x3 S) S).2.2) _ _ _ ho he
theorem c_X6_roll {l : Launch} {D : va_G} {q : Nat → ClassId} {ad : Nat → Nat} {d : UInt64} {sa : Nat → Nat} (hst : l.stackTraces = false) (hI : inj4 ad) (x1 : Int32) (x2 : Int32) (x3 : Int32) (S : Sx) (ho : o_X6_roll_0 x1 x2 x3 S) : CXi l yX6_roll cX6_roll 5 .int rm_X6_roll 1 6 D q ad d sa [.ref (ad 0), .int x1, .int x2, .int x3] S (b_X6_roll_0 x1 x2 x3 S).1 (b_X6_roll_0 x1 x2 x3 S).2.1 (b_X6_roll_0 x1 x2 x3 S).2.2 := cxi_of hI (by decide +kernel) (Nat.le_of_ble_eq_true rfl) rfl (fun p e s m args below meth c X F hnt hr hlocks => t_X6_roll_0 X F hnt hst hr hlocks x1 x2 x3 S _ _ _ ho (pe3i _))
end
/-! RX6.bestHorse -/
abbrev rm_X6_bestHorse : Room := { frames := 7, cells := 2, slots := 12, locals := 112 }
section
variable {p : Program} {l : Launch} {e : Env} {s : State} {m : MethodId} {args : Array Value} {below : List Frame} {meth : Method} {c : Code} {D : va_G} {q : Nat → ClassId} {ad : Nat → Nat} {d : UInt64} {sa : Nat → Nat}
def b_X6_bestHorse_12 (v1 : Int32) (S : Sx) : Nat × Int32 × Sx := if (b_X0_bestRollerFor_0 15 v1 S) = (-1) then (4, 0, S) else (0, b_X0_bestRollerFor_0 15 v1 S, S)
def o_X6_bestHorse_12 (v1 : Int32) (S : Sx) : Prop := o_X0_bestRollerFor_0 15 v1 S ∧ True
set_option maxRecDepth 20000 in
theorem t_X6_bestHorse_12 (X : Cx p m c cX6_bestHorse 3 s args RX6 D q ad) (F : XF ad s.heap.size sa s) (hnt : ∀ x ∈ c.exceptionTable.toList, False) (hst : l.stackTraces = false) (hr : meth.sig.returnType = some .int) (hlocks : meth.locks = false) (v1 : Int32) (S : Sx) (xc : Nat) (rv : Int32) (S' : Sx) (ho : o_X6_bestHorse_12 v1 S) (he : b_X6_bestHorse_12 v1 S = (xc, rv, S')) : Jg p l e rm_X6_bestHorse s m args below meth c 1 6 (vx_MQ below (QiX D q ad d xc rv S' s.heap.size) (XQ D q ad d xc S' s.heap.size) args s 2 12 (AU ad s.heap.size)) D q ad d 3 12 [(0, .ref (ad 0)), (1, .int v1)] [] S := by
  unfold b_X6_bestHorse_12 at he
  unfold o_X6_bestHorse_12 at ho
  refine j_aload_n X 0 dX6_bestHorse_12 rfl ?_
  refine gf_20_0 X m_fl_X6_10 kc20 dX6_bestHorse_13 ?_
  refine j_iload_n X 1 dX6_bestHorse_16 rfl ?_
  have h2 := ho.1
  have ho := ho.2
  refine j_callVi (rest := []) X (c_X0_bestRollerFor (cx_inj X) 15 kg0 v1 S h2) cw_X6_179 kg0.1 (cl_0 kg0) rfl ⟨rfl, rfl, Nat.le_of_ble_eq_true rfl, Nat.le_of_ble_eq_true rfl⟩ rfl rfl (Nat.le_of_ble_eq_true rfl) ⟨Nat.le_of_ble_eq_true rfl, Nat.le_of_ble_eq_true rfl⟩ dX6_bestHorse_17 ?_
  refine j_istore_n X [(2, .int (b_X0_bestRollerFor_0 15 v1 S)), (0, .ref (ad 0)), (1, .int v1)] dX6_bestHorse_20 (by decide) rfl ?_
  refine j_iload_n X 0 dX6_bestHorse_21 rfl ?_
  refine j_iconst (v := (-1)) X dX6_bestHorse_22 (by decide) ?_
  refine j_icmp_ne X 36 dX6_bestHorse_23 (by decide) (fun h3 => ?_) (fun h3 => ?_)
  · rw [if_neg h3] at he
    refine j_iload_n X 0 dX6_bestHorse_36 rfl ?_
    exact j_iretX X hr hlocks ⟨by decide, by decide⟩ dX6_bestHorse_37 (pe3 he)
  · rw [if_pos h3] at he
    exact j_throw4 X F hnt hlocks hst m_sr_184 dX6_bestHorse_26 dX6_bestHorse_29 dX6_bestHorse_30 dX6_bestHorse_32 dX6_bestHorse_35 ⟨Nat.le_of_ble_eq_true rfl, Nat.le_of_ble_eq_true rfl, Nat.le_of_ble_eq_true rfl, Nat.le_of_ble_eq_true rfl⟩ ⟨by decide, by decide⟩ (pe2 he)
def b_X6_bestHorse_0 (x1 : Int32) (S : Sx) : Nat × Int32 × Sx := if (b_X6_settle_0 (b_X0_pitchVerdict_0 15 x1 S) S).1 = 0 then b_X6_bestHorse_12 x1 ((b_X6_settle_0 (b_X0_pitchVerdict_0 15 x1 S) S).2.2) else ((b_X6_settle_0 (b_X0_pitchVerdict_0 15 x1 S) S).1, 0, (b_X6_settle_0 (b_X0_pitchVerdict_0 15 x1 S) S).2.2)
def o_X6_bestHorse_0 (x1 : Int32) (S : Sx) : Prop := (b_X6_settle_0 (b_X0_pitchVerdict_0 15 x1 S) S).1 = 0 → (o_X6_bestHorse_12 x1 ((b_X6_settle_0 (b_X0_pitchVerdict_0 15 x1 S) S).2.2))
set_option maxRecDepth 20000 in
theorem t_X6_bestHorse_0 (X : Cx p m c cX6_bestHorse 3 s args RX6 D q ad) (F : XF ad s.heap.size sa s) (hnt : ∀ x ∈ c.exceptionTable.toList, False) (hst : l.stackTraces = false) (hr : meth.sig.returnType = some .int) (hlocks : meth.locks = false) (x1 : Int32) (S : Sx) (xc : Nat) (rv : Int32) (S' : Sx) (ho : o_X6_bestHorse_0 x1 S) (he : b_X6_bestHorse_0 x1 S = (xc, rv, S')) : Jg p l e rm_X6_bestHorse s m args below meth c 0 0 (vx_MQ below (QiX D q ad d xc rv S' s.heap.size) (XQ D q ad d xc S' s.heap.size) args s 2 12 (AU ad s.heap.size)) D q ad d 3 0 [(0, .ref (ad 0)), (1, .int x1)] [] S := by
  unfold b_X6_bestHorse_0 at he
  unfold o_X6_bestHorse_0 at ho
  refine j_aload_n X 0 dX6_bestHorse_0 rfl ?_
  refine j_aload_n X 0 dX6_bestHorse_1 rfl ?_
  refine gf_20_0 X m_fl_X6_10 kc20 dX6_bestHorse_2 ?_
  refine j_iload_n X 1 dX6_bestHorse_5 rfl ?_
  refine j_callVi (rest := [.ref (ad 0)]) X (c_X0_pitchVerdict (cx_inj X) 15 kg0 x1 S) cw_X6_95 kg0.1 (cl_0 kg0) rfl ⟨rfl, rfl, Nat.le_of_ble_eq_true rfl, Nat.le_of_ble_eq_true rfl⟩ rfl rfl (Nat.le_of_ble_eq_true rfl) ⟨Nat.le_of_ble_eq_true rfl, Nat.le_of_ble_eq_true rfl⟩ dX6_bestHorse_6 ?_
  refine j_callXv (rest := []) X F hnt hlocks (c_X6_settle hst (cx_inj X) (b_X0_pitchVerdict_0 15 x1 S) S) cw_X6_69 kc20.1 (cl_20 kc20) rfl ⟨rfl, rfl, Nat.le_of_ble_eq_true rfl, Nat.le_of_ble_eq_true rfl⟩ rfl rfl (Nat.le_of_ble_eq_true rfl) ⟨Nat.le_of_ble_eq_true rfl, Nat.le_of_ble_eq_true rfl⟩ ⟨by decide, by decide⟩ dX6_bestHorse_9 (fun h2 => ?_) (fun h2 => ?_)
  · rw [if_neg h2] at he
    exact pe2 he
  · rw [if_pos h2] at he
    have ho := ho h2
    exact t_X6_bestHorse_12 X F hnt hst hr hlocks x1 ((b_X6_settle_0 (b_X0_pitchVerdict_0 15 x1 S) S).2.2) _ _ _ ho he
theorem c_X6_bestHorse {l : Launch} {D : va_G} {q : Nat → ClassId} {ad : Nat → Nat} {d : UInt64} {sa : Nat → Nat} (hst : l.stackTraces = false) (hI : inj4 ad) (x1 : Int32) (S : Sx) (ho : o_X6_bestHorse_0 x1 S) : CXi l yX6_bestHorse cX6_bestHorse 3 .int rm_X6_bestHorse 2 12 D q ad d sa [.ref (ad 0), .int x1] S (b_X6_bestHorse_0 x1 S).1 (b_X6_bestHorse_0 x1 S).2.1 (b_X6_bestHorse_0 x1 S).2.2 := cxi_of hI (by decide +kernel) (Nat.le_of_ble_eq_true rfl) rfl (fun p e s m args below meth c X F hnt hr hlocks => t_X6_bestHorse_0 X F hnt hst hr hlocks x1 S _ _ _ ho (pe3i _))
end
/-! RX6.umpire -/
abbrev rm_X6_umpire : Room := { frames := 8, cells := 2, slots := 12, locals := 132 }
section
variable {p : Program} {l : Launch} {e : Env} {s : State} {m : MethodId} {args : Array Value} {below : List Frame} {meth : Method} {c : Code} {D : va_G} {q : Nat → ClassId} {ad : Nat → Nat} {d : UInt64} {sa : Nat → Nat}
def b_X6_umpire_42  (S : Sx) : Nat × Int32 × Sx := (0, S 15 8, up2 S 15 8 ((S 15 8) + 1))
set_option maxRecDepth 20000 in
theorem t_X6_umpire_42 (X : Cx p m c cX6_umpire 2 s args RX6 D q ad) (F : XF ad s.heap.size sa s) (hnt : ∀ x ∈ c.exceptionTable.toList, False) (hst : l.stackTraces = false) (hr : meth.sig.returnType = some .int) (hlocks : meth.locks = false) (S : Sx) (xc : Nat) (rv : Int32) (S' : Sx) (he : b_X6_umpire_42 S = (xc, rv, S')) : Jg p l e rm_X6_umpire s m args below meth c 2 12 (vx_MQ below (QiX D q ad d xc rv S' s.heap.size) (XQ D q ad d xc S' s.heap.size) args s 2 12 (AU ad s.heap.size)) D q ad d 2 42 [(0, .ref (ad 0))] [] S := by
  unfold b_X6_umpire_42 at he
  refine j_aload_n X 0 dX6_umpire_42 rfl ?_
  refine gf_20_0 X m_fl_X6_10 kc20 dX6_umpire_43 ?_
  refine j_dup X dX6_umpire_46 rfl ?_
  refine gf_0_8 X m_fl_X6_187 kg0 dX6_umpire_47 ?_
  refine j_dup_x1 X dX6_umpire_50 rfl rfl ?_
  refine j_iconst (v := 1) X dX6_umpire_51 (by decide) ?_
  refine j_iadd X dX6_umpire_52 ?_
  refine pf_0_8 X m_fl_X6_187 kg0 dX6_umpire_53 ?_
  exact j_iretX X hr hlocks ⟨by decide, by decide⟩ dX6_umpire_56 (pe3 he)
def b_X6_umpire_26 (v1 : Int32) (S : Sx) : Nat × Int32 × Sx := b_X6_umpire_42 (up2 S (15 + 3) ((S 15 8).toNatClampNeg) v1)
def o_X6_umpire_26 (v1 : Int32) (S : Sx) : Prop := vp_in (S 15 8) 3 ∧ True
set_option maxRecDepth 20000 in
theorem t_X6_umpire_26 (X : Cx p m c cX6_umpire 2 s args RX6 D q ad) (F : XF ad s.heap.size sa s) (hnt : ∀ x ∈ c.exceptionTable.toList, False) (hst : l.stackTraces = false) (hr : meth.sig.returnType = some .int) (hlocks : meth.locks = false) (v1 : Int32) (S : Sx) (xc : Nat) (rv : Int32) (S' : Sx) (ho : o_X6_umpire_26 v1 S) (he : b_X6_umpire_26 v1 S = (xc, rv, S')) : Jg p l e rm_X6_umpire s m args below meth c 2 12 (vx_MQ below (QiX D q ad d xc rv S' s.heap.size) (XQ D q ad d xc S' s.heap.size) args s 2 12 (AU ad s.heap.size)) D q ad d 2 26 [(0, .ref (ad 0)), (1, .int v1)] [] S := by
  unfold b_X6_umpire_26 at he
  unfold o_X6_umpire_26 at ho
  refine j_aload_n X 0 dX6_umpire_26 rfl ?_
  refine gf_20_0 X m_fl_X6_10 kc20 dX6_umpire_27 ?_
  refine gf_0_9 X m_fl_X6_190 kg0 dX6_umpire_30 ?_
  refine j_aload_n X 0 dX6_umpire_33 rfl ?_
  refine gf_20_0 X m_fl_X6_10 kc20 dX6_umpire_34 ?_
  refine gf_0_8 X m_fl_X6_187 kg0 dX6_umpire_37 ?_
  refine j_iload_n X 1 dX6_umpire_40 rfl ?_
  have h2 := ho.1
  have ho := ho.2
  refine j_iast X (k0_3 kg0).1 (fun T => cl_3 (k0_3 kg0)) h2 dX6_umpire_41 ?_
  refine j_lv [0] [(0, .ref (ad 0))] rfl ?_
  exact t_X6_umpire_42 X F hnt hst hr hlocks (up2 S (15 + 3) ((S 15 8).toNatClampNeg) v1) _ _ _ he
def b_X6_umpire_11 (v1 : Int32) (S : Sx) : Nat × Int32 × Sx := if (b_X6_admit_0 (b_X6_roomVerdict_0 (S 15 8) 3 S) S).1 = 0 then b_X6_umpire_26 v1 ((b_X6_admit_0 (b_X6_roomVerdict_0 (S 15 8) 3 S) S).2.2) else ((b_X6_admit_0 (b_X6_roomVerdict_0 (S 15 8) 3 S) S).1, 0, (b_X6_admit_0 (b_X6_roomVerdict_0 (S 15 8) 3 S) S).2.2)
def o_X6_umpire_11 (v1 : Int32) (S : Sx) : Prop := o_X6_admit_0 (b_X6_roomVerdict_0 (S 15 8) 3 S) S ∧ ((b_X6_admit_0 (b_X6_roomVerdict_0 (S 15 8) 3 S) S).1 = 0 → (o_X6_umpire_26 v1 ((b_X6_admit_0 (b_X6_roomVerdict_0 (S 15 8) 3 S) S).2.2)))
set_option maxRecDepth 20000 in
theorem t_X6_umpire_11 (X : Cx p m c cX6_umpire 2 s args RX6 D q ad) (F : XF ad s.heap.size sa s) (hnt : ∀ x ∈ c.exceptionTable.toList, False) (hst : l.stackTraces = false) (hr : meth.sig.returnType = some .int) (hlocks : meth.locks = false) (v1 : Int32) (S : Sx) (xc : Nat) (rv : Int32) (S' : Sx) (ho : o_X6_umpire_11 v1 S) (he : b_X6_umpire_11 v1 S = (xc, rv, S')) : Jg p l e rm_X6_umpire s m args below meth c 1 6 (vx_MQ below (QiX D q ad d xc rv S' s.heap.size) (XQ D q ad d xc S' s.heap.size) args s 2 12 (AU ad s.heap.size)) D q ad d 2 11 [(0, .ref (ad 0)), (1, .int v1)] [] S := by
  unfold b_X6_umpire_11 at he
  unfold o_X6_umpire_11 at ho
  refine j_aload_n X 0 dX6_umpire_11 rfl ?_
  refine j_aload_n X 0 dX6_umpire_12 rfl ?_
  refine gf_20_0 X m_fl_X6_10 kc20 dX6_umpire_13 ?_
  refine gf_0_8 X m_fl_X6_187 kg0 dX6_umpire_16 ?_
  refine j_iconst (v := 3) X dX6_umpire_19 (by decide) ?_
  refine j_callSi (rest := [.ref (ad 0)]) X (c_X6_roomVerdict (cx_inj X) (S 15 8) 3 S) cw_X6_75 ⟨rfl, rfl, Nat.le_of_ble_eq_true rfl, Nat.le_of_ble_eq_true rfl⟩ rfl rfl (Nat.le_of_ble_eq_true rfl) ⟨Nat.le_of_ble_eq_true rfl, Nat.le_of_ble_eq_true rfl⟩ dX6_umpire_20 ?_
  have h2 := ho.1
  have ho := ho.2
  refine j_callXv (rest := []) X F hnt hlocks (c_X6_admit hst (cx_inj X) (b_X6_roomVerdict_0 (S 15 8) 3 S) S h2) cw_X6_47 kc20.1 (cl_20 kc20) rfl ⟨rfl, rfl, Nat.le_of_ble_eq_true rfl, Nat.le_of_ble_eq_true rfl⟩ rfl rfl (Nat.le_of_ble_eq_true rfl) ⟨Nat.le_of_ble_eq_true rfl, Nat.le_of_ble_eq_true rfl⟩ ⟨by decide, by decide⟩ dX6_umpire_23 (fun h3 => ?_) (fun h3 => ?_)
  · rw [if_neg h3] at he
    exact pe2 he
  · rw [if_pos h3] at he
    have ho := ho h3
    exact t_X6_umpire_26 X F hnt hst hr hlocks v1 ((b_X6_admit_0 (b_X6_roomVerdict_0 (S 15 8) 3 S) S).2.2) _ _ _ ho he
def b_X6_umpire_0 (x1 : Int32) (S : Sx) : Nat × Int32 × Sx := if (b_X6_settle_0 (b_X6_rangeVerdict_0 x1 1 9 S) S).1 = 0 then b_X6_umpire_11 x1 ((b_X6_settle_0 (b_X6_rangeVerdict_0 x1 1 9 S) S).2.2) else ((b_X6_settle_0 (b_X6_rangeVerdict_0 x1 1 9 S) S).1, 0, (b_X6_settle_0 (b_X6_rangeVerdict_0 x1 1 9 S) S).2.2)
def o_X6_umpire_0 (x1 : Int32) (S : Sx) : Prop := (b_X6_settle_0 (b_X6_rangeVerdict_0 x1 1 9 S) S).1 = 0 → (o_X6_umpire_11 x1 ((b_X6_settle_0 (b_X6_rangeVerdict_0 x1 1 9 S) S).2.2))
set_option maxRecDepth 20000 in
theorem t_X6_umpire_0 (X : Cx p m c cX6_umpire 2 s args RX6 D q ad) (F : XF ad s.heap.size sa s) (hnt : ∀ x ∈ c.exceptionTable.toList, False) (hst : l.stackTraces = false) (hr : meth.sig.returnType = some .int) (hlocks : meth.locks = false) (x1 : Int32) (S : Sx) (xc : Nat) (rv : Int32) (S' : Sx) (ho : o_X6_umpire_0 x1 S) (he : b_X6_umpire_0 x1 S = (xc, rv, S')) : Jg p l e rm_X6_umpire s m args below meth c 0 0 (vx_MQ below (QiX D q ad d xc rv S' s.heap.size) (XQ D q ad d xc S' s.heap.size) args s 2 12 (AU ad s.heap.size)) D q ad d 2 0 [(0, .ref (ad 0)), (1, .int x1)] [] S := by
  unfold b_X6_umpire_0 at he
  unfold o_X6_umpire_0 at ho
  refine j_aload_n X 0 dX6_umpire_0 rfl ?_
  refine j_iload_n X 1 dX6_umpire_1 rfl ?_
  refine j_iconst (v := 1) X dX6_umpire_2 (by decide) ?_
  refine j_bipush (v := 9) X dX6_umpire_3 (by decide) ?_
  refine j_callSi (rest := [.ref (ad 0)]) X (c_X6_rangeVerdict (cx_inj X) x1 1 9 S) cw_X6_120 ⟨rfl, rfl, Nat.le_of_ble_eq_true rfl, Nat.le_of_ble_eq_true rfl⟩ rfl rfl (Nat.le_of_ble_eq_true rfl) ⟨Nat.le_of_ble_eq_true rfl, Nat.le_of_ble_eq_true rfl⟩ dX6_umpire_5 ?_
  refine j_callXv (rest := []) X F hnt hlocks (c_X6_settle hst (cx_inj X) (b_X6_rangeVerdict_0 x1 1 9 S) S) cw_X6_69 kc20.1 (cl_20 kc20) rfl ⟨rfl, rfl, Nat.le_of_ble_eq_true rfl, Nat.le_of_ble_eq_true rfl⟩ rfl rfl (Nat.le_of_ble_eq_true rfl) ⟨Nat.le_of_ble_eq_true rfl, Nat.le_of_ble_eq_true rfl⟩ ⟨by decide, by decide⟩ dX6_umpire_8 (fun h2 => ?_) (fun h2 => ?_)
  · rw [if_neg h2] at he
    exact pe2 he
  · rw [if_pos h2] at he
    have ho := ho h2
    exact t_X6_umpire_11 X F hnt hst hr hlocks x1 ((b_X6_settle_0 (b_X6_rangeVerdict_0 x1 1 9 S) S).2.2) _ _ _ ho he
theorem c_X6_umpire {l : Launch} {D : va_G} {q : Nat → ClassId} {ad : Nat → Nat} {d : UInt64} {sa : Nat → Nat} (hst : l.stackTraces = false) (hI : inj4 ad) (x1 : Int32) (S : Sx) (ho : o_X6_umpire_0 x1 S) : CXi l yX6_umpire cX6_umpire 2 .int rm_X6_umpire 2 12 D q ad d sa [.ref (ad 0), .int x1] S (b_X6_umpire_0 x1 S).1 (b_X6_umpire_0 x1 S).2.1 (b_X6_umpire_0 x1 S).2.2 := cxi_of hI (by decide +kernel) (Nat.le_of_ble_eq_true rfl) rfl (fun p e s m args below meth c X F hnt hr hlocks => t_X6_umpire_0 X F hnt hst hr hlocks x1 S _ _ _ ho (pe3i _))
end
/-! RX6.call -/
abbrev rm_X6_call : Room := { frames := 7, cells := 1, slots := 6, locals := 111 }
section
variable {p : Program} {l : Launch} {e : Env} {s : State} {m : MethodId} {args : Array Value} {below : List Frame} {meth : Method} {c : Code} {D : va_G} {q : Nat → ClassId} {ad : Nat → Nat} {d : UInt64} {sa : Nat → Nat}
def b_X6_call_13 (v1 : Int32) (v2 : Int32) (S : Sx) : Nat × Int32 × Sx := (0, b_X0_callOf_0 15 v1 v2 S, S)
def o_X6_call_13 (v1 : Int32) (v2 : Int32) (S : Sx) : Prop := o_X0_callOf_0 15 v1 v2 S ∧ True
set_option maxRecDepth 20000 in
theorem t_X6_call_13 (X : Cx p m c cX6_call 3 s args RX6 D q ad) (F : XF ad s.heap.size sa s) (hnt : ∀ x ∈ c.exceptionTable.toList, False) (hst : l.stackTraces = false) (hr : meth.sig.returnType = some .int) (hlocks : meth.locks = false) (v1 : Int32) (v2 : Int32) (S : Sx) (xc : Nat) (rv : Int32) (S' : Sx) (ho : o_X6_call_13 v1 v2 S) (he : b_X6_call_13 v1 v2 S = (xc, rv, S')) : Jg p l e rm_X6_call s m args below meth c 1 6 (vx_MQ below (QiX D q ad d xc rv S' s.heap.size) (XQ D q ad d xc S' s.heap.size) args s 1 6 (AU ad s.heap.size)) D q ad d 3 13 [(0, .ref (ad 0)), (1, .int v1), (2, .int v2)] [] S := by
  unfold b_X6_call_13 at he
  unfold o_X6_call_13 at ho
  refine j_aload_n X 0 dX6_call_13 rfl ?_
  refine gf_20_0 X m_fl_X6_10 kc20 dX6_call_14 ?_
  refine j_iload_n X 1 dX6_call_17 rfl ?_
  refine j_iload_n X 2 dX6_call_18 rfl ?_
  have h2 := ho.1
  have ho := ho.2
  refine j_callVi (rest := []) X (c_X0_callOf (cx_inj X) 15 kg0 v1 v2 S h2) cw_X6_196 kg0.1 (cl_0 kg0) rfl ⟨rfl, rfl, Nat.le_of_ble_eq_true rfl, Nat.le_of_ble_eq_true rfl⟩ rfl rfl (Nat.le_of_ble_eq_true rfl) ⟨Nat.le_of_ble_eq_true rfl, Nat.le_of_ble_eq_true rfl⟩ dX6_call_19 ?_
  exact j_iretX X hr hlocks ⟨by decide, by decide⟩ dX6_call_22 (pe3 he)
def b_X6_call_0 (x1 : Int32) (x2 : Int32) (S : Sx) : Nat × Int32 × Sx := if (b_X6_settle_0 (b_X0_callerVerdict_0 15 x1 x2 S) S).1 = 0 then b_X6_call_13 x1 x2 ((b_X6_settle_0 (b_X0_callerVerdict_0 15 x1 x2 S) S).2.2) else ((b_X6_settle_0 (b_X0_callerVerdict_0 15 x1 x2 S) S).1, 0, (b_X6_settle_0 (b_X0_callerVerdict_0 15 x1 x2 S) S).2.2)
def o_X6_call_0 (x1 : Int32) (x2 : Int32) (S : Sx) : Prop := (b_X6_settle_0 (b_X0_callerVerdict_0 15 x1 x2 S) S).1 = 0 → (o_X6_call_13 x1 x2 ((b_X6_settle_0 (b_X0_callerVerdict_0 15 x1 x2 S) S).2.2))
set_option maxRecDepth 20000 in
theorem t_X6_call_0 (X : Cx p m c cX6_call 3 s args RX6 D q ad) (F : XF ad s.heap.size sa s) (hnt : ∀ x ∈ c.exceptionTable.toList, False) (hst : l.stackTraces = false) (hr : meth.sig.returnType = some .int) (hlocks : meth.locks = false) (x1 : Int32) (x2 : Int32) (S : Sx) (xc : Nat) (rv : Int32) (S' : Sx) (ho : o_X6_call_0 x1 x2 S) (he : b_X6_call_0 x1 x2 S = (xc, rv, S')) : Jg p l e rm_X6_call s m args below meth c 0 0 (vx_MQ below (QiX D q ad d xc rv S' s.heap.size) (XQ D q ad d xc S' s.heap.size) args s 1 6 (AU ad s.heap.size)) D q ad d 3 0 [(0, .ref (ad 0)), (1, .int x1), (2, .int x2)] [] S := by
  unfold b_X6_call_0 at he
  unfold o_X6_call_0 at ho
  refine j_aload_n X 0 dX6_call_0 rfl ?_
  refine j_aload_n X 0 dX6_call_1 rfl ?_
  refine gf_20_0 X m_fl_X6_10 kc20 dX6_call_2 ?_
  refine j_iload_n X 1 dX6_call_5 rfl ?_
  refine j_iload_n X 2 dX6_call_6 rfl ?_
  refine j_callVi (rest := [.ref (ad 0)]) X (c_X0_callerVerdict (cx_inj X) 15 kg0 x1 x2 S) cw_X6_193 kg0.1 (cl_0 kg0) rfl ⟨rfl, rfl, Nat.le_of_ble_eq_true rfl, Nat.le_of_ble_eq_true rfl⟩ rfl rfl (Nat.le_of_ble_eq_true rfl) ⟨Nat.le_of_ble_eq_true rfl, Nat.le_of_ble_eq_true rfl⟩ dX6_call_7 ?_
  refine j_callXv (rest := []) X F hnt hlocks (c_X6_settle hst (cx_inj X) (b_X0_callerVerdict_0 15 x1 x2 S) S) cw_X6_69 kc20.1 (cl_20 kc20) rfl ⟨rfl, rfl, Nat.le_of_ble_eq_true rfl, Nat.le_of_ble_eq_true rfl⟩ rfl rfl (Nat.le_of_ble_eq_true rfl) ⟨Nat.le_of_ble_eq_true rfl, Nat.le_of_ble_eq_true rfl⟩ ⟨by decide, by decide⟩ dX6_call_10 (fun h2 => ?_) (fun h2 => ?_)
  · rw [if_neg h2] at he
    exact pe2 he
  · rw [if_pos h2] at he
    have ho := ho h2
    exact t_X6_call_13 X F hnt hst hr hlocks x1 x2 ((b_X6_settle_0 (b_X0_callerVerdict_0 15 x1 x2 S) S).2.2) _ _ _ ho he
theorem c_X6_call {l : Launch} {D : va_G} {q : Nat → ClassId} {ad : Nat → Nat} {d : UInt64} {sa : Nat → Nat} (hst : l.stackTraces = false) (hI : inj4 ad) (x1 : Int32) (x2 : Int32) (S : Sx) (ho : o_X6_call_0 x1 x2 S) : CXi l yX6_call cX6_call 3 .int rm_X6_call 1 6 D q ad d sa [.ref (ad 0), .int x1, .int x2] S (b_X6_call_0 x1 x2 S).1 (b_X6_call_0 x1 x2 S).2.1 (b_X6_call_0 x1 x2 S).2.2 := cxi_of hI (by decide +kernel) (Nat.le_of_ble_eq_true rfl) rfl (fun p e s m args below meth c X F hnt hr hlocks => t_X6_call_0 X F hnt hst hr hlocks x1 x2 S _ _ _ ho (pe3i _))
end
/-! RX6.fitIn -/
abbrev rm_X6_fitIn : Room := { frames := 7, cells := 2, slots := 12, locals := 111 }
section
variable {p : Program} {l : Launch} {e : Env} {s : State} {m : MethodId} {args : Array Value} {below : List Frame} {meth : Method} {c : Code} {D : va_G} {q : Nat → ClassId} {ad : Nat → Nat} {d : UInt64} {sa : Nat → Nat}
def b_X6_fitIn_26 : Nat → Int32 → Int32 → Int32 → Sx → Nat × Int32 × Sx
  | 0, _, _, _, S => (0, 0, S)
  | n + 1, v1, v2, v3, S => if 48 < v3 then (4, 0, S) else if (b_X0_callOf_0 55 v1 v2 S) = 0 then (0, v3, S) else b_X6_fitIn_26 n v1 v2 (v3 + 1) ((b_X0_letHourGoBy_0 55 S).2)
def o_X6_fitIn_26 : Nat → Int32 → Int32 → Int32 → Sx → Prop
  | 0, _, _, _, _ => False
  | n + 1, v1, v2, v3, S => (48 < v3 → True) ∧ (¬ 48 < v3 → (o_X0_callOf_0 55 v1 v2 S ∧ (((b_X0_callOf_0 55 v1 v2 S) = 0 → True) ∧ (¬ (b_X0_callOf_0 55 v1 v2 S) = 0 → (o_X0_letHourGoBy_0 55 S ∧ (o_X6_fitIn_26 n v1 v2 (v3 + 1) ((b_X0_letHourGoBy_0 55 S).2)))))))
set_option maxRecDepth 20000 in
theorem t_X6_fitIn_26 (X : Cx p m c cX6_fitIn 4 s args RX6 D q ad) (F : XF ad s.heap.size sa s) (hnt : ∀ x ∈ c.exceptionTable.toList, False) (hst : l.stackTraces = false) (hr : meth.sig.returnType = some .int) (hlocks : meth.locks = false) : ∀ (n : Nat) (v1 : Int32) (v2 : Int32) (v3 : Int32) (S : Sx) (xc : Nat) (rv : Int32) (S' : Sx) (ho : o_X6_fitIn_26 n v1 v2 v3 S) (he : b_X6_fitIn_26 n v1 v2 v3 S = (xc, rv, S')), Jg p l e rm_X6_fitIn s m args below meth c 1 6 (vx_MQ below (QiX D q ad d xc rv S' s.heap.size) (XQ D q ad d xc S' s.heap.size) args s 2 12 (AU ad s.heap.size)) D q ad d 4 26 [(0, .ref (ad 0)), (1, .int v1), (2, .int v2), (3, .int v3)] [] S := by
  intro n
  induction n with
  | zero =>
    intro v1 v2 v3 S xc rv S' ho he
    unfold o_X6_fitIn_26 at ho
    exact ho.elim
  | succ n ih =>
    intro v1 v2 v3 S xc rv S' ho he
    unfold b_X6_fitIn_26 at he
    unfold o_X6_fitIn_26 at ho
    refine j_iload_n X 3 dX6_fitIn_26 rfl ?_
    refine j_bipush (v := 48) X dX6_fitIn_27 (by decide) ?_
    refine j_icmp_gt X 60 dX6_fitIn_29 (by decide) (fun h2 => ?_) (fun h2 => ?_)
    · rw [if_pos h2] at he
      have ho := ho.1 h2
      exact j_throw4 X F hnt hlocks hst m_sr_206 dX6_fitIn_60 dX6_fitIn_63 dX6_fitIn_64 dX6_fitIn_66 dX6_fitIn_69 ⟨Nat.le_of_ble_eq_true rfl, Nat.le_of_ble_eq_true rfl, Nat.le_of_ble_eq_true rfl, Nat.le_of_ble_eq_true rfl⟩ ⟨by decide, by decide⟩ (pe2 he)
    · rw [if_neg h2] at he
      have ho := ho.2 h2
      refine j_aload_n X 0 dX6_fitIn_32 rfl ?_
      refine gf_20_1 X m_fl_X6_16 kc20 dX6_fitIn_33 ?_
      refine j_iload_n X 1 dX6_fitIn_36 rfl ?_
      refine j_iload_n X 2 dX6_fitIn_37 rfl ?_
      have h3 := ho.1
      have ho := ho.2
      refine j_callVi (rest := []) X (c_X0_callOf (cx_inj X) 55 kg1 v1 v2 S h3) cw_X6_196 kg1.1 (cl_0 kg1) rfl ⟨rfl, rfl, Nat.le_of_ble_eq_true rfl, Nat.le_of_ble_eq_true rfl⟩ rfl rfl (Nat.le_of_ble_eq_true rfl) ⟨Nat.le_of_ble_eq_true rfl, Nat.le_of_ble_eq_true rfl⟩ dX6_fitIn_38 ?_
      refine j_if_ne X 46 dX6_fitIn_41 (by decide) (fun h4 => ?_) (fun h4 => ?_)
      · rw [if_neg h4] at he
        have ho := ho.2 h4
        refine j_aload_n X 0 dX6_fitIn_46 rfl ?_
        refine gf_20_1 X m_fl_X6_16 kc20 dX6_fitIn_47 ?_
        have h5 := ho.1
        have ho := ho.2
        refine j_callVi (rest := []) X (c_X0_letHourGoBy (cx_inj X) 55 kg1 S h5) cw_X6_203 kg1.1 (cl_0 kg1) rfl ⟨rfl, rfl, Nat.le_of_ble_eq_true rfl, Nat.le_of_ble_eq_true rfl⟩ rfl rfl (Nat.le_of_ble_eq_true rfl) ⟨Nat.le_of_ble_eq_true rfl, Nat.le_of_ble_eq_true rfl⟩ dX6_fitIn_50 ?_
        refine j_pop X dX6_fitIn_53 rfl ?_
        refine j_iinc X 3 (v3 + 1) [(3, .int (v3 + 1)), (0, .ref (ad 0)), (1, .int v1), (2, .int v2)] dX6_fitIn_54 rfl rfl (by decide) rfl ?_
        refine j_goto X 26 dX6_fitIn_57 (by decide) ?_
        refine j_lv [1, 2, 3, 0] [(0, .ref (ad 0)), (1, .int v1), (2, .int v2), (3, .int (v3 + 1))] rfl ?_
        exact ih v1 v2 (v3 + 1) ((b_X0_letHourGoBy_0 55 S).2) _ _ _ ho he
      · rw [if_pos h4] at he
        have ho := ho.1 h4
        refine j_iload_n X 3 dX6_fitIn_44 rfl ?_
        exact j_iretX X hr hlocks ⟨by decide, by decide⟩ dX6_fitIn_45 (pe3 he)
def b_X6_fitIn_13 (v1 : Int32) (v2 : Int32) (S : Sx) : Nat × Int32 × Sx := b_X6_fitIn_26 100 v1 v2 0 (b_X0_become_0 55 15 S)
def o_X6_fitIn_13 (v1 : Int32) (v2 : Int32) (S : Sx) : Prop := o_X0_become_0 55 15 S ∧ (o_X6_fitIn_26 100 v1 v2 0 (b_X0_become_0 55 15 S))
set_option maxRecDepth 20000 in
theorem t_X6_fitIn_13 (X : Cx p m c cX6_fitIn 4 s args RX6 D q ad) (F : XF ad s.heap.size sa s) (hnt : ∀ x ∈ c.exceptionTable.toList, False) (hst : l.stackTraces = false) (hr : meth.sig.returnType = some .int) (hlocks : meth.locks = false) (v1 : Int32) (v2 : Int32) (S : Sx) (xc : Nat) (rv : Int32) (S' : Sx) (ho : o_X6_fitIn_13 v1 v2 S) (he : b_X6_fitIn_13 v1 v2 S = (xc, rv, S')) : Jg p l e rm_X6_fitIn s m args below meth c 1 6 (vx_MQ below (QiX D q ad d xc rv S' s.heap.size) (XQ D q ad d xc S' s.heap.size) args s 2 12 (AU ad s.heap.size)) D q ad d 4 13 [(0, .ref (ad 0)), (1, .int v1), (2, .int v2)] [] S := by
  unfold b_X6_fitIn_13 at he
  unfold o_X6_fitIn_13 at ho
  refine j_aload_n X 0 dX6_fitIn_13 rfl ?_
  refine gf_20_1 X m_fl_X6_16 kc20 dX6_fitIn_14 ?_
  refine j_aload_n X 0 dX6_fitIn_17 rfl ?_
  refine gf_20_0 X m_fl_X6_10 kc20 dX6_fitIn_18 ?_
  have h2 := ho.1
  have ho := ho.2
  refine j_callVv (rest := []) X (c_X0_become (cx_inj X) 55 kg1 15 kg0 S h2) cw_X6_199 kg1.1 (cl_0 kg1) rfl ⟨rfl, rfl, Nat.le_of_ble_eq_true rfl, Nat.le_of_ble_eq_true rfl⟩ rfl rfl (Nat.le_of_ble_eq_true rfl) ⟨Nat.le_of_ble_eq_true rfl, Nat.le_of_ble_eq_true rfl⟩ dX6_fitIn_21 ?_
  refine j_iconst (v := 0) X dX6_fitIn_24 (by decide) ?_
  refine j_istore_n X [(3, .int 0), (0, .ref (ad 0)), (1, .int v1), (2, .int v2)] dX6_fitIn_25 (by decide) rfl ?_
  refine j_lv [1, 2, 3, 0] [(0, .ref (ad 0)), (1, .int v1), (2, .int v2), (3, .int 0)] rfl ?_
  exact t_X6_fitIn_26 X F hnt hst hr hlocks 100 v1 v2 0 (b_X0_become_0 55 15 S) _ _ _ ho he
def b_X6_fitIn_0 (x1 : Int32) (x2 : Int32) (S : Sx) : Nat × Int32 × Sx := if (b_X6_settle_0 (b_X0_callerVerdict_0 15 x1 x2 S) S).1 = 0 then b_X6_fitIn_13 x1 x2 ((b_X6_settle_0 (b_X0_callerVerdict_0 15 x1 x2 S) S).2.2) else ((b_X6_settle_0 (b_X0_callerVerdict_0 15 x1 x2 S) S).1, 0, (b_X6_settle_0 (b_X0_callerVerdict_0 15 x1 x2 S) S).2.2)
def o_X6_fitIn_0 (x1 : Int32) (x2 : Int32) (S : Sx) : Prop := (b_X6_settle_0 (b_X0_callerVerdict_0 15 x1 x2 S) S).1 = 0 → (o_X6_fitIn_13 x1 x2 ((b_X6_settle_0 (b_X0_callerVerdict_0 15 x1 x2 S) S).2.2))
set_option maxRecDepth 20000 in
theorem t_X6_fitIn_0 (X : Cx p m c cX6_fitIn 4 s args RX6 D q ad) (F : XF ad s.heap.size sa s) (hnt : ∀ x ∈ c.exceptionTable.toList, False) (hst : l.stackTraces = false) (hr : meth.sig.returnType = some .int) (hlocks : meth.locks = false) (x1 : Int32) (x2 : Int32) (S : Sx) (xc : Nat) (rv : Int32) (S' : Sx) (ho : o_X6_fitIn_0 x1 x2 S) (he : b_X6_fitIn_0 x1 x2 S = (xc, rv, S')) : Jg p l e rm_X6_fitIn s m args below meth c 0 0 (vx_MQ below (QiX D q ad d xc rv S' s.heap.size) (XQ D q ad d xc S' s.heap.size) args s 2 12 (AU ad s.heap.size)) D q ad d 4 0 [(0, .ref (ad 0)), (1, .int x1), (2, .int x2)] [] S := by
  unfold b_X6_fitIn_0 at he
  unfold o_X6_fitIn_0 at ho
  refine j_aload_n X 0 dX6_fitIn_0 rfl ?_
  refine j_aload_n X 0 dX6_fitIn_1 rfl ?_
  refine gf_20_0 X m_fl_X6_10 kc20 dX6_fitIn_2 ?_
  refine j_iload_n X 1 dX6_fitIn_5 rfl ?_
  refine j_iload_n X 2 dX6_fitIn_6 rfl ?_
  refine j_callVi (rest := [.ref (ad 0)]) X (c_X0_callerVerdict (cx_inj X) 15 kg0 x1 x2 S) cw_X6_193 kg0.1 (cl_0 kg0) rfl ⟨rfl, rfl, Nat.le_of_ble_eq_true rfl, Nat.le_of_ble_eq_true rfl⟩ rfl rfl (Nat.le_of_ble_eq_true rfl) ⟨Nat.le_of_ble_eq_true rfl, Nat.le_of_ble_eq_true rfl⟩ dX6_fitIn_7 ?_
  refine j_callXv (rest := []) X F hnt hlocks (c_X6_settle hst (cx_inj X) (b_X0_callerVerdict_0 15 x1 x2 S) S) cw_X6_69 kc20.1 (cl_20 kc20) rfl ⟨rfl, rfl, Nat.le_of_ble_eq_true rfl, Nat.le_of_ble_eq_true rfl⟩ rfl rfl (Nat.le_of_ble_eq_true rfl) ⟨Nat.le_of_ble_eq_true rfl, Nat.le_of_ble_eq_true rfl⟩ ⟨by decide, by decide⟩ dX6_fitIn_10 (fun h2 => ?_) (fun h2 => ?_)
  · rw [if_neg h2] at he
    exact pe2 he
  · rw [if_pos h2] at he
    have ho := ho h2
    exact t_X6_fitIn_13 X F hnt hst hr hlocks x1 x2 ((b_X6_settle_0 (b_X0_callerVerdict_0 15 x1 x2 S) S).2.2) _ _ _ ho he
theorem c_X6_fitIn {l : Launch} {D : va_G} {q : Nat → ClassId} {ad : Nat → Nat} {d : UInt64} {sa : Nat → Nat} (hst : l.stackTraces = false) (hI : inj4 ad) (x1 : Int32) (x2 : Int32) (S : Sx) (ho : o_X6_fitIn_0 x1 x2 S) : CXi l yX6_fitIn cX6_fitIn 4 .int rm_X6_fitIn 2 12 D q ad d sa [.ref (ad 0), .int x1, .int x2] S (b_X6_fitIn_0 x1 x2 S).1 (b_X6_fitIn_0 x1 x2 S).2.1 (b_X6_fitIn_0 x1 x2 S).2.2 := cxi_of hI (by decide +kernel) (Nat.le_of_ble_eq_true rfl) rfl (fun p e s m args below meth c X F hnt hr hlocks => t_X6_fitIn_0 X F hnt hst hr hlocks x1 x2 S _ _ _ ho (pe3i _))
end
/-! RX6.bestPitch -/
abbrev rm_X6_bestPitch : Room := { frames := 7, cells := 2, slots := 12, locals := 111 }
section
variable {p : Program} {l : Launch} {e : Env} {s : State} {m : MethodId} {args : Array Value} {below : List Frame} {meth : Method} {c : Code} {D : va_G} {q : Nat → ClassId} {ad : Nat → Nat} {d : UInt64} {sa : Nat → Nat}
def b_X6_bestPitch_12 (v1 : Int32) (S : Sx) : Nat × Int32 × Sx := if (b_X0_bestFitPitch_0 15 v1 S) = (-1) then (4, 0, S) else (0, b_X0_bestFitPitch_0 15 v1 S, S)
def o_X6_bestPitch_12 (v1 : Int32) (S : Sx) : Prop := o_X0_bestFitPitch_0 15 v1 S ∧ True
set_option maxRecDepth 20000 in
theorem t_X6_bestPitch_12 (X : Cx p m c cX6_bestPitch 3 s args RX6 D q ad) (F : XF ad s.heap.size sa s) (hnt : ∀ x ∈ c.exceptionTable.toList, False) (hst : l.stackTraces = false) (hr : meth.sig.returnType = some .int) (hlocks : meth.locks = false) (v1 : Int32) (S : Sx) (xc : Nat) (rv : Int32) (S' : Sx) (ho : o_X6_bestPitch_12 v1 S) (he : b_X6_bestPitch_12 v1 S = (xc, rv, S')) : Jg p l e rm_X6_bestPitch s m args below meth c 1 6 (vx_MQ below (QiX D q ad d xc rv S' s.heap.size) (XQ D q ad d xc S' s.heap.size) args s 2 12 (AU ad s.heap.size)) D q ad d 3 12 [(0, .ref (ad 0)), (1, .int v1)] [] S := by
  unfold b_X6_bestPitch_12 at he
  unfold o_X6_bestPitch_12 at ho
  refine j_aload_n X 0 dX6_bestPitch_12 rfl ?_
  refine gf_20_0 X m_fl_X6_10 kc20 dX6_bestPitch_13 ?_
  refine j_iload_n X 1 dX6_bestPitch_16 rfl ?_
  have h2 := ho.1
  have ho := ho.2
  refine j_callVi (rest := []) X (c_X0_bestFitPitch (cx_inj X) 15 kg0 v1 S h2) cw_X6_211 kg0.1 (cl_0 kg0) rfl ⟨rfl, rfl, Nat.le_of_ble_eq_true rfl, Nat.le_of_ble_eq_true rfl⟩ rfl rfl (Nat.le_of_ble_eq_true rfl) ⟨Nat.le_of_ble_eq_true rfl, Nat.le_of_ble_eq_true rfl⟩ dX6_bestPitch_17 ?_
  refine j_istore_n X [(2, .int (b_X0_bestFitPitch_0 15 v1 S)), (0, .ref (ad 0)), (1, .int v1)] dX6_bestPitch_20 (by decide) rfl ?_
  refine j_iload_n X 0 dX6_bestPitch_21 rfl ?_
  refine j_iconst (v := (-1)) X dX6_bestPitch_22 (by decide) ?_
  refine j_icmp_ne X 36 dX6_bestPitch_23 (by decide) (fun h3 => ?_) (fun h3 => ?_)
  · rw [if_neg h3] at he
    refine j_iload_n X 0 dX6_bestPitch_36 rfl ?_
    exact j_iretX X hr hlocks ⟨by decide, by decide⟩ dX6_bestPitch_37 (pe3 he)
  · rw [if_pos h3] at he
    exact j_throw4 X F hnt hlocks hst m_sr_214 dX6_bestPitch_26 dX6_bestPitch_29 dX6_bestPitch_30 dX6_bestPitch_32 dX6_bestPitch_35 ⟨Nat.le_of_ble_eq_true rfl, Nat.le_of_ble_eq_true rfl, Nat.le_of_ble_eq_true rfl, Nat.le_of_ble_eq_true rfl⟩ ⟨by decide, by decide⟩ (pe2 he)
def b_X6_bestPitch_0 (x1 : Int32) (S : Sx) : Nat × Int32 × Sx := if (b_X6_settle_0 (b_X0_umpireVerdict_0 15 x1 S) S).1 = 0 then b_X6_bestPitch_12 x1 ((b_X6_settle_0 (b_X0_umpireVerdict_0 15 x1 S) S).2.2) else ((b_X6_settle_0 (b_X0_umpireVerdict_0 15 x1 S) S).1, 0, (b_X6_settle_0 (b_X0_umpireVerdict_0 15 x1 S) S).2.2)
def o_X6_bestPitch_0 (x1 : Int32) (S : Sx) : Prop := (b_X6_settle_0 (b_X0_umpireVerdict_0 15 x1 S) S).1 = 0 → (o_X6_bestPitch_12 x1 ((b_X6_settle_0 (b_X0_umpireVerdict_0 15 x1 S) S).2.2))
set_option maxRecDepth 20000 in
theorem t_X6_bestPitch_0 (X : Cx p m c cX6_bestPitch 3 s args RX6 D q ad) (F : XF ad s.heap.size sa s) (hnt : ∀ x ∈ c.exceptionTable.toList, False) (hst : l.stackTraces = false) (hr : meth.sig.returnType = some .int) (hlocks : meth.locks = false) (x1 : Int32) (S : Sx) (xc : Nat) (rv : Int32) (S' : Sx) (ho : o_X6_bestPitch_0 x1 S) (he : b_X6_bestPitch_0 x1 S = (xc, rv, S')) : Jg p l e rm_X6_bestPitch s m args below meth c 0 0 (vx_MQ below (QiX D q ad d xc rv S' s.heap.size) (XQ D q ad d xc S' s.heap.size) args s 2 12 (AU ad s.heap.size)) D q ad d 3 0 [(0, .ref (ad 0)), (1, .int x1)] [] S := by
  unfold b_X6_bestPitch_0 at he
  unfold o_X6_bestPitch_0 at ho
  refine j_aload_n X 0 dX6_bestPitch_0 rfl ?_
  refine j_aload_n X 0 dX6_bestPitch_1 rfl ?_
  refine gf_20_0 X m_fl_X6_10 kc20 dX6_bestPitch_2 ?_
  refine j_iload_n X 1 dX6_bestPitch_5 rfl ?_
  refine j_callVi (rest := [.ref (ad 0)]) X (c_X0_umpireVerdict (cx_inj X) 15 kg0 x1 S) cw_X6_208 kg0.1 (cl_0 kg0) rfl ⟨rfl, rfl, Nat.le_of_ble_eq_true rfl, Nat.le_of_ble_eq_true rfl⟩ rfl rfl (Nat.le_of_ble_eq_true rfl) ⟨Nat.le_of_ble_eq_true rfl, Nat.le_of_ble_eq_true rfl⟩ dX6_bestPitch_6 ?_
  refine j_callXv (rest := []) X F hnt hlocks (c_X6_settle hst (cx_inj X) (b_X0_umpireVerdict_0 15 x1 S) S) cw_X6_69 kc20.1 (cl_20 kc20) rfl ⟨rfl, rfl, Nat.le_of_ble_eq_true rfl, Nat.le_of_ble_eq_true rfl⟩ rfl rfl (Nat.le_of_ble_eq_true rfl) ⟨Nat.le_of_ble_eq_true rfl, Nat.le_of_ble_eq_true rfl⟩ ⟨by decide, by decide⟩ dX6_bestPitch_9 (fun h2 => ?_) (fun h2 => ?_)
  · rw [if_neg h2] at he
    exact pe2 he
  · rw [if_pos h2] at he
    have ho := ho h2
    exact t_X6_bestPitch_12 X F hnt hst hr hlocks x1 ((b_X6_settle_0 (b_X0_umpireVerdict_0 15 x1 S) S).2.2) _ _ _ ho he
theorem c_X6_bestPitch {l : Launch} {D : va_G} {q : Nat → ClassId} {ad : Nat → Nat} {d : UInt64} {sa : Nat → Nat} (hst : l.stackTraces = false) (hI : inj4 ad) (x1 : Int32) (S : Sx) (ho : o_X6_bestPitch_0 x1 S) : CXi l yX6_bestPitch cX6_bestPitch 3 .int rm_X6_bestPitch 2 12 D q ad d sa [.ref (ad 0), .int x1] S (b_X6_bestPitch_0 x1 S).1 (b_X6_bestPitch_0 x1 S).2.1 (b_X6_bestPitch_0 x1 S).2.2 := cxi_of hI (by decide +kernel) (Nat.le_of_ble_eq_true rfl) rfl (fun p e s m args below meth c X F hnt hr hlocks => t_X6_bestPitch_0 X F hnt hst hr hlocks x1 S _ _ _ ho (pe3i _))
end
/-! RX6.innings -/
abbrev rm_X6_innings : Room := { frames := 8, cells := 1, slots := 6, locals := 132 }
section
variable {p : Program} {l : Launch} {e : Env} {s : State} {m : MethodId} {args : Array Value} {below : List Frame} {meth : Method} {c : Code} {D : va_G} {q : Nat → ClassId} {ad : Nat → Nat} {d : UInt64} {sa : Nat → Nat}
def b_X6_innings_37 (v2 : Int32) (v3 : Int32) (j4 : Nat) (S : Sx) : Nat × Int32 × Sx := (0, (up2 (up2 S j4 1 v2) j4 2 v3) 15 10, up2 (up2 (up2 S j4 1 v2) j4 2 v3) 15 10 (((up2 (up2 S j4 1 v2) j4 2 v3) 15 10) + 1))
set_option maxRecDepth 20000 in
theorem t_X6_innings_37 (X : Cx p m c cX6_innings 5 s args RX6 D q ad) (F : XF ad s.heap.size sa s) (hnt : ∀ x ∈ c.exceptionTable.toList, False) (hst : l.stackTraces = false) (hr : meth.sig.returnType = some .int) (hlocks : meth.locks = false) (v2 : Int32) (v3 : Int32) (j4 : Nat) (hj4 : isK 9 j4) (S : Sx) (xc : Nat) (rv : Int32) (S' : Sx) (he : b_X6_innings_37 v2 v3 j4 S = (xc, rv, S')) : Jg p l e rm_X6_innings s m args below meth c 1 6 (vx_MQ below (QiX D q ad d xc rv S' s.heap.size) (XQ D q ad d xc S' s.heap.size) args s 1 6 (AU ad s.heap.size)) D q ad d 5 37 [(0, .ref (ad 0)), (2, .int v2), (3, .int v3), (4, .ref (ad j4))] [] S := by
  unfold b_X6_innings_37 at he
  refine j_aload X 3 dX6_innings_37 rfl ?_
  refine j_iload_n X 1 dX6_innings_39 rfl ?_
  refine pf_9_1 X m_fl_X6_229 hj4 dX6_innings_40 ?_
  refine j_aload X 3 dX6_innings_43 rfl ?_
  refine j_iload_n X 2 dX6_innings_45 rfl ?_
  refine pf_9_2 X m_fl_X6_232 hj4 dX6_innings_46 ?_
  refine j_aload_n X 0 dX6_innings_49 rfl ?_
  refine gf_20_0 X m_fl_X6_10 kc20 dX6_innings_50 ?_
  refine j_dup X dX6_innings_53 rfl ?_
  refine gf_0_10 X m_fl_X6_223 kg0 dX6_innings_54 ?_
  refine j_dup_x1 X dX6_innings_57 rfl rfl ?_
  refine j_iconst (v := 1) X dX6_innings_58 (by decide) ?_
  refine j_iadd X dX6_innings_59 ?_
  refine pf_0_10 X m_fl_X6_223 kg0 dX6_innings_60 ?_
  exact j_iretX X hr hlocks ⟨by decide, by decide⟩ dX6_innings_63 (pe3 he)
def b_X6_innings_14 (v1 : Int32) (v2 : Int32) (v3 : Int32) (S : Sx) : Nat × Int32 × Sx := b_X6_innings_37 v2 v3 (15 + 16 + (S 15 10).toNatClampNeg) (up2 S (15 + 16 + (S 15 10).toNatClampNeg) 0 v1)
def o_X6_innings_14 (v1 : Int32) (v2 : Int32) (v3 : Int32) (S : Sx) : Prop := vp_in (S 15 10) 12 ∧ True
set_option maxRecDepth 20000 in
theorem t_X6_innings_14 (X : Cx p m c cX6_innings 5 s args RX6 D q ad) (F : XF ad s.heap.size sa s) (hnt : ∀ x ∈ c.exceptionTable.toList, False) (hst : l.stackTraces = false) (hr : meth.sig.returnType = some .int) (hlocks : meth.locks = false) (v1 : Int32) (v2 : Int32) (v3 : Int32) (S : Sx) (xc : Nat) (rv : Int32) (S' : Sx) (ho : o_X6_innings_14 v1 v2 v3 S) (he : b_X6_innings_14 v1 v2 v3 S = (xc, rv, S')) : Jg p l e rm_X6_innings s m args below meth c 1 6 (vx_MQ below (QiX D q ad d xc rv S' s.heap.size) (XQ D q ad d xc S' s.heap.size) args s 1 6 (AU ad s.heap.size)) D q ad d 5 14 [(0, .ref (ad 0)), (1, .int v1), (2, .int v2), (3, .int v3)] [] S := by
  unfold b_X6_innings_14 at he
  unfold o_X6_innings_14 at ho
  refine j_aload_n X 0 dX6_innings_14 rfl ?_
  refine gf_20_0 X m_fl_X6_10 kc20 dX6_innings_15 ?_
  refine gf_0_11 X m_fl_X6_219 kg0 dX6_innings_18 ?_
  refine j_aload_n X 0 dX6_innings_21 rfl ?_
  refine gf_20_0 X m_fl_X6_10 kc20 dX6_innings_22 ?_
  refine gf_0_10 X m_fl_X6_223 kg0 dX6_innings_25 ?_
  have h2 := ho.1
  have ho := ho.2
  refine j_aald (a := ad (15 + 16 + (S 15 10).toNatClampNeg)) X 3 (k0_6 kg0).1 (cl_6 (k0_6 kg0)) rfl h2 rfl dX6_innings_28 ?_
  have hk3 : isK 9 (15 + 16 + (S 15 10).toNatClampNeg) := k0_9 kg0 (vlt h2)
  refine j_astore X [(4, .ref (ad (15 + 16 + (S 15 10).toNatClampNeg))), (0, .ref (ad 0)), (1, .int v1), (2, .int v2), (3, .int v3)] dX6_innings_29 (by decide) rfl ?_
  refine j_aload X 0 dX6_innings_31 rfl ?_
  refine j_iload_n X 2 dX6_innings_33 rfl ?_
  refine pf_9_0 X m_fl_X6_226 hk3 dX6_innings_34 ?_
  refine j_lv [1, 3, 4, 0] [(0, .ref (ad 0)), (2, .int v2), (3, .int v3), (4, .ref (ad (15 + 16 + (S 15 10).toNatClampNeg)))] rfl ?_
  exact t_X6_innings_37 X F hnt hst hr hlocks v2 v3 (15 + 16 + (S 15 10).toNatClampNeg) hk3 (up2 S (15 + 16 + (S 15 10).toNatClampNeg) 0 v1) _ _ _ he
def b_X6_innings_0 (x1 : Int32) (x2 : Int32) (x3 : Int32) (S : Sx) : Nat × Int32 × Sx := if (b_X6_admit_0 (b_X0_inningsVerdict_0 15 x1 x2 x3 S) S).1 = 0 then b_X6_innings_14 x1 x2 x3 ((b_X6_admit_0 (b_X0_inningsVerdict_0 15 x1 x2 x3 S) S).2.2) else ((b_X6_admit_0 (b_X0_inningsVerdict_0 15 x1 x2 x3 S) S).1, 0, (b_X6_admit_0 (b_X0_inningsVerdict_0 15 x1 x2 x3 S) S).2.2)
def o_X6_innings_0 (x1 : Int32) (x2 : Int32) (x3 : Int32) (S : Sx) : Prop := o_X0_inningsVerdict_0 15 x1 x2 x3 S ∧ (o_X6_admit_0 (b_X0_inningsVerdict_0 15 x1 x2 x3 S) S ∧ ((b_X6_admit_0 (b_X0_inningsVerdict_0 15 x1 x2 x3 S) S).1 = 0 → (o_X6_innings_14 x1 x2 x3 ((b_X6_admit_0 (b_X0_inningsVerdict_0 15 x1 x2 x3 S) S).2.2))))
set_option maxRecDepth 20000 in
theorem t_X6_innings_0 (X : Cx p m c cX6_innings 5 s args RX6 D q ad) (F : XF ad s.heap.size sa s) (hnt : ∀ x ∈ c.exceptionTable.toList, False) (hst : l.stackTraces = false) (hr : meth.sig.returnType = some .int) (hlocks : meth.locks = false) (x1 : Int32) (x2 : Int32) (x3 : Int32) (S : Sx) (xc : Nat) (rv : Int32) (S' : Sx) (ho : o_X6_innings_0 x1 x2 x3 S) (he : b_X6_innings_0 x1 x2 x3 S = (xc, rv, S')) : Jg p l e rm_X6_innings s m args below meth c 0 0 (vx_MQ below (QiX D q ad d xc rv S' s.heap.size) (XQ D q ad d xc S' s.heap.size) args s 1 6 (AU ad s.heap.size)) D q ad d 5 0 [(0, .ref (ad 0)), (1, .int x1), (2, .int x2), (3, .int x3)] [] S := by
  unfold b_X6_innings_0 at he
  unfold o_X6_innings_0 at ho
  refine j_aload_n X 0 dX6_innings_0 rfl ?_
  refine j_aload_n X 0 dX6_innings_1 rfl ?_
  refine gf_20_0 X m_fl_X6_10 kc20 dX6_innings_2 ?_
  refine j_iload_n X 1 dX6_innings_5 rfl ?_
  refine j_iload_n X 2 dX6_innings_6 rfl ?_
  refine j_iload_n X 3 dX6_innings_7 rfl ?_
  have h2 := ho.1
  have ho := ho.2
  refine j_callVi (rest := [.ref (ad 0)]) X (c_X0_inningsVerdict (cx_inj X) 15 kg0 x1 x2 x3 S h2) cw_X6_216 kg0.1 (cl_0 kg0) rfl ⟨rfl, rfl, Nat.le_of_ble_eq_true rfl, Nat.le_of_ble_eq_true rfl⟩ rfl rfl (Nat.le_of_ble_eq_true rfl) ⟨Nat.le_of_ble_eq_true rfl, Nat.le_of_ble_eq_true rfl⟩ dX6_innings_8 ?_
  have h3 := ho.1
  have ho := ho.2
  refine j_callXv (rest := []) X F hnt hlocks (c_X6_admit hst (cx_inj X) (b_X0_inningsVerdict_0 15 x1 x2 x3 S) S h3) cw_X6_47 kc20.1 (cl_20 kc20) rfl ⟨rfl, rfl, Nat.le_of_ble_eq_true rfl, Nat.le_of_ble_eq_true rfl⟩ rfl rfl (Nat.le_of_ble_eq_true rfl) ⟨Nat.le_of_ble_eq_true rfl, Nat.le_of_ble_eq_true rfl⟩ ⟨by decide, by decide⟩ dX6_innings_11 (fun h4 => ?_) (fun h4 => ?_)
  · rw [if_neg h4] at he
    exact pe2 he
  · rw [if_pos h4] at he
    have ho := ho h4
    exact t_X6_innings_14 X F hnt hst hr hlocks x1 x2 x3 ((b_X6_admit_0 (b_X0_inningsVerdict_0 15 x1 x2 x3 S) S).2.2) _ _ _ ho he
theorem c_X6_innings {l : Launch} {D : va_G} {q : Nat → ClassId} {ad : Nat → Nat} {d : UInt64} {sa : Nat → Nat} (hst : l.stackTraces = false) (hI : inj4 ad) (x1 : Int32) (x2 : Int32) (x3 : Int32) (S : Sx) (ho : o_X6_innings_0 x1 x2 x3 S) : CXi l yX6_innings cX6_innings 5 .int rm_X6_innings 1 6 D q ad d sa [.ref (ad 0), .int x1, .int x2, .int x3] S (b_X6_innings_0 x1 x2 x3 S).1 (b_X6_innings_0 x1 x2 x3 S).2.1 (b_X6_innings_0 x1 x2 x3 S).2.2 := cxi_of hI (by decide +kernel) (Nat.le_of_ble_eq_true rfl) rfl (fun p e s m args below meth c X F hnt hr hlocks => t_X6_innings_0 X F hnt hst hr hlocks x1 x2 x3 S _ _ _ ho (pe3i _))
end
/-! RX6.bowl -/
abbrev rm_X6_bowl : Room := { frames := 8, cells := 1, slots := 6, locals := 132 }
section
variable {p : Program} {l : Launch} {e : Env} {s : State} {m : MethodId} {args : Array Value} {below : List Frame} {meth : Method} {c : Code} {D : va_G} {q : Nat → ClassId} {ad : Nat → Nat} {d : UInt64} {sa : Nat → Nat}
def b_X6_bowl_13 (v1 : Int32) (v2 : Int32) (S : Sx) : Nat × Int32 × Sx := (0, (b_X0_bowlBalls_0 15 v1 v2 S).1, (b_X0_bowlBalls_0 15 v1 v2 S).2)
def o_X6_bowl_13 (v1 : Int32) (v2 : Int32) (S : Sx) : Prop := o_X0_bowlBalls_0 15 v1 v2 S ∧ True
set_option maxRecDepth 20000 in
theorem t_X6_bowl_13 (X : Cx p m c cX6_bowl 3 s args RX6 D q ad) (F : XF ad s.heap.size sa s) (hnt : ∀ x ∈ c.exceptionTable.toList, False) (hst : l.stackTraces = false) (hr : meth.sig.returnType = some .int) (hlocks : meth.locks = false) (v1 : Int32) (v2 : Int32) (S : Sx) (xc : Nat) (rv : Int32) (S' : Sx) (ho : o_X6_bowl_13 v1 v2 S) (he : b_X6_bowl_13 v1 v2 S = (xc, rv, S')) : Jg p l e rm_X6_bowl s m args below meth c 1 6 (vx_MQ below (QiX D q ad d xc rv S' s.heap.size) (XQ D q ad d xc S' s.heap.size) args s 1 6 (AU ad s.heap.size)) D q ad d 3 13 [(0, .ref (ad 0)), (1, .int v1), (2, .int v2)] [] S := by
  unfold b_X6_bowl_13 at he
  unfold o_X6_bowl_13 at ho
  refine j_aload_n X 0 dX6_bowl_13 rfl ?_
  refine gf_20_0 X m_fl_X6_10 kc20 dX6_bowl_14 ?_
  refine j_iload_n X 1 dX6_bowl_17 rfl ?_
  refine j_iload_n X 2 dX6_bowl_18 rfl ?_
  have h2 := ho.1
  have ho := ho.2
  refine j_callVi (rest := []) X (c_X0_bowlBalls (cx_inj X) 15 kg0 v1 v2 S h2) cw_X6_238 kg0.1 (cl_0 kg0) rfl ⟨rfl, rfl, Nat.le_of_ble_eq_true rfl, Nat.le_of_ble_eq_true rfl⟩ rfl rfl (Nat.le_of_ble_eq_true rfl) ⟨Nat.le_of_ble_eq_true rfl, Nat.le_of_ble_eq_true rfl⟩ dX6_bowl_19 ?_
  exact j_iretX X hr hlocks ⟨by decide, by decide⟩ dX6_bowl_22 (pe3 he)
def b_X6_bowl_0 (x1 : Int32) (x2 : Int32) (S : Sx) : Nat × Int32 × Sx := if (b_X6_admit_0 (b_X0_bowlVerdict_0 15 x1 x2 S) S).1 = 0 then b_X6_bowl_13 x1 x2 ((b_X6_admit_0 (b_X0_bowlVerdict_0 15 x1 x2 S) S).2.2) else ((b_X6_admit_0 (b_X0_bowlVerdict_0 15 x1 x2 S) S).1, 0, (b_X6_admit_0 (b_X0_bowlVerdict_0 15 x1 x2 S) S).2.2)
def o_X6_bowl_0 (x1 : Int32) (x2 : Int32) (S : Sx) : Prop := o_X0_bowlVerdict_0 15 x1 x2 S ∧ (o_X6_admit_0 (b_X0_bowlVerdict_0 15 x1 x2 S) S ∧ ((b_X6_admit_0 (b_X0_bowlVerdict_0 15 x1 x2 S) S).1 = 0 → (o_X6_bowl_13 x1 x2 ((b_X6_admit_0 (b_X0_bowlVerdict_0 15 x1 x2 S) S).2.2))))
set_option maxRecDepth 20000 in
theorem t_X6_bowl_0 (X : Cx p m c cX6_bowl 3 s args RX6 D q ad) (F : XF ad s.heap.size sa s) (hnt : ∀ x ∈ c.exceptionTable.toList, False) (hst : l.stackTraces = false) (hr : meth.sig.returnType = some .int) (hlocks : meth.locks = false) (x1 : Int32) (x2 : Int32) (S : Sx) (xc : Nat) (rv : Int32) (S' : Sx) (ho : o_X6_bowl_0 x1 x2 S) (he : b_X6_bowl_0 x1 x2 S = (xc, rv, S')) : Jg p l e rm_X6_bowl s m args below meth c 0 0 (vx_MQ below (QiX D q ad d xc rv S' s.heap.size) (XQ D q ad d xc S' s.heap.size) args s 1 6 (AU ad s.heap.size)) D q ad d 3 0 [(0, .ref (ad 0)), (1, .int x1), (2, .int x2)] [] S := by
  unfold b_X6_bowl_0 at he
  unfold o_X6_bowl_0 at ho
  refine j_aload_n X 0 dX6_bowl_0 rfl ?_
  refine j_aload_n X 0 dX6_bowl_1 rfl ?_
  refine gf_20_0 X m_fl_X6_10 kc20 dX6_bowl_2 ?_
  refine j_iload_n X 1 dX6_bowl_5 rfl ?_
  refine j_iload_n X 2 dX6_bowl_6 rfl ?_
  have h2 := ho.1
  have ho := ho.2
  refine j_callVi (rest := [.ref (ad 0)]) X (c_X0_bowlVerdict (cx_inj X) 15 kg0 x1 x2 S h2) cw_X6_235 kg0.1 (cl_0 kg0) rfl ⟨rfl, rfl, Nat.le_of_ble_eq_true rfl, Nat.le_of_ble_eq_true rfl⟩ rfl rfl (Nat.le_of_ble_eq_true rfl) ⟨Nat.le_of_ble_eq_true rfl, Nat.le_of_ble_eq_true rfl⟩ dX6_bowl_7 ?_
  have h3 := ho.1
  have ho := ho.2
  refine j_callXv (rest := []) X F hnt hlocks (c_X6_admit hst (cx_inj X) (b_X0_bowlVerdict_0 15 x1 x2 S) S h3) cw_X6_47 kc20.1 (cl_20 kc20) rfl ⟨rfl, rfl, Nat.le_of_ble_eq_true rfl, Nat.le_of_ble_eq_true rfl⟩ rfl rfl (Nat.le_of_ble_eq_true rfl) ⟨Nat.le_of_ble_eq_true rfl, Nat.le_of_ble_eq_true rfl⟩ ⟨by decide, by decide⟩ dX6_bowl_10 (fun h4 => ?_) (fun h4 => ?_)
  · rw [if_neg h4] at he
    exact pe2 he
  · rw [if_pos h4] at he
    have ho := ho h4
    exact t_X6_bowl_13 X F hnt hst hr hlocks x1 x2 ((b_X6_admit_0 (b_X0_bowlVerdict_0 15 x1 x2 S) S).2.2) _ _ _ ho he
theorem c_X6_bowl {l : Launch} {D : va_G} {q : Nat → ClassId} {ad : Nat → Nat} {d : UInt64} {sa : Nat → Nat} (hst : l.stackTraces = false) (hI : inj4 ad) (x1 : Int32) (x2 : Int32) (S : Sx) (ho : o_X6_bowl_0 x1 x2 S) : CXi l yX6_bowl cX6_bowl 3 .int rm_X6_bowl 1 6 D q ad d sa [.ref (ad 0), .int x1, .int x2] S (b_X6_bowl_0 x1 x2 S).1 (b_X6_bowl_0 x1 x2 S).2.1 (b_X6_bowl_0 x1 x2 S).2.2 := cxi_of hI (by decide +kernel) (Nat.le_of_ble_eq_true rfl) rfl (fun p e s m args below meth c X F hnt hr hlocks => t_X6_bowl_0 X F hnt hst hr hlocks x1 x2 S _ _ _ ho (pe3i _))
end
/-! RX6.would -/
abbrev rm_X6_would : Room := { frames := 7, cells := 1, slots := 6, locals := 111 }
section
variable {p : Program} {l : Launch} {e : Env} {s : State} {m : MethodId} {args : Array Value} {below : List Frame} {meth : Method} {c : Code} {D : va_G} {q : Nat → ClassId} {ad : Nat → Nat} {d : UInt64} {sa : Nat → Nat}
def b_X6_would_13 (v1 : Int32) (v2 : Int32) (S : Sx) : Nat × Int32 × Sx := (0, (b_X0_bowlBalls_0 55 v1 v2 (b_X0_become_0 55 15 S)).1, (b_X0_bowlBalls_0 55 v1 v2 (b_X0_become_0 55 15 S)).2)
def o_X6_would_13 (v1 : Int32) (v2 : Int32) (S : Sx) : Prop := o_X0_become_0 55 15 S ∧ (o_X0_bowlBalls_0 55 v1 v2 (b_X0_become_0 55 15 S) ∧ True)
set_option maxRecDepth 20000 in
theorem t_X6_would_13 (X : Cx p m c cX6_would 3 s args RX6 D q ad) (F : XF ad s.heap.size sa s) (hnt : ∀ x ∈ c.exceptionTable.toList, False) (hst : l.stackTraces = false) (hr : meth.sig.returnType = some .int) (hlocks : meth.locks = false) (v1 : Int32) (v2 : Int32) (S : Sx) (xc : Nat) (rv : Int32) (S' : Sx) (ho : o_X6_would_13 v1 v2 S) (he : b_X6_would_13 v1 v2 S = (xc, rv, S')) : Jg p l e rm_X6_would s m args below meth c 1 6 (vx_MQ below (QiX D q ad d xc rv S' s.heap.size) (XQ D q ad d xc S' s.heap.size) args s 1 6 (AU ad s.heap.size)) D q ad d 3 13 [(0, .ref (ad 0)), (1, .int v1), (2, .int v2)] [] S := by
  unfold b_X6_would_13 at he
  unfold o_X6_would_13 at ho
  refine j_aload_n X 0 dX6_would_13 rfl ?_
  refine gf_20_1 X m_fl_X6_16 kc20 dX6_would_14 ?_
  refine j_aload_n X 0 dX6_would_17 rfl ?_
  refine gf_20_0 X m_fl_X6_10 kc20 dX6_would_18 ?_
  have h2 := ho.1
  have ho := ho.2
  refine j_callVv (rest := []) X (c_X0_become (cx_inj X) 55 kg1 15 kg0 S h2) cw_X6_199 kg1.1 (cl_0 kg1) rfl ⟨rfl, rfl, Nat.le_of_ble_eq_true rfl, Nat.le_of_ble_eq_true rfl⟩ rfl rfl (Nat.le_of_ble_eq_true rfl) ⟨Nat.le_of_ble_eq_true rfl, Nat.le_of_ble_eq_true rfl⟩ dX6_would_21 ?_
  refine j_aload_n X 0 dX6_would_24 rfl ?_
  refine gf_20_1 X m_fl_X6_16 kc20 dX6_would_25 ?_
  refine j_iload_n X 1 dX6_would_28 rfl ?_
  refine j_iload_n X 2 dX6_would_29 rfl ?_
  have h3 := ho.1
  have ho := ho.2
  refine j_callVi (rest := []) X (c_X0_bowlBalls (cx_inj X) 55 kg1 v1 v2 (b_X0_become_0 55 15 S) h3) cw_X6_238 kg1.1 (cl_0 kg1) rfl ⟨rfl, rfl, Nat.le_of_ble_eq_true rfl, Nat.le_of_ble_eq_true rfl⟩ rfl rfl (Nat.le_of_ble_eq_true rfl) ⟨Nat.le_of_ble_eq_true rfl, Nat.le_of_ble_eq_true rfl⟩ dX6_would_30 ?_
  exact j_iretX X hr hlocks ⟨by decide, by decide⟩ dX6_would_33 (pe3 he)
def b_X6_would_0 (x1 : Int32) (x2 : Int32) (S : Sx) : Nat × Int32 × Sx := if (b_X6_settle_0 (b_X0_ballsVerdict_0 15 x1 x2 S) S).1 = 0 then b_X6_would_13 x1 x2 ((b_X6_settle_0 (b_X0_ballsVerdict_0 15 x1 x2 S) S).2.2) else ((b_X6_settle_0 (b_X0_ballsVerdict_0 15 x1 x2 S) S).1, 0, (b_X6_settle_0 (b_X0_ballsVerdict_0 15 x1 x2 S) S).2.2)
def o_X6_would_0 (x1 : Int32) (x2 : Int32) (S : Sx) : Prop := (b_X6_settle_0 (b_X0_ballsVerdict_0 15 x1 x2 S) S).1 = 0 → (o_X6_would_13 x1 x2 ((b_X6_settle_0 (b_X0_ballsVerdict_0 15 x1 x2 S) S).2.2))
set_option maxRecDepth 20000 in
theorem t_X6_would_0 (X : Cx p m c cX6_would 3 s args RX6 D q ad) (F : XF ad s.heap.size sa s) (hnt : ∀ x ∈ c.exceptionTable.toList, False) (hst : l.stackTraces = false) (hr : meth.sig.returnType = some .int) (hlocks : meth.locks = false) (x1 : Int32) (x2 : Int32) (S : Sx) (xc : Nat) (rv : Int32) (S' : Sx) (ho : o_X6_would_0 x1 x2 S) (he : b_X6_would_0 x1 x2 S = (xc, rv, S')) : Jg p l e rm_X6_would s m args below meth c 0 0 (vx_MQ below (QiX D q ad d xc rv S' s.heap.size) (XQ D q ad d xc S' s.heap.size) args s 1 6 (AU ad s.heap.size)) D q ad d 3 0 [(0, .ref (ad 0)), (1, .int x1), (2, .int x2)] [] S := by
  unfold b_X6_would_0 at he
  unfold o_X6_would_0 at ho
  refine j_aload_n X 0 dX6_would_0 rfl ?_
  refine j_aload_n X 0 dX6_would_1 rfl ?_
  refine gf_20_0 X m_fl_X6_10 kc20 dX6_would_2 ?_
  refine j_iload_n X 1 dX6_would_5 rfl ?_
  refine j_iload_n X 2 dX6_would_6 rfl ?_
  refine j_callVi (rest := [.ref (ad 0)]) X (c_X0_ballsVerdict (cx_inj X) 15 kg0 x1 x2 S) cw_X6_241 kg0.1 (cl_0 kg0) rfl ⟨rfl, rfl, Nat.le_of_ble_eq_true rfl, Nat.le_of_ble_eq_true rfl⟩ rfl rfl (Nat.le_of_ble_eq_true rfl) ⟨Nat.le_of_ble_eq_true rfl, Nat.le_of_ble_eq_true rfl⟩ dX6_would_7 ?_
  refine j_callXv (rest := []) X F hnt hlocks (c_X6_settle hst (cx_inj X) (b_X0_ballsVerdict_0 15 x1 x2 S) S) cw_X6_69 kc20.1 (cl_20 kc20) rfl ⟨rfl, rfl, Nat.le_of_ble_eq_true rfl, Nat.le_of_ble_eq_true rfl⟩ rfl rfl (Nat.le_of_ble_eq_true rfl) ⟨Nat.le_of_ble_eq_true rfl, Nat.le_of_ble_eq_true rfl⟩ ⟨by decide, by decide⟩ dX6_would_10 (fun h2 => ?_) (fun h2 => ?_)
  · rw [if_neg h2] at he
    exact pe2 he
  · rw [if_pos h2] at he
    have ho := ho h2
    exact t_X6_would_13 X F hnt hst hr hlocks x1 x2 ((b_X6_settle_0 (b_X0_ballsVerdict_0 15 x1 x2 S) S).2.2) _ _ _ ho he
theorem c_X6_would {l : Launch} {D : va_G} {q : Nat → ClassId} {ad : Nat → Nat} {d : UInt64} {sa : Nat → Nat} (hst : l.stackTraces = false) (hI : inj4 ad) (x1 : Int32) (x2 : Int32) (S : Sx) (ho : o_X6_would_0 x1 x2 S) : CXi l yX6_would cX6_would 3 .int rm_X6_would 1 6 D q ad d sa [.ref (ad 0), .int x1, .int x2] S (b_X6_would_0 x1 x2 S).1 (b_X6_would_0 x1 x2 S).2.1 (b_X6_would_0 x1 x2 S).2.2 := cxi_of hI (by decide +kernel) (Nat.le_of_ble_eq_true rfl) rfl (fun p e s m args below meth c X F hnt hr hlocks => t_X6_would_0 X F hnt hst hr hlocks x1 x2 S _ _ _ ho (pe3i _))
end
/-! RX6.end -/
abbrev rm_X6_end : Room := { frames := 8, cells := 1, slots := 6, locals := 132 }
section
variable {p : Program} {l : Launch} {e : Env} {s : State} {m : MethodId} {args : Array Value} {below : List Frame} {meth : Method} {c : Code} {D : va_G} {q : Nat → ClassId} {ad : Nat → Nat} {d : UInt64} {sa : Nat → Nat}
def b_X6_end_12 (v1 : Int32) (S : Sx) : Nat × Int32 × Sx := (0, (up2 S (15 + 16 + v1.toNatClampNeg) 6 1) (15 + 16 + v1.toNatClampNeg) 4, up2 S (15 + 16 + v1.toNatClampNeg) 6 1)
def o_X6_end_12 (v1 : Int32) (S : Sx) : Prop := vp_in v1 12 ∧ (vp_in v1 12 ∧ True)
set_option maxRecDepth 20000 in
theorem t_X6_end_12 (X : Cx p m c cX6_end 2 s args RX6 D q ad) (F : XF ad s.heap.size sa s) (hnt : ∀ x ∈ c.exceptionTable.toList, False) (hst : l.stackTraces = false) (hr : meth.sig.returnType = some .int) (hlocks : meth.locks = false) (v1 : Int32) (S : Sx) (xc : Nat) (rv : Int32) (S' : Sx) (ho : o_X6_end_12 v1 S) (he : b_X6_end_12 v1 S = (xc, rv, S')) : Jg p l e rm_X6_end s m args below meth c 1 6 (vx_MQ below (QiX D q ad d xc rv S' s.heap.size) (XQ D q ad d xc S' s.heap.size) args s 1 6 (AU ad s.heap.size)) D q ad d 2 12 [(0, .ref (ad 0)), (1, .int v1)] [] S := by
  unfold b_X6_end_12 at he
  unfold o_X6_end_12 at ho
  refine j_aload_n X 0 dX6_end_12 rfl ?_
  refine gf_20_0 X m_fl_X6_10 kc20 dX6_end_13 ?_
  refine gf_0_11 X m_fl_X6_219 kg0 dX6_end_16 ?_
  refine j_iload_n X 1 dX6_end_19 rfl ?_
  have h2 := ho.1
  have ho := ho.2
  refine j_aald (a := ad (15 + 16 + v1.toNatClampNeg)) X 3 (k0_6 kg0).1 (cl_6 (k0_6 kg0)) rfl h2 rfl dX6_end_20 ?_
  have hk3 : isK 9 (15 + 16 + v1.toNatClampNeg) := k0_9 kg0 (vlt h2)
  refine j_iconst (v := 1) X dX6_end_21 (by decide) ?_
  refine pf_9_6 X bz_1 m_fl_X6_247 hk3 dX6_end_22 ?_
  refine j_aload_n X 0 dX6_end_25 rfl ?_
  refine gf_20_0 X m_fl_X6_10 kc20 dX6_end_26 ?_
  refine gf_0_11 X m_fl_X6_219 kg0 dX6_end_29 ?_
  refine j_iload_n X 1 dX6_end_32 rfl ?_
  have h4 := ho.1
  have ho := ho.2
  refine j_aald (a := ad (15 + 16 + v1.toNatClampNeg)) X 3 (k0_6 kg0).1 (cl_6 (k0_6 kg0)) rfl h4 rfl dX6_end_33 ?_
  have hk5 : isK 9 (15 + 16 + v1.toNatClampNeg) := k0_9 kg0 (vlt h4)
  refine gf_9_4 X m_fl_X6_250 hk5 dX6_end_34 ?_
  exact j_iretX X hr hlocks ⟨by decide, by decide⟩ dX6_end_37 (pe3 he)
def b_X6_end_0 (x1 : Int32) (S : Sx) : Nat × Int32 × Sx := if (b_X6_admit_0 (b_X0_endVerdict_0 15 x1 S) S).1 = 0 then b_X6_end_12 x1 ((b_X6_admit_0 (b_X0_endVerdict_0 15 x1 S) S).2.2) else ((b_X6_admit_0 (b_X0_endVerdict_0 15 x1 S) S).1, 0, (b_X6_admit_0 (b_X0_endVerdict_0 15 x1 S) S).2.2)
def o_X6_end_0 (x1 : Int32) (S : Sx) : Prop := o_X0_endVerdict_0 15 x1 S ∧ (o_X6_admit_0 (b_X0_endVerdict_0 15 x1 S) S ∧ ((b_X6_admit_0 (b_X0_endVerdict_0 15 x1 S) S).1 = 0 → (o_X6_end_12 x1 ((b_X6_admit_0 (b_X0_endVerdict_0 15 x1 S) S).2.2))))
set_option maxRecDepth 20000 in
theorem t_X6_end_0 (X : Cx p m c cX6_end 2 s args RX6 D q ad) (F : XF ad s.heap.size sa s) (hnt : ∀ x ∈ c.exceptionTable.toList, False) (hst : l.stackTraces = false) (hr : meth.sig.returnType = some .int) (hlocks : meth.locks = false) (x1 : Int32) (S : Sx) (xc : Nat) (rv : Int32) (S' : Sx) (ho : o_X6_end_0 x1 S) (he : b_X6_end_0 x1 S = (xc, rv, S')) : Jg p l e rm_X6_end s m args below meth c 0 0 (vx_MQ below (QiX D q ad d xc rv S' s.heap.size) (XQ D q ad d xc S' s.heap.size) args s 1 6 (AU ad s.heap.size)) D q ad d 2 0 [(0, .ref (ad 0)), (1, .int x1)] [] S := by
  unfold b_X6_end_0 at he
  unfold o_X6_end_0 at ho
  refine j_aload_n X 0 dX6_end_0 rfl ?_
  refine j_aload_n X 0 dX6_end_1 rfl ?_
  refine gf_20_0 X m_fl_X6_10 kc20 dX6_end_2 ?_
  refine j_iload_n X 1 dX6_end_5 rfl ?_
  have h2 := ho.1
  have ho := ho.2
  refine j_callVi (rest := [.ref (ad 0)]) X (c_X0_endVerdict (cx_inj X) 15 kg0 x1 S h2) cw_X6_244 kg0.1 (cl_0 kg0) rfl ⟨rfl, rfl, Nat.le_of_ble_eq_true rfl, Nat.le_of_ble_eq_true rfl⟩ rfl rfl (Nat.le_of_ble_eq_true rfl) ⟨Nat.le_of_ble_eq_true rfl, Nat.le_of_ble_eq_true rfl⟩ dX6_end_6 ?_
  have h3 := ho.1
  have ho := ho.2
  refine j_callXv (rest := []) X F hnt hlocks (c_X6_admit hst (cx_inj X) (b_X0_endVerdict_0 15 x1 S) S h3) cw_X6_47 kc20.1 (cl_20 kc20) rfl ⟨rfl, rfl, Nat.le_of_ble_eq_true rfl, Nat.le_of_ble_eq_true rfl⟩ rfl rfl (Nat.le_of_ble_eq_true rfl) ⟨Nat.le_of_ble_eq_true rfl, Nat.le_of_ble_eq_true rfl⟩ ⟨by decide, by decide⟩ dX6_end_9 (fun h4 => ?_) (fun h4 => ?_)
  · rw [if_neg h4] at he
    exact pe2 he
  · rw [if_pos h4] at he
    have ho := ho h4
    exact t_X6_end_12 X F hnt hst hr hlocks x1 ((b_X6_admit_0 (b_X0_endVerdict_0 15 x1 S) S).2.2) _ _ _ ho he
theorem c_X6_end {l : Launch} {D : va_G} {q : Nat → ClassId} {ad : Nat → Nat} {d : UInt64} {sa : Nat → Nat} (hst : l.stackTraces = false) (hI : inj4 ad) (x1 : Int32) (S : Sx) (ho : o_X6_end_0 x1 S) : CXi l yX6_end cX6_end 2 .int rm_X6_end 1 6 D q ad d sa [.ref (ad 0), .int x1] S (b_X6_end_0 x1 S).1 (b_X6_end_0 x1 S).2.1 (b_X6_end_0 x1 S).2.2 := cxi_of hI (by decide +kernel) (Nat.le_of_ble_eq_true rfl) rfl (fun p e s m args below meth c X F hnt hr hlocks => t_X6_end_0 X F hnt hst hr hlocks x1 S _ _ _ ho (pe3i _))
end
/-! RX6.inningsOf -/
abbrev rm_X6_inningsOf : Room := { frames := 7, cells := 2, slots := 12, locals := 111 }
section
variable {p : Program} {l : Launch} {e : Env} {s : State} {m : MethodId} {args : Array Value} {below : List Frame} {meth : Method} {c : Code} {D : va_G} {q : Nat → ClassId} {ad : Nat → Nat} {d : UInt64} {sa : Nat → Nat}
def b_X6_inningsOf_106 (w0 : Int32) (S : Sx) : Nat × Int32 × Sx := (0, w0, S)
set_option maxRecDepth 20000 in
theorem t_X6_inningsOf_106 (X : Cx p m c cX6_inningsOf 4 s args RX6 D q ad) (F : XF ad s.heap.size sa s) (hnt : ∀ x ∈ c.exceptionTable.toList, False) (hst : l.stackTraces = false) (hr : meth.sig.returnType = some .int) (hlocks : meth.locks = false) (w0 : Int32) (S : Sx) (xc : Nat) (rv : Int32) (S' : Sx) (he : b_X6_inningsOf_106 w0 S = (xc, rv, S')) : Jg p l e rm_X6_inningsOf s m args below meth c 1 6 (vx_MQ below (QiX D q ad d xc rv S' s.heap.size) (XQ D q ad d xc S' s.heap.size) args s 2 12 (AU ad s.heap.size)) D q ad d 4 106 [] [.int w0] S := by
  unfold b_X6_inningsOf_106 at he
  exact j_iretX X hr hlocks ⟨by decide, by decide⟩ dX6_inningsOf_106 (pe3 he)
def b_X6_inningsOf_12 (v1 : Int32) (v2 : Int32) (S : Sx) : Nat × Int32 × Sx := if v2 = 0 then (0, S (15 + 16 + v1.toNatClampNeg) 0, S) else (if v2 = 1 then (0, S (15 + 16 + v1.toNatClampNeg) 1, S) else (if v2 = 2 then (0, S (15 + 16 + v1.toNatClampNeg) 2, S) else (if v2 = 3 then (0, S (15 + 16 + v1.toNatClampNeg) 3, S) else (if v2 = 4 then (0, S (15 + 16 + v1.toNatClampNeg) 4, S) else (if v2 = 5 then (0, S (15 + 16 + v1.toNatClampNeg) 5, S) else (if v2 = 6 then if (b_X2_isOver_0 (15 + 16 + v1.toNatClampNeg) S) = 0 then b_X6_inningsOf_106 0 S else b_X6_inningsOf_106 1 S else (2, 0, S)))))))
def o_X6_inningsOf_12 (v1 : Int32) (v2 : Int32) (S : Sx) : Prop := vp_in v1 12 ∧ ((v2 = 0 → True) ∧ (¬ v2 = 0 → ((v2 = 1 → True) ∧ (¬ v2 = 1 → ((v2 = 2 → True) ∧ (¬ v2 = 2 → ((v2 = 3 → True) ∧ (¬ v2 = 3 → ((v2 = 4 → True) ∧ (¬ v2 = 4 → ((v2 = 5 → True) ∧ (¬ v2 = 5 → ((v2 = 6 → (o_X2_isOver_0 (15 + 16 + v1.toNatClampNeg) S ∧ True)) ∧ (¬ v2 = 6 → True))))))))))))))
set_option maxRecDepth 20000 in
theorem t_X6_inningsOf_12 (X : Cx p m c cX6_inningsOf 4 s args RX6 D q ad) (F : XF ad s.heap.size sa s) (hnt : ∀ x ∈ c.exceptionTable.toList, False) (hst : l.stackTraces = false) (hr : meth.sig.returnType = some .int) (hlocks : meth.locks = false) (v1 : Int32) (v2 : Int32) (S : Sx) (xc : Nat) (rv : Int32) (S' : Sx) (ho : o_X6_inningsOf_12 v1 v2 S) (he : b_X6_inningsOf_12 v1 v2 S = (xc, rv, S')) : Jg p l e rm_X6_inningsOf s m args below meth c 1 6 (vx_MQ below (QiX D q ad d xc rv S' s.heap.size) (XQ D q ad d xc S' s.heap.size) args s 2 12 (AU ad s.heap.size)) D q ad d 4 12 [(0, .ref (ad 0)), (1, .int v1), (2, .int v2)] [] S := by
  unfold b_X6_inningsOf_12 at he
  unfold o_X6_inningsOf_12 at ho
  refine j_aload_n X 0 dX6_inningsOf_12 rfl ?_
  refine gf_20_0 X m_fl_X6_10 kc20 dX6_inningsOf_13 ?_
  refine gf_0_11 X m_fl_X6_219 kg0 dX6_inningsOf_16 ?_
  refine j_iload_n X 1 dX6_inningsOf_19 rfl ?_
  have h2 := ho.1
  have ho := ho.2
  refine j_aald (a := ad (15 + 16 + v1.toNatClampNeg)) X 3 (k0_6 kg0).1 (cl_6 (k0_6 kg0)) rfl h2 rfl dX6_inningsOf_20 ?_
  have hk3 : isK 9 (15 + 16 + v1.toNatClampNeg) := k0_9 kg0 (vlt h2)
  refine j_astore_n X [(3, .ref (ad (15 + 16 + v1.toNatClampNeg))), (0, .ref (ad 0)), (1, .int v1), (2, .int v2)] dX6_inningsOf_21 (by decide) rfl ?_
  refine j_iload_n X 3 dX6_inningsOf_22 rfl ?_
  by_cases h6 : v2 = 0
  · rw [if_pos h6] at he
    have ho := ho.1 h6
    refine j_tableIn X 0 41 64 dX6_inningsOf_23 (by rw [h6]; rfl) (by decide) (by decide) rfl (by decide) ?_
    refine j_aload_n X 0 dX6_inningsOf_64 rfl ?_
    refine gf_9_0 X m_fl_X6_226 hk3 dX6_inningsOf_65 ?_
    exact j_iretX X hr hlocks ⟨by decide, by decide⟩ dX6_inningsOf_68 (pe3 he)
  rw [if_neg h6] at he
  have ho := ho.2 h6
  by_cases h7 : v2 = 1
  · rw [if_pos h7] at he
    have ho := ho.1 h7
    refine j_tableIn X 1 46 69 dX6_inningsOf_23 (by rw [h7]; rfl) (by decide) (by decide) rfl (by decide) ?_
    refine j_aload_n X 0 dX6_inningsOf_69 rfl ?_
    refine gf_9_1 X m_fl_X6_229 hk3 dX6_inningsOf_70 ?_
    exact j_iretX X hr hlocks ⟨by decide, by decide⟩ dX6_inningsOf_73 (pe3 he)
  rw [if_neg h7] at he
  have ho := ho.2 h7
  by_cases h8 : v2 = 2
  · rw [if_pos h8] at he
    have ho := ho.1 h8
    refine j_tableIn X 2 51 74 dX6_inningsOf_23 (by rw [h8]; rfl) (by decide) (by decide) rfl (by decide) ?_
    refine j_aload_n X 0 dX6_inningsOf_74 rfl ?_
    refine gf_9_2 X m_fl_X6_232 hk3 dX6_inningsOf_75 ?_
    exact j_iretX X hr hlocks ⟨by decide, by decide⟩ dX6_inningsOf_78 (pe3 he)
  rw [if_neg h8] at he
  have ho := ho.2 h8
  by_cases h9 : v2 = 3
  · rw [if_pos h9] at he
    have ho := ho.1 h9
    refine j_tableIn X 3 56 79 dX6_inningsOf_23 (by rw [h9]; rfl) (by decide) (by decide) rfl (by decide) ?_
    refine j_aload_n X 0 dX6_inningsOf_79 rfl ?_
    refine gf_9_3 X m_fl_X6_256 hk3 dX6_inningsOf_80 ?_
    exact j_iretX X hr hlocks ⟨by decide, by decide⟩ dX6_inningsOf_83 (pe3 he)
  rw [if_neg h9] at he
  have ho := ho.2 h9
  by_cases h10 : v2 = 4
  · rw [if_pos h10] at he
    have ho := ho.1 h10
    refine j_tableIn X 4 61 84 dX6_inningsOf_23 (by rw [h10]; rfl) (by decide) (by decide) rfl (by decide) ?_
    refine j_aload_n X 0 dX6_inningsOf_84 rfl ?_
    refine gf_9_4 X m_fl_X6_250 hk3 dX6_inningsOf_85 ?_
    exact j_iretX X hr hlocks ⟨by decide, by decide⟩ dX6_inningsOf_88 (pe3 he)
  rw [if_neg h10] at he
  have ho := ho.2 h10
  by_cases h11 : v2 = 5
  · rw [if_pos h11] at he
    have ho := ho.1 h11
    refine j_tableIn X 5 66 89 dX6_inningsOf_23 (by rw [h11]; rfl) (by decide) (by decide) rfl (by decide) ?_
    refine j_aload_n X 0 dX6_inningsOf_89 rfl ?_
    refine gf_9_5 X m_fl_X6_259 hk3 dX6_inningsOf_90 ?_
    exact j_iretX X hr hlocks ⟨by decide, by decide⟩ dX6_inningsOf_93 (pe3 he)
  rw [if_neg h11] at he
  have ho := ho.2 h11
  by_cases h12 : v2 = 6
  · rw [if_pos h12] at he
    have ho := ho.1 h12
    refine j_tableIn X 6 71 94 dX6_inningsOf_23 (by rw [h12]; rfl) (by decide) (by decide) rfl (by decide) ?_
    refine j_aload_n X 0 dX6_inningsOf_94 rfl ?_
    have h4 := ho.1
    have ho := ho.2
    refine j_callVi (rest := []) X (c_X2_isOver (cx_inj X) (15 + 16 + v1.toNatClampNeg) hk3 S h4) cw_X6_262 hk3.1 (cl_9 hk3) rfl ⟨rfl, rfl, Nat.le_of_ble_eq_true rfl, Nat.le_of_ble_eq_true rfl⟩ rfl rfl (Nat.le_of_ble_eq_true rfl) ⟨Nat.le_of_ble_eq_true rfl, Nat.le_of_ble_eq_true rfl⟩ dX6_inningsOf_95 ?_
    refine j_if_eq X 105 dX6_inningsOf_98 (by decide) (fun h5 => ?_) (fun h5 => ?_)
    · rw [if_pos h5] at he
      refine j_iconst (v := 0) X dX6_inningsOf_105 (by decide) ?_
      refine j_lv [] [] rfl ?_
      exact t_X6_inningsOf_106 X F hnt hst hr hlocks 0 S _ _ _ he
    · rw [if_neg h5] at he
      refine j_iconst (v := 1) X dX6_inningsOf_101 (by decide) ?_
      refine j_goto X 106 dX6_inningsOf_102 (by decide) ?_
      refine j_lv [] [] rfl ?_
      exact t_X6_inningsOf_106 X F hnt hst hr hlocks 1 S _ _ _ he
  rw [if_neg h12] at he
  have ho := ho.2 h12
  have e13 := lv_neT (a := 0) h6 rfl
  have e14 := lv_neT (a := 1) h7 rfl
  have e15 := lv_neT (a := 2) h8 rfl
  have e16 := lv_neT (a := 3) h9 rfl
  have e17 := lv_neT (a := 4) h10 rfl
  have e18 := lv_neT (a := 5) h11 rfl
  have e19 := lv_neT (a := 6) h12 rfl
  refine j_tableOut X 107 dX6_inningsOf_23 (by omega) (by decide) ?_
  exact j_throw X F hnt hlocks hst (k := 2) (by decide) ⟨by decide +kernel, by decide +kernel⟩ m_cl_X6_113 m_in_IllegalArgumentException m_sr_115 thA_2 thG_2 dX6_inningsOf_107 dX6_inningsOf_110 dX6_inningsOf_111 dX6_inningsOf_113 dX6_inningsOf_116 ⟨Nat.le_of_ble_eq_true rfl, Nat.le_of_ble_eq_true rfl, Nat.le_of_ble_eq_true rfl, Nat.le_of_ble_eq_true rfl⟩ ⟨by decide, by decide⟩ (pe2 he)
def b_X6_inningsOf_0 (x1 : Int32) (x2 : Int32) (S : Sx) : Nat × Int32 × Sx := if (b_X6_settle_0 (b_X0_playedVerdict_0 15 x1 S) S).1 = 0 then b_X6_inningsOf_12 x1 x2 ((b_X6_settle_0 (b_X0_playedVerdict_0 15 x1 S) S).2.2) else ((b_X6_settle_0 (b_X0_playedVerdict_0 15 x1 S) S).1, 0, (b_X6_settle_0 (b_X0_playedVerdict_0 15 x1 S) S).2.2)
def o_X6_inningsOf_0 (x1 : Int32) (x2 : Int32) (S : Sx) : Prop := (b_X6_settle_0 (b_X0_playedVerdict_0 15 x1 S) S).1 = 0 → (o_X6_inningsOf_12 x1 x2 ((b_X6_settle_0 (b_X0_playedVerdict_0 15 x1 S) S).2.2))
set_option maxRecDepth 20000 in
theorem t_X6_inningsOf_0 (X : Cx p m c cX6_inningsOf 4 s args RX6 D q ad) (F : XF ad s.heap.size sa s) (hnt : ∀ x ∈ c.exceptionTable.toList, False) (hst : l.stackTraces = false) (hr : meth.sig.returnType = some .int) (hlocks : meth.locks = false) (x1 : Int32) (x2 : Int32) (S : Sx) (xc : Nat) (rv : Int32) (S' : Sx) (ho : o_X6_inningsOf_0 x1 x2 S) (he : b_X6_inningsOf_0 x1 x2 S = (xc, rv, S')) : Jg p l e rm_X6_inningsOf s m args below meth c 0 0 (vx_MQ below (QiX D q ad d xc rv S' s.heap.size) (XQ D q ad d xc S' s.heap.size) args s 2 12 (AU ad s.heap.size)) D q ad d 4 0 [(0, .ref (ad 0)), (1, .int x1), (2, .int x2)] [] S := by
  unfold b_X6_inningsOf_0 at he
  unfold o_X6_inningsOf_0 at ho
  refine j_aload_n X 0 dX6_inningsOf_0 rfl ?_
  refine j_aload_n X 0 dX6_inningsOf_1 rfl ?_
  refine gf_20_0 X m_fl_X6_10 kc20 dX6_inningsOf_2 ?_
  refine j_iload_n X 1 dX6_inningsOf_5 rfl ?_
  refine j_callVi (rest := [.ref (ad 0)]) X (c_X0_playedVerdict (cx_inj X) 15 kg0 x1 S) cw_X6_253 kg0.1 (cl_0 kg0) rfl ⟨rfl, rfl, Nat.le_of_ble_eq_true rfl, Nat.le_of_ble_eq_true rfl⟩ rfl rfl (Nat.le_of_ble_eq_true rfl) ⟨Nat.le_of_ble_eq_true rfl, Nat.le_of_ble_eq_true rfl⟩ dX6_inningsOf_6 ?_
  refine j_callXv (rest := []) X F hnt hlocks (c_X6_settle hst (cx_inj X) (b_X0_playedVerdict_0 15 x1 S) S) cw_X6_69 kc20.1 (cl_20 kc20) rfl ⟨rfl, rfl, Nat.le_of_ble_eq_true rfl, Nat.le_of_ble_eq_true rfl⟩ rfl rfl (Nat.le_of_ble_eq_true rfl) ⟨Nat.le_of_ble_eq_true rfl, Nat.le_of_ble_eq_true rfl⟩ ⟨by decide, by decide⟩ dX6_inningsOf_9 (fun h2 => ?_) (fun h2 => ?_)
  · rw [if_neg h2] at he
    exact pe2 he
  · rw [if_pos h2] at he
    have ho := ho h2
    exact t_X6_inningsOf_12 X F hnt hst hr hlocks x1 x2 ((b_X6_settle_0 (b_X0_playedVerdict_0 15 x1 S) S).2.2) _ _ _ ho he
theorem c_X6_inningsOf {l : Launch} {D : va_G} {q : Nat → ClassId} {ad : Nat → Nat} {d : UInt64} {sa : Nat → Nat} (hst : l.stackTraces = false) (hI : inj4 ad) (x1 : Int32) (x2 : Int32) (S : Sx) (ho : o_X6_inningsOf_0 x1 x2 S) : CXi l yX6_inningsOf cX6_inningsOf 4 .int rm_X6_inningsOf 2 12 D q ad d sa [.ref (ad 0), .int x1, .int x2] S (b_X6_inningsOf_0 x1 x2 S).1 (b_X6_inningsOf_0 x1 x2 S).2.1 (b_X6_inningsOf_0 x1 x2 S).2.2 := cxi_of hI (by decide +kernel) (Nat.le_of_ble_eq_true rfl) rfl (fun p e s m args below meth c X F hnt hr hlocks => t_X6_inningsOf_0 X F hnt hst hr hlocks x1 x2 S _ _ _ ho (pe3i _))
end

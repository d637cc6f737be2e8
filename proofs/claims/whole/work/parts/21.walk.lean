/-! RX6.balls -/
abbrev rm_X6_balls : Room := { frames := 7, cells := 2, slots := 12, locals := 111 }
section
variable {p : Program} {l : Launch} {e : Env} {s : State} {m : MethodId} {args : Array Value} {below : List Frame} {meth : Method} {c : Code} {D : va_G} {q : Nat → ClassId} {ad : Nat → Nat} {d : UInt64} {sa : Nat → Nat}
def b_X6_balls_23 (v1 : Int32) (v2 : Int32) (S : Sx) : Nat × Int32 × Sx := (0, S (15 + 16 + v1.toNatClampNeg + 12) v2.toNatClampNeg, S)
def o_X6_balls_23 (v1 : Int32) (v2 : Int32) (S : Sx) : Prop := vp_in v1 12 ∧ (vp_in v2 7 ∧ True)
set_option maxRecDepth 20000 in
theorem t_X6_balls_23 (X : Cx p m c cX6_balls 3 s args RX6 D q ad) (F : XF ad s.heap.size sa s) (hnt : ∀ x ∈ c.exceptionTable.toList, False) (hst : l.stackTraces = false) (hr : meth.sig.returnType = some .int) (hlocks : meth.locks = false) (v1 : Int32) (v2 : Int32) (S : Sx) (xc : Nat) (rv : Int32) (S' : Sx) (ho : o_X6_balls_23 v1 v2 S) (he : b_X6_balls_23 v1 v2 S = (xc, rv, S')) : Jg p l e rm_X6_balls s m args below meth c 2 12 (vx_MQ below (QiX D q ad d xc rv S' s.heap.size) (XQ D q ad d xc S' s.heap.size) args s 2 12 (AU ad s.heap.size)) D q ad d 3 23 [(0, .ref (ad 0)), (1, .int v1), (2, .int v2)] [] S := by
  unfold b_X6_balls_23 at he
  unfold o_X6_balls_23 at ho
  refine j_aload_n X 0 dX6_balls_23 rfl ?_
  refine gf_20_0 X m_fl_X6_10 kc20 dX6_balls_24 ?_
  refine gf_0_11 X m_fl_X6_219 kg0 dX6_balls_27 ?_
  refine j_iload_n X 1 dX6_balls_30 rfl ?_
  have h2 := ho.1
  have ho := ho.2
  refine j_aald (a := ad (15 + 16 + v1.toNatClampNeg)) X 3 (k0_6 kg0).1 (cl_6 (k0_6 kg0)) rfl h2 rfl dX6_balls_31 ?_
  have hk3 : isK 9 (15 + 16 + v1.toNatClampNeg) := k0_9 kg0 (vlt h2)
  refine gf_9_7 X m_fl_X6_265 hk3 dX6_balls_32 ?_
  refine j_iload_n X 2 dX6_balls_35 rfl ?_
  have h4 := ho.1
  have ho := ho.2
  refine j_iald X (k9_10 hk3).1 (cl_10 (k9_10 hk3)) h4 dX6_balls_36 ?_
  exact j_iretX X hr hlocks ⟨by decide, by decide⟩ dX6_balls_37 (pe3 he)
def b_X6_balls_12 (v1 : Int32) (v2 : Int32) (S : Sx) : Nat × Int32 × Sx := if (b_X6_settle_0 (b_X6_rangeVerdict_0 v2 0 6 S) S).1 = 0 then b_X6_balls_23 v1 v2 ((b_X6_settle_0 (b_X6_rangeVerdict_0 v2 0 6 S) S).2.2) else ((b_X6_settle_0 (b_X6_rangeVerdict_0 v2 0 6 S) S).1, 0, (b_X6_settle_0 (b_X6_rangeVerdict_0 v2 0 6 S) S).2.2)
def o_X6_balls_12 (v1 : Int32) (v2 : Int32) (S : Sx) : Prop := (b_X6_settle_0 (b_X6_rangeVerdict_0 v2 0 6 S) S).1 = 0 → (o_X6_balls_23 v1 v2 ((b_X6_settle_0 (b_X6_rangeVerdict_0 v2 0 6 S) S).2.2))
set_option maxRecDepth 20000 in
theorem t_X6_balls_12 (X : Cx p m c cX6_balls 3 s args RX6 D q ad) (F : XF ad s.heap.size sa s) (hnt : ∀ x ∈ c.exceptionTable.toList, False) (hst : l.stackTraces = false) (hr : meth.sig.returnType = some .int) (hlocks : meth.locks = false) (v1 : Int32) (v2 : Int32) (S : Sx) (xc : Nat) (rv : Int32) (S' : Sx) (ho : o_X6_balls_12 v1 v2 S) (he : b_X6_balls_12 v1 v2 S = (xc, rv, S')) : Jg p l e rm_X6_balls s m args below meth c 1 6 (vx_MQ below (QiX D q ad d xc rv S' s.heap.size) (XQ D q ad d xc S' s.heap.size) args s 2 12 (AU ad s.heap.size)) D q ad d 3 12 [(0, .ref (ad 0)), (1, .int v1), (2, .int v2)] [] S := by
  unfold b_X6_balls_12 at he
  unfold o_X6_balls_12 at ho
  refine j_aload_n X 0 dX6_balls_12 rfl ?_
  refine j_iload_n X 2 dX6_balls_13 rfl ?_
  refine j_iconst (v := 0) X dX6_balls_14 (by decide) ?_
  refine j_bipush (v := 6) X dX6_balls_15 (by decide) ?_
  refine j_callSi (rest := [.ref (ad 0)]) X (c_X6_rangeVerdict (cx_inj X) v2 0 6 S) cw_X6_120 ⟨rfl, rfl, Nat.le_of_ble_eq_true rfl, Nat.le_of_ble_eq_true rfl⟩ rfl rfl (Nat.le_of_ble_eq_true rfl) ⟨Nat.le_of_ble_eq_true rfl, Nat.le_of_ble_eq_true rfl⟩ dX6_balls_17 ?_
  refine j_callXv (rest := []) X F hnt hlocks (c_X6_settle hst (cx_inj X) (b_X6_rangeVerdict_0 v2 0 6 S) S) cw_X6_69 kc20.1 (cl_20 kc20) rfl ⟨rfl, rfl, Nat.le_of_ble_eq_true rfl, Nat.le_of_ble_eq_true rfl⟩ rfl rfl (Nat.le_of_ble_eq_true rfl) ⟨Nat.le_of_ble_eq_true rfl, Nat.le_of_ble_eq_true rfl⟩ ⟨by decide, by decide⟩ dX6_balls_20 (fun h2 => ?_) (fun h2 => ?_)
  · rw [if_neg h2] at he
    exact pe2 he
  · rw [if_pos h2] at he
    have ho := ho h2
    exact t_X6_balls_23 X F hnt hst hr hlocks v1 v2 ((b_X6_settle_0 (b_X6_rangeVerdict_0 v2 0 6 S) S).2.2) _ _ _ ho he
def b_X6_balls_0 (x1 : Int32) (x2 : Int32) (S : Sx) : Nat × Int32 × Sx := if (b_X6_settle_0 (b_X0_playedVerdict_0 15 x1 S) S).1 = 0 then b_X6_balls_12 x1 x2 ((b_X6_settle_0 (b_X0_playedVerdict_0 15 x1 S) S).2.2) else ((b_X6_settle_0 (b_X0_playedVerdict_0 15 x1 S) S).1, 0, (b_X6_settle_0 (b_X0_playedVerdict_0 15 x1 S) S).2.2)
def o_X6_balls_0 (x1 : Int32) (x2 : Int32) (S : Sx) : Prop := (b_X6_settle_0 (b_X0_playedVerdict_0 15 x1 S) S).1 = 0 → (o_X6_balls_12 x1 x2 ((b_X6_settle_0 (b_X0_playedVerdict_0 15 x1 S) S).2.2))
set_option maxRecDepth 20000 in
theorem t_X6_balls_0 (X : Cx p m c cX6_balls 3 s args RX6 D q ad) (F : XF ad s.heap.size sa s) (hnt : ∀ x ∈ c.exceptionTable.toList, False) (hst : l.stackTraces = false) (hr : meth.sig.returnType = some .int) (hlocks : meth.locks = false) (x1 : Int32) (x2 : Int32) (S : Sx) (xc : Nat) (rv : Int32) (S' : Sx) (ho : o_X6_balls_0 x1 x2 S) (he : b_X6_balls_0 x1 x2 S = (xc, rv, S')) : Jg p l e rm_X6_balls s m args below meth c 0 0 (vx_MQ below (QiX D q ad d xc rv S' s.heap.size) (XQ D q ad d xc S' s.heap.size) args s 2 12 (AU ad s.heap.size)) D q ad d 3 0 [(0, .ref (ad 0)), (1, .int x1), (2, .int x2)] [] S := by
  unfold b_X6_balls_0 at he
  unfold o_X6_balls_0 at ho
  refine j_aload_n X 0 dX6_balls_0 rfl ?_
  refine j_aload_n X 0 dX6_balls_1 rfl ?_
  refine gf_20_0 X m_fl_X6_10 kc20 dX6_balls_2 ?_
  refine j_iload_n X 1 dX6_balls_5 rfl ?_
  refine j_callVi (rest := [.ref (ad 0)]) X (c_X0_playedVerdict (cx_inj X) 15 kg0 x1 S) cw_X6_253 kg0.1 (cl_0 kg0) rfl ⟨rfl, rfl, Nat.le_of_ble_eq_true rfl, Nat.le_of_ble_eq_true rfl⟩ rfl rfl (Nat.le_of_ble_eq_true rfl) ⟨Nat.le_of_ble_eq_true rfl, Nat.le_of_ble_eq_true rfl⟩ dX6_balls_6 ?_
  refine j_callXv (rest := []) X F hnt hlocks (c_X6_settle hst (cx_inj X) (b_X0_playedVerdict_0 15 x1 S) S) cw_X6_69 kc20.1 (cl_20 kc20) rfl ⟨rfl, rfl, Nat.le_of_ble_eq_true rfl, Nat.le_of_ble_eq_true rfl⟩ rfl rfl (Nat.le_of_ble_eq_true rfl) ⟨Nat.le_of_ble_eq_true rfl, Nat.le_of_ble_eq_true rfl⟩ ⟨by decide, by decide⟩ dX6_balls_9 (fun h2 => ?_) (fun h2 => ?_)
  · rw [if_neg h2] at he
    exact pe2 he
  · rw [if_pos h2] at he
    have ho := ho h2
    exact t_X6_balls_12 X F hnt hst hr hlocks x1 x2 ((b_X6_settle_0 (b_X0_playedVerdict_0 15 x1 S) S).2.2) _ _ _ ho he
theorem c_X6_balls {l : Launch} {D : va_G} {q : Nat → ClassId} {ad : Nat → Nat} {d : UInt64} {sa : Nat → Nat} (hst : l.stackTraces = false) (hI : inj4 ad) (x1 : Int32) (x2 : Int32) (S : Sx) (ho : o_X6_balls_0 x1 x2 S) : CXi l yX6_balls cX6_balls 3 .int rm_X6_balls 2 12 D q ad d sa [.ref (ad 0), .int x1, .int x2] S (b_X6_balls_0 x1 x2 S).1 (b_X6_balls_0 x1 x2 S).2.1 (b_X6_balls_0 x1 x2 S).2.2 := cxi_of hI (by decide +kernel) (Nat.le_of_ble_eq_true rfl) rfl (fun p e s m args below meth c X F hnt hr hlocks => t_X6_balls_0 X F hnt hst hr hlocks x1 x2 S _ _ _ ho (pe3i _))
end
/-! RX6.runsAgain -/
abbrev rm_X6_runsAgain : Room := { frames := 7, cells := 1, slots := 6, locals := 111 }
section
variable {p : Program} {l : Launch} {e : Env} {s : State} {m : MethodId} {args : Array Value} {below : List Frame} {meth : Method} {c : Code} {D : va_G} {q : Nat → ClassId} {ad : Nat → Nat} {d : UInt64} {sa : Nat → Nat}
def b_X6_runsAgain_12 (v1 : Int32) (S : Sx) : Nat × Int32 × Sx := (0, b_X2_runsByWorth_0 (15 + 16 + v1.toNatClampNeg) S, S)
def o_X6_runsAgain_12 (v1 : Int32) (S : Sx) : Prop := vp_in v1 12 ∧ (o_X2_runsByWorth_0 (15 + 16 + v1.toNatClampNeg) S ∧ True)
set_option maxRecDepth 20000 in
theorem t_X6_runsAgain_12 (X : Cx p m c cX6_runsAgain 2 s args RX6 D q ad) (F : XF ad s.heap.size sa s) (hnt : ∀ x ∈ c.exceptionTable.toList, False) (hst : l.stackTraces = false) (hr : meth.sig.returnType = some .int) (hlocks : meth.locks = false) (v1 : Int32) (S : Sx) (xc : Nat) (rv : Int32) (S' : Sx) (ho : o_X6_runsAgain_12 v1 S) (he : b_X6_runsAgain_12 v1 S = (xc, rv, S')) : Jg p l e rm_X6_runsAgain s m args below meth c 1 6 (vx_MQ below (QiX D q ad d xc rv S' s.heap.size) (XQ D q ad d xc S' s.heap.size) args s 1 6 (AU ad s.heap.size)) D q ad d 2 12 [(0, .ref (ad 0)), (1, .int v1)] [] S := by
  unfold b_X6_runsAgain_12 at he
  unfold o_X6_runsAgain_12 at ho
  refine j_aload_n X 0 dX6_runsAgain_12 rfl ?_
  refine gf_20_0 X m_fl_X6_10 kc20 dX6_runsAgain_13 ?_
  refine gf_0_11 X m_fl_X6_219 kg0 dX6_runsAgain_16 ?_
  refine j_iload_n X 1 dX6_runsAgain_19 rfl ?_
  have h2 := ho.1
  have ho := ho.2
  refine j_aald (a := ad (15 + 16 + v1.toNatClampNeg)) X 3 (k0_6 kg0).1 (cl_6 (k0_6 kg0)) rfl h2 rfl dX6_runsAgain_20 ?_
  have hk3 : isK 9 (15 + 16 + v1.toNatClampNeg) := k0_9 kg0 (vlt h2)
  have h4 := ho.1
  have ho := ho.2
  refine j_callVi (rest := []) X (c_X2_runsByWorth (cx_inj X) (15 + 16 + v1.toNatClampNeg) hk3 S h4) cw_X6_268 hk3.1 (cl_9 hk3) rfl ⟨rfl, rfl, Nat.le_of_ble_eq_true rfl, Nat.le_of_ble_eq_true rfl⟩ rfl rfl (Nat.le_of_ble_eq_true rfl) ⟨Nat.le_of_ble_eq_true rfl, Nat.le_of_ble_eq_true rfl⟩ dX6_runsAgain_21 ?_
  exact j_iretX X hr hlocks ⟨by decide, by decide⟩ dX6_runsAgain_24 (pe3 he)
def b_X6_runsAgain_0 (x1 : Int32) (S : Sx) : Nat × Int32 × Sx := if (b_X6_settle_0 (b_X0_playedVerdict_0 15 x1 S) S).1 = 0 then b_X6_runsAgain_12 x1 ((b_X6_settle_0 (b_X0_playedVerdict_0 15 x1 S) S).2.2) else ((b_X6_settle_0 (b_X0_playedVerdict_0 15 x1 S) S).1, 0, (b_X6_settle_0 (b_X0_playedVerdict_0 15 x1 S) S).2.2)
def o_X6_runsAgain_0 (x1 : Int32) (S : Sx) : Prop := (b_X6_settle_0 (b_X0_playedVerdict_0 15 x1 S) S).1 = 0 → (o_X6_runsAgain_12 x1 ((b_X6_settle_0 (b_X0_playedVerdict_0 15 x1 S) S).2.2))
set_option maxRecDepth 20000 in
theorem t_X6_runsAgain_0 (X : Cx p m c cX6_runsAgain 2 s args RX6 D q ad) (F : XF ad s.heap.size sa s) (hnt : ∀ x ∈ c.exceptionTable.toList, False) (hst : l.stackTraces = false) (hr : meth.sig.returnType = some .int) (hlocks : meth.locks = false) (x1 : Int32) (S : Sx) (xc : Nat) (rv : Int32) (S' : Sx) (ho : o_X6_runsAgain_0 x1 S) (he : b_X6_runsAgain_0 x1 S = (xc, rv, S')) : Jg p l e rm_X6_runsAgain s m args below meth c 0 0 (vx_MQ below (QiX D q ad d xc rv S' s.heap.size) (XQ D q ad d xc S' s.heap.size) args s 1 6 (AU ad s.heap.size)) D q ad d 2 0 [(0, .ref (ad 0)), (1, .int x1)] [] S := by
  unfold b_X6_runsAgain_0 at he
  unfold o_X6_runsAgain_0 at ho
  refine j_aload_n X 0 dX6_runsAgain_0 rfl ?_
  refine j_aload_n X 0 dX6_runsAgain_1 rfl ?_
  refine gf_20_0 X m_fl_X6_10 kc20 dX6_runsAgain_2 ?_
  refine j_iload_n X 1 dX6_runsAgain_5 rfl ?_
  refine j_callVi (rest := [.ref (ad 0)]) X (c_X0_playedVerdict (cx_inj X) 15 kg0 x1 S) cw_X6_253 kg0.1 (cl_0 kg0) rfl ⟨rfl, rfl, Nat.le_of_ble_eq_true rfl, Nat.le_of_ble_eq_true rfl⟩ rfl rfl (Nat.le_of_ble_eq_true rfl) ⟨Nat.le_of_ble_eq_true rfl, Nat.le_of_ble_eq_true rfl⟩ dX6_runsAgain_6 ?_
  refine j_callXv (rest := []) X F hnt hlocks (c_X6_settle hst (cx_inj X) (b_X0_playedVerdict_0 15 x1 S) S) cw_X6_69 kc20.1 (cl_20 kc20) rfl ⟨rfl, rfl, Nat.le_of_ble_eq_true rfl, Nat.le_of_ble_eq_true rfl⟩ rfl rfl (Nat.le_of_ble_eq_true rfl) ⟨Nat.le_of_ble_eq_true rfl, Nat.le_of_ble_eq_true rfl⟩ ⟨by decide, by decide⟩ dX6_runsAgain_9 (fun h2 => ?_) (fun h2 => ?_)
  · rw [if_neg h2] at he
    exact pe2 he
  · rw [if_pos h2] at he
    have ho := ho h2
    exact t_X6_runsAgain_12 X F hnt hst hr hlocks x1 ((b_X6_settle_0 (b_X0_playedVerdict_0 15 x1 S) S).2.2) _ _ _ ho he
theorem c_X6_runsAgain {l : Launch} {D : va_G} {q : Nat → ClassId} {ad : Nat → Nat} {d : UInt64} {sa : Nat → Nat} (hst : l.stackTraces = false) (hI : inj4 ad) (x1 : Int32) (S : Sx) (ho : o_X6_runsAgain_0 x1 S) : CXi l yX6_runsAgain cX6_runsAgain 2 .int rm_X6_runsAgain 1 6 D q ad d sa [.ref (ad 0), .int x1] S (b_X6_runsAgain_0 x1 S).1 (b_X6_runsAgain_0 x1 S).2.1 (b_X6_runsAgain_0 x1 S).2.2 := cxi_of hI (by decide +kernel) (Nat.le_of_ble_eq_true rfl) rfl (fun p e s m args below meth c X F hnt hr hlocks => t_X6_runsAgain_0 X F hnt hst hr hlocks x1 S _ _ _ ho (pe3i _))
end
/-! RX6.ranked -/
abbrev rm_X6_ranked : Room := { frames := 6, cells := 1, slots := 6, locals := 90 }
section
variable {p : Program} {l : Launch} {e : Env} {s : State} {m : MethodId} {args : Array Value} {below : List Frame} {meth : Method} {c : Code} {D : va_G} {q : Nat → ClassId} {ad : Nat → Nat} {d : UInt64} {sa : Nat → Nat}
def b_X6_ranked_0 (x1 : Int32) (S : Sx) : Nat × Int32 × Sx := if (b_X0_inningsAtPlace_0 15 x1 S) = (-1) then (4, 0, S) else (0, b_X0_inningsAtPlace_0 15 x1 S, S)
def o_X6_ranked_0 (x1 : Int32) (S : Sx) : Prop := o_X0_inningsAtPlace_0 15 x1 S ∧ True
set_option maxRecDepth 20000 in
theorem t_X6_ranked_0 (X : Cx p m c cX6_ranked 3 s args RX6 D q ad) (F : XF ad s.heap.size sa s) (hnt : ∀ x ∈ c.exceptionTable.toList, False) (hst : l.stackTraces = false) (hr : meth.sig.returnType = some .int) (hlocks : meth.locks = false) (x1 : Int32) (S : Sx) (xc : Nat) (rv : Int32) (S' : Sx) (ho : o_X6_ranked_0 x1 S) (he : b_X6_ranked_0 x1 S = (xc, rv, S')) : Jg p l e rm_X6_ranked s m args below meth c 0 0 (vx_MQ below (QiX D q ad d xc rv S' s.heap.size) (XQ D q ad d xc S' s.heap.size) args s 1 6 (AU ad s.heap.size)) D q ad d 3 0 [(0, .ref (ad 0)), (1, .int x1)] [] S := by
  unfold b_X6_ranked_0 at he
  unfold o_X6_ranked_0 at ho
  refine j_aload_n X 0 dX6_ranked_0 rfl ?_
  refine gf_20_0 X m_fl_X6_10 kc20 dX6_ranked_1 ?_
  refine j_iload_n X 1 dX6_ranked_4 rfl ?_
  have h2 := ho.1
  have ho := ho.2
  refine j_callVi (rest := []) X (c_X0_inningsAtPlace (cx_inj X) 15 kg0 x1 S h2) cw_X6_271 kg0.1 (cl_0 kg0) rfl ⟨rfl, rfl, Nat.le_of_ble_eq_true rfl, Nat.le_of_ble_eq_true rfl⟩ rfl rfl (Nat.le_of_ble_eq_true rfl) ⟨Nat.le_of_ble_eq_true rfl, Nat.le_of_ble_eq_true rfl⟩ dX6_ranked_5 ?_
  refine j_istore_n X [(2, .int (b_X0_inningsAtPlace_0 15 x1 S)), (0, .ref (ad 0)), (1, .int x1)] dX6_ranked_8 (by decide) rfl ?_
  refine j_iload_n X 0 dX6_ranked_9 rfl ?_
  refine j_iconst (v := (-1)) X dX6_ranked_10 (by decide) ?_
  refine j_icmp_ne X 25 dX6_ranked_11 (by decide) (fun h3 => ?_) (fun h3 => ?_)
  · rw [if_neg h3] at he
    refine j_iload_n X 0 dX6_ranked_25 rfl ?_
    exact j_iretX X hr hlocks ⟨by decide, by decide⟩ dX6_ranked_26 (pe3 he)
  · rw [if_pos h3] at he
    exact j_throw4W X F hnt hlocks hst m_sr_274 dX6_ranked_14 dX6_ranked_17 dX6_ranked_18 dX6_ranked_21 dX6_ranked_24 ⟨Nat.le_of_ble_eq_true rfl, Nat.le_of_ble_eq_true rfl, Nat.le_of_ble_eq_true rfl, Nat.le_of_ble_eq_true rfl⟩ ⟨by decide, by decide⟩ (pe2 he)
theorem c_X6_ranked {l : Launch} {D : va_G} {q : Nat → ClassId} {ad : Nat → Nat} {d : UInt64} {sa : Nat → Nat} (hst : l.stackTraces = false) (hI : inj4 ad) (x1 : Int32) (S : Sx) (ho : o_X6_ranked_0 x1 S) : CXi l yX6_ranked cX6_ranked 3 .int rm_X6_ranked 1 6 D q ad d sa [.ref (ad 0), .int x1] S (b_X6_ranked_0 x1 S).1 (b_X6_ranked_0 x1 S).2.1 (b_X6_ranked_0 x1 S).2.2 := cxi_of hI (by decide +kernel) (Nat.le_of_ble_eq_true rfl) rfl (fun p e s m args below meth c X F hnt hr hlocks => t_X6_ranked_0 X F hnt hst hr hlocks x1 S _ _ _ ho (pe3i _))
end
/-! RX6.pass -/
abbrev rm_X6_pass : Room := { frames := 8, cells := 1, slots := 6, locals := 132 }
section
variable {p : Program} {l : Launch} {e : Env} {s : State} {m : MethodId} {args : Array Value} {below : List Frame} {meth : Method} {c : Code} {D : va_G} {q : Nat → ClassId} {ad : Nat → Nat} {d : UInt64} {sa : Nat → Nat}
def b_X6_pass_11 (v1 : Int32) (S : Sx) : Nat × Int32 × Sx := (0, (b_X0_letHoursGoBy_0 15 v1 S).1, (b_X0_letHoursGoBy_0 15 v1 S).2)
def o_X6_pass_11 (v1 : Int32) (S : Sx) : Prop := o_X0_letHoursGoBy_0 15 v1 S ∧ True
set_option maxRecDepth 20000 in
theorem t_X6_pass_11 (X : Cx p m c cX6_pass 2 s args RX6 D q ad) (F : XF ad s.heap.size sa s) (hnt : ∀ x ∈ c.exceptionTable.toList, False) (hst : l.stackTraces = false) (hr : meth.sig.returnType = some .int) (hlocks : meth.locks = false) (v1 : Int32) (S : Sx) (xc : Nat) (rv : Int32) (S' : Sx) (ho : o_X6_pass_11 v1 S) (he : b_X6_pass_11 v1 S = (xc, rv, S')) : Jg p l e rm_X6_pass s m args below meth c 1 6 (vx_MQ below (QiX D q ad d xc rv S' s.heap.size) (XQ D q ad d xc S' s.heap.size) args s 1 6 (AU ad s.heap.size)) D q ad d 2 11 [(0, .ref (ad 0)), (1, .int v1)] [] S := by
  unfold b_X6_pass_11 at he
  unfold o_X6_pass_11 at ho
  refine j_aload_n X 0 dX6_pass_11 rfl ?_
  refine gf_20_0 X m_fl_X6_10 kc20 dX6_pass_12 ?_
  refine j_iload_n X 1 dX6_pass_15 rfl ?_
  have h2 := ho.1
  have ho := ho.2
  refine j_callVi (rest := []) X (c_X0_letHoursGoBy (cx_inj X) 15 kg0 v1 S h2) cw_X6_276 kg0.1 (cl_0 kg0) rfl ⟨rfl, rfl, Nat.le_of_ble_eq_true rfl, Nat.le_of_ble_eq_true rfl⟩ rfl rfl (Nat.le_of_ble_eq_true rfl) ⟨Nat.le_of_ble_eq_true rfl, Nat.le_of_ble_eq_true rfl⟩ dX6_pass_16 ?_
  exact j_iretX X hr hlocks ⟨by decide, by decide⟩ dX6_pass_19 (pe3 he)
def b_X6_pass_0 (x1 : Int32) (S : Sx) : Nat × Int32 × Sx := if (b_X6_admit_0 (b_X6_rangeVerdict_0 x1 1 72 S) S).1 = 0 then b_X6_pass_11 x1 ((b_X6_admit_0 (b_X6_rangeVerdict_0 x1 1 72 S) S).2.2) else ((b_X6_admit_0 (b_X6_rangeVerdict_0 x1 1 72 S) S).1, 0, (b_X6_admit_0 (b_X6_rangeVerdict_0 x1 1 72 S) S).2.2)
def o_X6_pass_0 (x1 : Int32) (S : Sx) : Prop := o_X6_admit_0 (b_X6_rangeVerdict_0 x1 1 72 S) S ∧ ((b_X6_admit_0 (b_X6_rangeVerdict_0 x1 1 72 S) S).1 = 0 → (o_X6_pass_11 x1 ((b_X6_admit_0 (b_X6_rangeVerdict_0 x1 1 72 S) S).2.2)))
set_option maxRecDepth 20000 in
theorem t_X6_pass_0 (X : Cx p m c cX6_pass 2 s args RX6 D q ad) (F : XF ad s.heap.size sa s) (hnt : ∀ x ∈ c.exceptionTable.toList, False) (hst : l.stackTraces = false) (hr : meth.sig.returnType = some .int) (hlocks : meth.locks = false) (x1 : Int32) (S : Sx) (xc : Nat) (rv : Int32) (S' : Sx) (ho : o_X6_pass_0 x1 S) (he : b_X6_pass_0 x1 S = (xc, rv, S')) : Jg p l e rm_X6_pass s m args below meth c 0 0 (vx_MQ below (QiX D q ad d xc rv S' s.heap.size) (XQ D q ad d xc S' s.heap.size) args s 1 6 (AU ad s.heap.size)) D q ad d 2 0 [(0, .ref (ad 0)), (1, .int x1)] [] S := by
  unfold b_X6_pass_0 at he
  unfold o_X6_pass_0 at ho
  refine j_aload_n X 0 dX6_pass_0 rfl ?_
  refine j_iload_n X 1 dX6_pass_1 rfl ?_
  refine j_iconst (v := 1) X dX6_pass_2 (by decide) ?_
  refine j_bipush (v := 72) X dX6_pass_3 (by decide) ?_
  refine j_callSi (rest := [.ref (ad 0)]) X (c_X6_rangeVerdict (cx_inj X) x1 1 72 S) cw_X6_120 ⟨rfl, rfl, Nat.le_of_ble_eq_true rfl, Nat.le_of_ble_eq_true rfl⟩ rfl rfl (Nat.le_of_ble_eq_true rfl) ⟨Nat.le_of_ble_eq_true rfl, Nat.le_of_ble_eq_true rfl⟩ dX6_pass_5 ?_
  have h2 := ho.1
  have ho := ho.2
  refine j_callXv (rest := []) X F hnt hlocks (c_X6_admit hst (cx_inj X) (b_X6_rangeVerdict_0 x1 1 72 S) S h2) cw_X6_47 kc20.1 (cl_20 kc20) rfl ⟨rfl, rfl, Nat.le_of_ble_eq_true rfl, Nat.le_of_ble_eq_true rfl⟩ rfl rfl (Nat.le_of_ble_eq_true rfl) ⟨Nat.le_of_ble_eq_true rfl, Nat.le_of_ble_eq_true rfl⟩ ⟨by decide, by decide⟩ dX6_pass_8 (fun h3 => ?_) (fun h3 => ?_)
  · rw [if_neg h3] at he
    exact pe2 he
  · rw [if_pos h3] at he
    have ho := ho h3
    exact t_X6_pass_11 X F hnt hst hr hlocks x1 ((b_X6_admit_0 (b_X6_rangeVerdict_0 x1 1 72 S) S).2.2) _ _ _ ho he
theorem c_X6_pass {l : Launch} {D : va_G} {q : Nat → ClassId} {ad : Nat → Nat} {d : UInt64} {sa : Nat → Nat} (hst : l.stackTraces = false) (hI : inj4 ad) (x1 : Int32) (S : Sx) (ho : o_X6_pass_0 x1 S) : CXi l yX6_pass cX6_pass 2 .int rm_X6_pass 1 6 D q ad d sa [.ref (ad 0), .int x1] S (b_X6_pass_0 x1 S).1 (b_X6_pass_0 x1 S).2.1 (b_X6_pass_0 x1 S).2.2 := cxi_of hI (by decide +kernel) (Nat.le_of_ble_eq_true rfl) rfl (fun p e s m args below meth c X F hnt hr hlocks => t_X6_pass_0 X F hnt hst hr hlocks x1 S _ _ _ ho (pe3i _))
end
/-! RX6.append -/
abbrev rm_X6_append : Room := { frames := 6, cells := 1, slots := 6, locals := 90 }
section
variable {p : Program} {l : Launch} {e : Env} {s : State} {m : MethodId} {args : Array Value} {below : List Frame} {meth : Method} {c : Code} {D : va_G} {q : Nat → ClassId} {ad : Nat → Nat} {d : UInt64} {sa : Nat → Nat}
def b_X6_append_39  (S : Sx) : Nat × Int32 × Sx := (0, (up2 S 3 1 ((S 3 1) + 1)) 3 1, up2 S 3 1 ((S 3 1) + 1))
set_option maxRecDepth 20000 in
theorem t_X6_append_39 (X : Cx p m c cX6_append 2 s args RX6 D q ad) (F : XF ad s.heap.size sa s) (hnt : ∀ x ∈ c.exceptionTable.toList, False) (hst : l.stackTraces = false) (hr : meth.sig.returnType = some .int) (hlocks : meth.locks = false) (S : Sx) (xc : Nat) (rv : Int32) (S' : Sx) (he : b_X6_append_39 S = (xc, rv, S')) : Jg p l e rm_X6_append s m args below meth c 0 0 (vx_MQ below (QiX D q ad d xc rv S' s.heap.size) (XQ D q ad d xc S' s.heap.size) args s 1 6 (AU ad s.heap.size)) D q ad d 2 39 [(0, .ref (ad 0))] [] S := by
  unfold b_X6_append_39 at he
  refine j_aload_n X 0 dX6_append_39 rfl ?_
  refine gf_20_5 X m_fl_X6_32 kc20 dX6_append_40 ?_
  refine j_dup X dX6_append_43 rfl ?_
  refine gf_23_1 X m_fl_X6_279 kc23 dX6_append_44 ?_
  refine j_iconst (v := 1) X dX6_append_47 (by decide) ?_
  refine j_iadd X dX6_append_48 ?_
  refine pf_23_1 X m_fl_X6_279 kc23 dX6_append_49 ?_
  refine j_aload_n X 0 dX6_append_52 rfl ?_
  refine gf_20_5 X m_fl_X6_32 kc20 dX6_append_53 ?_
  refine gf_23_1 X m_fl_X6_279 kc23 dX6_append_56 ?_
  exact j_iretX X hr hlocks ⟨by decide, by decide⟩ dX6_append_59 (pe3 he)
def b_X6_append_0 (x1 : Int32) (S : Sx) : Nat × Int32 × Sx := if (S 3 1) < 60 then b_X6_append_39 (up2 S 4 ((S 3 1).toNatClampNeg) (vp_nar .char x1)) else (5, 0, S)
def o_X6_append_0 (x1 : Int32) (S : Sx) : Prop := ((S 3 1) < 60 → (vp_in (S 3 1) 60 ∧ True)) ∧ (¬ (S 3 1) < 60 → True)
set_option maxRecDepth 20000 in
theorem t_X6_append_0 (X : Cx p m c cX6_append 2 s args RX6 D q ad) (F : XF ad s.heap.size sa s) (hnt : ∀ x ∈ c.exceptionTable.toList, False) (hst : l.stackTraces = false) (hr : meth.sig.returnType = some .int) (hlocks : meth.locks = false) (x1 : Int32) (S : Sx) (xc : Nat) (rv : Int32) (S' : Sx) (ho : o_X6_append_0 x1 S) (he : b_X6_append_0 x1 S = (xc, rv, S')) : Jg p l e rm_X6_append s m args below meth c 0 0 (vx_MQ below (QiX D q ad d xc rv S' s.heap.size) (XQ D q ad d xc S' s.heap.size) args s 1 6 (AU ad s.heap.size)) D q ad d 2 0 [(0, .ref (ad 0)), (1, .int x1)] [] S := by
  unfold b_X6_append_0 at he
  unfold o_X6_append_0 at ho
  refine j_aload_n X 0 dX6_append_0 rfl ?_
  refine gf_20_5 X m_fl_X6_32 kc20 dX6_append_1 ?_
  refine gf_23_1 X m_fl_X6_279 kc23 dX6_append_4 ?_
  refine j_bipush (v := 60) X dX6_append_7 (by decide) ?_
  refine j_icmp_lt X 23 dX6_append_9 (by decide) (fun h2 => ?_) (fun h2 => ?_)
  · rw [if_pos h2] at he
    have ho := ho.1 h2
    refine j_aload_n X 0 dX6_append_23 rfl ?_
    refine gf_20_5 X m_fl_X6_32 kc20 dX6_append_24 ?_
    refine gf_23_0 X m_fl_X6_287 kc23 dX6_append_27 ?_
    refine j_aload_n X 0 dX6_append_30 rfl ?_
    refine gf_20_5 X m_fl_X6_32 kc20 dX6_append_31 ?_
    refine gf_23_1 X m_fl_X6_279 kc23 dX6_append_34 ?_
    refine j_iload_n X 1 dX6_append_37 rfl ?_
    have h3 := ho.1
    have ho := ho.2
    refine j_cast X kc24.1 (fun T => cl_24 kc24) h3 dX6_append_38 ?_
    refine j_lv [0] [(0, .ref (ad 0))] rfl ?_
    exact t_X6_append_39 X F hnt hst hr hlocks (up2 S 4 ((S 3 1).toNatClampNeg) (vp_nar .char x1)) _ _ _ he
  · rw [if_neg h2] at he
    have ho := ho.2 h2
    exact j_throwW X F hnt hlocks hst (k := 5) (by decide) ⟨by decide +kernel, by decide +kernel⟩ m_cl_X6_282 m_in_IllegalStateException m_sr_284 thA_5 thG_5 dX6_append_12 dX6_append_15 dX6_append_16 dX6_append_19 dX6_append_22 ⟨Nat.le_of_ble_eq_true rfl, Nat.le_of_ble_eq_true rfl, Nat.le_of_ble_eq_true rfl, Nat.le_of_ble_eq_true rfl⟩ ⟨by decide, by decide⟩ (pe2 he)
theorem c_X6_append {l : Launch} {D : va_G} {q : Nat → ClassId} {ad : Nat → Nat} {d : UInt64} {sa : Nat → Nat} (hst : l.stackTraces = false) (hI : inj4 ad) (x1 : Int32) (S : Sx) (ho : o_X6_append_0 x1 S) : CXi l yX6_append cX6_append 2 .int rm_X6_append 1 6 D q ad d sa [.ref (ad 0), .int x1] S (b_X6_append_0 x1 S).1 (b_X6_append_0 x1 S).2.1 (b_X6_append_0 x1 S).2.2 := cxi_of hI (by decide +kernel) (Nat.le_of_ble_eq_true rfl) rfl (fun p e s m args below meth c X F hnt hr hlocks => t_X6_append_0 X F hnt hst hr hlocks x1 S _ _ _ ho (pe3i _))
end
/-! RX6.read -/
abbrev rm_X6_read : Room := { frames := 8, cells := 1, slots := 6, locals := 138 }
section
variable {p : Program} {l : Launch} {e : Env} {s : State} {m : MethodId} {args : Array Value} {below : List Frame} {meth : Method} {c : Code} {D : va_G} {q : Nat → ClassId} {ad : Nat → Nat} {d : UInt64} {sa : Nat → Nat}
def b_X6_read_46  (S : Sx) : Nat × Int32 × Sx := (0, (b_X0_become_0 15 55 S) 3 3, b_X0_become_0 15 55 S)
def o_X6_read_46  (S : Sx) : Prop := o_X0_become_0 15 55 S ∧ True
set_option maxRecDepth 20000 in
theorem t_X6_read_46 (X : Cx p m c cX6_read 2 s args RX6 D q ad) (F : XF ad s.heap.size sa s) (hnt : ∀ x ∈ c.exceptionTable.toList, False) (hst : l.stackTraces = false) (hr : meth.sig.returnType = some .int) (hlocks : meth.locks = false) (S : Sx) (xc : Nat) (rv : Int32) (S' : Sx) (ho : o_X6_read_46 S) (he : b_X6_read_46 S = (xc, rv, S')) : Jg p l e rm_X6_read s m args below meth c 1 6 (vx_MQ below (QiX D q ad d xc rv S' s.heap.size) (XQ D q ad d xc S' s.heap.size) args s 1 6 (AU ad s.heap.size)) D q ad d 2 46 [(0, .ref (ad 0))] [] S := by
  unfold b_X6_read_46 at he
  unfold o_X6_read_46 at ho
  refine j_aload_n X 0 dX6_read_46 rfl ?_
  refine gf_20_0 X m_fl_X6_10 kc20 dX6_read_47 ?_
  refine j_aload_n X 0 dX6_read_50 rfl ?_
  refine gf_20_1 X m_fl_X6_16 kc20 dX6_read_51 ?_
  have h2 := ho.1
  have ho := ho.2
  refine j_callVv (rest := []) X (c_X0_become (cx_inj X) 15 kg0 55 kg1 S h2) cw_X6_199 kg0.1 (cl_0 kg0) rfl ⟨rfl, rfl, Nat.le_of_ble_eq_true rfl, Nat.le_of_ble_eq_true rfl⟩ rfl rfl (Nat.le_of_ble_eq_true rfl) ⟨Nat.le_of_ble_eq_true rfl, Nat.le_of_ble_eq_true rfl⟩ dX6_read_54 ?_
  refine j_aload_n X 0 dX6_read_57 rfl ?_
  refine gf_20_5 X m_fl_X6_32 kc20 dX6_read_58 ?_
  refine gf_23_3 X m_fl_X6_295 kc23 dX6_read_61 ?_
  exact j_iretX X hr hlocks ⟨by decide, by decide⟩ dX6_read_64 (pe3 he)
def b_X6_read_43 (w0 : Int32) (S : Sx) : Nat × Int32 × Sx := if (b_X6_admit_0 w0 S).1 = 0 then b_X6_read_46 ((b_X6_admit_0 w0 S).2.2) else ((b_X6_admit_0 w0 S).1, 0, (b_X6_admit_0 w0 S).2.2)
def o_X6_read_43 (w0 : Int32) (S : Sx) : Prop := o_X6_admit_0 w0 S ∧ ((b_X6_admit_0 w0 S).1 = 0 → (o_X6_read_46 ((b_X6_admit_0 w0 S).2.2)))
set_option maxRecDepth 20000 in
theorem t_X6_read_43 (X : Cx p m c cX6_read 2 s args RX6 D q ad) (F : XF ad s.heap.size sa s) (hnt : ∀ x ∈ c.exceptionTable.toList, False) (hst : l.stackTraces = false) (hr : meth.sig.returnType = some .int) (hlocks : meth.locks = false) (w0 : Int32) (S : Sx) (xc : Nat) (rv : Int32) (S' : Sx) (ho : o_X6_read_43 w0 S) (he : b_X6_read_43 w0 S = (xc, rv, S')) : Jg p l e rm_X6_read s m args below meth c 0 0 (vx_MQ below (QiX D q ad d xc rv S' s.heap.size) (XQ D q ad d xc S' s.heap.size) args s 1 6 (AU ad s.heap.size)) D q ad d 2 43 [(0, .ref (ad 0))] [.int w0, .ref (ad 0)] S := by
  unfold b_X6_read_43 at he
  unfold o_X6_read_43 at ho
  have h2 := ho.1
  have ho := ho.2
  refine j_callXv (rest := []) X F hnt hlocks (c_X6_admit hst (cx_inj X) w0 S h2) cw_X6_47 kc20.1 (cl_20 kc20) rfl ⟨rfl, rfl, Nat.le_of_ble_eq_true rfl, Nat.le_of_ble_eq_true rfl⟩ rfl rfl (Nat.le_of_ble_eq_true rfl) ⟨Nat.le_of_ble_eq_true rfl, Nat.le_of_ble_eq_true rfl⟩ ⟨by decide, by decide⟩ dX6_read_43 (fun h3 => ?_) (fun h3 => ?_)
  · rw [if_neg h3] at he
    exact pe2 he
  · rw [if_pos h3] at he
    have ho := ho h3
    exact t_X6_read_46 X F hnt hst hr hlocks ((b_X6_admit_0 w0 S).2.2) _ _ _ ho he
def b_X6_read_22 (w0 : Int32) (S : Sx) : Nat × Int32 × Sx := if w0 = (-1) then b_X6_read_43 (-2) (up2 S 3 1 0) else b_X6_read_43 w0 (up2 S 3 1 0)
def o_X6_read_22 (w0 : Int32) (S : Sx) : Prop := (w0 = (-1) → (o_X6_read_43 (-2) (up2 S 3 1 0))) ∧ (¬ w0 = (-1) → (o_X6_read_43 w0 (up2 S 3 1 0)))
set_option maxRecDepth 20000 in
theorem t_X6_read_22 (X : Cx p m c cX6_read 2 s args RX6 D q ad) (F : XF ad s.heap.size sa s) (hnt : ∀ x ∈ c.exceptionTable.toList, False) (hst : l.stackTraces = false) (hr : meth.sig.returnType = some .int) (hlocks : meth.locks = false) (w0 : Int32) (S : Sx) (xc : Nat) (rv : Int32) (S' : Sx) (ho : o_X6_read_22 w0 S) (he : b_X6_read_22 w0 S = (xc, rv, S')) : Jg p l e rm_X6_read s m args below meth c 0 0 (vx_MQ below (QiX D q ad d xc rv S' s.heap.size) (XQ D q ad d xc S' s.heap.size) args s 1 6 (AU ad s.heap.size)) D q ad d 2 22 [(0, .ref (ad 0))] [.int w0] S := by
  unfold b_X6_read_22 at he
  unfold o_X6_read_22 at ho
  refine j_istore_n X [(1, .int w0), (0, .ref (ad 0))] dX6_read_22 (by decide) rfl ?_
  refine j_aload_n X 1 dX6_read_23 rfl ?_
  refine gf_20_5 X m_fl_X6_32 kc20 dX6_read_24 ?_
  refine j_iconst (v := 0) X dX6_read_27 (by decide) ?_
  refine pf_23_1 X m_fl_X6_279 kc23 dX6_read_28 ?_
  refine j_aload_n X 1 dX6_read_31 rfl ?_
  refine j_iload_n X 0 dX6_read_32 rfl ?_
  refine j_iconst (v := (-1)) X dX6_read_33 (by decide) ?_
  refine j_icmp_ne X 42 dX6_read_34 (by decide) (fun h2 => ?_) (fun h2 => ?_)
  · rw [if_neg h2] at he
    have ho := ho.2 h2
    refine j_iload_n X 0 dX6_read_42 rfl ?_
    refine j_lv [1] [(0, .ref (ad 0))] rfl ?_
    exact t_X6_read_43 X F hnt hst hr hlocks w0 (up2 S 3 1 0) _ _ _ ho he
  · rw [if_pos h2] at he
    have ho := ho.1 h2
    refine j_bipush (v := (-2)) X dX6_read_37 (by decide) ?_
    refine j_goto X 43 dX6_read_39 (by decide) ?_
    refine j_lv [1] [(0, .ref (ad 0))] rfl ?_
    exact t_X6_read_43 X F hnt hst hr hlocks (-2) (up2 S 3 1 0) _ _ _ ho he
def b_X6_read_0  (S : Sx) : Nat × Int32 × Sx := b_X6_read_22 ((b_X3_carryOutAll_0 55 (b_X0_become_0 55 15 S)).1) ((b_X3_carryOutAll_0 55 (b_X0_become_0 55 15 S)).2)
def o_X6_read_0  (S : Sx) : Prop := o_X0_become_0 55 15 S ∧ (o_X3_carryOutAll_0 55 (b_X0_become_0 55 15 S) ∧ (o_X6_read_22 ((b_X3_carryOutAll_0 55 (b_X0_become_0 55 15 S)).1) ((b_X3_carryOutAll_0 55 (b_X0_become_0 55 15 S)).2)))
set_option maxRecDepth 20000 in
theorem t_X6_read_0 (X : Cx p m c cX6_read 2 s args RX6 D q ad) (F : XF ad s.heap.size sa s) (hnt : ∀ x ∈ c.exceptionTable.toList, False) (hst : l.stackTraces = false) (hr : meth.sig.returnType = some .int) (hlocks : meth.locks = false) (S : Sx) (xc : Nat) (rv : Int32) (S' : Sx) (ho : o_X6_read_0 S) (he : b_X6_read_0 S = (xc, rv, S')) : Jg p l e rm_X6_read s m args below meth c 0 0 (vx_MQ below (QiX D q ad d xc rv S' s.heap.size) (XQ D q ad d xc S' s.heap.size) args s 1 6 (AU ad s.heap.size)) D q ad d 2 0 [(0, .ref (ad 0))] [] S := by
  unfold b_X6_read_0 at he
  unfold o_X6_read_0 at ho
  refine j_aload_n X 0 dX6_read_0 rfl ?_
  refine gf_20_1 X m_fl_X6_16 kc20 dX6_read_1 ?_
  refine j_aload_n X 0 dX6_read_4 rfl ?_
  refine gf_20_0 X m_fl_X6_10 kc20 dX6_read_5 ?_
  have h2 := ho.1
  have ho := ho.2
  refine j_callVv (rest := []) X (c_X0_become (cx_inj X) 55 kg1 15 kg0 S h2) cw_X6_199 kg1.1 (cl_0 kg1) rfl ⟨rfl, rfl, Nat.le_of_ble_eq_true rfl, Nat.le_of_ble_eq_true rfl⟩ rfl rfl (Nat.le_of_ble_eq_true rfl) ⟨Nat.le_of_ble_eq_true rfl, Nat.le_of_ble_eq_true rfl⟩ dX6_read_8 ?_
  refine j_aload_n X 0 dX6_read_11 rfl ?_
  refine gf_20_5 X m_fl_X6_32 kc20 dX6_read_12 ?_
  refine j_aload_n X 0 dX6_read_15 rfl ?_
  refine gf_20_1 X m_fl_X6_16 kc20 dX6_read_16 ?_
  have h3 := ho.1
  have ho := ho.2
  refine j_callVi (rest := []) X (c_X3_carryOutAll (cx_inj X) 55 kg1 (b_X0_become_0 55 15 S) h3) cw_X6_291 kc23.1 (cl_23 kc23) rfl ⟨rfl, rfl, Nat.le_of_ble_eq_true rfl, Nat.le_of_ble_eq_true rfl⟩ rfl rfl (Nat.le_of_ble_eq_true rfl) ⟨Nat.le_of_ble_eq_true rfl, Nat.le_of_ble_eq_true rfl⟩ dX6_read_19 ?_
  exact t_X6_read_22 X F hnt hst hr hlocks ((b_X3_carryOutAll_0 55 (b_X0_become_0 55 15 S)).1) ((b_X3_carryOutAll_0 55 (b_X0_become_0 55 15 S)).2) _ _ _ ho he
theorem c_X6_read {l : Launch} {D : va_G} {q : Nat → ClassId} {ad : Nat → Nat} {d : UInt64} {sa : Nat → Nat} (hst : l.stackTraces = false) (hI : inj4 ad) (S : Sx) (ho : o_X6_read_0 S) : CXi l yX6_read cX6_read 2 .int rm_X6_read 1 6 D q ad d sa [.ref (ad 0)] S (b_X6_read_0 S).1 (b_X6_read_0 S).2.1 (b_X6_read_0 S).2.2 := cxi_of hI (by decide +kernel) (Nat.le_of_ble_eq_true rfl) rfl (fun p e s m args below meth c X F hnt hr hlocks => t_X6_read_0 X F hnt hst hr hlocks S _ _ _ ho (pe3i _))
end
/-! RX6.refusal -/
abbrev rm_X6_refusal : Room := { frames := 6, cells := 1, slots := 6, locals := 90 }
section
variable {p : Program} {l : Launch} {e : Env} {s : State} {m : MethodId} {args : Array Value} {below : List Frame} {meth : Method} {c : Code} {D : va_G} {q : Nat → ClassId} {ad : Nat → Nat} {d : UInt64} {sa : Nat → Nat}
def b_X6_refusal_34 (w0 : Int32) (S : Sx) : Nat × Int32 × Sx := (0, w0, S)
set_option maxRecDepth 20000 in
theorem t_X6_refusal_34 (X : Cx p m c cX6_refusal 2 s args RX6 D q ad) (F : XF ad s.heap.size sa s) (hnt : ∀ x ∈ c.exceptionTable.toList, False) (hst : l.stackTraces = false) (hr : meth.sig.returnType = some .int) (hlocks : meth.locks = false) (w0 : Int32) (S : Sx) (xc : Nat) (rv : Int32) (S' : Sx) (he : b_X6_refusal_34 w0 S = (xc, rv, S')) : Jg p l e rm_X6_refusal s m args below meth c 0 0 (vx_MQ below (QiX D q ad d xc rv S' s.heap.size) (XQ D q ad d xc S' s.heap.size) args s 1 6 (AU ad s.heap.size)) D q ad d 2 34 [] [.int w0] S := by
  unfold b_X6_refusal_34 at he
  exact j_iretX X hr hlocks ⟨by decide, by decide⟩ dX6_refusal_34 (pe3 he)
def b_X6_refusal_0 (x1 : Int32) (S : Sx) : Nat × Int32 × Sx := if (S 0 6) = (-1) then (4, 0, S) else if x1 = 0 then b_X6_refusal_34 (S 0 6) S else b_X6_refusal_34 (S 0 7) S
set_option maxRecDepth 20000 in
theorem t_X6_refusal_0 (X : Cx p m c cX6_refusal 2 s args RX6 D q ad) (F : XF ad s.heap.size sa s) (hnt : ∀ x ∈ c.exceptionTable.toList, False) (hst : l.stackTraces = false) (hr : meth.sig.returnType = some .int) (hlocks : meth.locks = false) (x1 : Int32) (S : Sx) (xc : Nat) (rv : Int32) (S' : Sx) (he : b_X6_refusal_0 x1 S = (xc, rv, S')) : Jg p l e rm_X6_refusal s m args below meth c 0 0 (vx_MQ below (QiX D q ad d xc rv S' s.heap.size) (XQ D q ad d xc S' s.heap.size) args s 1 6 (AU ad s.heap.size)) D q ad d 2 0 [(0, .ref (ad 0)), (1, .int x1)] [] S := by
  unfold b_X6_refusal_0 at he
  refine j_aload_n X 0 dX6_refusal_0 rfl ?_
  refine gf_20_6 X m_fl_X6_36 kc20 dX6_refusal_1 ?_
  refine j_iconst (v := (-1)) X dX6_refusal_4 (by decide) ?_
  refine j_icmp_ne X 19 dX6_refusal_5 (by decide) (fun h2 => ?_) (fun h2 => ?_)
  · rw [if_neg h2] at he
    refine j_iload_n X 1 dX6_refusal_19 rfl ?_
    refine j_if_eq X 30 dX6_refusal_20 (by decide) (fun h3 => ?_) (fun h3 => ?_)
    · rw [if_pos h3] at he
      refine j_aload_n X 0 dX6_refusal_30 rfl ?_
      refine gf_20_6 X m_fl_X6_36 kc20 dX6_refusal_31 ?_
      refine j_lv [] [] rfl ?_
      exact t_X6_refusal_34 X F hnt hst hr hlocks (S 0 6) S _ _ _ he
    · rw [if_neg h3] at he
      refine j_aload_n X 0 dX6_refusal_23 rfl ?_
      refine gf_20_7 X m_fl_X6_40 kc20 dX6_refusal_24 ?_
      refine j_goto X 34 dX6_refusal_27 (by decide) ?_
      refine j_lv [] [] rfl ?_
      exact t_X6_refusal_34 X F hnt hst hr hlocks (S 0 7) S _ _ _ he
  · rw [if_pos h2] at he
    exact j_throw4W X F hnt hlocks hst m_sr_301 dX6_refusal_8 dX6_refusal_11 dX6_refusal_12 dX6_refusal_15 dX6_refusal_18 ⟨Nat.le_of_ble_eq_true rfl, Nat.le_of_ble_eq_true rfl, Nat.le_of_ble_eq_true rfl, Nat.le_of_ble_eq_true rfl⟩ ⟨by decide, by decide⟩ (pe2 he)
theorem c_X6_refusal {l : Launch} {D : va_G} {q : Nat → ClassId} {ad : Nat → Nat} {d : UInt64} {sa : Nat → Nat} (hst : l.stackTraces = false) (hI : inj4 ad) (x1 : Int32) (S : Sx) : CXi l yX6_refusal cX6_refusal 2 .int rm_X6_refusal 1 6 D q ad d sa [.ref (ad 0), .int x1] S (b_X6_refusal_0 x1 S).1 (b_X6_refusal_0 x1 S).2.1 (b_X6_refusal_0 x1 S).2.2 := cxi_of hI (by decide +kernel) (Nat.le_of_ble_eq_true rfl) rfl (fun p e s m args below meth c X F hnt hr hlocks => t_X6_refusal_0 X F hnt hst hr hlocks x1 S _ _ _ (pe3i _))
end
/-! RX6.account -/
abbrev rm_X6_account : Room := { frames := 6, cells := 1, slots := 6, locals := 90 }
section
variable {p : Program} {l : Launch} {e : Env} {s : State} {m : MethodId} {args : Array Value} {below : List Frame} {meth : Method} {c : Code} {D : va_G} {q : Nat → ClassId} {ad : Nat → Nat} {d : UInt64} {sa : Nat → Nat}
def b_X6_account_0 (x1 : Int32) (S : Sx) : Nat × Int32 × Sx := if x1 = 0 then (0, S 15 0, S) else (if x1 = 1 then (0, S 15 1, S) else (if x1 = 2 then (0, S 15 4, S) else (if x1 = 3 then (0, b_X0_coveredPitches_0 15 S, S) else (if x1 = 4 then (0, S 15 6, S) else (if x1 = 5 then (0, b_X0_rollingHorses_0 15 S, S) else (if x1 = 6 then (0, b_X0_bootedHorses_0 15 S, S) else (if x1 = 7 then (0, S 15 8, S) else (if x1 = 8 then (0, S 15 10, S) else (if x1 = 9 then (0, b_X0_inningsOver_0 15 S, S) else (if x1 = 10 then (0, b_X0_ballsInInnings_0 15 S, S) else (if x1 = 11 then (0, b_X0_runsInInnings_0 15 S, S) else (if x1 = 12 then (0, b_X0_wicketsInInnings_0 15 S, S) else (if x1 = 13 then (0, b_X0_hoursOfHorses_0 15 S, S) else (if x1 = 14 then (0, b_X0_wetnessOfPitches_0 15 S, S) else (if x1 = 15 then (0, S 3 1, S) else (if x1 = 16 then (0, S 1 2, S) else (2, 0, S)))))))))))))))))
def o_X6_account_0 (x1 : Int32) (S : Sx) : Prop := (x1 = 0 → True) ∧ (¬ x1 = 0 → ((x1 = 1 → True) ∧ (¬ x1 = 1 → ((x1 = 2 → True) ∧ (¬ x1 = 2 → ((x1 = 3 → (o_X0_coveredPitches_0 15 S ∧ True)) ∧ (¬ x1 = 3 → ((x1 = 4 → True) ∧ (¬ x1 = 4 → ((x1 = 5 → (o_X0_rollingHorses_0 15 S ∧ True)) ∧ (¬ x1 = 5 → ((x1 = 6 → (o_X0_bootedHorses_0 15 S ∧ True)) ∧ (¬ x1 = 6 → ((x1 = 7 → True) ∧ (¬ x1 = 7 → ((x1 = 8 → True) ∧ (¬ x1 = 8 → ((x1 = 9 → (o_X0_inningsOver_0 15 S ∧ True)) ∧ (¬ x1 = 9 → ((x1 = 10 → (o_X0_ballsInInnings_0 15 S ∧ True)) ∧ (¬ x1 = 10 → ((x1 = 11 → (o_X0_runsInInnings_0 15 S ∧ True)) ∧ (¬ x1 = 11 → ((x1 = 12 → (o_X0_wicketsInInnings_0 15 S ∧ True)) ∧ (¬ x1 = 12 → ((x1 = 13 → (o_X0_hoursOfHorses_0 15 S ∧ True)) ∧ (¬ x1 = 13 → ((x1 = 14 → (o_X0_wetnessOfPitches_0 15 S ∧ True)) ∧ (¬ x1 = 14 → ((x1 = 15 → True) ∧ (¬ x1 = 15 → ((x1 = 16 → True) ∧ (¬ x1 = 16 → True)))))))))))))))))))))))))))))))))
set_option maxRecDepth 20000 in
theorem t_X6_account_0 (X : Cx p m c cX6_account 2 s args RX6 D q ad) (F : XF ad s.heap.size sa s) (hnt : ∀ x ∈ c.exceptionTable.toList, False) (hst : l.stackTraces = false) (hr : meth.sig.returnType = some .int) (hlocks : meth.locks = false) (x1 : Int32) (S : Sx) (xc : Nat) (rv : Int32) (S' : Sx) (ho : o_X6_account_0 x1 S) (he : b_X6_account_0 x1 S = (xc, rv, S')) : Jg p l e rm_X6_account s m args below meth c 0 0 (vx_MQ below (QiX D q ad d xc rv S' s.heap.size) (XQ D q ad d xc S' s.heap.size) args s 1 6 (AU ad s.heap.size)) D q ad d 2 0 [(0, .ref (ad 0)), (1, .int x1)] [] S := by
  unfold b_X6_account_0 at he
  unfold o_X6_account_0 at ho
  refine j_iload_n X 1 dX6_account_0 rfl ?_
  by_cases h11 : x1 = 0
  · rw [if_pos h11] at he
    have ho := ho.1 h11
    refine j_tableIn X 0 83 84 dX6_account_1 (by rw [h11]; rfl) (by decide) (by decide) rfl (by decide) ?_
    refine j_aload_n X 0 dX6_account_84 rfl ?_
    refine gf_20_0 X m_fl_X6_10 kc20 dX6_account_85 ?_
    refine gf_0_0 X m_fl_X6_303 kg0 dX6_account_88 ?_
    exact j_iretX X hr hlocks ⟨by decide, by decide⟩ dX6_account_91 (pe3 he)
  rw [if_neg h11] at he
  have ho := ho.2 h11
  by_cases h12 : x1 = 1
  · rw [if_pos h12] at he
    have ho := ho.1 h12
    refine j_tableIn X 1 91 92 dX6_account_1 (by rw [h12]; rfl) (by decide) (by decide) rfl (by decide) ?_
    refine j_aload_n X 0 dX6_account_92 rfl ?_
    refine gf_20_0 X m_fl_X6_10 kc20 dX6_account_93 ?_
    refine gf_0_1 X m_fl_X6_66 kg0 dX6_account_96 ?_
    exact j_iretX X hr hlocks ⟨by decide, by decide⟩ dX6_account_99 (pe3 he)
  rw [if_neg h12] at he
  have ho := ho.2 h12
  by_cases h13 : x1 = 2
  · rw [if_pos h13] at he
    have ho := ho.1 h13
    refine j_tableIn X 2 99 100 dX6_account_1 (by rw [h13]; rfl) (by decide) (by decide) rfl (by decide) ?_
    refine j_aload_n X 0 dX6_account_100 rfl ?_
    refine gf_20_0 X m_fl_X6_10 kc20 dX6_account_101 ?_
    refine gf_0_4 X m_fl_X6_72 kg0 dX6_account_104 ?_
    exact j_iretX X hr hlocks ⟨by decide, by decide⟩ dX6_account_107 (pe3 he)
  rw [if_neg h13] at he
  have ho := ho.2 h13
  by_cases h14 : x1 = 3
  · rw [if_pos h14] at he
    have ho := ho.1 h14
    refine j_tableIn X 3 107 108 dX6_account_1 (by rw [h14]; rfl) (by decide) (by decide) rfl (by decide) ?_
    refine j_aload_n X 0 dX6_account_108 rfl ?_
    refine gf_20_0 X m_fl_X6_10 kc20 dX6_account_109 ?_
    have h2 := ho.1
    have ho := ho.2
    refine j_callVi (rest := []) X (c_X0_coveredPitches (cx_inj X) 15 kg0 S h2) cw_X6_306 kg0.1 (cl_0 kg0) rfl ⟨rfl, rfl, Nat.le_of_ble_eq_true rfl, Nat.le_of_ble_eq_true rfl⟩ rfl rfl (Nat.le_of_ble_eq_true rfl) ⟨Nat.le_of_ble_eq_true rfl, Nat.le_of_ble_eq_true rfl⟩ dX6_account_112 ?_
    exact j_iretX X hr hlocks ⟨by decide, by decide⟩ dX6_account_115 (pe3 he)
  rw [if_neg h14] at he
  have ho := ho.2 h14
  by_cases h15 : x1 = 4
  · rw [if_pos h15] at he
    have ho := ho.1 h15
    refine j_tableIn X 4 115 116 dX6_account_1 (by rw [h15]; rfl) (by decide) (by decide) rfl (by decide) ?_
    refine j_aload_n X 0 dX6_account_116 rfl ?_
    refine gf_20_0 X m_fl_X6_10 kc20 dX6_account_117 ?_
    refine gf_0_6 X m_fl_X6_124 kg0 dX6_account_120 ?_
    exact j_iretX X hr hlocks ⟨by decide, by decide⟩ dX6_account_123 (pe3 he)
  rw [if_neg h15] at he
  have ho := ho.2 h15
  by_cases h16 : x1 = 5
  · rw [if_pos h16] at he
    have ho := ho.1 h16
    refine j_tableIn X 5 123 124 dX6_account_1 (by rw [h16]; rfl) (by decide) (by decide) rfl (by decide) ?_
    refine j_aload_n X 0 dX6_account_124 rfl ?_
    refine gf_20_0 X m_fl_X6_10 kc20 dX6_account_125 ?_
    have h3 := ho.1
    have ho := ho.2
    refine j_callVi (rest := []) X (c_X0_rollingHorses (cx_inj X) 15 kg0 S h3) cw_X6_309 kg0.1 (cl_0 kg0) rfl ⟨rfl, rfl, Nat.le_of_ble_eq_true rfl, Nat.le_of_ble_eq_true rfl⟩ rfl rfl (Nat.le_of_ble_eq_true rfl) ⟨Nat.le_of_ble_eq_true rfl, Nat.le_of_ble_eq_true rfl⟩ dX6_account_128 ?_
    exact j_iretX X hr hlocks ⟨by decide, by decide⟩ dX6_account_131 (pe3 he)
  rw [if_neg h16] at he
  have ho := ho.2 h16
  by_cases h17 : x1 = 6
  · rw [if_pos h17] at he
    have ho := ho.1 h17
    refine j_tableIn X 6 131 132 dX6_account_1 (by rw [h17]; rfl) (by decide) (by decide) rfl (by decide) ?_
    refine j_aload_n X 0 dX6_account_132 rfl ?_
    refine gf_20_0 X m_fl_X6_10 kc20 dX6_account_133 ?_
    have h4 := ho.1
    have ho := ho.2
    refine j_callVi (rest := []) X (c_X0_bootedHorses (cx_inj X) 15 kg0 S h4) cw_X6_142 kg0.1 (cl_0 kg0) rfl ⟨rfl, rfl, Nat.le_of_ble_eq_true rfl, Nat.le_of_ble_eq_true rfl⟩ rfl rfl (Nat.le_of_ble_eq_true rfl) ⟨Nat.le_of_ble_eq_true rfl, Nat.le_of_ble_eq_true rfl⟩ dX6_account_136 ?_
    exact j_iretX X hr hlocks ⟨by decide, by decide⟩ dX6_account_139 (pe3 he)
  rw [if_neg h17] at he
  have ho := ho.2 h17
  by_cases h18 : x1 = 7
  · rw [if_pos h18] at he
    have ho := ho.1 h18
    refine j_tableIn X 7 139 140 dX6_account_1 (by rw [h18]; rfl) (by decide) (by decide) rfl (by decide) ?_
    refine j_aload_n X 0 dX6_account_140 rfl ?_
    refine gf_20_0 X m_fl_X6_10 kc20 dX6_account_141 ?_
    refine gf_0_8 X m_fl_X6_187 kg0 dX6_account_144 ?_
    exact j_iretX X hr hlocks ⟨by decide, by decide⟩ dX6_account_147 (pe3 he)
  rw [if_neg h18] at he
  have ho := ho.2 h18
  by_cases h19 : x1 = 8
  · rw [if_pos h19] at he
    have ho := ho.1 h19
    refine j_tableIn X 8 147 148 dX6_account_1 (by rw [h19]; rfl) (by decide) (by decide) rfl (by decide) ?_
    refine j_aload_n X 0 dX6_account_148 rfl ?_
    refine gf_20_0 X m_fl_X6_10 kc20 dX6_account_149 ?_
    refine gf_0_10 X m_fl_X6_223 kg0 dX6_account_152 ?_
    exact j_iretX X hr hlocks ⟨by decide, by decide⟩ dX6_account_155 (pe3 he)
  rw [if_neg h19] at he
  have ho := ho.2 h19
  by_cases h20 : x1 = 9
  · rw [if_pos h20] at he
    have ho := ho.1 h20
    refine j_tableIn X 9 155 156 dX6_account_1 (by rw [h20]; rfl) (by decide) (by decide) rfl (by decide) ?_
    refine j_aload_n X 0 dX6_account_156 rfl ?_
    refine gf_20_0 X m_fl_X6_10 kc20 dX6_account_157 ?_
    have h5 := ho.1
    have ho := ho.2
    refine j_callVi (rest := []) X (c_X0_inningsOver (cx_inj X) 15 kg0 S h5) cw_X6_312 kg0.1 (cl_0 kg0) rfl ⟨rfl, rfl, Nat.le_of_ble_eq_true rfl, Nat.le_of_ble_eq_true rfl⟩ rfl rfl (Nat.le_of_ble_eq_true rfl) ⟨Nat.le_of_ble_eq_true rfl, Nat.le_of_ble_eq_true rfl⟩ dX6_account_160 ?_
    exact j_iretX X hr hlocks ⟨by decide, by decide⟩ dX6_account_163 (pe3 he)
  rw [if_neg h20] at he
  have ho := ho.2 h20
  by_cases h21 : x1 = 10
  · rw [if_pos h21] at he
    have ho := ho.1 h21
    refine j_tableIn X 10 163 164 dX6_account_1 (by rw [h21]; rfl) (by decide) (by decide) rfl (by decide) ?_
    refine j_aload_n X 0 dX6_account_164 rfl ?_
    refine gf_20_0 X m_fl_X6_10 kc20 dX6_account_165 ?_
    have h6 := ho.1
    have ho := ho.2
    refine j_callVi (rest := []) X (c_X0_ballsInInnings (cx_inj X) 15 kg0 S h6) cw_X6_315 kg0.1 (cl_0 kg0) rfl ⟨rfl, rfl, Nat.le_of_ble_eq_true rfl, Nat.le_of_ble_eq_true rfl⟩ rfl rfl (Nat.le_of_ble_eq_true rfl) ⟨Nat.le_of_ble_eq_true rfl, Nat.le_of_ble_eq_true rfl⟩ dX6_account_168 ?_
    exact j_iretX X hr hlocks ⟨by decide, by decide⟩ dX6_account_171 (pe3 he)
  rw [if_neg h21] at he
  have ho := ho.2 h21
  by_cases h22 : x1 = 11
  · rw [if_pos h22] at he
    have ho := ho.1 h22
    refine j_tableIn X 11 171 172 dX6_account_1 (by rw [h22]; rfl) (by decide) (by decide) rfl (by decide) ?_
    refine j_aload_n X 0 dX6_account_172 rfl ?_
    refine gf_20_0 X m_fl_X6_10 kc20 dX6_account_173 ?_
    have h7 := ho.1
    have ho := ho.2
    refine j_callVi (rest := []) X (c_X0_runsInInnings (cx_inj X) 15 kg0 S h7) cw_X6_318 kg0.1 (cl_0 kg0) rfl ⟨rfl, rfl, Nat.le_of_ble_eq_true rfl, Nat.le_of_ble_eq_true rfl⟩ rfl rfl (Nat.le_of_ble_eq_true rfl) ⟨Nat.le_of_ble_eq_true rfl, Nat.le_of_ble_eq_true rfl⟩ dX6_account_176 ?_
    exact j_iretX X hr hlocks ⟨by decide, by decide⟩ dX6_account_179 (pe3 he)
  rw [if_neg h22] at he
  have ho := ho.2 h22
  by_cases h23 : x1 = 12
  · rw [if_pos h23] at he
    have ho := ho.1 h23
    refine j_tableIn X 12 179 180 dX6_account_1 (by rw [h23]; rfl) (by decide) (by decide) rfl (by decide) ?_
    refine j_aload_n X 0 dX6_account_180 rfl ?_
    refine gf_20_0 X m_fl_X6_10 kc20 dX6_account_181 ?_
    have h8 := ho.1
    have ho := ho.2
    refine j_callVi (rest := []) X (c_X0_wicketsInInnings (cx_inj X) 15 kg0 S h8) cw_X6_321 kg0.1 (cl_0 kg0) rfl ⟨rfl, rfl, Nat.le_of_ble_eq_true rfl, Nat.le_of_ble_eq_true rfl⟩ rfl rfl (Nat.le_of_ble_eq_true rfl) ⟨Nat.le_of_ble_eq_true rfl, Nat.le_of_ble_eq_true rfl⟩ dX6_account_184 ?_
    exact j_iretX X hr hlocks ⟨by decide, by decide⟩ dX6_account_187 (pe3 he)
  rw [if_neg h23] at he
  have ho := ho.2 h23
  by_cases h24 : x1 = 13
  · rw [if_pos h24] at he
    have ho := ho.1 h24
    refine j_tableIn X 13 187 188 dX6_account_1 (by rw [h24]; rfl) (by decide) (by decide) rfl (by decide) ?_
    refine j_aload_n X 0 dX6_account_188 rfl ?_
    refine gf_20_0 X m_fl_X6_10 kc20 dX6_account_189 ?_
    have h9 := ho.1
    have ho := ho.2
    refine j_callVi (rest := []) X (c_X0_hoursOfHorses (cx_inj X) 15 kg0 S h9) cw_X6_324 kg0.1 (cl_0 kg0) rfl ⟨rfl, rfl, Nat.le_of_ble_eq_true rfl, Nat.le_of_ble_eq_true rfl⟩ rfl rfl (Nat.le_of_ble_eq_true rfl) ⟨Nat.le_of_ble_eq_true rfl, Nat.le_of_ble_eq_true rfl⟩ dX6_account_192 ?_
    exact j_iretX X hr hlocks ⟨by decide, by decide⟩ dX6_account_195 (pe3 he)
  rw [if_neg h24] at he
  have ho := ho.2 h24
  by_cases h25 : x1 = 14
  · rw [if_pos h25] at he
    have ho := ho.1 h25
    refine j_tableIn X 14 195 196 dX6_account_1 (by rw [h25]; rfl) (by decide) (by decide) rfl (by decide) ?_
    refine j_aload_n X 0 dX6_account_196 rfl ?_
    refine gf_20_0 X m_fl_X6_10 kc20 dX6_account_197 ?_
    have h10 := ho.1
    have ho := ho.2
    refine j_callVi (rest := []) X (c_X0_wetnessOfPitches (cx_inj X) 15 kg0 S h10) cw_X6_327 kg0.1 (cl_0 kg0) rfl ⟨rfl, rfl, Nat.le_of_ble_eq_true rfl, Nat.le_of_ble_eq_true rfl⟩ rfl rfl (Nat.le_of_ble_eq_true rfl) ⟨Nat.le_of_ble_eq_true rfl, Nat.le_of_ble_eq_true rfl⟩ dX6_account_200 ?_
    exact j_iretX X hr hlocks ⟨by decide, by decide⟩ dX6_account_203 (pe3 he)
  rw [if_neg h25] at he
  have ho := ho.2 h25
  by_cases h26 : x1 = 15
  · rw [if_pos h26] at he
    have ho := ho.1 h26
    refine j_tableIn X 15 203 204 dX6_account_1 (by rw [h26]; rfl) (by decide) (by decide) rfl (by decide) ?_
    refine j_aload_n X 0 dX6_account_204 rfl ?_
    refine gf_20_5 X m_fl_X6_32 kc20 dX6_account_205 ?_
    refine gf_23_1 X m_fl_X6_279 kc23 dX6_account_208 ?_
    exact j_iretX X hr hlocks ⟨by decide, by decide⟩ dX6_account_211 (pe3 he)
  rw [if_neg h26] at he
  have ho := ho.2 h26
  by_cases h27 : x1 = 16
  · rw [if_pos h27] at he
    have ho := ho.1 h27
    refine j_tableIn X 16 211 212 dX6_account_1 (by rw [h27]; rfl) (by decide) (by decide) rfl (by decide) ?_
    refine j_aload_n X 0 dX6_account_212 rfl ?_
    refine gf_20_4 X m_fl_X6_25 kc20 dX6_account_213 ?_
    refine gf_21_2 X m_fl_X6_330 kc21 dX6_account_216 ?_
    exact j_iretX X hr hlocks ⟨by decide, by decide⟩ dX6_account_219 (pe3 he)
  rw [if_neg h27] at he
  have ho := ho.2 h27
  have e28 := lv_neT (a := 0) h11 rfl
  have e29 := lv_neT (a := 1) h12 rfl
  have e30 := lv_neT (a := 2) h13 rfl
  have e31 := lv_neT (a := 3) h14 rfl
  have e32 := lv_neT (a := 4) h15 rfl
  have e33 := lv_neT (a := 5) h16 rfl
  have e34 := lv_neT (a := 6) h17 rfl
  have e35 := lv_neT (a := 7) h18 rfl
  have e36 := lv_neT (a := 8) h19 rfl
  have e37 := lv_neT (a := 9) h20 rfl
  have e38 := lv_neT (a := 10) h21 rfl
  have e39 := lv_neT (a := 11) h22 rfl
  have e40 := lv_neT (a := 12) h23 rfl
  have e41 := lv_neT (a := 13) h24 rfl
  have e42 := lv_neT (a := 14) h25 rfl
  have e43 := lv_neT (a := 15) h26 rfl
  have e44 := lv_neT (a := 16) h27 rfl
  refine j_tableOut X 220 dX6_account_1 (by omega) (by decide) ?_
  exact j_throwW X F hnt hlocks hst (k := 2) (by decide) ⟨by decide +kernel, by decide +kernel⟩ m_cl_X6_113 m_in_IllegalArgumentException m_sr_331 thA_2 thG_2 dX6_account_220 dX6_account_223 dX6_account_224 dX6_account_227 dX6_account_230 ⟨Nat.le_of_ble_eq_true rfl, Nat.le_of_ble_eq_true rfl, Nat.le_of_ble_eq_true rfl, Nat.le_of_ble_eq_true rfl⟩ ⟨by decide, by decide⟩ (pe2 he)
theorem c_X6_account {l : Launch} {D : va_G} {q : Nat → ClassId} {ad : Nat → Nat} {d : UInt64} {sa : Nat → Nat} (hst : l.stackTraces = false) (hI : inj4 ad) (x1 : Int32) (S : Sx) (ho : o_X6_account_0 x1 S) : CXi l yX6_account cX6_account 2 .int rm_X6_account 1 6 D q ad d sa [.ref (ad 0), .int x1] S (b_X6_account_0 x1 S).1 (b_X6_account_0 x1 S).2.1 (b_X6_account_0 x1 S).2.2 := cxi_of hI (by decide +kernel) (Nat.le_of_ble_eq_true rfl) rfl (fun p e s m args below meth c X F hnt hr hlocks => t_X6_account_0 X F hnt hst hr hlocks x1 S _ _ _ ho (pe3i _))
end
/-! RX6.undo -/
abbrev rm_X6_undo : Room := { frames := 6, cells := 1, slots := 6, locals := 102 }
section
variable {p : Program} {l : Launch} {e : Env} {s : State} {m : MethodId} {args : Array Value} {below : List Frame} {meth : Method} {c : Code} {D : va_G} {q : Nat → ClassId} {ad : Nat → Nat} {d : UInt64} {sa : Nat → Nat}
def b_X6_undo_0  (S : Sx) : Nat × Int32 × Sx := if (S 1 2) = 0 then (5, 0, S) else (0, (b_X4_giveBack_0 15 S) 1 2, b_X4_giveBack_0 15 S)
def o_X6_undo_0  (S : Sx) : Prop := ((S 1 2) = 0 → True) ∧ (¬ (S 1 2) = 0 → (o_X4_giveBack_0 15 S ∧ True))
set_option maxRecDepth 20000 in
theorem t_X6_undo_0 (X : Cx p m c cX6_undo 1 s args RX6 D q ad) (F : XF ad s.heap.size sa s) (hnt : ∀ x ∈ c.exceptionTable.toList, False) (hst : l.stackTraces = false) (hr : meth.sig.returnType = some .int) (hlocks : meth.locks = false) (S : Sx) (xc : Nat) (rv : Int32) (S' : Sx) (ho : o_X6_undo_0 S) (he : b_X6_undo_0 S = (xc, rv, S')) : Jg p l e rm_X6_undo s m args below meth c 0 0 (vx_MQ below (QiX D q ad d xc rv S' s.heap.size) (XQ D q ad d xc S' s.heap.size) args s 1 6 (AU ad s.heap.size)) D q ad d 1 0 [(0, .ref (ad 0))] [] S := by
  unfold b_X6_undo_0 at he
  unfold o_X6_undo_0 at ho
  refine j_aload_n X 0 dX6_undo_0 rfl ?_
  refine gf_20_4 X m_fl_X6_25 kc20 dX6_undo_1 ?_
  refine gf_21_2 X m_fl_X6_330 kc21 dX6_undo_4 ?_
  refine j_if_ne X 21 dX6_undo_7 (by decide) (fun h2 => ?_) (fun h2 => ?_)
  · rw [if_neg h2] at he
    have ho := ho.2 h2
    refine j_aload_n X 0 dX6_undo_21 rfl ?_
    refine gf_20_4 X m_fl_X6_25 kc20 dX6_undo_22 ?_
    refine j_aload_n X 0 dX6_undo_25 rfl ?_
    refine gf_20_0 X m_fl_X6_10 kc20 dX6_undo_26 ?_
    have h3 := ho.1
    have ho := ho.2
    refine j_callVv (rest := []) X (c_X4_giveBack (cx_inj X) 15 kg0 S h3) cw_X6_348 kc21.1 (cl_21 kc21) rfl ⟨rfl, rfl, Nat.le_of_ble_eq_true rfl, Nat.le_of_ble_eq_true rfl⟩ rfl rfl (Nat.le_of_ble_eq_true rfl) ⟨Nat.le_of_ble_eq_true rfl, Nat.le_of_ble_eq_true rfl⟩ dX6_undo_29 ?_
    refine j_aload_n X 0 dX6_undo_32 rfl ?_
    refine gf_20_4 X m_fl_X6_25 kc20 dX6_undo_33 ?_
    refine gf_21_2 X m_fl_X6_330 kc21 dX6_undo_36 ?_
    exact j_iretX X hr hlocks ⟨by decide, by decide⟩ dX6_undo_39 (pe3 he)
  · rw [if_pos h2] at he
    have ho := ho.1 h2
    exact j_throwW X F hnt hlocks hst (k := 5) (by decide) ⟨by decide +kernel, by decide +kernel⟩ m_cl_X6_282 m_in_IllegalStateException m_sr_346 thA_5 thG_5 dX6_undo_10 dX6_undo_13 dX6_undo_14 dX6_undo_17 dX6_undo_20 ⟨Nat.le_of_ble_eq_true rfl, Nat.le_of_ble_eq_true rfl, Nat.le_of_ble_eq_true rfl, Nat.le_of_ble_eq_true rfl⟩ ⟨by decide, by decide⟩ (pe2 he)
theorem c_X6_undo {l : Launch} {D : va_G} {q : Nat → ClassId} {ad : Nat → Nat} {d : UInt64} {sa : Nat → Nat} (hst : l.stackTraces = false) (hI : inj4 ad) (S : Sx) (ho : o_X6_undo_0 S) : CXi l yX6_undo cX6_undo 1 .int rm_X6_undo 1 6 D q ad d sa [.ref (ad 0)] S (b_X6_undo_0 S).1 (b_X6_undo_0 S).2.1 (b_X6_undo_0 S).2.2 := cxi_of hI (by decide +kernel) (Nat.le_of_ble_eq_true rfl) rfl (fun p e s m args below meth c X F hnt hr hlocks => t_X6_undo_0 X F hnt hst hr hlocks S _ _ _ ho (pe3i _))
end
/-! RX6.restore -/
abbrev rm_X6_restore : Room := { frames := 6, cells := 1, slots := 6, locals := 90 }
section
variable {p : Program} {l : Launch} {e : Env} {s : State} {m : MethodId} {args : Array Value} {below : List Frame} {meth : Method} {c : Code} {D : va_G} {q : Nat → ClassId} {ad : Nat → Nat} {d : UInt64} {sa : Nat → Nat}
def b_X6_restore_0  (S : Sx) : Nat × Int32 × Sx := if (nb (S 0 3)) = 0 then (5, 0, S) else (0, (up2 (b_X0_become_0 15 95 S) 1 2 0) 15 0, up2 (b_X0_become_0 15 95 S) 1 2 0)
def o_X6_restore_0  (S : Sx) : Prop := ((nb (S 0 3)) = 0 → True) ∧ (¬ (nb (S 0 3)) = 0 → (o_X0_become_0 15 95 S ∧ True))
set_option maxRecDepth 20000 in
theorem t_X6_restore_0 (X : Cx p m c cX6_restore 1 s args RX6 D q ad) (F : XF ad s.heap.size sa s) (hnt : ∀ x ∈ c.exceptionTable.toList, False) (hst : l.stackTraces = false) (hr : meth.sig.returnType = some .int) (hlocks : meth.locks = false) (S : Sx) (xc : Nat) (rv : Int32) (S' : Sx) (ho : o_X6_restore_0 S) (he : b_X6_restore_0 S = (xc, rv, S')) : Jg p l e rm_X6_restore s m args below meth c 0 0 (vx_MQ below (QiX D q ad d xc rv S' s.heap.size) (XQ D q ad d xc S' s.heap.size) args s 1 6 (AU ad s.heap.size)) D q ad d 1 0 [(0, .ref (ad 0))] [] S := by
  unfold b_X6_restore_0 at he
  unfold o_X6_restore_0 at ho
  refine j_aload_n X 0 dX6_restore_0 rfl ?_
  refine gf_20_3 X m_fl_X6_351 kc20 dX6_restore_1 ?_
  refine j_if_ne X 18 dX6_restore_4 (by decide) (fun h2 => ?_) (fun h2 => ?_)
  · rw [if_neg h2] at he
    have ho := ho.2 h2
    refine j_aload_n X 0 dX6_restore_18 rfl ?_
    refine gf_20_0 X m_fl_X6_10 kc20 dX6_restore_19 ?_
    refine j_aload_n X 0 dX6_restore_22 rfl ?_
    refine gf_20_2 X m_fl_X6_19 kc20 dX6_restore_23 ?_
    have h3 := ho.1
    have ho := ho.2
    refine j_callVv (rest := []) X (c_X0_become (cx_inj X) 15 kg0 95 kg2 S h3) cw_X6_199 kg0.1 (cl_0 kg0) rfl ⟨rfl, rfl, Nat.le_of_ble_eq_true rfl, Nat.le_of_ble_eq_true rfl⟩ rfl rfl (Nat.le_of_ble_eq_true rfl) ⟨Nat.le_of_ble_eq_true rfl, Nat.le_of_ble_eq_true rfl⟩ dX6_restore_26 ?_
    refine j_aload_n X 0 dX6_restore_29 rfl ?_
    refine gf_20_4 X m_fl_X6_25 kc20 dX6_restore_30 ?_
    refine j_iconst (v := 0) X dX6_restore_33 (by decide) ?_
    refine pf_21_2 X m_fl_X6_330 kc21 dX6_restore_34 ?_
    refine j_aload_n X 0 dX6_restore_37 rfl ?_
    refine gf_20_0 X m_fl_X6_10 kc20 dX6_restore_38 ?_
    refine gf_0_0 X m_fl_X6_303 kg0 dX6_restore_41 ?_
    exact j_iretX X hr hlocks ⟨by decide, by decide⟩ dX6_restore_44 (pe3 he)
  · rw [if_pos h2] at he
    have ho := ho.1 h2
    exact j_throwW X F hnt hlocks hst (k := 5) (by decide) ⟨by decide +kernel, by decide +kernel⟩ m_cl_X6_282 m_in_IllegalStateException m_sr_354 thA_5 thG_5 dX6_restore_7 dX6_restore_10 dX6_restore_11 dX6_restore_14 dX6_restore_17 ⟨Nat.le_of_ble_eq_true rfl, Nat.le_of_ble_eq_true rfl, Nat.le_of_ble_eq_true rfl, Nat.le_of_ble_eq_true rfl⟩ ⟨by decide, by decide⟩ (pe2 he)
theorem c_X6_restore {l : Launch} {D : va_G} {q : Nat → ClassId} {ad : Nat → Nat} {d : UInt64} {sa : Nat → Nat} (hst : l.stackTraces = false) (hI : inj4 ad) (S : Sx) (ho : o_X6_restore_0 S) : CXi l yX6_restore cX6_restore 1 .int rm_X6_restore 1 6 D q ad d sa [.ref (ad 0)] S (b_X6_restore_0 S).1 (b_X6_restore_0 S).2.1 (b_X6_restore_0 S).2.2 := cxi_of hI (by decide +kernel) (Nat.le_of_ble_eq_true rfl) rfl (fun p e s m args below meth c X F hnt hr hlocks => t_X6_restore_0 X F hnt hst hr hlocks S _ _ _ ho (pe3i _))
end

/-! RX5.become -/
abbrev rm_X5_become : Room := { frames := 0, cells := 0, slots := 0, locals := 0 }
section
variable {p : Program} {l : Launch} {e : Env} {s : State} {m : MethodId} {args : Array Value} {below : List Frame} {meth : Method} {c : Code} {D : va_G} {q : Nat → ClassId} {ad : Nat → Nat} {d : UInt64}
def b_X5_become_32 (j0 : Nat) (j1 : Nat) (S : Sx) : Sx := up2 S j0 4 (S j1 4)
set_option maxRecDepth 20000 in
theorem t_X5_become_32 (X : Cx p m c cX5_become 2 s args RX5 D q ad) (hr : meth.sig.returnType = none) (hlocks : meth.locks = false) (j0 : Nat) (hj0 : isK 7 j0) (j1 : Nat) (hj1 : isK 7 j1) (S : Sx) (S' : Sx) (he : b_X5_become_32 j0 j1 S = S') : Jg p l e rm_X5_become s m args below meth c 0 0 (MQ below (Qv D q ad d S' s.heap.size) args s 0 0 (AU ad s.heap.size)) D q ad d 2 32 [(0, .ref (ad j0)), (1, .ref (ad j1))] [] S := by
  unfold b_X5_become_32 at he
  refine j_aload_n X 0 dX5_become_32 rfl ?_
  refine j_aload_n X 1 dX5_become_33 rfl ?_
  refine gf_7_4 X m_fl_X5_25 hj1 dX5_become_34 ?_
  refine pf_7_4 X m_fl_X5_25 hj0 dX5_become_37 ?_
  exact j_vret X hr hlocks dX5_become_40 he
def b_X5_become_16 (j0 : Nat) (j1 : Nat) (S : Sx) : Sx := b_X5_become_32 j0 j1 (up2 (up2 S j0 2 (S j1 2)) j0 3 (nb ((up2 S j0 2 (S j1 2)) j1 3)))
set_option maxRecDepth 20000 in
theorem t_X5_become_16 (X : Cx p m c cX5_become 2 s args RX5 D q ad) (hr : meth.sig.returnType = none) (hlocks : meth.locks = false) (j0 : Nat) (hj0 : isK 7 j0) (j1 : Nat) (hj1 : isK 7 j1) (S : Sx) (S' : Sx) (he : b_X5_become_16 j0 j1 S = S') : Jg p l e rm_X5_become s m args below meth c 0 0 (MQ below (Qv D q ad d S' s.heap.size) args s 0 0 (AU ad s.heap.size)) D q ad d 2 16 [(0, .ref (ad j0)), (1, .ref (ad j1))] [] S := by
  unfold b_X5_become_16 at he
  refine j_aload_n X 0 dX5_become_16 rfl ?_
  refine j_aload_n X 1 dX5_become_17 rfl ?_
  refine gf_7_2 X m_fl_X5_18 hj1 dX5_become_18 ?_
  refine pf_7_2 X m_fl_X5_18 hj0 dX5_become_21 ?_
  refine j_aload_n X 0 dX5_become_24 rfl ?_
  refine j_aload_n X 1 dX5_become_25 rfl ?_
  refine gf_7_3 X m_fl_X5_21 hj1 dX5_become_26 ?_
  refine pf_7_3 X (bz_nb _) m_fl_X5_21 hj0 dX5_become_29 ?_
  exact t_X5_become_32 X hr hlocks j0 hj0 j1 hj1 (up2 (up2 S j0 2 (S j1 2)) j0 3 (nb ((up2 S j0 2 (S j1 2)) j1 3))) _ he
def b_X5_become_0 (this : Nat) (r1 : Nat) (S : Sx) : Sx := b_X5_become_16 this r1 (up2 (up2 S this 0 (S r1 0)) this 1 ((up2 S this 0 (S r1 0)) r1 1))
set_option maxRecDepth 20000 in
theorem t_X5_become_0 (X : Cx p m c cX5_become 2 s args RX5 D q ad) (hr : meth.sig.returnType = none) (hlocks : meth.locks = false) (this : Nat) (hthis : isK 7 this) (r1 : Nat) (hr1 : isK 7 r1) (S : Sx) (S' : Sx) (he : b_X5_become_0 this r1 S = S') : Jg p l e rm_X5_become s m args below meth c 0 0 (MQ below (Qv D q ad d S' s.heap.size) args s 0 0 (AU ad s.heap.size)) D q ad d 2 0 [(0, .ref (ad this)), (1, .ref (ad r1))] [] S := by
  unfold b_X5_become_0 at he
  refine j_aload_n X 0 dX5_become_0 rfl ?_
  refine j_aload_n X 1 dX5_become_1 rfl ?_
  refine gf_7_0 X m_fl_X5_9 hr1 dX5_become_2 ?_
  refine pf_7_0 X m_fl_X5_9 hthis dX5_become_5 ?_
  refine j_aload_n X 0 dX5_become_8 rfl ?_
  refine j_aload_n X 1 dX5_become_9 rfl ?_
  refine gf_7_1 X m_fl_X5_15 hr1 dX5_become_10 ?_
  refine pf_7_1 X m_fl_X5_15 hthis dX5_become_13 ?_
  exact t_X5_become_16 X hr hlocks this hthis r1 hr1 (up2 (up2 S this 0 (S r1 0)) this 1 ((up2 S this 0 (S r1 0)) r1 1)) _ he
theorem c_X5_become {l : Launch} {D : va_G} {q : Nat → ClassId} {ad : Nat → Nat} {d : UInt64} (hI : inj4 ad) (this : Nat) (hthis : isK 7 this) (r1 : Nat) (hr1 : isK 7 r1) (S : Sx) : CV l yX5_become cX5_become 2 rm_X5_become D q ad d [.ref (ad this), .ref (ad r1)] S (b_X5_become_0 this r1 S) := cv_of hI (by decide +kernel) (Nat.le_of_ble_eq_true rfl) rfl (fun p e s m args below meth c X hr hlocks => t_X5_become_0 X hr hlocks this hthis r1 hr1 S _ rfl)
end
/-! RX1.become -/
abbrev rm_X1_become : Room := { frames := 0, cells := 0, slots := 0, locals := 0 }
section
variable {p : Program} {l : Launch} {e : Env} {s : State} {m : MethodId} {args : Array Value} {below : List Frame} {meth : Method} {c : Code} {D : va_G} {q : Nat → ClassId} {ad : Nat → Nat} {d : UInt64}
def b_X1_become_32 (j0 : Nat) (j1 : Nat) (S : Sx) : Sx := up2 (up2 S j0 4 (S j1 4)) j0 5 ((up2 S j0 4 (S j1 4)) j1 5)
set_option maxRecDepth 20000 in
theorem t_X1_become_32 (X : Cx p m c cX1_become 2 s args RX1 D q ad) (hr : meth.sig.returnType = none) (hlocks : meth.locks = false) (j0 : Nat) (hj0 : isK 8 j0) (j1 : Nat) (hj1 : isK 8 j1) (S : Sx) (S' : Sx) (he : b_X1_become_32 j0 j1 S = S') : Jg p l e rm_X1_become s m args below meth c 0 0 (MQ below (Qv D q ad d S' s.heap.size) args s 0 0 (AU ad s.heap.size)) D q ad d 2 32 [(0, .ref (ad j0)), (1, .ref (ad j1))] [] S := by
  unfold b_X1_become_32 at he
  refine j_aload_n X 0 dX1_become_32 rfl ?_
  refine j_aload_n X 1 dX1_become_33 rfl ?_
  refine gf_8_4 X m_fl_X1_25 hj1 dX1_become_34 ?_
  refine pf_8_4 X m_fl_X1_25 hj0 dX1_become_37 ?_
  refine j_aload_n X 0 dX1_become_40 rfl ?_
  refine j_aload_n X 1 dX1_become_41 rfl ?_
  refine gf_8_5 X m_fl_X1_28 hj1 dX1_become_42 ?_
  refine pf_8_5 X m_fl_X1_28 hj0 dX1_become_45 ?_
  exact j_vret X hr hlocks dX1_become_48 he
def b_X1_become_16 (j0 : Nat) (j1 : Nat) (S : Sx) : Sx := b_X1_become_32 j0 j1 (up2 (up2 S j0 2 (S j1 2)) j0 3 ((up2 S j0 2 (S j1 2)) j1 3))
set_option maxRecDepth 20000 in
theorem t_X1_become_16 (X : Cx p m c cX1_become 2 s args RX1 D q ad) (hr : meth.sig.returnType = none) (hlocks : meth.locks = false) (j0 : Nat) (hj0 : isK 8 j0) (j1 : Nat) (hj1 : isK 8 j1) (S : Sx) (S' : Sx) (he : b_X1_become_16 j0 j1 S = S') : Jg p l e rm_X1_become s m args below meth c 0 0 (MQ below (Qv D q ad d S' s.heap.size) args s 0 0 (AU ad s.heap.size)) D q ad d 2 16 [(0, .ref (ad j0)), (1, .ref (ad j1))] [] S := by
  unfold b_X1_become_16 at he
  refine j_aload_n X 0 dX1_become_16 rfl ?_
  refine j_aload_n X 1 dX1_become_17 rfl ?_
  refine gf_8_2 X m_fl_X1_19 hj1 dX1_become_18 ?_
  refine pf_8_2 X m_fl_X1_19 hj0 dX1_become_21 ?_
  refine j_aload_n X 0 dX1_become_24 rfl ?_
  refine j_aload_n X 1 dX1_become_25 rfl ?_
  refine gf_8_3 X m_fl_X1_22 hj1 dX1_become_26 ?_
  refine pf_8_3 X m_fl_X1_22 hj0 dX1_become_29 ?_
  exact t_X1_become_32 X hr hlocks j0 hj0 j1 hj1 (up2 (up2 S j0 2 (S j1 2)) j0 3 ((up2 S j0 2 (S j1 2)) j1 3)) _ he
def b_X1_become_0 (this : Nat) (r1 : Nat) (S : Sx) : Sx := b_X1_become_16 this r1 (up2 (up2 S this 0 (S r1 0)) this 1 (nb ((up2 S this 0 (S r1 0)) r1 1)))
set_option maxRecDepth 20000 in
theorem t_X1_become_0 (X : Cx p m c cX1_become 2 s args RX1 D q ad) (hr : meth.sig.returnType = none) (hlocks : meth.locks = false) (this : Nat) (hthis : isK 8 this) (r1 : Nat) (hr1 : isK 8 r1) (S : Sx) (S' : Sx) (he : b_X1_become_0 this r1 S = S') : Jg p l e rm_X1_become s m args below meth c 0 0 (MQ below (Qv D q ad d S' s.heap.size) args s 0 0 (AU ad s.heap.size)) D q ad d 2 0 [(0, .ref (ad this)), (1, .ref (ad r1))] [] S := by
  unfold b_X1_become_0 at he
  refine j_aload_n X 0 dX1_become_0 rfl ?_
  refine j_aload_n X 1 dX1_become_1 rfl ?_
  refine gf_8_0 X m_fl_X1_9 hr1 dX1_become_2 ?_
  refine pf_8_0 X m_fl_X1_9 hthis dX1_become_5 ?_
  refine j_aload_n X 0 dX1_become_8 rfl ?_
  refine j_aload_n X 1 dX1_become_9 rfl ?_
  refine gf_8_1 X m_fl_X1_15 hr1 dX1_become_10 ?_
  refine pf_8_1 X (bz_nb _) m_fl_X1_15 hthis dX1_become_13 ?_
  exact t_X1_become_16 X hr hlocks this hthis r1 hr1 (up2 (up2 S this 0 (S r1 0)) this 1 (nb ((up2 S this 0 (S r1 0)) r1 1))) _ he
theorem c_X1_become {l : Launch} {D : va_G} {q : Nat → ClassId} {ad : Nat → Nat} {d : UInt64} (hI : inj4 ad) (this : Nat) (hthis : isK 8 this) (r1 : Nat) (hr1 : isK 8 r1) (S : Sx) : CV l yX1_become cX1_become 2 rm_X1_become D q ad d [.ref (ad this), .ref (ad r1)] S (b_X1_become_0 this r1 S) := cv_of hI (by decide +kernel) (Nat.le_of_ble_eq_true rfl) rfl (fun p e s m args below meth c X hr hlocks => t_X1_become_0 X hr hlocks this hthis r1 hr1 S _ rfl)
end
/-! RX2.become -/
abbrev rm_X2_become : Room := { frames := 1, cells := 0, slots := 0, locals := 38 }
section
variable {p : Program} {l : Launch} {e : Env} {s : State} {m : MethodId} {args : Array Value} {below : List Frame} {meth : Method} {c : Code} {D : va_G} {q : Nat → ClassId} {ad : Nat → Nat} {d : UInt64}
def b_X2_become_48 (j0 : Nat) (j1 : Nat) (S : Sx) : Sx := upA (up2 S j0 6 (nb (S j1 6))) (j0 + 12) (va_cpy ((up2 S j0 6 (nb (S j1 6))) (j1 + 12)) ((up2 S j0 6 (nb (S j1 6))) (j0 + 12)) 0 0 ((7 : Int32).toNatClampNeg))
set_option maxRecDepth 20000 in
theorem t_X2_become_48 (X : Cx p m c cX2_become 2 s args RX2 D q ad) (hr : meth.sig.returnType = none) (hlocks : meth.locks = false) (j0 : Nat) (hj0 : isK 9 j0) (j1 : Nat) (hj1 : isK 9 j1) (S : Sx) (S' : Sx) (he : b_X2_become_48 j0 j1 S = S') : Jg p l e rm_X2_become s m args below meth c 0 0 (MQ below (Qv D q ad d S' s.heap.size) args s 0 0 (AU ad s.heap.size)) D q ad d 2 48 [(0, .ref (ad j0)), (1, .ref (ad j1))] [] S := by
  unfold b_X2_become_48 at he
  refine j_aload_n X 0 dX2_become_48 rfl ?_
  refine j_aload_n X 1 dX2_become_49 rfl ?_
  refine gf_9_6 X m_fl_X2_34 hj1 dX2_become_50 ?_
  refine pf_9_6 X (bz_nb _) m_fl_X2_34 hj0 dX2_become_53 ?_
  refine j_aload_n X 1 dX2_become_56 rfl ?_
  refine gf_9_7 X m_fl_X2_9 hj1 dX2_become_57 ?_
  refine j_iconst (v := 0) X dX2_become_60 (by decide) ?_
  refine j_aload_n X 0 dX2_become_61 rfl ?_
  refine gf_9_7 X m_fl_X2_9 hj0 dX2_become_62 ?_
  refine j_iconst (v := 0) X dX2_become_65 (by decide) ?_
  refine j_bipush (v := 7) X dX2_become_66 (by decide) ?_
  refine j_copy X m_ml_X2_38 m_na_arraycopy m_st_arraycopy m_in_J10 (k9_10 hj1).1 (k9_10 hj0).1 (fun T => cl_10 (k9_10 hj1)) (fun T => cl_10 (k9_10 hj0)) (by decide) (by decide) (by decide) (Nat.le_of_ble_eq_true rfl) (Nat.le_of_ble_eq_true rfl) dX2_become_68 ?_
  exact j_vret X hr hlocks dX2_become_71 he
def b_X2_become_32 (j0 : Nat) (j1 : Nat) (S : Sx) : Sx := b_X2_become_48 j0 j1 (up2 (up2 S j0 4 (S j1 4)) j0 5 ((up2 S j0 4 (S j1 4)) j1 5))
set_option maxRecDepth 20000 in
theorem t_X2_become_32 (X : Cx p m c cX2_become 2 s args RX2 D q ad) (hr : meth.sig.returnType = none) (hlocks : meth.locks = false) (j0 : Nat) (hj0 : isK 9 j0) (j1 : Nat) (hj1 : isK 9 j1) (S : Sx) (S' : Sx) (he : b_X2_become_32 j0 j1 S = S') : Jg p l e rm_X2_become s m args below meth c 0 0 (MQ below (Qv D q ad d S' s.heap.size) args s 0 0 (AU ad s.heap.size)) D q ad d 2 32 [(0, .ref (ad j0)), (1, .ref (ad j1))] [] S := by
  unfold b_X2_become_32 at he
  refine j_aload_n X 0 dX2_become_32 rfl ?_
  refine j_aload_n X 1 dX2_become_33 rfl ?_
  refine gf_9_4 X m_fl_X2_28 hj1 dX2_become_34 ?_
  refine pf_9_4 X m_fl_X2_28 hj0 dX2_become_37 ?_
  refine j_aload_n X 0 dX2_become_40 rfl ?_
  refine j_aload_n X 1 dX2_become_41 rfl ?_
  refine gf_9_5 X m_fl_X2_31 hj1 dX2_become_42 ?_
  refine pf_9_5 X m_fl_X2_31 hj0 dX2_become_45 ?_
  exact t_X2_become_48 X hr hlocks j0 hj0 j1 hj1 (up2 (up2 S j0 4 (S j1 4)) j0 5 ((up2 S j0 4 (S j1 4)) j1 5)) _ he
def b_X2_become_16 (j0 : Nat) (j1 : Nat) (S : Sx) : Sx := b_X2_become_32 j0 j1 (up2 (up2 S j0 2 (S j1 2)) j0 3 ((up2 S j0 2 (S j1 2)) j1 3))
set_option maxRecDepth 20000 in
theorem t_X2_become_16 (X : Cx p m c cX2_become 2 s args RX2 D q ad) (hr : meth.sig.returnType = none) (hlocks : meth.locks = false) (j0 : Nat) (hj0 : isK 9 j0) (j1 : Nat) (hj1 : isK 9 j1) (S : Sx) (S' : Sx) (he : b_X2_become_16 j0 j1 S = S') : Jg p l e rm_X2_become s m args below meth c 0 0 (MQ below (Qv D q ad d S' s.heap.size) args s 0 0 (AU ad s.heap.size)) D q ad d 2 16 [(0, .ref (ad j0)), (1, .ref (ad j1))] [] S := by
  unfold b_X2_become_16 at he
  refine j_aload_n X 0 dX2_become_16 rfl ?_
  refine j_aload_n X 1 dX2_become_17 rfl ?_
  refine gf_9_2 X m_fl_X2_22 hj1 dX2_become_18 ?_
  refine pf_9_2 X m_fl_X2_22 hj0 dX2_become_21 ?_
  refine j_aload_n X 0 dX2_become_24 rfl ?_
  refine j_aload_n X 1 dX2_become_25 rfl ?_
  refine gf_9_3 X m_fl_X2_25 hj1 dX2_become_26 ?_
  refine pf_9_3 X m_fl_X2_25 hj0 dX2_become_29 ?_
  exact t_X2_become_32 X hr hlocks j0 hj0 j1 hj1 (up2 (up2 S j0 2 (S j1 2)) j0 3 ((up2 S j0 2 (S j1 2)) j1 3)) _ he
def b_X2_become_0 (this : Nat) (r1 : Nat) (S : Sx) : Sx := b_X2_become_16 this r1 (up2 (up2 S this 0 (S r1 0)) this 1 ((up2 S this 0 (S r1 0)) r1 1))
set_option maxRecDepth 20000 in
theorem t_X2_become_0 (X : Cx p m c cX2_become 2 s args RX2 D q ad) (hr : meth.sig.returnType = none) (hlocks : meth.locks = false) (this : Nat) (hthis : isK 9 this) (r1 : Nat) (hr1 : isK 9 r1) (S : Sx) (S' : Sx) (he : b_X2_become_0 this r1 S = S') : Jg p l e rm_X2_become s m args below meth c 0 0 (MQ below (Qv D q ad d S' s.heap.size) args s 0 0 (AU ad s.heap.size)) D q ad d 2 0 [(0, .ref (ad this)), (1, .ref (ad r1))] [] S := by
  unfold b_X2_become_0 at he
  refine j_aload_n X 0 dX2_become_0 rfl ?_
  refine j_aload_n X 1 dX2_become_1 rfl ?_
  refine gf_9_0 X m_fl_X2_15 hr1 dX2_become_2 ?_
  refine pf_9_0 X m_fl_X2_15 hthis dX2_become_5 ?_
  refine j_aload_n X 0 dX2_become_8 rfl ?_
  refine j_aload_n X 1 dX2_become_9 rfl ?_
  refine gf_9_1 X m_fl_X2_19 hr1 dX2_become_10 ?_
  refine pf_9_1 X m_fl_X2_19 hthis dX2_become_13 ?_
  exact t_X2_become_16 X hr hlocks this hthis r1 hr1 (up2 (up2 S this 0 (S r1 0)) this 1 ((up2 S this 0 (S r1 0)) r1 1)) _ he
theorem c_X2_become {l : Launch} {D : va_G} {q : Nat → ClassId} {ad : Nat → Nat} {d : UInt64} (hI : inj4 ad) (this : Nat) (hthis : isK 9 this) (r1 : Nat) (hr1 : isK 9 r1) (S : Sx) : CV l yX2_become cX2_become 2 rm_X2_become D q ad d [.ref (ad this), .ref (ad r1)] S (b_X2_become_0 this r1 S) := cv_of hI (by decide +kernel) (Nat.le_of_ble_eq_true rfl) rfl (fun p e s m args below meth c X hr hlocks => t_X2_become_0 X hr hlocks this hthis r1 hr1 S _ rfl)
end
/-! RX0.become -/
abbrev rm_X0_become : Room := { frames := 2, cells := 0, slots := 0, locals := 59 }
section
variable {p : Program} {l : Launch} {e : Env} {s : State} {m : MethodId} {args : Array Value} {below : List Frame} {meth : Method} {c : Code} {D : va_G} {q : Nat → ClassId} {ad : Nat → Nat} {d : UInt64}
def b_X0_become_171 (kk : Nat → Nat → Int32 → Sx → Sx) (j0 : Nat) (j1 : Nat) (v2 : Int32) (S : Sx) : Sx := kk j0 j1 (v2 + 1) S
def o_X0_become_171 (ok : Nat → Nat → Int32 → Sx → Prop) (j0 : Nat) (j1 : Nat) (v2 : Int32) (S : Sx) : Prop := ok j0 j1 (v2 + 1) S
set_option maxRecDepth 20000 in
theorem t_X0_become_171 (X : Cx p m c cX0_become 3 s args RX0 D q ad) (hr : meth.sig.returnType = none) (hlocks : meth.locks = false) (kk : Nat → Nat → Int32 → Sx → Sx) (ok : Nat → Nat → Int32 → Sx → Prop) (hkk : ∀ (j0 : Nat) (hj0 : isK 0 j0) (j1 : Nat) (hj1 : isK 0 j1) (v2 : Int32) (S : Sx) (S' : Sx) (ho : ok j0 j1 v2 S) (he : kk j0 j1 v2 S = S'), Jg p l e rm_X0_become s m args below meth c 0 0 (MQ below (Qv D q ad d S' s.heap.size) args s 0 0 (AU ad s.heap.size)) D q ad d 3 150 [(0, .ref (ad j0)), (1, .ref (ad j1)), (2, .int v2)] [] S) (j0 : Nat) (hj0 : isK 0 j0) (j1 : Nat) (hj1 : isK 0 j1) (v2 : Int32) (S : Sx) (S' : Sx) (ho : o_X0_become_171 ok j0 j1 v2 S) (he : b_X0_become_171 kk j0 j1 v2 S = S') : Jg p l e rm_X0_become s m args below meth c 0 0 (MQ below (Qv D q ad d S' s.heap.size) args s 0 0 (AU ad s.heap.size)) D q ad d 3 171 [(0, .ref (ad j0)), (1, .ref (ad j1)), (2, .int v2)] [] S := by
  unfold b_X0_become_171 at he
  unfold o_X0_become_171 at ho
  refine j_iinc X 2 (v2 + 1) [(2, .int (v2 + 1)), (0, .ref (ad j0)), (1, .ref (ad j1))] dX0_become_171 rfl rfl (by decide) rfl ?_
  refine j_goto X 150 dX0_become_174 (by decide) ?_
  refine j_lv [1, 2, 0] [(0, .ref (ad j0)), (1, .ref (ad j1)), (2, .int (v2 + 1))] rfl ?_
  exact hkk j0 hj0 j1 hj1 (v2 + 1) S _ ho he
def b_X0_become_150 : Nat → Nat → Nat → Int32 → Sx → Sx
  | 0, _, _, _, S => S
  | n + 1, j0, j1, v2, S => if 12 ≤ v2 then S else b_X0_become_171 (b_X0_become_150 n) j0 j1 v2 (b_X2_become_0 (j0 + 16 + v2.toNatClampNeg) (j1 + 16 + v2.toNatClampNeg) S)
def o_X0_become_150 : Nat → Nat → Nat → Int32 → Sx → Prop
  | 0, _, _, _, _ => False
  | n + 1, j0, j1, v2, S => (12 ≤ v2 → True) ∧ (¬ 12 ≤ v2 → (vp_in v2 12 ∧ (vp_in v2 12 ∧ (o_X0_become_171 (o_X0_become_150 n) j0 j1 v2 (b_X2_become_0 (j0 + 16 + v2.toNatClampNeg) (j1 + 16 + v2.toNatClampNeg) S)))))
set_option maxRecDepth 20000 in
theorem t_X0_become_150 (X : Cx p m c cX0_become 3 s args RX0 D q ad) (hr : meth.sig.returnType = none) (hlocks : meth.locks = false) : ∀ (n : Nat) (j0 : Nat) (hj0 : isK 0 j0) (j1 : Nat) (hj1 : isK 0 j1) (v2 : Int32) (S : Sx) (S' : Sx) (ho : o_X0_become_150 n j0 j1 v2 S) (he : b_X0_become_150 n j0 j1 v2 S = S'), Jg p l e rm_X0_become s m args below meth c 0 0 (MQ below (Qv D q ad d S' s.heap.size) args s 0 0 (AU ad s.heap.size)) D q ad d 3 150 [(0, .ref (ad j0)), (1, .ref (ad j1)), (2, .int v2)] [] S := by
  intro n
  induction n with
  | zero =>
    intro j0 hj0 j1 hj1 v2 S S' ho he
    unfold o_X0_become_150 at ho
    exact ho.elim
  | succ n ih =>
    intro j0 hj0 j1 hj1 v2 S S' ho he
    unfold b_X0_become_150 at he
    unfold o_X0_become_150 at ho
    refine j_iload_n X 2 dX0_become_150 rfl ?_
    refine j_bipush (v := 12) X dX0_become_151 (by decide) ?_
    refine j_icmp_ge X 177 dX0_become_153 (by decide) (fun h2 => ?_) (fun h2 => ?_)
    · rw [if_pos h2] at he
      have ho := ho.1 h2
      exact j_vret X hr hlocks dX0_become_177 he
    · rw [if_neg h2] at he
      have ho := ho.2 h2
      refine j_aload_n X 0 dX0_become_156 rfl ?_
      refine gf_0_11 X m_fl_X0_39 hj0 dX0_become_157 ?_
      refine j_iload_n X 2 dX0_become_160 rfl ?_
      have h3 := ho.1
      have ho := ho.2
      refine j_aald (a := ad (j0 + 16 + v2.toNatClampNeg)) X 3 (k0_6 hj0).1 (cl_6 (k0_6 hj0)) rfl h3 rfl dX0_become_161 ?_
      have hk4 : isK 9 (j0 + 16 + v2.toNatClampNeg) := k0_9 hj0 (vlt h3)
      refine j_aload_n X 1 dX0_become_162 rfl ?_
      refine gf_0_11 X m_fl_X0_39 hj1 dX0_become_163 ?_
      refine j_iload_n X 2 dX0_become_166 rfl ?_
      have h5 := ho.1
      have ho := ho.2
      refine j_aald (a := ad (j1 + 16 + v2.toNatClampNeg)) X 3 (k0_6 hj1).1 (cl_6 (k0_6 hj1)) rfl h5 rfl dX0_become_167 ?_
      have hk6 : isK 9 (j1 + 16 + v2.toNatClampNeg) := k0_9 hj1 (vlt h5)
      refine j_callVv (rest := []) X (c_X2_become (cx_inj X) (j0 + 16 + v2.toNatClampNeg) hk4 (j1 + 16 + v2.toNatClampNeg) hk6 S) cw_X0_74 hk4.1 (cl_9 hk4) rfl ⟨rfl, rfl, Nat.le_of_ble_eq_true rfl, Nat.le_of_ble_eq_true rfl⟩ rfl rfl (Nat.le_of_ble_eq_true rfl) ⟨Nat.le_of_ble_eq_true rfl, Nat.le_of_ble_eq_true rfl⟩ dX0_become_168 ?_
      exact t_X0_become_171 X hr hlocks (b_X0_become_150 n) (o_X0_become_150 n) ih j0 hj0 j1 hj1 v2 (b_X2_become_0 (j0 + 16 + v2.toNatClampNeg) (j1 + 16 + v2.toNatClampNeg) S) _ ho he
def b_X0_become_142 (kk : Nat → Nat → Int32 → Sx → Sx) (j0 : Nat) (j1 : Nat) (v2 : Int32) (S : Sx) : Sx := kk j0 j1 (v2 + 1) S
def o_X0_become_142 (ok : Nat → Nat → Int32 → Sx → Prop) (j0 : Nat) (j1 : Nat) (v2 : Int32) (S : Sx) : Prop := ok j0 j1 (v2 + 1) S
set_option maxRecDepth 20000 in
theorem t_X0_become_142 (X : Cx p m c cX0_become 3 s args RX0 D q ad) (hr : meth.sig.returnType = none) (hlocks : meth.locks = false) (kk : Nat → Nat → Int32 → Sx → Sx) (ok : Nat → Nat → Int32 → Sx → Prop) (hkk : ∀ (j0 : Nat) (hj0 : isK 0 j0) (j1 : Nat) (hj1 : isK 0 j1) (v2 : Int32) (S : Sx) (S' : Sx) (ho : ok j0 j1 v2 S) (he : kk j0 j1 v2 S = S'), Jg p l e rm_X0_become s m args below meth c 0 0 (MQ below (Qv D q ad d S' s.heap.size) args s 0 0 (AU ad s.heap.size)) D q ad d 3 122 [(0, .ref (ad j0)), (1, .ref (ad j1)), (2, .int v2)] [] S) (j0 : Nat) (hj0 : isK 0 j0) (j1 : Nat) (hj1 : isK 0 j1) (v2 : Int32) (S : Sx) (S' : Sx) (ho : o_X0_become_142 ok j0 j1 v2 S) (he : b_X0_become_142 kk j0 j1 v2 S = S') : Jg p l e rm_X0_become s m args below meth c 0 0 (MQ below (Qv D q ad d S' s.heap.size) args s 0 0 (AU ad s.heap.size)) D q ad d 3 142 [(0, .ref (ad j0)), (1, .ref (ad j1)), (2, .int v2)] [] S := by
  unfold b_X0_become_142 at he
  unfold o_X0_become_142 at ho
  refine j_iinc X 2 (v2 + 1) [(2, .int (v2 + 1)), (0, .ref (ad j0)), (1, .ref (ad j1))] dX0_become_142 rfl rfl (by decide) rfl ?_
  refine j_goto X 122 dX0_become_145 (by decide) ?_
  refine j_lv [1, 2, 0] [(0, .ref (ad j0)), (1, .ref (ad j1)), (2, .int (v2 + 1))] rfl ?_
  exact hkk j0 hj0 j1 hj1 (v2 + 1) S _ ho he
def b_X0_become_122 : Nat → Nat → Nat → Int32 → Sx → Sx
  | 0, _, _, _, S => S
  | n + 1, j0, j1, v2, S => if 5 ≤ v2 then b_X0_become_150 100 j0 j1 0 S else b_X0_become_142 (b_X0_become_122 n) j0 j1 v2 (b_X1_become_0 (j0 + 11 + v2.toNatClampNeg) (j1 + 11 + v2.toNatClampNeg) S)
def o_X0_become_122 : Nat → Nat → Nat → Int32 → Sx → Prop
  | 0, _, _, _, _ => False
  | n + 1, j0, j1, v2, S => (5 ≤ v2 → (o_X0_become_150 100 j0 j1 0 S)) ∧ (¬ 5 ≤ v2 → (vp_in v2 5 ∧ (vp_in v2 5 ∧ (o_X0_become_142 (o_X0_become_122 n) j0 j1 v2 (b_X1_become_0 (j0 + 11 + v2.toNatClampNeg) (j1 + 11 + v2.toNatClampNeg) S)))))
set_option maxRecDepth 20000 in
theorem t_X0_become_122 (X : Cx p m c cX0_become 3 s args RX0 D q ad) (hr : meth.sig.returnType = none) (hlocks : meth.locks = false) : ∀ (n : Nat) (j0 : Nat) (hj0 : isK 0 j0) (j1 : Nat) (hj1 : isK 0 j1) (v2 : Int32) (S : Sx) (S' : Sx) (ho : o_X0_become_122 n j0 j1 v2 S) (he : b_X0_become_122 n j0 j1 v2 S = S'), Jg p l e rm_X0_become s m args below meth c 0 0 (MQ below (Qv D q ad d S' s.heap.size) args s 0 0 (AU ad s.heap.size)) D q ad d 3 122 [(0, .ref (ad j0)), (1, .ref (ad j1)), (2, .int v2)] [] S := by
  intro n
  induction n with
  | zero =>
    intro j0 hj0 j1 hj1 v2 S S' ho he
    unfold o_X0_become_122 at ho
    exact ho.elim
  | succ n ih =>
    intro j0 hj0 j1 hj1 v2 S S' ho he
    unfold b_X0_become_122 at he
    unfold o_X0_become_122 at ho
    refine j_iload_n X 2 dX0_become_122 rfl ?_
    refine j_iconst (v := 5) X dX0_become_123 (by decide) ?_
    refine j_icmp_ge X 148 dX0_become_124 (by decide) (fun h2 => ?_) (fun h2 => ?_)
    · rw [if_pos h2] at he
      have ho := ho.1 h2
      refine j_iconst (v := 0) X dX0_become_148 (by decide) ?_
      refine j_istore_n X [(2, .int 0), (0, .ref (ad j0)), (1, .ref (ad j1))] dX0_become_149 (by decide) rfl ?_
      refine j_lv [1, 2, 0] [(0, .ref (ad j0)), (1, .ref (ad j1)), (2, .int 0)] rfl ?_
      exact t_X0_become_150 X hr hlocks 100 j0 hj0 j1 hj1 0 S _ ho he
    · rw [if_neg h2] at he
      have ho := ho.2 h2
      refine j_aload_n X 0 dX0_become_127 rfl ?_
      refine gf_0_7 X m_fl_X0_30 hj0 dX0_become_128 ?_
      refine j_iload_n X 2 dX0_become_131 rfl ?_
      have h3 := ho.1
      have ho := ho.2
      refine j_aald (a := ad (j0 + 11 + v2.toNatClampNeg)) X 2 (k0_5 hj0).1 (cl_5 (k0_5 hj0)) rfl h3 rfl dX0_become_132 ?_
      have hk4 : isK 8 (j0 + 11 + v2.toNatClampNeg) := k0_8 hj0 (vlt h3)
      refine j_aload_n X 1 dX0_become_133 rfl ?_
      refine gf_0_7 X m_fl_X0_30 hj1 dX0_become_134 ?_
      refine j_iload_n X 2 dX0_become_137 rfl ?_
      have h5 := ho.1
      have ho := ho.2
      refine j_aald (a := ad (j1 + 11 + v2.toNatClampNeg)) X 2 (k0_5 hj1).1 (cl_5 (k0_5 hj1)) rfl h5 rfl dX0_become_138 ?_
      have hk6 : isK 8 (j1 + 11 + v2.toNatClampNeg) := k0_8 hj1 (vlt h5)
      refine j_callVv (rest := []) X (c_X1_become (cx_inj X) (j0 + 11 + v2.toNatClampNeg) hk4 (j1 + 11 + v2.toNatClampNeg) hk6 S) cw_X0_71 hk4.1 (cl_8 hk4) rfl ⟨rfl, rfl, Nat.le_of_ble_eq_true rfl, Nat.le_of_ble_eq_true rfl⟩ rfl rfl (Nat.le_of_ble_eq_true rfl) ⟨Nat.le_of_ble_eq_true rfl, Nat.le_of_ble_eq_true rfl⟩ dX0_become_139 ?_
      exact t_X0_become_142 X hr hlocks (b_X0_become_122 n) (o_X0_become_122 n) ih j0 hj0 j1 hj1 v2 (b_X1_become_0 (j0 + 11 + v2.toNatClampNeg) (j1 + 11 + v2.toNatClampNeg) S) _ ho he
def b_X0_become_114 (kk : Nat → Nat → Int32 → Sx → Sx) (j0 : Nat) (j1 : Nat) (v2 : Int32) (S : Sx) : Sx := kk j0 j1 (v2 + 1) S
def o_X0_become_114 (ok : Nat → Nat → Int32 → Sx → Prop) (j0 : Nat) (j1 : Nat) (v2 : Int32) (S : Sx) : Prop := ok j0 j1 (v2 + 1) S
set_option maxRecDepth 20000 in
theorem t_X0_become_114 (X : Cx p m c cX0_become 3 s args RX0 D q ad) (hr : meth.sig.returnType = none) (hlocks : meth.locks = false) (kk : Nat → Nat → Int32 → Sx → Sx) (ok : Nat → Nat → Int32 → Sx → Prop) (hkk : ∀ (j0 : Nat) (hj0 : isK 0 j0) (j1 : Nat) (hj1 : isK 0 j1) (v2 : Int32) (S : Sx) (S' : Sx) (ho : ok j0 j1 v2 S) (he : kk j0 j1 v2 S = S'), Jg p l e rm_X0_become s m args below meth c 0 0 (MQ below (Qv D q ad d S' s.heap.size) args s 0 0 (AU ad s.heap.size)) D q ad d 3 94 [(0, .ref (ad j0)), (1, .ref (ad j1)), (2, .int v2)] [] S) (j0 : Nat) (hj0 : isK 0 j0) (j1 : Nat) (hj1 : isK 0 j1) (v2 : Int32) (S : Sx) (S' : Sx) (ho : o_X0_become_114 ok j0 j1 v2 S) (he : b_X0_become_114 kk j0 j1 v2 S = S') : Jg p l e rm_X0_become s m args below meth c 0 0 (MQ below (Qv D q ad d S' s.heap.size) args s 0 0 (AU ad s.heap.size)) D q ad d 3 114 [(0, .ref (ad j0)), (1, .ref (ad j1)), (2, .int v2)] [] S := by
  unfold b_X0_become_114 at he
  unfold o_X0_become_114 at ho
  refine j_iinc X 2 (v2 + 1) [(2, .int (v2 + 1)), (0, .ref (ad j0)), (1, .ref (ad j1))] dX0_become_114 rfl rfl (by decide) rfl ?_
  refine j_goto X 94 dX0_become_117 (by decide) ?_
  refine j_lv [1, 2, 0] [(0, .ref (ad j0)), (1, .ref (ad j1)), (2, .int (v2 + 1))] rfl ?_
  exact hkk j0 hj0 j1 hj1 (v2 + 1) S _ ho he
def b_X0_become_94 : Nat → Nat → Nat → Int32 → Sx → Sx
  | 0, _, _, _, S => S
  | n + 1, j0, j1, v2, S => if 4 ≤ v2 then b_X0_become_122 100 j0 j1 0 S else b_X0_become_114 (b_X0_become_94 n) j0 j1 v2 (b_X5_become_0 (j0 + 7 + v2.toNatClampNeg) (j1 + 7 + v2.toNatClampNeg) S)
def o_X0_become_94 : Nat → Nat → Nat → Int32 → Sx → Prop
  | 0, _, _, _, _ => False
  | n + 1, j0, j1, v2, S => (4 ≤ v2 → (o_X0_become_122 100 j0 j1 0 S)) ∧ (¬ 4 ≤ v2 → (vp_in v2 4 ∧ (vp_in v2 4 ∧ (o_X0_become_114 (o_X0_become_94 n) j0 j1 v2 (b_X5_become_0 (j0 + 7 + v2.toNatClampNeg) (j1 + 7 + v2.toNatClampNeg) S)))))
set_option maxRecDepth 20000 in
theorem t_X0_become_94 (X : Cx p m c cX0_become 3 s args RX0 D q ad) (hr : meth.sig.returnType = none) (hlocks : meth.locks = false) : ∀ (n : Nat) (j0 : Nat) (hj0 : isK 0 j0) (j1 : Nat) (hj1 : isK 0 j1) (v2 : Int32) (S : Sx) (S' : Sx) (ho : o_X0_become_94 n j0 j1 v2 S) (he : b_X0_become_94 n j0 j1 v2 S = S'), Jg p l e rm_X0_become s m args below meth c 0 0 (MQ below (Qv D q ad d S' s.heap.size) args s 0 0 (AU ad s.heap.size)) D q ad d 3 94 [(0, .ref (ad j0)), (1, .ref (ad j1)), (2, .int v2)] [] S := by
  intro n
  induction n with
  | zero =>
    intro j0 hj0 j1 hj1 v2 S S' ho he
    unfold o_X0_become_94 at ho
    exact ho.elim
  | succ n ih =>
    intro j0 hj0 j1 hj1 v2 S S' ho he
    unfold b_X0_become_94 at he
    unfold o_X0_become_94 at ho
    refine j_iload_n X 2 dX0_become_94 rfl ?_
    refine j_iconst (v := 4) X dX0_become_95 (by decide) ?_
    refine j_icmp_ge X 120 dX0_become_96 (by decide) (fun h2 => ?_) (fun h2 => ?_)
    · rw [if_pos h2] at he
      have ho := ho.1 h2
      refine j_iconst (v := 0) X dX0_become_120 (by decide) ?_
      refine j_istore_n X [(2, .int 0), (0, .ref (ad j0)), (1, .ref (ad j1))] dX0_become_121 (by decide) rfl ?_
      refine j_lv [1, 2, 0] [(0, .ref (ad j0)), (1, .ref (ad j1)), (2, .int 0)] rfl ?_
      exact t_X0_become_122 X hr hlocks 100 j0 hj0 j1 hj1 0 S _ ho he
    · rw [if_neg h2] at he
      have ho := ho.2 h2
      refine j_aload_n X 0 dX0_become_99 rfl ?_
      refine gf_0_5 X m_fl_X0_24 hj0 dX0_become_100 ?_
      refine j_iload_n X 2 dX0_become_103 rfl ?_
      have h3 := ho.1
      have ho := ho.2
      refine j_aald (a := ad (j0 + 7 + v2.toNatClampNeg)) X 1 (k0_4 hj0).1 (cl_4 (k0_4 hj0)) rfl h3 rfl dX0_become_104 ?_
      have hk4 : isK 7 (j0 + 7 + v2.toNatClampNeg) := k0_7 hj0 (vlt h3)
      refine j_aload_n X 1 dX0_become_105 rfl ?_
      refine gf_0_5 X m_fl_X0_24 hj1 dX0_become_106 ?_
      refine j_iload_n X 2 dX0_become_109 rfl ?_
      have h5 := ho.1
      have ho := ho.2
      refine j_aald (a := ad (j1 + 7 + v2.toNatClampNeg)) X 1 (k0_4 hj1).1 (cl_4 (k0_4 hj1)) rfl h5 rfl dX0_become_110 ?_
      have hk6 : isK 7 (j1 + 7 + v2.toNatClampNeg) := k0_7 hj1 (vlt h5)
      refine j_callVv (rest := []) X (c_X5_become (cx_inj X) (j0 + 7 + v2.toNatClampNeg) hk4 (j1 + 7 + v2.toNatClampNeg) hk6 S) cw_X0_67 hk4.1 (cl_7 hk4) rfl ⟨rfl, rfl, Nat.le_of_ble_eq_true rfl, Nat.le_of_ble_eq_true rfl⟩ rfl rfl (Nat.le_of_ble_eq_true rfl) ⟨Nat.le_of_ble_eq_true rfl, Nat.le_of_ble_eq_true rfl⟩ dX0_become_111 ?_
      exact t_X0_become_114 X hr hlocks (b_X0_become_94 n) (o_X0_become_94 n) ih j0 hj0 j1 hj1 v2 (b_X5_become_0 (j0 + 7 + v2.toNatClampNeg) (j1 + 7 + v2.toNatClampNeg) S) _ ho he
def b_X0_become_92 (j0 : Nat) (j1 : Nat) (S : Sx) : Sx := b_X0_become_94 100 j0 j1 0 S
def o_X0_become_92 (j0 : Nat) (j1 : Nat) (S : Sx) : Prop := o_X0_become_94 100 j0 j1 0 S
set_option maxRecDepth 20000 in
theorem t_X0_become_92 (X : Cx p m c cX0_become 3 s args RX0 D q ad) (hr : meth.sig.returnType = none) (hlocks : meth.locks = false) (j0 : Nat) (hj0 : isK 0 j0) (j1 : Nat) (hj1 : isK 0 j1) (S : Sx) (S' : Sx) (ho : o_X0_become_92 j0 j1 S) (he : b_X0_become_92 j0 j1 S = S') : Jg p l e rm_X0_become s m args below meth c 0 0 (MQ below (Qv D q ad d S' s.heap.size) args s 0 0 (AU ad s.heap.size)) D q ad d 3 92 [(0, .ref (ad j0)), (1, .ref (ad j1))] [] S := by
  unfold b_X0_become_92 at he
  unfold o_X0_become_92 at ho
  refine j_iconst (v := 0) X dX0_become_92 (by decide) ?_
  refine j_istore_n X [(2, .int 0), (0, .ref (ad j0)), (1, .ref (ad j1))] dX0_become_93 (by decide) rfl ?_
  refine j_lv [1, 2, 0] [(0, .ref (ad j0)), (1, .ref (ad j1)), (2, .int 0)] rfl ?_
  exact t_X0_become_94 X hr hlocks 100 j0 hj0 j1 hj1 0 S _ ho he
def b_X0_become_78 (j0 : Nat) (j1 : Nat) (S : Sx) : Sx := b_X0_become_92 j0 j1 (upA S (j0 + 3) (va_cpy (S (j1 + 3)) (S (j0 + 3)) 0 0 ((3 : Int32).toNatClampNeg)))
def o_X0_become_78 (j0 : Nat) (j1 : Nat) (S : Sx) : Prop := o_X0_become_92 j0 j1 (upA S (j0 + 3) (va_cpy (S (j1 + 3)) (S (j0 + 3)) 0 0 ((3 : Int32).toNatClampNeg)))
set_option maxRecDepth 20000 in
theorem t_X0_become_78 (X : Cx p m c cX0_become 3 s args RX0 D q ad) (hr : meth.sig.returnType = none) (hlocks : meth.locks = false) (j0 : Nat) (hj0 : isK 0 j0) (j1 : Nat) (hj1 : isK 0 j1) (S : Sx) (S' : Sx) (ho : o_X0_become_78 j0 j1 S) (he : b_X0_become_78 j0 j1 S = S') : Jg p l e rm_X0_become s m args below meth c 0 0 (MQ below (Qv D q ad d S' s.heap.size) args s 0 0 (AU ad s.heap.size)) D q ad d 3 78 [(0, .ref (ad j0)), (1, .ref (ad j1))] [] S := by
  unfold b_X0_become_78 at he
  unfold o_X0_become_78 at ho
  refine j_aload_n X 1 dX0_become_78 rfl ?_
  refine gf_0_9 X m_fl_X0_34 hj1 dX0_become_79 ?_
  refine j_iconst (v := 0) X dX0_become_82 (by decide) ?_
  refine j_aload_n X 0 dX0_become_83 rfl ?_
  refine gf_0_9 X m_fl_X0_34 hj0 dX0_become_84 ?_
  refine j_iconst (v := 0) X dX0_become_87 (by decide) ?_
  refine j_iconst (v := 3) X dX0_become_88 (by decide) ?_
  refine j_copy X m_ml_X0_49 m_na_arraycopy m_st_arraycopy m_in_J10 (k0_3 hj1).1 (k0_3 hj0).1 (fun T => cl_3 (k0_3 hj1)) (fun T => cl_3 (k0_3 hj0)) (by decide) (by decide) (by decide) (Nat.le_of_ble_eq_true rfl) (Nat.le_of_ble_eq_true rfl) dX0_become_89 ?_
  exact t_X0_become_92 X hr hlocks j0 hj0 j1 hj1 (upA S (j0 + 3) (va_cpy (S (j1 + 3)) (S (j0 + 3)) 0 0 ((3 : Int32).toNatClampNeg))) _ ho he
def b_X0_become_62 (j0 : Nat) (j1 : Nat) (S : Sx) : Sx := b_X0_become_78 j0 j1 (up2 (up2 S j0 8 (S j1 8)) j0 10 ((up2 S j0 8 (S j1 8)) j1 10))
def o_X0_become_62 (j0 : Nat) (j1 : Nat) (S : Sx) : Prop := o_X0_become_78 j0 j1 (up2 (up2 S j0 8 (S j1 8)) j0 10 ((up2 S j0 8 (S j1 8)) j1 10))
set_option maxRecDepth 20000 in
theorem t_X0_become_62 (X : Cx p m c cX0_become 3 s args RX0 D q ad) (hr : meth.sig.returnType = none) (hlocks : meth.locks = false) (j0 : Nat) (hj0 : isK 0 j0) (j1 : Nat) (hj1 : isK 0 j1) (S : Sx) (S' : Sx) (ho : o_X0_become_62 j0 j1 S) (he : b_X0_become_62 j0 j1 S = S') : Jg p l e rm_X0_become s m args below meth c 0 0 (MQ below (Qv D q ad d S' s.heap.size) args s 0 0 (AU ad s.heap.size)) D q ad d 3 62 [(0, .ref (ad j0)), (1, .ref (ad j1))] [] S := by
  unfold b_X0_become_62 at he
  unfold o_X0_become_62 at ho
  refine j_aload_n X 0 dX0_become_62 rfl ?_
  refine j_aload_n X 1 dX0_become_63 rfl ?_
  refine gf_0_8 X m_fl_X0_61 hj1 dX0_become_64 ?_
  refine pf_0_8 X m_fl_X0_61 hj0 dX0_become_67 ?_
  refine j_aload_n X 0 dX0_become_70 rfl ?_
  refine j_aload_n X 1 dX0_become_71 rfl ?_
  refine gf_0_10 X m_fl_X0_64 hj1 dX0_become_72 ?_
  refine pf_0_10 X m_fl_X0_64 hj0 dX0_become_75 ?_
  exact t_X0_become_78 X hr hlocks j0 hj0 j1 hj1 (up2 (up2 S j0 8 (S j1 8)) j0 10 ((up2 S j0 8 (S j1 8)) j1 10)) _ ho he
def b_X0_become_46 (j0 : Nat) (j1 : Nat) (S : Sx) : Sx := b_X0_become_62 j0 j1 (up2 (up2 S j0 4 (S j1 4)) j0 6 ((up2 S j0 4 (S j1 4)) j1 6))
def o_X0_become_46 (j0 : Nat) (j1 : Nat) (S : Sx) : Prop := o_X0_become_62 j0 j1 (up2 (up2 S j0 4 (S j1 4)) j0 6 ((up2 S j0 4 (S j1 4)) j1 6))
set_option maxRecDepth 20000 in
theorem t_X0_become_46 (X : Cx p m c cX0_become 3 s args RX0 D q ad) (hr : meth.sig.returnType = none) (hlocks : meth.locks = false) (j0 : Nat) (hj0 : isK 0 j0) (j1 : Nat) (hj1 : isK 0 j1) (S : Sx) (S' : Sx) (ho : o_X0_become_46 j0 j1 S) (he : b_X0_become_46 j0 j1 S = S') : Jg p l e rm_X0_become s m args below meth c 0 0 (MQ below (Qv D q ad d S' s.heap.size) args s 0 0 (AU ad s.heap.size)) D q ad d 3 46 [(0, .ref (ad j0)), (1, .ref (ad j1))] [] S := by
  unfold b_X0_become_46 at he
  unfold o_X0_become_46 at ho
  refine j_aload_n X 0 dX0_become_46 rfl ?_
  refine j_aload_n X 1 dX0_become_47 rfl ?_
  refine gf_0_4 X m_fl_X0_55 hj1 dX0_become_48 ?_
  refine pf_0_4 X m_fl_X0_55 hj0 dX0_become_51 ?_
  refine j_aload_n X 0 dX0_become_54 rfl ?_
  refine j_aload_n X 1 dX0_become_55 rfl ?_
  refine gf_0_6 X m_fl_X0_58 hj1 dX0_become_56 ?_
  refine pf_0_6 X m_fl_X0_58 hj0 dX0_become_59 ?_
  exact t_X0_become_62 X hr hlocks j0 hj0 j1 hj1 (up2 (up2 S j0 4 (S j1 4)) j0 6 ((up2 S j0 4 (S j1 4)) j1 6)) _ ho he
def b_X0_become_31 (j0 : Nat) (j1 : Nat) (S : Sx) : Sx := b_X0_become_46 j0 j1 (upA S (j0 + 2) (va_cpy (S (j1 + 2)) (S (j0 + 2)) 0 0 ((24 : Int32).toNatClampNeg)))
def o_X0_become_31 (j0 : Nat) (j1 : Nat) (S : Sx) : Prop := o_X0_become_46 j0 j1 (upA S (j0 + 2) (va_cpy (S (j1 + 2)) (S (j0 + 2)) 0 0 ((24 : Int32).toNatClampNeg)))
set_option maxRecDepth 20000 in
theorem t_X0_become_31 (X : Cx p m c cX0_become 3 s args RX0 D q ad) (hr : meth.sig.returnType = none) (hlocks : meth.locks = false) (j0 : Nat) (hj0 : isK 0 j0) (j1 : Nat) (hj1 : isK 0 j1) (S : Sx) (S' : Sx) (ho : o_X0_become_31 j0 j1 S) (he : b_X0_become_31 j0 j1 S = S') : Jg p l e rm_X0_become s m args below meth c 0 0 (MQ below (Qv D q ad d S' s.heap.size) args s 0 0 (AU ad s.heap.size)) D q ad d 3 31 [(0, .ref (ad j0)), (1, .ref (ad j1))] [] S := by
  unfold b_X0_become_31 at he
  unfold o_X0_become_31 at ho
  refine j_aload_n X 1 dX0_become_31 rfl ?_
  refine gf_0_3 X m_fl_X0_19 hj1 dX0_become_32 ?_
  refine j_iconst (v := 0) X dX0_become_35 (by decide) ?_
  refine j_aload_n X 0 dX0_become_36 rfl ?_
  refine gf_0_3 X m_fl_X0_19 hj0 dX0_become_37 ?_
  refine j_iconst (v := 0) X dX0_become_40 (by decide) ?_
  refine j_bipush (v := 24) X dX0_become_41 (by decide) ?_
  refine j_copy X m_ml_X0_49 m_na_arraycopy m_st_arraycopy m_in_J10 (k0_2 hj1).1 (k0_2 hj0).1 (fun T => cl_2 (k0_2 hj1)) (fun T => cl_2 (k0_2 hj0)) (by decide) (by decide) (by decide) (Nat.le_of_ble_eq_true rfl) (Nat.le_of_ble_eq_true rfl) dX0_become_43 ?_
  exact t_X0_become_46 X hr hlocks j0 hj0 j1 hj1 (upA S (j0 + 2) (va_cpy (S (j1 + 2)) (S (j0 + 2)) 0 0 ((24 : Int32).toNatClampNeg))) _ ho he
def b_X0_become_16 (j0 : Nat) (j1 : Nat) (S : Sx) : Sx := b_X0_become_31 j0 j1 (upA S (j0 + 1) (va_cpy (S (j1 + 1)) (S (j0 + 1)) 0 0 ((24 : Int32).toNatClampNeg)))
def o_X0_become_16 (j0 : Nat) (j1 : Nat) (S : Sx) : Prop := o_X0_become_31 j0 j1 (upA S (j0 + 1) (va_cpy (S (j1 + 1)) (S (j0 + 1)) 0 0 ((24 : Int32).toNatClampNeg)))
set_option maxRecDepth 20000 in
theorem t_X0_become_16 (X : Cx p m c cX0_become 3 s args RX0 D q ad) (hr : meth.sig.returnType = none) (hlocks : meth.locks = false) (j0 : Nat) (hj0 : isK 0 j0) (j1 : Nat) (hj1 : isK 0 j1) (S : Sx) (S' : Sx) (ho : o_X0_become_16 j0 j1 S) (he : b_X0_become_16 j0 j1 S = S') : Jg p l e rm_X0_become s m args below meth c 0 0 (MQ below (Qv D q ad d S' s.heap.size) args s 0 0 (AU ad s.heap.size)) D q ad d 3 16 [(0, .ref (ad j0)), (1, .ref (ad j1))] [] S := by
  unfold b_X0_become_16 at he
  unfold o_X0_become_16 at ho
  refine j_aload_n X 1 dX0_become_16 rfl ?_
  refine gf_0_2 X m_fl_X0_15 hj1 dX0_become_17 ?_
  refine j_iconst (v := 0) X dX0_become_20 (by decide) ?_
  refine j_aload_n X 0 dX0_become_21 rfl ?_
  refine gf_0_2 X m_fl_X0_15 hj0 dX0_become_22 ?_
  refine j_iconst (v := 0) X dX0_become_25 (by decide) ?_
  refine j_bipush (v := 24) X dX0_become_26 (by decide) ?_
  refine j_copy X m_ml_X0_49 m_na_arraycopy m_st_arraycopy m_in_J10 (k0_1 hj1).1 (k0_1 hj0).1 (fun T => cl_1 (k0_1 hj1)) (fun T => cl_1 (k0_1 hj0)) (by decide) (by decide) (by decide) (Nat.le_of_ble_eq_true rfl) (Nat.le_of_ble_eq_true rfl) dX0_become_28 ?_
  exact t_X0_become_31 X hr hlocks j0 hj0 j1 hj1 (upA S (j0 + 1) (va_cpy (S (j1 + 1)) (S (j0 + 1)) 0 0 ((24 : Int32).toNatClampNeg))) _ ho he
def b_X0_become_0 (this : Nat) (r1 : Nat) (S : Sx) : Sx := b_X0_become_16 this r1 (up2 (up2 S this 0 (S r1 0)) this 1 ((up2 S this 0 (S r1 0)) r1 1))
def o_X0_become_0 (this : Nat) (r1 : Nat) (S : Sx) : Prop := o_X0_become_16 this r1 (up2 (up2 S this 0 (S r1 0)) this 1 ((up2 S this 0 (S r1 0)) r1 1))
set_option maxRecDepth 20000 in
theorem t_X0_become_0 (X : Cx p m c cX0_become 3 s args RX0 D q ad) (hr : meth.sig.returnType = none) (hlocks : meth.locks = false) (this : Nat) (hthis : isK 0 this) (r1 : Nat) (hr1 : isK 0 r1) (S : Sx) (S' : Sx) (ho : o_X0_become_0 this r1 S) (he : b_X0_become_0 this r1 S = S') : Jg p l e rm_X0_become s m args below meth c 0 0 (MQ below (Qv D q ad d S' s.heap.size) args s 0 0 (AU ad s.heap.size)) D q ad d 3 0 [(0, .ref (ad this)), (1, .ref (ad r1))] [] S := by
  unfold b_X0_become_0 at he
  unfold o_X0_become_0 at ho
  refine j_aload_n X 0 dX0_become_0 rfl ?_
  refine j_aload_n X 1 dX0_become_1 rfl ?_
  refine gf_0_0 X m_fl_X0_46 hr1 dX0_become_2 ?_
  refine pf_0_0 X m_fl_X0_46 hthis dX0_become_5 ?_
  refine j_aload_n X 0 dX0_become_8 rfl ?_
  refine j_aload_n X 1 dX0_become_9 rfl ?_
  refine gf_0_1 X m_fl_X0_9 hr1 dX0_become_10 ?_
  refine pf_0_1 X m_fl_X0_9 hthis dX0_become_13 ?_
  exact t_X0_become_16 X hr hlocks this hthis r1 hr1 (up2 (up2 S this 0 (S r1 0)) this 1 ((up2 S this 0 (S r1 0)) r1 1)) _ ho he
theorem c_X0_become {l : Launch} {D : va_G} {q : Nat → ClassId} {ad : Nat → Nat} {d : UInt64} (hI : inj4 ad) (this : Nat) (hthis : isK 0 this) (r1 : Nat) (hr1 : isK 0 r1) (S : Sx) (ho : o_X0_become_0 this r1 S) : CV l yX0_become cX0_become 3 rm_X0_become D q ad d [.ref (ad this), .ref (ad r1)] S (b_X0_become_0 this r1 S) := cv_of hI (by decide +kernel) (Nat.le_of_ble_eq_true rfl) rfl (fun p e s m args below meth c X hr hlocks => t_X0_become_0 X hr hlocks this hthis r1 hr1 S _ ho rfl)
end
/-! RX0.rollerOf -/
abbrev rm_X0_rollerOf : Room := { frames := 0, cells := 0, slots := 0, locals := 0 }
section
variable {p : Program} {l : Launch} {e : Env} {s : State} {m : MethodId} {args : Array Value} {below : List Frame} {meth : Method} {c : Code} {D : va_G} {q : Nat → ClassId} {ad : Nat → Nat} {d : UInt64}
def b_X0_rollerOf_37 (kk : Nat → Int32 → Int32 → Sx → Int32) (j0 : Nat) (v1 : Int32) (v2 : Int32) (S : Sx) : Int32 := kk j0 v1 (v2 + 1) S
def o_X0_rollerOf_37 (ok : Nat → Int32 → Int32 → Sx → Prop) (j0 : Nat) (v1 : Int32) (v2 : Int32) (S : Sx) : Prop := ok j0 v1 (v2 + 1) S
set_option maxRecDepth 20000 in
theorem t_X0_rollerOf_37 (X : Cx p m c cX0_rollerOf 3 s args RX0 D q ad) (hr : meth.sig.returnType = some .int) (hlocks : meth.locks = false) (kk : Nat → Int32 → Int32 → Sx → Int32) (ok : Nat → Int32 → Int32 → Sx → Prop) (hkk : ∀ (j0 : Nat) (hj0 : isK 0 j0) (v1 : Int32) (v2 : Int32) (S : Sx) (rv : Int32) (ho : ok j0 v1 v2 S) (he : kk j0 v1 v2 S = rv), Jg p l e rm_X0_rollerOf s m args below meth c 0 0 (MQ below (Qi D q ad d rv S s.heap.size) args s 0 0 (AU ad s.heap.size)) D q ad d 3 2 [(0, .ref (ad j0)), (1, .int v1), (2, .int v2)] [] S) (j0 : Nat) (hj0 : isK 0 j0) (v1 : Int32) (v2 : Int32) (S : Sx) (rv : Int32) (ho : o_X0_rollerOf_37 ok j0 v1 v2 S) (he : b_X0_rollerOf_37 kk j0 v1 v2 S = rv) : Jg p l e rm_X0_rollerOf s m args below meth c 0 0 (MQ below (Qi D q ad d rv S s.heap.size) args s 0 0 (AU ad s.heap.size)) D q ad d 3 37 [(0, .ref (ad j0)), (1, .int v1), (2, .int v2)] [] S := by
  unfold b_X0_rollerOf_37 at he
  unfold o_X0_rollerOf_37 at ho
  refine j_iinc X 2 (v2 + 1) [(2, .int (v2 + 1)), (0, .ref (ad j0)), (1, .int v1)] dX0_rollerOf_37 rfl rfl (by decide) rfl ?_
  refine j_goto X 2 dX0_rollerOf_40 (by decide) ?_
  refine j_lv [1, 2, 0] [(0, .ref (ad j0)), (1, .int v1), (2, .int (v2 + 1))] rfl ?_
  exact hkk j0 hj0 v1 (v2 + 1) S _ ho he
def b_X0_rollerOf_2 : Nat → Nat → Int32 → Int32 → Sx → Int32
  | 0, _, _, _, S => 0
  | n + 1, j0, v1, v2, S => if (S j0 6) ≤ v2 then (-1) else if (S (j0 + 11 + v2.toNatClampNeg) 3) ≤ 0 then b_X0_rollerOf_37 (b_X0_rollerOf_2 n) j0 v1 v2 S else if (S (j0 + 11 + v2.toNatClampNeg) 4) = v1 then v2 else b_X0_rollerOf_37 (b_X0_rollerOf_2 n) j0 v1 v2 S
def o_X0_rollerOf_2 : Nat → Nat → Int32 → Int32 → Sx → Prop
  | 0, _, _, _, _ => False
  | n + 1, j0, v1, v2, S => ((S j0 6) ≤ v2 → True) ∧ (¬ (S j0 6) ≤ v2 → (vp_in v2 5 ∧ (((S (j0 + 11 + v2.toNatClampNeg) 3) ≤ 0 → (o_X0_rollerOf_37 (o_X0_rollerOf_2 n) j0 v1 v2 S)) ∧ (¬ (S (j0 + 11 + v2.toNatClampNeg) 3) ≤ 0 → (vp_in v2 5 ∧ (((S (j0 + 11 + v2.toNatClampNeg) 4) = v1 → True) ∧ (¬ (S (j0 + 11 + v2.toNatClampNeg) 4) = v1 → (o_X0_rollerOf_37 (o_X0_rollerOf_2 n) j0 v1 v2 S))))))))
set_option maxRecDepth 20000 in
theorem t_X0_rollerOf_2 (X : Cx p m c cX0_rollerOf 3 s args RX0 D q ad) (hr : meth.sig.returnType = some .int) (hlocks : meth.locks = false) : ∀ (n : Nat) (j0 : Nat) (hj0 : isK 0 j0) (v1 : Int32) (v2 : Int32) (S : Sx) (rv : Int32) (ho : o_X0_rollerOf_2 n j0 v1 v2 S) (he : b_X0_rollerOf_2 n j0 v1 v2 S = rv), Jg p l e rm_X0_rollerOf s m args below meth c 0 0 (MQ below (Qi D q ad d rv S s.heap.size) args s 0 0 (AU ad s.heap.size)) D q ad d 3 2 [(0, .ref (ad j0)), (1, .int v1), (2, .int v2)] [] S := by
  intro n
  induction n with
  | zero =>
    intro j0 hj0 v1 v2 S rv ho he
    unfold o_X0_rollerOf_2 at ho
    exact ho.elim
  | succ n ih =>
    intro j0 hj0 v1 v2 S rv ho he
    unfold b_X0_rollerOf_2 at he
    unfold o_X0_rollerOf_2 at ho
    refine j_iload_n X 2 dX0_rollerOf_2 rfl ?_
    refine j_aload_n X 0 dX0_rollerOf_3 rfl ?_
    refine gf_0_6 X m_fl_X0_58 hj0 dX0_rollerOf_4 ?_
    refine j_icmp_ge X 43 dX0_rollerOf_7 (by decide) (fun h2 => ?_) (fun h2 => ?_)
    · rw [if_pos h2] at he
      have ho := ho.1 h2
      refine j_iconst (v := (-1)) X dX0_rollerOf_43 (by decide) ?_
      exact j_iret X hr hlocks dX0_rollerOf_44 he rfl
    · rw [if_neg h2] at he
      have ho := ho.2 h2
      refine j_aload_n X 0 dX0_rollerOf_10 rfl ?_
      refine gf_0_7 X m_fl_X0_30 hj0 dX0_rollerOf_11 ?_
      refine j_iload_n X 2 dX0_rollerOf_14 rfl ?_
      have h3 := ho.1
      have ho := ho.2
      refine j_aald (a := ad (j0 + 11 + v2.toNatClampNeg)) X 2 (k0_5 hj0).1 (cl_5 (k0_5 hj0)) rfl h3 rfl dX0_rollerOf_15 ?_
      have hk4 : isK 8 (j0 + 11 + v2.toNatClampNeg) := k0_8 hj0 (vlt h3)
      refine gf_8_3 X m_fl_X0_77 hk4 dX0_rollerOf_16 ?_
      refine j_if_le X 37 dX0_rollerOf_19 (by decide) (fun h5 => ?_) (fun h5 => ?_)
      · rw [if_pos h5] at he
        have ho := ho.1 h5
        exact t_X0_rollerOf_37 X hr hlocks (b_X0_rollerOf_2 n) (o_X0_rollerOf_2 n) ih j0 hj0 v1 v2 S _ ho he
      · rw [if_neg h5] at he
        have ho := ho.2 h5
        refine j_aload_n X 0 dX0_rollerOf_22 rfl ?_
        refine gf_0_7 X m_fl_X0_30 hj0 dX0_rollerOf_23 ?_
        refine j_iload_n X 2 dX0_rollerOf_26 rfl ?_
        have h6 := ho.1
        have ho := ho.2
        refine j_aald (a := ad (j0 + 11 + v2.toNatClampNeg)) X 2 (k0_5 hj0).1 (cl_5 (k0_5 hj0)) rfl h6 rfl dX0_rollerOf_27 ?_
        have hk7 : isK 8 (j0 + 11 + v2.toNatClampNeg) := k0_8 hj0 (vlt h6)
        refine gf_8_4 X m_fl_X0_80 hk7 dX0_rollerOf_28 ?_
        refine j_iload_n X 1 dX0_rollerOf_31 rfl ?_
        refine j_icmp_ne X 37 dX0_rollerOf_32 (by decide) (fun h8 => ?_) (fun h8 => ?_)
        · rw [if_neg h8] at he
          have ho := ho.2 h8
          exact t_X0_rollerOf_37 X hr hlocks (b_X0_rollerOf_2 n) (o_X0_rollerOf_2 n) ih j0 hj0 v1 v2 S _ ho he
        · rw [if_pos h8] at he
          have ho := ho.1 h8
          refine j_iload_n X 2 dX0_rollerOf_35 rfl ?_
          exact j_iret X hr hlocks dX0_rollerOf_36 he rfl
def b_X0_rollerOf_0 (this : Nat) (x1 : Int32) (S : Sx) : Int32 := b_X0_rollerOf_2 100 this x1 0 S
def o_X0_rollerOf_0 (this : Nat) (x1 : Int32) (S : Sx) : Prop := o_X0_rollerOf_2 100 this x1 0 S
set_option maxRecDepth 20000 in
theorem t_X0_rollerOf_0 (X : Cx p m c cX0_rollerOf 3 s args RX0 D q ad) (hr : meth.sig.returnType = some .int) (hlocks : meth.locks = false) (this : Nat) (hthis : isK 0 this) (x1 : Int32) (S : Sx) (rv : Int32) (ho : o_X0_rollerOf_0 this x1 S) (he : b_X0_rollerOf_0 this x1 S = rv) : Jg p l e rm_X0_rollerOf s m args below meth c 0 0 (MQ below (Qi D q ad d rv S s.heap.size) args s 0 0 (AU ad s.heap.size)) D q ad d 3 0 [(0, .ref (ad this)), (1, .int x1)] [] S := by
  unfold b_X0_rollerOf_0 at he
  unfold o_X0_rollerOf_0 at ho
  refine j_iconst (v := 0) X dX0_rollerOf_0 (by decide) ?_
  refine j_istore_n X [(2, .int 0), (0, .ref (ad this)), (1, .int x1)] dX0_rollerOf_1 (by decide) rfl ?_
  refine j_lv [1, 2, 0] [(0, .ref (ad this)), (1, .int x1), (2, .int 0)] rfl ?_
  exact t_X0_rollerOf_2 X hr hlocks 100 this hthis x1 0 S _ ho he
theorem c_X0_rollerOf {l : Launch} {D : va_G} {q : Nat → ClassId} {ad : Nat → Nat} {d : UInt64} (hI : inj4 ad) (this : Nat) (hthis : isK 0 this) (x1 : Int32) (S : Sx) (ho : o_X0_rollerOf_0 this x1 S) : CI l yX0_rollerOf cX0_rollerOf 3 .int rm_X0_rollerOf D q ad d [.ref (ad this), .int x1] S (b_X0_rollerOf_0 this x1 S) S := ci_of hI (by decide +kernel) (Nat.le_of_ble_eq_true rfl) rfl (fun p e s m args below meth c X hr hlocks => t_X0_rollerOf_0 X hr hlocks this hthis x1 S _ ho rfl)
end
/-! RX2.isOver -/
abbrev rm_X2_isOver : Room := { frames := 0, cells := 0, slots := 0, locals := 0 }
section
variable {p : Program} {l : Launch} {e : Env} {s : State} {m : MethodId} {args : Array Value} {below : List Frame} {meth : Method} {c : Code} {D : va_G} {q : Nat → ClassId} {ad : Nat → Nat} {d : UInt64}
def b_X2_isOver_32 (w0 : Int32) (S : Sx) : Int32 := w0
def o_X2_isOver_32 (w0 : Int32) (S : Sx) : Prop := bz w0 ∧ True
set_option maxRecDepth 20000 in
theorem t_X2_isOver_32 (X : Cx p m c cX2_isOver 1 s args RX2 D q ad) (hr : meth.sig.returnType = some .boolean) (hlocks : meth.locks = false) (w0 : Int32) (S : Sx) (rv : Int32) (ho : o_X2_isOver_32 w0 S) (he : b_X2_isOver_32 w0 S = rv) : Jg p l e rm_X2_isOver s m args below meth c 0 0 (MQ below (Qi D q ad d rv S s.heap.size) args s 0 0 (AU ad s.heap.size)) D q ad d 1 32 [] [.int w0] S := by
  unfold b_X2_isOver_32 at he
  unfold o_X2_isOver_32 at ho
  have h2 := ho.1
  have ho := ho.2
  exact j_zret X hr hlocks (bz_narrow h2) dX2_isOver_32 he rfl
def b_X2_isOver_27  (S : Sx) : Int32 := b_X2_isOver_32 1 S
def o_X2_isOver_27  (S : Sx) : Prop := o_X2_isOver_32 1 S
set_option maxRecDepth 20000 in
theorem t_X2_isOver_27 (X : Cx p m c cX2_isOver 1 s args RX2 D q ad) (hr : meth.sig.returnType = some .boolean) (hlocks : meth.locks = false) (S : Sx) (rv : Int32) (ho : o_X2_isOver_27 S) (he : b_X2_isOver_27 S = rv) : Jg p l e rm_X2_isOver s m args below meth c 0 0 (MQ below (Qi D q ad d rv S s.heap.size) args s 0 0 (AU ad s.heap.size)) D q ad d 1 27 [] [] S := by
  unfold b_X2_isOver_27 at he
  unfold o_X2_isOver_27 at ho
  refine j_iconst (v := 1) X dX2_isOver_27 (by decide) ?_
  refine j_goto X 32 dX2_isOver_28 (by decide) ?_
  exact t_X2_isOver_32 X hr hlocks 1 S _ ho he
def b_X2_isOver_0 (this : Nat) (S : Sx) : Int32 := if (nb (S this 6)) = 0 then if (S this 2) ≤ (S this 3) then b_X2_isOver_27 S else if (S this 5) < 10 then b_X2_isOver_32 0 S else b_X2_isOver_27 S else b_X2_isOver_27 S
def o_X2_isOver_0 (this : Nat) (S : Sx) : Prop := ((nb (S this 6)) = 0 → (((S this 2) ≤ (S this 3) → (o_X2_isOver_27 S)) ∧ (¬ (S this 2) ≤ (S this 3) → (((S this 5) < 10 → (o_X2_isOver_32 0 S)) ∧ (¬ (S this 5) < 10 → (o_X2_isOver_27 S)))))) ∧ (¬ (nb (S this 6)) = 0 → (o_X2_isOver_27 S))
set_option maxRecDepth 20000 in
theorem t_X2_isOver_0 (X : Cx p m c cX2_isOver 1 s args RX2 D q ad) (hr : meth.sig.returnType = some .boolean) (hlocks : meth.locks = false) (this : Nat) (hthis : isK 9 this) (S : Sx) (rv : Int32) (ho : o_X2_isOver_0 this S) (he : b_X2_isOver_0 this S = rv) : Jg p l e rm_X2_isOver s m args below meth c 0 0 (MQ below (Qi D q ad d rv S s.heap.size) args s 0 0 (AU ad s.heap.size)) D q ad d 1 0 [(0, .ref (ad this))] [] S := by
  unfold b_X2_isOver_0 at he
  unfold o_X2_isOver_0 at ho
  refine j_aload_n X 0 dX2_isOver_0 rfl ?_
  refine gf_9_6 X m_fl_X2_34 hthis dX2_isOver_1 ?_
  refine j_if_ne X 27 dX2_isOver_4 (by decide) (fun h2 => ?_) (fun h2 => ?_)
  · rw [if_neg h2] at he
    have ho := ho.2 h2
    refine j_lv [] [] rfl ?_
    exact t_X2_isOver_27 X hr hlocks S _ ho he
  · rw [if_pos h2] at he
    have ho := ho.1 h2
    refine j_aload_n X 0 dX2_isOver_7 rfl ?_
    refine gf_9_3 X m_fl_X2_25 hthis dX2_isOver_8 ?_
    refine j_aload_n X 0 dX2_isOver_11 rfl ?_
    refine gf_9_2 X m_fl_X2_22 hthis dX2_isOver_12 ?_
    refine j_icmp_ge X 27 dX2_isOver_15 (by decide) (fun h3 => ?_) (fun h3 => ?_)
    · rw [if_pos h3] at he
      have ho := ho.1 h3
      refine j_lv [] [] rfl ?_
      exact t_X2_isOver_27 X hr hlocks S _ ho he
    · rw [if_neg h3] at he
      have ho := ho.2 h3
      refine j_aload_n X 0 dX2_isOver_18 rfl ?_
      refine gf_9_5 X m_fl_X2_31 hthis dX2_isOver_19 ?_
      refine j_bipush (v := 10) X dX2_isOver_22 (by decide) ?_
      refine j_icmp_lt X 31 dX2_isOver_24 (by decide) (fun h4 => ?_) (fun h4 => ?_)
      · rw [if_pos h4] at he
        have ho := ho.1 h4
        refine j_iconst (v := 0) X dX2_isOver_31 (by decide) ?_
        refine j_lv [] [] rfl ?_
        exact t_X2_isOver_32 X hr hlocks 0 S _ ho he
      · rw [if_neg h4] at he
        have ho := ho.2 h4
        refine j_lv [] [] rfl ?_
        exact t_X2_isOver_27 X hr hlocks S _ ho he
theorem c_X2_isOver {l : Launch} {D : va_G} {q : Nat → ClassId} {ad : Nat → Nat} {d : UInt64} (hI : inj4 ad) (this : Nat) (hthis : isK 9 this) (S : Sx) (ho : o_X2_isOver_0 this S) : CI l yX2_isOver cX2_isOver 1 .boolean rm_X2_isOver D q ad d [.ref (ad this)] S (b_X2_isOver_0 this S) S := ci_of hI (by decide +kernel) (Nat.le_of_ble_eq_true rfl) rfl (fun p e s m args below meth c X hr hlocks => t_X2_isOver_0 X hr hlocks this hthis S _ ho rfl)
end
/-! RX0.playedOn -/
abbrev rm_X0_playedOn : Room := { frames := 1, cells := 0, slots := 0, locals := 20 }
section
variable {p : Program} {l : Launch} {e : Env} {s : State} {m : MethodId} {args : Array Value} {below : List Frame} {meth : Method} {c : Code} {D : va_G} {q : Nat → ClassId} {ad : Nat → Nat} {d : UInt64}
def b_X0_playedOn_37 (kk : Nat → Int32 → Int32 → Sx → Int32) (j0 : Nat) (v1 : Int32) (v2 : Int32) (S : Sx) : Int32 := kk j0 v1 (v2 + 1) S
def o_X0_playedOn_37 (ok : Nat → Int32 → Int32 → Sx → Prop) (j0 : Nat) (v1 : Int32) (v2 : Int32) (S : Sx) : Prop := ok j0 v1 (v2 + 1) S
set_option maxRecDepth 20000 in
theorem t_X0_playedOn_37 (X : Cx p m c cX0_playedOn 3 s args RX0 D q ad) (hr : meth.sig.returnType = some .int) (hlocks : meth.locks = false) (kk : Nat → Int32 → Int32 → Sx → Int32) (ok : Nat → Int32 → Int32 → Sx → Prop) (hkk : ∀ (j0 : Nat) (hj0 : isK 0 j0) (v1 : Int32) (v2 : Int32) (S : Sx) (rv : Int32) (ho : ok j0 v1 v2 S) (he : kk j0 v1 v2 S = rv), Jg p l e rm_X0_playedOn s m args below meth c 0 0 (MQ below (Qi D q ad d rv S s.heap.size) args s 0 0 (AU ad s.heap.size)) D q ad d 3 2 [(0, .ref (ad j0)), (1, .int v1), (2, .int v2)] [] S) (j0 : Nat) (hj0 : isK 0 j0) (v1 : Int32) (v2 : Int32) (S : Sx) (rv : Int32) (ho : o_X0_playedOn_37 ok j0 v1 v2 S) (he : b_X0_playedOn_37 kk j0 v1 v2 S = rv) : Jg p l e rm_X0_playedOn s m args below meth c 0 0 (MQ below (Qi D q ad d rv S s.heap.size) args s 0 0 (AU ad s.heap.size)) D q ad d 3 37 [(0, .ref (ad j0)), (1, .int v1), (2, .int v2)] [] S := by
  unfold b_X0_playedOn_37 at he
  unfold o_X0_playedOn_37 at ho
  refine j_iinc X 2 (v2 + 1) [(2, .int (v2 + 1)), (0, .ref (ad j0)), (1, .int v1)] dX0_playedOn_37 rfl rfl (by decide) rfl ?_
  refine j_goto X 2 dX0_playedOn_40 (by decide) ?_
  refine j_lv [1, 2, 0] [(0, .ref (ad j0)), (1, .int v1), (2, .int (v2 + 1))] rfl ?_
  exact hkk j0 hj0 v1 (v2 + 1) S _ ho he
def b_X0_playedOn_2 : Nat → Nat → Int32 → Int32 → Sx → Int32
  | 0, _, _, _, S => 0
  | n + 1, j0, v1, v2, S => if (S j0 10) ≤ v2 then (-1) else if (S (j0 + 16 + v2.toNatClampNeg) 0) = v1 then if (b_X2_isOver_0 (j0 + 16 + v2.toNatClampNeg) S) = 0 then v2 else b_X0_playedOn_37 (b_X0_playedOn_2 n) j0 v1 v2 S else b_X0_playedOn_37 (b_X0_playedOn_2 n) j0 v1 v2 S
def o_X0_playedOn_2 : Nat → Nat → Int32 → Int32 → Sx → Prop
  | 0, _, _, _, _ => False
  | n + 1, j0, v1, v2, S => ((S j0 10) ≤ v2 → True) ∧ (¬ (S j0 10) ≤ v2 → (vp_in v2 12 ∧ (((S (j0 + 16 + v2.toNatClampNeg) 0) = v1 → (vp_in v2 12 ∧ (o_X2_isOver_0 (j0 + 16 + v2.toNatClampNeg) S ∧ (((b_X2_isOver_0 (j0 + 16 + v2.toNatClampNeg) S) = 0 → True) ∧ (¬ (b_X2_isOver_0 (j0 + 16 + v2.toNatClampNeg) S) = 0 → (o_X0_playedOn_37 (o_X0_playedOn_2 n) j0 v1 v2 S)))))) ∧ (¬ (S (j0 + 16 + v2.toNatClampNeg) 0) = v1 → (o_X0_playedOn_37 (o_X0_playedOn_2 n) j0 v1 v2 S)))))
set_option maxRecDepth 20000 in
theorem t_X0_playedOn_2 (X : Cx p m c cX0_playedOn 3 s args RX0 D q ad) (hr : meth.sig.returnType = some .int) (hlocks : meth.locks = false) : ∀ (n : Nat) (j0 : Nat) (hj0 : isK 0 j0) (v1 : Int32) (v2 : Int32) (S : Sx) (rv : Int32) (ho : o_X0_playedOn_2 n j0 v1 v2 S) (he : b_X0_playedOn_2 n j0 v1 v2 S = rv), Jg p l e rm_X0_playedOn s m args below meth c 0 0 (MQ below (Qi D q ad d rv S s.heap.size) args s 0 0 (AU ad s.heap.size)) D q ad d 3 2 [(0, .ref (ad j0)), (1, .int v1), (2, .int v2)] [] S := by
  intro n
  induction n with
  | zero =>
    intro j0 hj0 v1 v2 S rv ho he
    unfold o_X0_playedOn_2 at ho
    exact ho.elim
  | succ n ih =>
    intro j0 hj0 v1 v2 S rv ho he
    unfold b_X0_playedOn_2 at he
    unfold o_X0_playedOn_2 at ho
    refine j_iload_n X 2 dX0_playedOn_2 rfl ?_
    refine j_aload_n X 0 dX0_playedOn_3 rfl ?_
    refine gf_0_10 X m_fl_X0_64 hj0 dX0_playedOn_4 ?_
    refine j_icmp_ge X 43 dX0_playedOn_7 (by decide) (fun h2 => ?_) (fun h2 => ?_)
    · rw [if_pos h2] at he
      have ho := ho.1 h2
      refine j_iconst (v := (-1)) X dX0_playedOn_43 (by decide) ?_
      exact j_iret X hr hlocks dX0_playedOn_44 he rfl
    · rw [if_neg h2] at he
      have ho := ho.2 h2
      refine j_aload_n X 0 dX0_playedOn_10 rfl ?_
      refine gf_0_11 X m_fl_X0_39 hj0 dX0_playedOn_11 ?_
      refine j_iload_n X 2 dX0_playedOn_14 rfl ?_
      have h3 := ho.1
      have ho := ho.2
      refine j_aald (a := ad (j0 + 16 + v2.toNatClampNeg)) X 3 (k0_6 hj0).1 (cl_6 (k0_6 hj0)) rfl h3 rfl dX0_playedOn_15 ?_
      have hk4 : isK 9 (j0 + 16 + v2.toNatClampNeg) := k0_9 hj0 (vlt h3)
      refine gf_9_0 X m_fl_X0_83 hk4 dX0_playedOn_16 ?_
      refine j_iload_n X 1 dX0_playedOn_19 rfl ?_
      refine j_icmp_ne X 37 dX0_playedOn_20 (by decide) (fun h5 => ?_) (fun h5 => ?_)
      · rw [if_neg h5] at he
        have ho := ho.2 h5
        exact t_X0_playedOn_37 X hr hlocks (b_X0_playedOn_2 n) (o_X0_playedOn_2 n) ih j0 hj0 v1 v2 S _ ho he
      · rw [if_pos h5] at he
        have ho := ho.1 h5
        refine j_aload_n X 0 dX0_playedOn_23 rfl ?_
        refine gf_0_11 X m_fl_X0_39 hj0 dX0_playedOn_24 ?_
        refine j_iload_n X 2 dX0_playedOn_27 rfl ?_
        have h6 := ho.1
        have ho := ho.2
        refine j_aald (a := ad (j0 + 16 + v2.toNatClampNeg)) X 3 (k0_6 hj0).1 (cl_6 (k0_6 hj0)) rfl h6 rfl dX0_playedOn_28 ?_
        have hk7 : isK 9 (j0 + 16 + v2.toNatClampNeg) := k0_9 hj0 (vlt h6)
        have h8 := ho.1
        have ho := ho.2
        refine j_callVi (rest := []) X (c_X2_isOver (cx_inj X) (j0 + 16 + v2.toNatClampNeg) hk7 S h8) cw_X0_84 hk7.1 (cl_9 hk7) rfl ⟨rfl, rfl, Nat.le_of_ble_eq_true rfl, Nat.le_of_ble_eq_true rfl⟩ rfl rfl (Nat.le_of_ble_eq_true rfl) ⟨Nat.le_of_ble_eq_true rfl, Nat.le_of_ble_eq_true rfl⟩ dX0_playedOn_29 ?_
        refine j_if_ne X 37 dX0_playedOn_32 (by decide) (fun h9 => ?_) (fun h9 => ?_)
        · rw [if_neg h9] at he
          have ho := ho.2 h9
          exact t_X0_playedOn_37 X hr hlocks (b_X0_playedOn_2 n) (o_X0_playedOn_2 n) ih j0 hj0 v1 v2 S _ ho he
        · rw [if_pos h9] at he
          have ho := ho.1 h9
          refine j_iload_n X 2 dX0_playedOn_35 rfl ?_
          exact j_iret X hr hlocks dX0_playedOn_36 he rfl
def b_X0_playedOn_0 (this : Nat) (x1 : Int32) (S : Sx) : Int32 := b_X0_playedOn_2 100 this x1 0 S
def o_X0_playedOn_0 (this : Nat) (x1 : Int32) (S : Sx) : Prop := o_X0_playedOn_2 100 this x1 0 S
set_option maxRecDepth 20000 in
theorem t_X0_playedOn_0 (X : Cx p m c cX0_playedOn 3 s args RX0 D q ad) (hr : meth.sig.returnType = some .int) (hlocks : meth.locks = false) (this : Nat) (hthis : isK 0 this) (x1 : Int32) (S : Sx) (rv : Int32) (ho : o_X0_playedOn_0 this x1 S) (he : b_X0_playedOn_0 this x1 S = rv) : Jg p l e rm_X0_playedOn s m args below meth c 0 0 (MQ below (Qi D q ad d rv S s.heap.size) args s 0 0 (AU ad s.heap.size)) D q ad d 3 0 [(0, .ref (ad this)), (1, .int x1)] [] S := by
  unfold b_X0_playedOn_0 at he
  unfold o_X0_playedOn_0 at ho
  refine j_iconst (v := 0) X dX0_playedOn_0 (by decide) ?_
  refine j_istore_n X [(2, .int 0), (0, .ref (ad this)), (1, .int x1)] dX0_playedOn_1 (by decide) rfl ?_
  refine j_lv [1, 2, 0] [(0, .ref (ad this)), (1, .int x1), (2, .int 0)] rfl ?_
  exact t_X0_playedOn_2 X hr hlocks 100 this hthis x1 0 S _ ho he
theorem c_X0_playedOn {l : Launch} {D : va_G} {q : Nat → ClassId} {ad : Nat → Nat} {d : UInt64} (hI : inj4 ad) (this : Nat) (hthis : isK 0 this) (x1 : Int32) (S : Sx) (ho : o_X0_playedOn_0 this x1 S) : CI l yX0_playedOn cX0_playedOn 3 .int rm_X0_playedOn D q ad d [.ref (ad this), .int x1] S (b_X0_playedOn_0 this x1 S) S := ci_of hI (by decide +kernel) (Nat.le_of_ble_eq_true rfl) rfl (fun p e s m args below meth c X hr hlocks => t_X0_playedOn_0 X hr hlocks this hthis x1 S _ ho rfl)
end
/-! RJ9.floorMod -/
abbrev rm_J9_floorMod_7cf53 : Room := { frames := 0, cells := 0, slots := 0, locals := 0 }
section
variable {p : Program} {l : Launch} {e : Env} {s : State} {m : MethodId} {args : Array Value} {below : List Frame} {meth : Method} {c : Code} {D : va_G} {q : Nat → ClassId} {ad : Nat → Nat} {d : UInt64}
def b_J9_floorMod_7cf53_18 (v2 : Int32) (S : Sx) : Int32 := v2
set_option maxRecDepth 20000 in
theorem t_J9_floorMod_7cf53_18 (X : Cx p m c cJ9_floorMod_7cf53 3 s args RJ9 D q ad) (hr : meth.sig.returnType = some .int) (hlocks : meth.locks = false) (v2 : Int32) (S : Sx) (rv : Int32) (he : b_J9_floorMod_7cf53_18 v2 S = rv) : Jg p l e rm_J9_floorMod_7cf53 s m args below meth c 0 0 (MQ below (Qi D q ad d rv S s.heap.size) args s 0 0 (AU ad s.heap.size)) D q ad d 3 18 [(2, .int v2)] [] S := by
  unfold b_J9_floorMod_7cf53_18 at he
  refine j_iload_n X 0 dJ9_floorMod_7cf53_18 rfl ?_
  exact j_iret X hr hlocks dJ9_floorMod_7cf53_19 he rfl
def b_J9_floorMod_7cf53_0 (x0 : Int32) (x1 : Int32) (S : Sx) : Int32 := if 0 ≤ (x0 ^^^ x1) then b_J9_floorMod_7cf53_18 (i_rem x0 x1) S else if (i_rem x0 x1) = 0 then b_J9_floorMod_7cf53_18 (i_rem x0 x1) S else (i_rem x0 x1) + x1
def o_J9_floorMod_7cf53_0 (x0 : Int32) (x1 : Int32) (S : Sx) : Prop := (¬ x1 = 0) ∧ True
set_option maxRecDepth 20000 in
theorem t_J9_floorMod_7cf53_0 (X : Cx p m c cJ9_floorMod_7cf53 3 s args RJ9 D q ad) (hr : meth.sig.returnType = some .int) (hlocks : meth.locks = false) (x0 : Int32) (x1 : Int32) (S : Sx) (rv : Int32) (ho : o_J9_floorMod_7cf53_0 x0 x1 S) (he : b_J9_floorMod_7cf53_0 x0 x1 S = rv) : Jg p l e rm_J9_floorMod_7cf53 s m args below meth c 0 0 (MQ below (Qi D q ad d rv S s.heap.size) args s 0 0 (AU ad s.heap.size)) D q ad d 3 0 [(0, .int x0), (1, .int x1)] [] S := by
  unfold b_J9_floorMod_7cf53_0 at he
  unfold o_J9_floorMod_7cf53_0 at ho
  refine j_iload_n X 0 dJ9_floorMod_7cf53_0 rfl ?_
  refine j_iload_n X 1 dJ9_floorMod_7cf53_1 rfl ?_
  have h2 := ho.1
  have ho := ho.2
  refine j_irem X dJ9_floorMod_7cf53_2 h2 ?_
  refine j_istore_n X [(2, .int (i_rem x0 x1)), (0, .int x0), (1, .int x1)] dJ9_floorMod_7cf53_3 (by decide) rfl ?_
  refine j_iload_n X 1 dJ9_floorMod_7cf53_4 rfl ?_
  refine j_iload_n X 2 dJ9_floorMod_7cf53_5 rfl ?_
  refine j_ixor X dJ9_floorMod_7cf53_6 ?_
  refine j_if_ge X 18 dJ9_floorMod_7cf53_7 (by decide) (fun h3 => ?_) (fun h3 => ?_)
  · rw [if_pos h3] at he
    refine j_lv [0] [(2, .int (i_rem x0 x1))] rfl ?_
    exact t_J9_floorMod_7cf53_18 X hr hlocks (i_rem x0 x1) S _ he
  · rw [if_neg h3] at he
    refine j_iload_n X 0 dJ9_floorMod_7cf53_10 rfl ?_
    refine j_if_eq X 18 dJ9_floorMod_7cf53_11 (by decide) (fun h4 => ?_) (fun h4 => ?_)
    · rw [if_pos h4] at he
      refine j_lv [0] [(2, .int (i_rem x0 x1))] rfl ?_
      exact t_J9_floorMod_7cf53_18 X hr hlocks (i_rem x0 x1) S _ he
    · rw [if_neg h4] at he
      refine j_iload_n X 0 dJ9_floorMod_7cf53_14 rfl ?_
      refine j_iload_n X 2 dJ9_floorMod_7cf53_15 rfl ?_
      refine j_iadd X dJ9_floorMod_7cf53_16 ?_
      exact j_iret X hr hlocks dJ9_floorMod_7cf53_17 he rfl
theorem c_J9_floorMod_7cf53 {l : Launch} {D : va_G} {q : Nat → ClassId} {ad : Nat → Nat} {d : UInt64} (hI : inj4 ad) (x0 : Int32) (x1 : Int32) (S : Sx) (ho : o_J9_floorMod_7cf53_0 x0 x1 S) : CI l yJ9_floorMod_7cf53 cJ9_floorMod_7cf53 3 .int rm_J9_floorMod_7cf53 D q ad d [.int x0, .int x1] S (b_J9_floorMod_7cf53_0 x0 x1 S) S := ci_of hI (by decide +kernel) (Nat.le_of_ble_eq_true rfl) rfl (fun p e s m args below meth c X hr hlocks => t_J9_floorMod_7cf53_0 X hr hlocks x0 x1 S _ ho rfl)
end
/-! RX0.callOf -/
abbrev rm_X0_callOf : Room := { frames := 1, cells := 0, slots := 0, locals := 22 }
section
variable {p : Program} {l : Launch} {e : Env} {s : State} {m : MethodId} {args : Array Value} {below : List Frame} {meth : Method} {c : Code} {D : va_G} {q : Nat → ClassId} {ad : Nat → Nat} {d : UInt64}
def b_X0_callOf_97 (w0 : Int32) (S : Sx) : Int32 := w0
set_option maxRecDepth 20000 in
theorem t_X0_callOf_97 (X : Cx p m c cX0_callOf 4 s args RX0 D q ad) (hr : meth.sig.returnType = some .int) (hlocks : meth.locks = false) (w0 : Int32) (S : Sx) (rv : Int32) (he : b_X0_callOf_97 w0 S = rv) : Jg p l e rm_X0_callOf s m args below meth c 0 0 (MQ below (Qi D q ad d rv S s.heap.size) args s 0 0 (AU ad s.heap.size)) D q ad d 4 97 [] [.int w0] S := by
  unfold b_X0_callOf_97 at he
  exact j_iret X hr hlocks dX0_callOf_97 he rfl
def b_X0_callOf_0 (this : Nat) (x1 : Int32) (x2 : Int32) (S : Sx) : Int32 := if (nb (S (this + 7 + x2.toNatClampNeg) 3)) = 0 then if (b_X0_rollerOf_0 this x2 S) = (-1) then if (b_J9_floorMod_7cf53_0 (S this 0) 24 S) = (S this 1) then 4 else if (S (this + 1) ((b_J9_floorMod_7cf53_0 (S this 0) 24 S).toNatClampNeg)) ≤ 0 then if 3 ≤ (S (this + 2) ((b_J9_floorMod_7cf53_0 (S this 0) 24 S).toNatClampNeg)) then if (S (this + 7 + x2.toNatClampNeg) 0) ≤ (60 - (5 * (S (this + 3) x1.toNatClampNeg))) then b_X0_callOf_97 0 S else b_X0_callOf_97 1 S else 2 else 3 else 5 else 6
def o_X0_callOf_0 (this : Nat) (x1 : Int32) (x2 : Int32) (S : Sx) : Prop := o_J9_floorMod_7cf53_0 (S this 0) 24 S ∧ (vp_in x2 4 ∧ (((nb (S (this + 7 + x2.toNatClampNeg) 3)) = 0 → (o_X0_rollerOf_0 this x2 S ∧ (((b_X0_rollerOf_0 this x2 S) = (-1) → (((b_J9_floorMod_7cf53_0 (S this 0) 24 S) = (S this 1) → True) ∧ (¬ (b_J9_floorMod_7cf53_0 (S this 0) 24 S) = (S this 1) → (vp_in (b_J9_floorMod_7cf53_0 (S this 0) 24 S) 24 ∧ (((S (this + 1) ((b_J9_floorMod_7cf53_0 (S this 0) 24 S).toNatClampNeg)) ≤ 0 → (vp_in (b_J9_floorMod_7cf53_0 (S this 0) 24 S) 24 ∧ ((3 ≤ (S (this + 2) ((b_J9_floorMod_7cf53_0 (S this 0) 24 S).toNatClampNeg)) → (vp_in x2 4 ∧ (vp_in x1 3 ∧ True))) ∧ (¬ 3 ≤ (S (this + 2) ((b_J9_floorMod_7cf53_0 (S this 0) 24 S).toNatClampNeg)) → True)))) ∧ (¬ (S (this + 1) ((b_J9_floorMod_7cf53_0 (S this 0) 24 S).toNatClampNeg)) ≤ 0 → True)))))) ∧ (¬ (b_X0_rollerOf_0 this x2 S) = (-1) → True)))) ∧ (¬ (nb (S (this + 7 + x2.toNatClampNeg) 3)) = 0 → True)))
set_option maxRecDepth 20000 in
theorem t_X0_callOf_0 (X : Cx p m c cX0_callOf 4 s args RX0 D q ad) (hr : meth.sig.returnType = some .int) (hlocks : meth.locks = false) (this : Nat) (hthis : isK 0 this) (x1 : Int32) (x2 : Int32) (S : Sx) (rv : Int32) (ho : o_X0_callOf_0 this x1 x2 S) (he : b_X0_callOf_0 this x1 x2 S = rv) : Jg p l e rm_X0_callOf s m args below meth c 0 0 (MQ below (Qi D q ad d rv S s.heap.size) args s 0 0 (AU ad s.heap.size)) D q ad d 4 0 [(0, .ref (ad this)), (1, .int x1), (2, .int x2)] [] S := by
  unfold b_X0_callOf_0 at he
  unfold o_X0_callOf_0 at ho
  refine j_aload_n X 0 dX0_callOf_0 rfl ?_
  refine gf_0_0 X m_fl_X0_46 hthis dX0_callOf_1 ?_
  refine j_bipush (v := 24) X dX0_callOf_4 (by decide) ?_
  have h2 := ho.1
  have ho := ho.2
  refine j_callTi (rest := []) X (c_J9_floorMod_7cf53 (cx_inj X) (S this 0) 24 S h2) cw_X0_88 ⟨rfl, rfl, Nat.le_of_ble_eq_true rfl, Nat.le_of_ble_eq_true rfl⟩ rfl rfl (Nat.le_of_ble_eq_true rfl) ⟨Nat.le_of_ble_eq_true rfl, Nat.le_of_ble_eq_true rfl⟩ dX0_callOf_6 ?_
  refine j_istore_n X [(3, .int (b_J9_floorMod_7cf53_0 (S this 0) 24 S)), (0, .ref (ad this)), (1, .int x1), (2, .int x2)] dX0_callOf_9 (by decide) rfl ?_
  refine j_aload_n X 1 dX0_callOf_10 rfl ?_
  refine gf_0_5 X m_fl_X0_24 hthis dX0_callOf_11 ?_
  refine j_iload_n X 3 dX0_callOf_14 rfl ?_
  have h3 := ho.1
  have ho := ho.2
  refine j_aald (a := ad (this + 7 + x2.toNatClampNeg)) X 1 (k0_4 hthis).1 (cl_4 (k0_4 hthis)) rfl h3 rfl dX0_callOf_15 ?_
  have hk4 : isK 7 (this + 7 + x2.toNatClampNeg) := k0_7 hthis (vlt h3)
  refine gf_7_3 X m_fl_X0_94 hk4 dX0_callOf_16 ?_
  refine j_if_eq X 25 dX0_callOf_19 (by decide) (fun h5 => ?_) (fun h5 => ?_)
  · rw [if_pos h5] at he
    have ho := ho.1 h5
    refine j_aload_n X 1 dX0_callOf_25 rfl ?_
    refine j_iload_n X 3 dX0_callOf_26 rfl ?_
    have h6 := ho.1
    have ho := ho.2
    refine j_callVi (rest := []) X (c_X0_rollerOf (cx_inj X) this hthis x2 S h6) cw_X0_98 hthis.1 (cl_0 hthis) rfl ⟨rfl, rfl, Nat.le_of_ble_eq_true rfl, Nat.le_of_ble_eq_true rfl⟩ rfl rfl (Nat.le_of_ble_eq_true rfl) ⟨Nat.le_of_ble_eq_true rfl, Nat.le_of_ble_eq_true rfl⟩ dX0_callOf_27 ?_
    refine j_iconst (v := (-1)) X dX0_callOf_30 (by decide) ?_
    refine j_icmp_eq X 36 dX0_callOf_31 (by decide) (fun h7 => ?_) (fun h7 => ?_)
    · rw [if_pos h7] at he
      have ho := ho.1 h7
      refine j_iload_n X 0 dX0_callOf_36 rfl ?_
      refine j_aload_n X 1 dX0_callOf_37 rfl ?_
      refine gf_0_1 X m_fl_X0_9 hthis dX0_callOf_38 ?_
      refine j_icmp_ne X 46 dX0_callOf_41 (by decide) (fun h8 => ?_) (fun h8 => ?_)
      · rw [if_neg h8] at he
        have ho := ho.2 h8
        refine j_aload_n X 1 dX0_callOf_46 rfl ?_
        refine gf_0_2 X m_fl_X0_15 hthis dX0_callOf_47 ?_
        refine j_iload_n X 0 dX0_callOf_50 rfl ?_
        have h9 := ho.1
        have ho := ho.2
        refine j_iald X (k0_1 hthis).1 (cl_1 (k0_1 hthis)) h9 dX0_callOf_51 ?_
        refine j_if_le X 57 dX0_callOf_52 (by decide) (fun h10 => ?_) (fun h10 => ?_)
        · rw [if_pos h10] at he
          have ho := ho.1 h10
          refine j_aload_n X 1 dX0_callOf_57 rfl ?_
          refine gf_0_3 X m_fl_X0_19 hthis dX0_callOf_58 ?_
          refine j_iload_n X 0 dX0_callOf_61 rfl ?_
          have h11 := ho.1
          have ho := ho.2
          refine j_iald X (k0_2 hthis).1 (cl_2 (k0_2 hthis)) h11 dX0_callOf_62 ?_
          refine j_iconst (v := 3) X dX0_callOf_63 (by decide) ?_
          refine j_icmp_ge X 69 dX0_callOf_64 (by decide) (fun h12 => ?_) (fun h12 => ?_)
          · rw [if_pos h12] at he
            have ho := ho.1 h12
            refine j_aload_n X 1 dX0_callOf_69 rfl ?_
            refine gf_0_5 X m_fl_X0_24 hthis dX0_callOf_70 ?_
            refine j_iload_n X 3 dX0_callOf_73 rfl ?_
            have h13 := ho.1
            have ho := ho.2
            refine j_aald (a := ad (this + 7 + x2.toNatClampNeg)) X 1 (k0_4 hthis).1 (cl_4 (k0_4 hthis)) rfl h13 rfl dX0_callOf_74 ?_
            have hk14 : isK 7 (this + 7 + x2.toNatClampNeg) := k0_7 hthis (vlt h13)
            refine gf_7_0 X m_fl_X0_102 hk14 dX0_callOf_75 ?_
            refine j_bipush (v := 60) X dX0_callOf_78 (by decide) ?_
            refine j_iconst (v := 5) X dX0_callOf_80 (by decide) ?_
            refine j_aload_n X 1 dX0_callOf_81 rfl ?_
            refine gf_0_9 X m_fl_X0_34 hthis dX0_callOf_82 ?_
            refine j_iload_n X 2 dX0_callOf_85 rfl ?_
            have h15 := ho.1
            have ho := ho.2
            refine j_iald X (k0_3 hthis).1 (cl_3 (k0_3 hthis)) h15 dX0_callOf_86 ?_
            refine j_imul X dX0_callOf_87 ?_
            refine j_isub X dX0_callOf_88 ?_
            refine j_icmp_le X 96 dX0_callOf_89 (by decide) (fun h16 => ?_) (fun h16 => ?_)
            · rw [if_pos h16] at he
              refine j_iconst (v := 0) X dX0_callOf_96 (by decide) ?_
              refine j_lv [] [] rfl ?_
              exact t_X0_callOf_97 X hr hlocks 0 S _ he
            · rw [if_neg h16] at he
              refine j_iconst (v := 1) X dX0_callOf_92 (by decide) ?_
              refine j_goto X 97 dX0_callOf_93 (by decide) ?_
              refine j_lv [] [] rfl ?_
              exact t_X0_callOf_97 X hr hlocks 1 S _ he
          · rw [if_neg h12] at he
            have ho := ho.2 h12
            refine j_iconst (v := 2) X dX0_callOf_67 (by decide) ?_
            exact j_iret X hr hlocks dX0_callOf_68 he rfl
        · rw [if_neg h10] at he
          have ho := ho.2 h10
          refine j_iconst (v := 3) X dX0_callOf_55 (by decide) ?_
          exact j_iret X hr hlocks dX0_callOf_56 he rfl
      · rw [if_pos h8] at he
        have ho := ho.1 h8
        refine j_iconst (v := 4) X dX0_callOf_44 (by decide) ?_
        exact j_iret X hr hlocks dX0_callOf_45 he rfl
    · rw [if_neg h7] at he
      have ho := ho.2 h7
      refine j_iconst (v := 5) X dX0_callOf_34 (by decide) ?_
      exact j_iret X hr hlocks dX0_callOf_35 he rfl
  · rw [if_neg h5] at he
    have ho := ho.2 h5
    refine j_bipush (v := 6) X dX0_callOf_22 (by decide) ?_
    exact j_iret X hr hlocks dX0_callOf_24 he rfl
theorem c_X0_callOf {l : Launch} {D : va_G} {q : Nat → ClassId} {ad : Nat → Nat} {d : UInt64} (hI : inj4 ad) (this : Nat) (hthis : isK 0 this) (x1 : Int32) (x2 : Int32) (S : Sx) (ho : o_X0_callOf_0 this x1 x2 S) : CI l yX0_callOf cX0_callOf 4 .int rm_X0_callOf D q ad d [.ref (ad this), .int x1, .int x2] S (b_X0_callOf_0 this x1 x2 S) S := ci_of hI (by decide +kernel) (Nat.le_of_ble_eq_true rfl) rfl (fun p e s m args below meth c X hr hlocks => t_X0_callOf_0 X hr hlocks this hthis x1 x2 S _ ho rfl)
end
/-! RX6.numberVerdict -/
abbrev rm_X6_numberVerdict : Room := { frames := 0, cells := 0, slots := 0, locals := 0 }
section
variable {p : Program} {l : Launch} {e : Env} {s : State} {m : MethodId} {args : Array Value} {below : List Frame} {meth : Method} {c : Code} {D : va_G} {q : Nat → ClassId} {ad : Nat → Nat} {d : UInt64}
def b_X6_numberVerdict_14 (w0 : Int32) (S : Sx) : Int32 := w0
set_option maxRecDepth 20000 in
theorem t_X6_numberVerdict_14 (X : Cx p m c cX6_numberVerdict 2 s args RX6 D q ad) (hr : meth.sig.returnType = some .int) (hlocks : meth.locks = false) (w0 : Int32) (S : Sx) (rv : Int32) (he : b_X6_numberVerdict_14 w0 S = rv) : Jg p l e rm_X6_numberVerdict s m args below meth c 0 0 (MQ below (Qi D q ad d rv S s.heap.size) args s 0 0 (AU ad s.heap.size)) D q ad d 2 14 [] [.int w0] S := by
  unfold b_X6_numberVerdict_14 at he
  exact j_iret X hr hlocks dX6_numberVerdict_14 he rfl
def b_X6_numberVerdict_13  (S : Sx) : Int32 := b_X6_numberVerdict_14 (-1) S
set_option maxRecDepth 20000 in
theorem t_X6_numberVerdict_13 (X : Cx p m c cX6_numberVerdict 2 s args RX6 D q ad) (hr : meth.sig.returnType = some .int) (hlocks : meth.locks = false) (S : Sx) (rv : Int32) (he : b_X6_numberVerdict_13 S = rv) : Jg p l e rm_X6_numberVerdict s m args below meth c 0 0 (MQ below (Qi D q ad d rv S s.heap.size) args s 0 0 (AU ad s.heap.size)) D q ad d 2 13 [] [] S := by
  unfold b_X6_numberVerdict_13 at he
  refine j_iconst (v := (-1)) X dX6_numberVerdict_13 (by decide) ?_
  exact t_X6_numberVerdict_14 X hr hlocks (-1) S _ he
def b_X6_numberVerdict_0 (x0 : Int32) (x1 : Int32) (S : Sx) : Int32 := if x0 < 0 then b_X6_numberVerdict_13 S else if x1 ≤ x0 then b_X6_numberVerdict_13 S else b_X6_numberVerdict_14 0 S
set_option maxRecDepth 20000 in
theorem t_X6_numberVerdict_0 (X : Cx p m c cX6_numberVerdict 2 s args RX6 D q ad) (hr : meth.sig.returnType = some .int) (hlocks : meth.locks = false) (x0 : Int32) (x1 : Int32) (S : Sx) (rv : Int32) (he : b_X6_numberVerdict_0 x0 x1 S = rv) : Jg p l e rm_X6_numberVerdict s m args below meth c 0 0 (MQ below (Qi D q ad d rv S s.heap.size) args s 0 0 (AU ad s.heap.size)) D q ad d 2 0 [(0, .int x0), (1, .int x1)] [] S := by
  unfold b_X6_numberVerdict_0 at he
  refine j_iload_n X 0 dX6_numberVerdict_0 rfl ?_
  refine j_if_lt X 13 dX6_numberVerdict_1 (by decide) (fun h2 => ?_) (fun h2 => ?_)
  · rw [if_pos h2] at he
    refine j_lv [] [] rfl ?_
    exact t_X6_numberVerdict_13 X hr hlocks S _ he
  · rw [if_neg h2] at he
    refine j_iload_n X 0 dX6_numberVerdict_4 rfl ?_
    refine j_iload_n X 1 dX6_numberVerdict_5 rfl ?_
    refine j_icmp_ge X 13 dX6_numberVerdict_6 (by decide) (fun h3 => ?_) (fun h3 => ?_)
    · rw [if_pos h3] at he
      refine j_lv [] [] rfl ?_
      exact t_X6_numberVerdict_13 X hr hlocks S _ he
    · rw [if_neg h3] at he
      refine j_iconst (v := 0) X dX6_numberVerdict_9 (by decide) ?_
      refine j_goto X 14 dX6_numberVerdict_10 (by decide) ?_
      refine j_lv [] [] rfl ?_
      exact t_X6_numberVerdict_14 X hr hlocks 0 S _ he
theorem c_X6_numberVerdict {l : Launch} {D : va_G} {q : Nat → ClassId} {ad : Nat → Nat} {d : UInt64} (hI : inj4 ad) (x0 : Int32) (x1 : Int32) (S : Sx) : CI l yX6_numberVerdict cX6_numberVerdict 2 .int rm_X6_numberVerdict D q ad d [.int x0, .int x1] S (b_X6_numberVerdict_0 x0 x1 S) S := ci_of hI (by decide +kernel) (Nat.le_of_ble_eq_true rfl) rfl (fun p e s m args below meth c X hr hlocks => t_X6_numberVerdict_0 X hr hlocks x0 x1 S _ rfl)
end
/-! RX0.pitchVerdict -/
abbrev rm_X0_pitchVerdict : Room := { frames := 1, cells := 0, slots := 0, locals := 21 }
section
variable {p : Program} {l : Launch} {e : Env} {s : State} {m : MethodId} {args : Array Value} {below : List Frame} {meth : Method} {c : Code} {D : va_G} {q : Nat → ClassId} {ad : Nat → Nat} {d : UInt64}
def b_X0_pitchVerdict_0 (this : Nat) (x1 : Int32) (S : Sx) : Int32 := b_X6_numberVerdict_0 x1 (S this 4) S
set_option maxRecDepth 20000 in
theorem t_X0_pitchVerdict_0 (X : Cx p m c cX0_pitchVerdict 2 s args RX0 D q ad) (hr : meth.sig.returnType = some .int) (hlocks : meth.locks = false) (this : Nat) (hthis : isK 0 this) (x1 : Int32) (S : Sx) (rv : Int32) (he : b_X0_pitchVerdict_0 this x1 S = rv) : Jg p l e rm_X0_pitchVerdict s m args below meth c 0 0 (MQ below (Qi D q ad d rv S s.heap.size) args s 0 0 (AU ad s.heap.size)) D q ad d 2 0 [(0, .ref (ad this)), (1, .int x1)] [] S := by
  unfold b_X0_pitchVerdict_0 at he
  refine j_iload_n X 1 dX0_pitchVerdict_0 rfl ?_
  refine j_aload_n X 0 dX0_pitchVerdict_1 rfl ?_
  refine gf_0_4 X m_fl_X0_55 hthis dX0_pitchVerdict_2 ?_
  refine j_callNi (rest := []) X (c_X6_numberVerdict (cx_inj X) x1 (S this 4) S) cw_X0_105 ⟨rfl, rfl, Nat.le_of_ble_eq_true rfl, Nat.le_of_ble_eq_true rfl⟩ rfl rfl (Nat.le_of_ble_eq_true rfl) ⟨Nat.le_of_ble_eq_true rfl, Nat.le_of_ble_eq_true rfl⟩ dX0_pitchVerdict_5 ?_
  exact j_iret X hr hlocks dX0_pitchVerdict_8 he rfl
theorem c_X0_pitchVerdict {l : Launch} {D : va_G} {q : Nat → ClassId} {ad : Nat → Nat} {d : UInt64} (hI : inj4 ad) (this : Nat) (hthis : isK 0 this) (x1 : Int32) (S : Sx) : CI l yX0_pitchVerdict cX0_pitchVerdict 2 .int rm_X0_pitchVerdict D q ad d [.ref (ad this), .int x1] S (b_X0_pitchVerdict_0 this x1 S) S := ci_of hI (by decide +kernel) (Nat.le_of_ble_eq_true rfl) rfl (fun p e s m args below meth c X hr hlocks => t_X0_pitchVerdict_0 X hr hlocks this hthis x1 S _ rfl)
end
/-! RX0.horseVerdict -/
abbrev rm_X0_horseVerdict : Room := { frames := 1, cells := 0, slots := 0, locals := 21 }
section
variable {p : Program} {l : Launch} {e : Env} {s : State} {m : MethodId} {args : Array Value} {below : List Frame} {meth : Method} {c : Code} {D : va_G} {q : Nat → ClassId} {ad : Nat → Nat} {d : UInt64}
def b_X0_horseVerdict_0 (this : Nat) (x1 : Int32) (S : Sx) : Int32 := b_X6_numberVerdict_0 x1 (S this 6) S
set_option maxRecDepth 20000 in
theorem t_X0_horseVerdict_0 (X : Cx p m c cX0_horseVerdict 2 s args RX0 D q ad) (hr : meth.sig.returnType = some .int) (hlocks : meth.locks = false) (this : Nat) (hthis : isK 0 this) (x1 : Int32) (S : Sx) (rv : Int32) (he : b_X0_horseVerdict_0 this x1 S = rv) : Jg p l e rm_X0_horseVerdict s m args below meth c 0 0 (MQ below (Qi D q ad d rv S s.heap.size) args s 0 0 (AU ad s.heap.size)) D q ad d 2 0 [(0, .ref (ad this)), (1, .int x1)] [] S := by
  unfold b_X0_horseVerdict_0 at he
  refine j_iload_n X 1 dX0_horseVerdict_0 rfl ?_
  refine j_aload_n X 0 dX0_horseVerdict_1 rfl ?_
  refine gf_0_6 X m_fl_X0_58 hthis dX0_horseVerdict_2 ?_
  refine j_callNi (rest := []) X (c_X6_numberVerdict (cx_inj X) x1 (S this 6) S) cw_X0_105 ⟨rfl, rfl, Nat.le_of_ble_eq_true rfl, Nat.le_of_ble_eq_true rfl⟩ rfl rfl (Nat.le_of_ble_eq_true rfl) ⟨Nat.le_of_ble_eq_true rfl, Nat.le_of_ble_eq_true rfl⟩ dX0_horseVerdict_5 ?_
  exact j_iret X hr hlocks dX0_horseVerdict_8 he rfl
theorem c_X0_horseVerdict {l : Launch} {D : va_G} {q : Nat → ClassId} {ad : Nat → Nat} {d : UInt64} (hI : inj4 ad) (this : Nat) (hthis : isK 0 this) (x1 : Int32) (S : Sx) : CI l yX0_horseVerdict cX0_horseVerdict 2 .int rm_X0_horseVerdict D q ad d [.ref (ad this), .int x1] S (b_X0_horseVerdict_0 this x1 S) S := ci_of hI (by decide +kernel) (Nat.le_of_ble_eq_true rfl) rfl (fun p e s m args below meth c X hr hlocks => t_X0_horseVerdict_0 X hr hlocks this hthis x1 S _ rfl)
end
/-! RX0.umpireVerdict -/
abbrev rm_X0_umpireVerdict : Room := { frames := 1, cells := 0, slots := 0, locals := 21 }
section
variable {p : Program} {l : Launch} {e : Env} {s : State} {m : MethodId} {args : Array Value} {below : List Frame} {meth : Method} {c : Code} {D : va_G} {q : Nat → ClassId} {ad : Nat → Nat} {d : UInt64}
def b_X0_umpireVerdict_0 (this : Nat) (x1 : Int32) (S : Sx) : Int32 := b_X6_numberVerdict_0 x1 (S this 8) S
set_option maxRecDepth 20000 in
theorem t_X0_umpireVerdict_0 (X : Cx p m c cX0_umpireVerdict 2 s args RX0 D q ad) (hr : meth.sig.returnType = some .int) (hlocks : meth.locks = false) (this : Nat) (hthis : isK 0 this) (x1 : Int32) (S : Sx) (rv : Int32) (he : b_X0_umpireVerdict_0 this x1 S = rv) : Jg p l e rm_X0_umpireVerdict s m args below meth c 0 0 (MQ below (Qi D q ad d rv S s.heap.size) args s 0 0 (AU ad s.heap.size)) D q ad d 2 0 [(0, .ref (ad this)), (1, .int x1)] [] S := by
  unfold b_X0_umpireVerdict_0 at he
  refine j_iload_n X 1 dX0_umpireVerdict_0 rfl ?_
  refine j_aload_n X 0 dX0_umpireVerdict_1 rfl ?_
  refine gf_0_8 X m_fl_X0_61 hthis dX0_umpireVerdict_2 ?_
  refine j_callNi (rest := []) X (c_X6_numberVerdict (cx_inj X) x1 (S this 8) S) cw_X0_105 ⟨rfl, rfl, Nat.le_of_ble_eq_true rfl, Nat.le_of_ble_eq_true rfl⟩ rfl rfl (Nat.le_of_ble_eq_true rfl) ⟨Nat.le_of_ble_eq_true rfl, Nat.le_of_ble_eq_true rfl⟩ dX0_umpireVerdict_5 ?_
  exact j_iret X hr hlocks dX0_umpireVerdict_8 he rfl
theorem c_X0_umpireVerdict {l : Launch} {D : va_G} {q : Nat → ClassId} {ad : Nat → Nat} {d : UInt64} (hI : inj4 ad) (this : Nat) (hthis : isK 0 this) (x1 : Int32) (S : Sx) : CI l yX0_umpireVerdict cX0_umpireVerdict 2 .int rm_X0_umpireVerdict D q ad d [.ref (ad this), .int x1] S (b_X0_umpireVerdict_0 this x1 S) S := ci_of hI (by decide +kernel) (Nat.le_of_ble_eq_true rfl) rfl (fun p e s m args below meth c X hr hlocks => t_X0_umpireVerdict_0 X hr hlocks this hthis x1 S _ rfl)
end
/-! RX0.playedVerdict -/
abbrev rm_X0_playedVerdict : Room := { frames := 1, cells := 0, slots := 0, locals := 21 }
section
variable {p : Program} {l : Launch} {e : Env} {s : State} {m : MethodId} {args : Array Value} {below : List Frame} {meth : Method} {c : Code} {D : va_G} {q : Nat → ClassId} {ad : Nat → Nat} {d : UInt64}
def b_X0_playedVerdict_0 (this : Nat) (x1 : Int32) (S : Sx) : Int32 := b_X6_numberVerdict_0 x1 (S this 10) S
set_option maxRecDepth 20000 in
theorem t_X0_playedVerdict_0 (X : Cx p m c cX0_playedVerdict 2 s args RX0 D q ad) (hr : meth.sig.returnType = some .int) (hlocks : meth.locks = false) (this : Nat) (hthis : isK 0 this) (x1 : Int32) (S : Sx) (rv : Int32) (he : b_X0_playedVerdict_0 this x1 S = rv) : Jg p l e rm_X0_playedVerdict s m args below meth c 0 0 (MQ below (Qi D q ad d rv S s.heap.size) args s 0 0 (AU ad s.heap.size)) D q ad d 2 0 [(0, .ref (ad this)), (1, .int x1)] [] S := by
  unfold b_X0_playedVerdict_0 at he
  refine j_iload_n X 1 dX0_playedVerdict_0 rfl ?_
  refine j_aload_n X 0 dX0_playedVerdict_1 rfl ?_
  refine gf_0_10 X m_fl_X0_64 hthis dX0_playedVerdict_2 ?_
  refine j_callNi (rest := []) X (c_X6_numberVerdict (cx_inj X) x1 (S this 10) S) cw_X0_105 ⟨rfl, rfl, Nat.le_of_ble_eq_true rfl, Nat.le_of_ble_eq_true rfl⟩ rfl rfl (Nat.le_of_ble_eq_true rfl) ⟨Nat.le_of_ble_eq_true rfl, Nat.le_of_ble_eq_true rfl⟩ dX0_playedVerdict_5 ?_
  exact j_iret X hr hlocks dX0_playedVerdict_8 he rfl
theorem c_X0_playedVerdict {l : Launch} {D : va_G} {q : Nat → ClassId} {ad : Nat → Nat} {d : UInt64} (hI : inj4 ad) (this : Nat) (hthis : isK 0 this) (x1 : Int32) (S : Sx) : CI l yX0_playedVerdict cX0_playedVerdict 2 .int rm_X0_playedVerdict D q ad d [.ref (ad this), .int x1] S (b_X0_playedVerdict_0 this x1 S) S := ci_of hI (by decide +kernel) (Nat.le_of_ble_eq_true rfl) rfl (fun p e s m args below meth c X hr hlocks => t_X0_playedVerdict_0 X hr hlocks this hthis x1 S _ rfl)
end
/-! RX0.callerVerdict -/
abbrev rm_X0_callerVerdict : Room := { frames := 2, cells := 0, slots := 0, locals := 42 }
section
variable {p : Program} {l : Launch} {e : Env} {s : State} {m : MethodId} {args : Array Value} {below : List Frame} {meth : Method} {c : Code} {D : va_G} {q : Nat → ClassId} {ad : Nat → Nat} {d : UInt64}
def b_X0_callerVerdict_19 (w0 : Int32) (S : Sx) : Int32 := w0
set_option maxRecDepth 20000 in
theorem t_X0_callerVerdict_19 (X : Cx p m c cX0_callerVerdict 4 s args RX0 D q ad) (hr : meth.sig.returnType = some .int) (hlocks : meth.locks = false) (w0 : Int32) (S : Sx) (rv : Int32) (he : b_X0_callerVerdict_19 w0 S = rv) : Jg p l e rm_X0_callerVerdict s m args below meth c 0 0 (MQ below (Qi D q ad d rv S s.heap.size) args s 0 0 (AU ad s.heap.size)) D q ad d 4 19 [] [.int w0] S := by
  unfold b_X0_callerVerdict_19 at he
  exact j_iret X hr hlocks dX0_callerVerdict_19 he rfl
def b_X0_callerVerdict_0 (this : Nat) (x1 : Int32) (x2 : Int32) (S : Sx) : Int32 := if (b_X0_umpireVerdict_0 this x1 S) = 0 then b_X0_callerVerdict_19 (b_X0_pitchVerdict_0 this x2 S) S else b_X0_callerVerdict_19 (b_X0_umpireVerdict_0 this x1 S) S
set_option maxRecDepth 20000 in
theorem t_X0_callerVerdict_0 (X : Cx p m c cX0_callerVerdict 4 s args RX0 D q ad) (hr : meth.sig.returnType = some .int) (hlocks : meth.locks = false) (this : Nat) (hthis : isK 0 this) (x1 : Int32) (x2 : Int32) (S : Sx) (rv : Int32) (he : b_X0_callerVerdict_0 this x1 x2 S = rv) : Jg p l e rm_X0_callerVerdict s m args below meth c 0 0 (MQ below (Qi D q ad d rv S s.heap.size) args s 0 0 (AU ad s.heap.size)) D q ad d 4 0 [(0, .ref (ad this)), (1, .int x1), (2, .int x2)] [] S := by
  unfold b_X0_callerVerdict_0 at he
  refine j_aload_n X 0 dX0_callerVerdict_0 rfl ?_
  refine j_iload_n X 1 dX0_callerVerdict_1 rfl ?_
  refine j_callVi (rest := []) X (c_X0_umpireVerdict (cx_inj X) this hthis x1 S) cw_X0_108 hthis.1 (cl_0 hthis) rfl ⟨rfl, rfl, Nat.le_of_ble_eq_true rfl, Nat.le_of_ble_eq_true rfl⟩ rfl rfl (Nat.le_of_ble_eq_true rfl) ⟨Nat.le_of_ble_eq_true rfl, Nat.le_of_ble_eq_true rfl⟩ dX0_callerVerdict_2 ?_
  refine j_istore_n X [(3, .int (b_X0_umpireVerdict_0 this x1 S)), (0, .ref (ad this)), (1, .int x1), (2, .int x2)] dX0_callerVerdict_5 (by decide) rfl ?_
  refine j_iload_n X 0 dX0_callerVerdict_6 rfl ?_
  refine j_if_ne X 18 dX0_callerVerdict_7 (by decide) (fun h2 => ?_) (fun h2 => ?_)
  · rw [if_neg h2] at he
    refine j_iload_n X 0 dX0_callerVerdict_18 rfl ?_
    refine j_lv [] [] rfl ?_
    exact t_X0_callerVerdict_19 X hr hlocks (b_X0_umpireVerdict_0 this x1 S) S _ he
  · rw [if_pos h2] at he
    refine j_aload_n X 1 dX0_callerVerdict_10 rfl ?_
    refine j_iload_n X 3 dX0_callerVerdict_11 rfl ?_
    refine j_callVi (rest := []) X (c_X0_pitchVerdict (cx_inj X) this hthis x2 S) cw_X0_111 hthis.1 (cl_0 hthis) rfl ⟨rfl, rfl, Nat.le_of_ble_eq_true rfl, Nat.le_of_ble_eq_true rfl⟩ rfl rfl (Nat.le_of_ble_eq_true rfl) ⟨Nat.le_of_ble_eq_true rfl, Nat.le_of_ble_eq_true rfl⟩ dX0_callerVerdict_12 ?_
    refine j_goto X 19 dX0_callerVerdict_15 (by decide) ?_
    refine j_lv [] [] rfl ?_
    exact t_X0_callerVerdict_19 X hr hlocks (b_X0_pitchVerdict_0 this x2 S) S _ he
theorem c_X0_callerVerdict {l : Launch} {D : va_G} {q : Nat → ClassId} {ad : Nat → Nat} {d : UInt64} (hI : inj4 ad) (this : Nat) (hthis : isK 0 this) (x1 : Int32) (x2 : Int32) (S : Sx) : CI l yX0_callerVerdict cX0_callerVerdict 4 .int rm_X0_callerVerdict D q ad d [.ref (ad this), .int x1, .int x2] S (b_X0_callerVerdict_0 this x1 x2 S) S := ci_of hI (by decide +kernel) (Nat.le_of_ble_eq_true rfl) rfl (fun p e s m args below meth c X hr hlocks => t_X0_callerVerdict_0 X hr hlocks this hthis x1 x2 S _ rfl)
end
/-! RX6.refused -/
abbrev rm_X6_refused : Room := { frames := 0, cells := 0, slots := 0, locals := 0 }
section
variable {p : Program} {l : Launch} {e : Env} {s : State} {m : MethodId} {args : Array Value} {below : List Frame} {meth : Method} {c : Code} {D : va_G} {q : Nat → ClassId} {ad : Nat → Nat} {d : UInt64}
def b_X6_refused_0 (x0 : Int32) (x1 : Int32) (S : Sx) : Int32 := (x0 * 1000) + x1
set_option maxRecDepth 20000 in
theorem t_X6_refused_0 (X : Cx p m c cX6_refused 2 s args RX6 D q ad) (hr : meth.sig.returnType = some .int) (hlocks : meth.locks = false) (x0 : Int32) (x1 : Int32) (S : Sx) (rv : Int32) (he : b_X6_refused_0 x0 x1 S = rv) : Jg p l e rm_X6_refused s m args below meth c 0 0 (MQ below (Qi D q ad d rv S s.heap.size) args s 0 0 (AU ad s.heap.size)) D q ad d 2 0 [(0, .int x0), (1, .int x1)] [] S := by
  unfold b_X6_refused_0 at he
  refine j_iload_n X 0 dX6_refused_0 rfl ?_
  refine j_sipush (v := 1000) X dX6_refused_1 (by decide) ?_
  refine j_imul X dX6_refused_4 ?_
  refine j_iload_n X 1 dX6_refused_5 rfl ?_
  refine j_iadd X dX6_refused_6 ?_
  exact j_iret X hr hlocks dX6_refused_7 he rfl
theorem c_X6_refused {l : Launch} {D : va_G} {q : Nat → ClassId} {ad : Nat → Nat} {d : UInt64} (hI : inj4 ad) (x0 : Int32) (x1 : Int32) (S : Sx) : CI l yX6_refused cX6_refused 2 .int rm_X6_refused D q ad d [.int x0, .int x1] S (b_X6_refused_0 x0 x1 S) S := ci_of hI (by decide +kernel) (Nat.le_of_ble_eq_true rfl) rfl (fun p e s m args below meth c X hr hlocks => t_X6_refused_0 X hr hlocks x0 x1 S _ rfl)
end
/-! RX0.rollerVerdict -/
abbrev rm_X0_rollerVerdict : Room := { frames := 1, cells := 0, slots := 0, locals := 22 }
section
variable {p : Program} {l : Launch} {e : Env} {s : State} {m : MethodId} {args : Array Value} {below : List Frame} {meth : Method} {c : Code} {D : va_G} {q : Nat → ClassId} {ad : Nat → Nat} {d : UInt64}
def b_X0_rollerVerdict_20 (w0 : Int32) (S : Sx) : Int32 := w0
set_option maxRecDepth 20000 in
theorem t_X0_rollerVerdict_20 (X : Cx p m c cX0_rollerVerdict 3 s args RX0 D q ad) (hr : meth.sig.returnType = some .int) (hlocks : meth.locks = false) (w0 : Int32) (S : Sx) (rv : Int32) (he : b_X0_rollerVerdict_20 w0 S = rv) : Jg p l e rm_X0_rollerVerdict s m args below meth c 0 0 (MQ below (Qi D q ad d rv S s.heap.size) args s 0 0 (AU ad s.heap.size)) D q ad d 3 20 [] [.int w0] S := by
  unfold b_X0_rollerVerdict_20 at he
  exact j_iret X hr hlocks dX0_rollerVerdict_20 he rfl
def b_X0_rollerVerdict_0 (this : Nat) (x1 : Int32) (S : Sx) : Int32 := if (b_X0_rollerOf_0 this x1 S) = (-1) then b_X0_rollerVerdict_20 0 S else b_X0_rollerVerdict_20 (b_X6_refused_0 4 (b_X0_rollerOf_0 this x1 S) S) S
def o_X0_rollerVerdict_0 (this : Nat) (x1 : Int32) (S : Sx) : Prop := o_X0_rollerOf_0 this x1 S ∧ True
set_option maxRecDepth 20000 in
theorem t_X0_rollerVerdict_0 (X : Cx p m c cX0_rollerVerdict 3 s args RX0 D q ad) (hr : meth.sig.returnType = some .int) (hlocks : meth.locks = false) (this : Nat) (hthis : isK 0 this) (x1 : Int32) (S : Sx) (rv : Int32) (ho : o_X0_rollerVerdict_0 this x1 S) (he : b_X0_rollerVerdict_0 this x1 S = rv) : Jg p l e rm_X0_rollerVerdict s m args below meth c 0 0 (MQ below (Qi D q ad d rv S s.heap.size) args s 0 0 (AU ad s.heap.size)) D q ad d 3 0 [(0, .ref (ad this)), (1, .int x1)] [] S := by
  unfold b_X0_rollerVerdict_0 at he
  unfold o_X0_rollerVerdict_0 at ho
  refine j_aload_n X 0 dX0_rollerVerdict_0 rfl ?_
  refine j_iload_n X 1 dX0_rollerVerdict_1 rfl ?_
  have h2 := ho.1
  have ho := ho.2
  refine j_callVi (rest := []) X (c_X0_rollerOf (cx_inj X) this hthis x1 S h2) cw_X0_98 hthis.1 (cl_0 hthis) rfl ⟨rfl, rfl, Nat.le_of_ble_eq_true rfl, Nat.le_of_ble_eq_true rfl⟩ rfl rfl (Nat.le_of_ble_eq_true rfl) ⟨Nat.le_of_ble_eq_true rfl, Nat.le_of_ble_eq_true rfl⟩ dX0_rollerVerdict_2 ?_
  refine j_istore_n X [(2, .int (b_X0_rollerOf_0 this x1 S)), (0, .ref (ad this)), (1, .int x1)] dX0_rollerVerdict_5 (by decide) rfl ?_
  refine j_iload_n X 0 dX0_rollerVerdict_6 rfl ?_
  refine j_iconst (v := (-1)) X dX0_rollerVerdict_7 (by decide) ?_
  refine j_icmp_ne X 15 dX0_rollerVerdict_8 (by decide) (fun h3 => ?_) (fun h3 => ?_)
  · rw [if_neg h3] at he
    refine j_iconst (v := 4) X dX0_rollerVerdict_15 (by decide) ?_
    refine j_iload_n X 0 dX0_rollerVerdict_16 rfl ?_
    refine j_callNi (rest := []) X (c_X6_refused (cx_inj X) 4 (b_X0_rollerOf_0 this x1 S) S) cw_X0_117 ⟨rfl, rfl, Nat.le_of_ble_eq_true rfl, Nat.le_of_ble_eq_true rfl⟩ rfl rfl (Nat.le_of_ble_eq_true rfl) ⟨Nat.le_of_ble_eq_true rfl, Nat.le_of_ble_eq_true rfl⟩ dX0_rollerVerdict_17 ?_
    refine j_lv [] [] rfl ?_
    exact t_X0_rollerVerdict_20 X hr hlocks (b_X6_refused_0 4 (b_X0_rollerOf_0 this x1 S) S) S _ he
  · rw [if_pos h3] at he
    refine j_iconst (v := 0) X dX0_rollerVerdict_11 (by decide) ?_
    refine j_goto X 20 dX0_rollerVerdict_12 (by decide) ?_
    refine j_lv [] [] rfl ?_
    exact t_X0_rollerVerdict_20 X hr hlocks 0 S _ he
theorem c_X0_rollerVerdict {l : Launch} {D : va_G} {q : Nat → ClassId} {ad : Nat → Nat} {d : UInt64} (hI : inj4 ad) (this : Nat) (hthis : isK 0 this) (x1 : Int32) (S : Sx) (ho : o_X0_rollerVerdict_0 this x1 S) : CI l yX0_rollerVerdict cX0_rollerVerdict 3 .int rm_X0_rollerVerdict D q ad d [.ref (ad this), .int x1] S (b_X0_rollerVerdict_0 this x1 S) S := ci_of hI (by decide +kernel) (Nat.le_of_ble_eq_true rfl) rfl (fun p e s m args below meth c X hr hlocks => t_X0_rollerVerdict_0 X hr hlocks this hthis x1 S _ ho rfl)
end
/-! RX0.coverVerdict -/
abbrev rm_X0_coverVerdict : Room := { frames := 2, cells := 0, slots := 0, locals := 44 }
section
variable {p : Program} {l : Launch} {e : Env} {s : State} {m : MethodId} {args : Array Value} {below : List Frame} {meth : Method} {c : Code} {D : va_G} {q : Nat → ClassId} {ad : Nat → Nat} {d : UInt64}
def b_X0_coverVerdict_23 (w0 : Int32) (S : Sx) : Int32 := w0
set_option maxRecDepth 20000 in
theorem t_X0_coverVerdict_23 (X : Cx p m c cX0_coverVerdict 4 s args RX0 D q ad) (hr : meth.sig.returnType = some .int) (hlocks : meth.locks = false) (w0 : Int32) (S : Sx) (rv : Int32) (he : b_X0_coverVerdict_23 w0 S = rv) : Jg p l e rm_X0_coverVerdict s m args below meth c 0 0 (MQ below (Qi D q ad d rv S s.heap.size) args s 0 0 (AU ad s.heap.size)) D q ad d 4 23 [] [.int w0] S := by
  unfold b_X0_coverVerdict_23 at he
  exact j_iret X hr hlocks dX0_coverVerdict_23 he rfl
def b_X0_coverVerdict_22 (v3 : Int32) (S : Sx) : Int32 := b_X0_coverVerdict_23 v3 S
set_option maxRecDepth 20000 in
theorem t_X0_coverVerdict_22 (X : Cx p m c cX0_coverVerdict 4 s args RX0 D q ad) (hr : meth.sig.returnType = some .int) (hlocks : meth.locks = false) (v3 : Int32) (S : Sx) (rv : Int32) (he : b_X0_coverVerdict_22 v3 S = rv) : Jg p l e rm_X0_coverVerdict s m args below meth c 0 0 (MQ below (Qi D q ad d rv S s.heap.size) args s 0 0 (AU ad s.heap.size)) D q ad d 4 22 [(3, .int v3)] [] S := by
  unfold b_X0_coverVerdict_22 at he
  refine j_iload_n X 0 dX0_coverVerdict_22 rfl ?_
  refine j_lv [] [] rfl ?_
  exact t_X0_coverVerdict_23 X hr hlocks v3 S _ he
def b_X0_coverVerdict_0 (this : Nat) (x1 : Int32) (x2 : Int32) (S : Sx) : Int32 := if (b_X0_pitchVerdict_0 this x1 S) = 0 then if x2 = 0 then b_X0_coverVerdict_22 (b_X0_pitchVerdict_0 this x1 S) S else b_X0_coverVerdict_23 (b_X0_rollerVerdict_0 this x1 S) S else b_X0_coverVerdict_22 (b_X0_pitchVerdict_0 this x1 S) S
def o_X0_coverVerdict_0 (this : Nat) (x1 : Int32) (x2 : Int32) (S : Sx) : Prop := ((b_X0_pitchVerdict_0 this x1 S) = 0 → ((x2 = 0 → True) ∧ (¬ x2 = 0 → (o_X0_rollerVerdict_0 this x1 S ∧ True)))) ∧ (¬ (b_X0_pitchVerdict_0 this x1 S) = 0 → True)
set_option maxRecDepth 20000 in
theorem t_X0_coverVerdict_0 (X : Cx p m c cX0_coverVerdict 4 s args RX0 D q ad) (hr : meth.sig.returnType = some .int) (hlocks : meth.locks = false) (this : Nat) (hthis : isK 0 this) (x1 : Int32) (x2 : Int32) (S : Sx) (rv : Int32) (ho : o_X0_coverVerdict_0 this x1 x2 S) (he : b_X0_coverVerdict_0 this x1 x2 S = rv) : Jg p l e rm_X0_coverVerdict s m args below meth c 0 0 (MQ below (Qi D q ad d rv S s.heap.size) args s 0 0 (AU ad s.heap.size)) D q ad d 4 0 [(0, .ref (ad this)), (1, .int x1), (2, .int x2)] [] S := by
  unfold b_X0_coverVerdict_0 at he
  unfold o_X0_coverVerdict_0 at ho
  refine j_aload_n X 0 dX0_coverVerdict_0 rfl ?_
  refine j_iload_n X 1 dX0_coverVerdict_1 rfl ?_
  refine j_callVi (rest := []) X (c_X0_pitchVerdict (cx_inj X) this hthis x1 S) cw_X0_111 hthis.1 (cl_0 hthis) rfl ⟨rfl, rfl, Nat.le_of_ble_eq_true rfl, Nat.le_of_ble_eq_true rfl⟩ rfl rfl (Nat.le_of_ble_eq_true rfl) ⟨Nat.le_of_ble_eq_true rfl, Nat.le_of_ble_eq_true rfl⟩ dX0_coverVerdict_2 ?_
  refine j_istore_n X [(3, .int (b_X0_pitchVerdict_0 this x1 S)), (0, .ref (ad this)), (1, .int x1), (2, .int x2)] dX0_coverVerdict_5 (by decide) rfl ?_
  refine j_iload_n X 0 dX0_coverVerdict_6 rfl ?_
  refine j_if_ne X 22 dX0_coverVerdict_7 (by decide) (fun h2 => ?_) (fun h2 => ?_)
  · rw [if_neg h2] at he
    have ho := ho.2 h2
    refine j_lv [0] [(3, .int (b_X0_pitchVerdict_0 this x1 S))] rfl ?_
    exact t_X0_coverVerdict_22 X hr hlocks (b_X0_pitchVerdict_0 this x1 S) S _ he
  · rw [if_pos h2] at he
    have ho := ho.1 h2
    refine j_iload_n X 3 dX0_coverVerdict_10 rfl ?_
    refine j_if_eq X 22 dX0_coverVerdict_11 (by decide) (fun h3 => ?_) (fun h3 => ?_)
    · rw [if_pos h3] at he
      have ho := ho.1 h3
      refine j_lv [0] [(3, .int (b_X0_pitchVerdict_0 this x1 S))] rfl ?_
      exact t_X0_coverVerdict_22 X hr hlocks (b_X0_pitchVerdict_0 this x1 S) S _ he
    · rw [if_neg h3] at he
      have ho := ho.2 h3
      refine j_aload_n X 1 dX0_coverVerdict_14 rfl ?_
      refine j_iload_n X 2 dX0_coverVerdict_15 rfl ?_
      have h4 := ho.1
      have ho := ho.2
      refine j_callVi (rest := []) X (c_X0_rollerVerdict (cx_inj X) this hthis x1 S h4) cw_X0_114 hthis.1 (cl_0 hthis) rfl ⟨rfl, rfl, Nat.le_of_ble_eq_true rfl, Nat.le_of_ble_eq_true rfl⟩ rfl rfl (Nat.le_of_ble_eq_true rfl) ⟨Nat.le_of_ble_eq_true rfl, Nat.le_of_ble_eq_true rfl⟩ dX0_coverVerdict_16 ?_
      refine j_goto X 23 dX0_coverVerdict_19 (by decide) ?_
      refine j_lv [] [] rfl ?_
      exact t_X0_coverVerdict_23 X hr hlocks (b_X0_rollerVerdict_0 this x1 S) S _ he
theorem c_X0_coverVerdict {l : Launch} {D : va_G} {q : Nat → ClassId} {ad : Nat → Nat} {d : UInt64} (hI : inj4 ad) (this : Nat) (hthis : isK 0 this) (x1 : Int32) (x2 : Int32) (S : Sx) (ho : o_X0_coverVerdict_0 this x1 x2 S) : CI l yX0_coverVerdict cX0_coverVerdict 4 .int rm_X0_coverVerdict D q ad d [.ref (ad this), .int x1, .int x2] S (b_X0_coverVerdict_0 this x1 x2 S) S := ci_of hI (by decide +kernel) (Nat.le_of_ble_eq_true rfl) rfl (fun p e s m args below meth c X hr hlocks => t_X0_coverVerdict_0 X hr hlocks this hthis x1 x2 S _ ho rfl)
end
/-! RX0.playVerdict -/
abbrev rm_X0_playVerdict : Room := { frames := 2, cells := 0, slots := 0, locals := 42 }
section
variable {p : Program} {l : Launch} {e : Env} {s : State} {m : MethodId} {args : Array Value} {below : List Frame} {meth : Method} {c : Code} {D : va_G} {q : Nat → ClassId} {ad : Nat → Nat} {d : UInt64}
def b_X0_playVerdict_20 (w0 : Int32) (S : Sx) : Int32 := w0
set_option maxRecDepth 20000 in
theorem t_X0_playVerdict_20 (X : Cx p m c cX0_playVerdict 3 s args RX0 D q ad) (hr : meth.sig.returnType = some .int) (hlocks : meth.locks = false) (w0 : Int32) (S : Sx) (rv : Int32) (he : b_X0_playVerdict_20 w0 S = rv) : Jg p l e rm_X0_playVerdict s m args below meth c 0 0 (MQ below (Qi D q ad d rv S s.heap.size) args s 0 0 (AU ad s.heap.size)) D q ad d 3 20 [] [.int w0] S := by
  unfold b_X0_playVerdict_20 at he
  exact j_iret X hr hlocks dX0_playVerdict_20 he rfl
def b_X0_playVerdict_0 (this : Nat) (x1 : Int32) (S : Sx) : Int32 := if (b_X0_playedOn_0 this x1 S) = (-1) then b_X0_playVerdict_20 0 S else b_X0_playVerdict_20 (b_X6_refused_0 5 (b_X0_playedOn_0 this x1 S) S) S
def o_X0_playVerdict_0 (this : Nat) (x1 : Int32) (S : Sx) : Prop := o_X0_playedOn_0 this x1 S ∧ True
set_option maxRecDepth 20000 in
theorem t_X0_playVerdict_0 (X : Cx p m c cX0_playVerdict 3 s args RX0 D q ad) (hr : meth.sig.returnType = some .int) (hlocks : meth.locks = false) (this : Nat) (hthis : isK 0 this) (x1 : Int32) (S : Sx) (rv : Int32) (ho : o_X0_playVerdict_0 this x1 S) (he : b_X0_playVerdict_0 this x1 S = rv) : Jg p l e rm_X0_playVerdict s m args below meth c 0 0 (MQ below (Qi D q ad d rv S s.heap.size) args s 0 0 (AU ad s.heap.size)) D q ad d 3 0 [(0, .ref (ad this)), (1, .int x1)] [] S := by
  unfold b_X0_playVerdict_0 at he
  unfold o_X0_playVerdict_0 at ho
  refine j_aload_n X 0 dX0_playVerdict_0 rfl ?_
  refine j_iload_n X 1 dX0_playVerdict_1 rfl ?_
  have h2 := ho.1
  have ho := ho.2
  refine j_callVi (rest := []) X (c_X0_playedOn (cx_inj X) this hthis x1 S h2) cw_X0_120 hthis.1 (cl_0 hthis) rfl ⟨rfl, rfl, Nat.le_of_ble_eq_true rfl, Nat.le_of_ble_eq_true rfl⟩ rfl rfl (Nat.le_of_ble_eq_true rfl) ⟨Nat.le_of_ble_eq_true rfl, Nat.le_of_ble_eq_true rfl⟩ dX0_playVerdict_2 ?_
  refine j_istore_n X [(2, .int (b_X0_playedOn_0 this x1 S)), (0, .ref (ad this)), (1, .int x1)] dX0_playVerdict_5 (by decide) rfl ?_
  refine j_iload_n X 0 dX0_playVerdict_6 rfl ?_
  refine j_iconst (v := (-1)) X dX0_playVerdict_7 (by decide) ?_
  refine j_icmp_ne X 15 dX0_playVerdict_8 (by decide) (fun h3 => ?_) (fun h3 => ?_)
  · rw [if_neg h3] at he
    refine j_iconst (v := 5) X dX0_playVerdict_15 (by decide) ?_
    refine j_iload_n X 0 dX0_playVerdict_16 rfl ?_
    refine j_callNi (rest := []) X (c_X6_refused (cx_inj X) 5 (b_X0_playedOn_0 this x1 S) S) cw_X0_117 ⟨rfl, rfl, Nat.le_of_ble_eq_true rfl, Nat.le_of_ble_eq_true rfl⟩ rfl rfl (Nat.le_of_ble_eq_true rfl) ⟨Nat.le_of_ble_eq_true rfl, Nat.le_of_ble_eq_true rfl⟩ dX0_playVerdict_17 ?_
    refine j_lv [] [] rfl ?_
    exact t_X0_playVerdict_20 X hr hlocks (b_X6_refused_0 5 (b_X0_playedOn_0 this x1 S) S) S _ he
  · rw [if_pos h3] at he
    refine j_iconst (v := 0) X dX0_playVerdict_11 (by decide) ?_
    refine j_goto X 20 dX0_playVerdict_12 (by decide) ?_
    refine j_lv [] [] rfl ?_
    exact t_X0_playVerdict_20 X hr hlocks 0 S _ he
theorem c_X0_playVerdict {l : Launch} {D : va_G} {q : Nat → ClassId} {ad : Nat → Nat} {d : UInt64} (hI : inj4 ad) (this : Nat) (hthis : isK 0 this) (x1 : Int32) (S : Sx) (ho : o_X0_playVerdict_0 this x1 S) : CI l yX0_playVerdict cX0_playVerdict 3 .int rm_X0_playVerdict D q ad d [.ref (ad this), .int x1] S (b_X0_playVerdict_0 this x1 S) S := ci_of hI (by decide +kernel) (Nat.le_of_ble_eq_true rfl) rfl (fun p e s m args below meth c X hr hlocks => t_X0_playVerdict_0 X hr hlocks this hthis x1 S _ ho rfl)
end
/-! RX0.callVerdict -/
abbrev rm_X0_callVerdict : Room := { frames := 2, cells := 0, slots := 0, locals := 45 }
section
variable {p : Program} {l : Launch} {e : Env} {s : State} {m : MethodId} {args : Array Value} {below : List Frame} {meth : Method} {c : Code} {D : va_G} {q : Nat → ClassId} {ad : Nat → Nat} {d : UInt64}
def b_X0_callVerdict_21 (w0 : Int32) (S : Sx) : Int32 := w0
set_option maxRecDepth 20000 in
theorem t_X0_callVerdict_21 (X : Cx p m c cX0_callVerdict 4 s args RX0 D q ad) (hr : meth.sig.returnType = some .int) (hlocks : meth.locks = false) (w0 : Int32) (S : Sx) (rv : Int32) (he : b_X0_callVerdict_21 w0 S = rv) : Jg p l e rm_X0_callVerdict s m args below meth c 0 0 (MQ below (Qi D q ad d rv S s.heap.size) args s 0 0 (AU ad s.heap.size)) D q ad d 4 21 [] [.int w0] S := by
  unfold b_X0_callVerdict_21 at he
  exact j_iret X hr hlocks dX0_callVerdict_21 he rfl
def b_X0_callVerdict_0 (this : Nat) (x1 : Int32) (x2 : Int32) (S : Sx) : Int32 := if (b_X0_callOf_0 this x1 x2 S) = 0 then b_X0_callVerdict_21 0 S else b_X0_callVerdict_21 (b_X6_refused_0 8 (b_X0_callOf_0 this x1 x2 S) S) S
def o_X0_callVerdict_0 (this : Nat) (x1 : Int32) (x2 : Int32) (S : Sx) : Prop := o_X0_callOf_0 this x1 x2 S ∧ True
set_option maxRecDepth 20000 in
theorem t_X0_callVerdict_0 (X : Cx p m c cX0_callVerdict 4 s args RX0 D q ad) (hr : meth.sig.returnType = some .int) (hlocks : meth.locks = false) (this : Nat) (hthis : isK 0 this) (x1 : Int32) (x2 : Int32) (S : Sx) (rv : Int32) (ho : o_X0_callVerdict_0 this x1 x2 S) (he : b_X0_callVerdict_0 this x1 x2 S = rv) : Jg p l e rm_X0_callVerdict s m args below meth c 0 0 (MQ below (Qi D q ad d rv S s.heap.size) args s 0 0 (AU ad s.heap.size)) D q ad d 4 0 [(0, .ref (ad this)), (1, .int x1), (2, .int x2)] [] S := by
  unfold b_X0_callVerdict_0 at he
  unfold o_X0_callVerdict_0 at ho
  refine j_aload_n X 0 dX0_callVerdict_0 rfl ?_
  refine j_iload_n X 1 dX0_callVerdict_1 rfl ?_
  refine j_iload_n X 2 dX0_callVerdict_2 rfl ?_
  have h2 := ho.1
  have ho := ho.2
  refine j_callVi (rest := []) X (c_X0_callOf (cx_inj X) this hthis x1 x2 S h2) cw_X0_123 hthis.1 (cl_0 hthis) rfl ⟨rfl, rfl, Nat.le_of_ble_eq_true rfl, Nat.le_of_ble_eq_true rfl⟩ rfl rfl (Nat.le_of_ble_eq_true rfl) ⟨Nat.le_of_ble_eq_true rfl, Nat.le_of_ble_eq_true rfl⟩ dX0_callVerdict_3 ?_
  refine j_istore_n X [(3, .int (b_X0_callOf_0 this x1 x2 S)), (0, .ref (ad this)), (1, .int x1), (2, .int x2)] dX0_callVerdict_6 (by decide) rfl ?_
  refine j_iload_n X 0 dX0_callVerdict_7 rfl ?_
  refine j_if_ne X 15 dX0_callVerdict_8 (by decide) (fun h3 => ?_) (fun h3 => ?_)
  · rw [if_neg h3] at he
    refine j_bipush (v := 8) X dX0_callVerdict_15 (by decide) ?_
    refine j_iload_n X 0 dX0_callVerdict_17 rfl ?_
    refine j_callNi (rest := []) X (c_X6_refused (cx_inj X) 8 (b_X0_callOf_0 this x1 x2 S) S) cw_X0_117 ⟨rfl, rfl, Nat.le_of_ble_eq_true rfl, Nat.le_of_ble_eq_true rfl⟩ rfl rfl (Nat.le_of_ble_eq_true rfl) ⟨Nat.le_of_ble_eq_true rfl, Nat.le_of_ble_eq_true rfl⟩ dX0_callVerdict_18 ?_
    refine j_lv [] [] rfl ?_
    exact t_X0_callVerdict_21 X hr hlocks (b_X6_refused_0 8 (b_X0_callOf_0 this x1 x2 S) S) S _ he
  · rw [if_pos h3] at he
    refine j_iconst (v := 0) X dX0_callVerdict_11 (by decide) ?_
    refine j_goto X 21 dX0_callVerdict_12 (by decide) ?_
    refine j_lv [] [] rfl ?_
    exact t_X0_callVerdict_21 X hr hlocks 0 S _ he
theorem c_X0_callVerdict {l : Launch} {D : va_G} {q : Nat → ClassId} {ad : Nat → Nat} {d : UInt64} (hI : inj4 ad) (this : Nat) (hthis : isK 0 this) (x1 : Int32) (x2 : Int32) (S : Sx) (ho : o_X0_callVerdict_0 this x1 x2 S) : CI l yX0_callVerdict cX0_callVerdict 4 .int rm_X0_callVerdict D q ad d [.ref (ad this), .int x1, .int x2] S (b_X0_callVerdict_0 this x1 x2 S) S := ci_of hI (by decide +kernel) (Nat.le_of_ble_eq_true rfl) rfl (fun p e s m args below meth c X hr hlocks => t_X0_callVerdict_0 X hr hlocks this hthis x1 x2 S _ ho rfl)
end
/-! RX1.isRolling -/
abbrev rm_X1_isRolling : Room := { frames := 0, cells := 0, slots := 0, locals := 0 }
section
variable {p : Program} {l : Launch} {e : Env} {s : State} {m : MethodId} {args : Array Value} {below : List Frame} {meth : Method} {c : Code} {D : va_G} {q : Nat → ClassId} {ad : Nat → Nat} {d : UInt64}
def b_X1_isRolling_12 (w0 : Int32) (S : Sx) : Int32 := w0
def o_X1_isRolling_12 (w0 : Int32) (S : Sx) : Prop := bz w0 ∧ True
set_option maxRecDepth 20000 in
theorem t_X1_isRolling_12 (X : Cx p m c cX1_isRolling 1 s args RX1 D q ad) (hr : meth.sig.returnType = some .boolean) (hlocks : meth.locks = false) (w0 : Int32) (S : Sx) (rv : Int32) (ho : o_X1_isRolling_12 w0 S) (he : b_X1_isRolling_12 w0 S = rv) : Jg p l e rm_X1_isRolling s m args below meth c 0 0 (MQ below (Qi D q ad d rv S s.heap.size) args s 0 0 (AU ad s.heap.size)) D q ad d 1 12 [] [.int w0] S := by
  unfold b_X1_isRolling_12 at he
  unfold o_X1_isRolling_12 at ho
  have h2 := ho.1
  have ho := ho.2
  exact j_zret X hr hlocks (bz_narrow h2) dX1_isRolling_12 he rfl
def b_X1_isRolling_0 (this : Nat) (S : Sx) : Int32 := if (S this 3) ≤ 0 then b_X1_isRolling_12 0 S else b_X1_isRolling_12 1 S
def o_X1_isRolling_0 (this : Nat) (S : Sx) : Prop := ((S this 3) ≤ 0 → (o_X1_isRolling_12 0 S)) ∧ (¬ (S this 3) ≤ 0 → (o_X1_isRolling_12 1 S))
set_option maxRecDepth 20000 in
theorem t_X1_isRolling_0 (X : Cx p m c cX1_isRolling 1 s args RX1 D q ad) (hr : meth.sig.returnType = some .boolean) (hlocks : meth.locks = false) (this : Nat) (hthis : isK 8 this) (S : Sx) (rv : Int32) (ho : o_X1_isRolling_0 this S) (he : b_X1_isRolling_0 this S = rv) : Jg p l e rm_X1_isRolling s m args below meth c 0 0 (MQ below (Qi D q ad d rv S s.heap.size) args s 0 0 (AU ad s.heap.size)) D q ad d 1 0 [(0, .ref (ad this))] [] S := by
  unfold b_X1_isRolling_0 at he
  unfold o_X1_isRolling_0 at ho
  refine j_aload_n X 0 dX1_isRolling_0 rfl ?_
  refine gf_8_3 X m_fl_X1_22 hthis dX1_isRolling_1 ?_
  refine j_if_le X 11 dX1_isRolling_4 (by decide) (fun h2 => ?_) (fun h2 => ?_)
  · rw [if_pos h2] at he
    have ho := ho.1 h2
    refine j_iconst (v := 0) X dX1_isRolling_11 (by decide) ?_
    refine j_lv [] [] rfl ?_
    exact t_X1_isRolling_12 X hr hlocks 0 S _ ho he
  · rw [if_neg h2] at he
    have ho := ho.2 h2
    refine j_iconst (v := 1) X dX1_isRolling_7 (by decide) ?_
    refine j_goto X 12 dX1_isRolling_8 (by decide) ?_
    refine j_lv [] [] rfl ?_
    exact t_X1_isRolling_12 X hr hlocks 1 S _ ho he
theorem c_X1_isRolling {l : Launch} {D : va_G} {q : Nat → ClassId} {ad : Nat → Nat} {d : UInt64} (hI : inj4 ad) (this : Nat) (hthis : isK 8 this) (S : Sx) (ho : o_X1_isRolling_0 this S) : CI l yX1_isRolling cX1_isRolling 1 .boolean rm_X1_isRolling D q ad d [.ref (ad this)] S (b_X1_isRolling_0 this S) S := ci_of hI (by decide +kernel) (Nat.le_of_ble_eq_true rfl) rfl (fun p e s m args below meth c X hr hlocks => t_X1_isRolling_0 X hr hlocks this hthis S _ ho rfl)
end
/-! RX0.bootsVerdict -/
abbrev rm_X0_bootsVerdict : Room := { frames := 2, cells := 0, slots := 0, locals := 42 }
section
variable {p : Program} {l : Launch} {e : Env} {s : State} {m : MethodId} {args : Array Value} {below : List Frame} {meth : Method} {c : Code} {D : va_G} {q : Nat → ClassId} {ad : Nat → Nat} {d : UInt64}
def b_X0_bootsVerdict_41 (w0 : Int32) (S : Sx) : Int32 := w0
set_option maxRecDepth 20000 in
theorem t_X0_bootsVerdict_41 (X : Cx p m c cX0_bootsVerdict 3 s args RX0 D q ad) (hr : meth.sig.returnType = some .int) (hlocks : meth.locks = false) (w0 : Int32) (S : Sx) (rv : Int32) (he : b_X0_bootsVerdict_41 w0 S = rv) : Jg p l e rm_X0_bootsVerdict s m args below meth c 0 0 (MQ below (Qi D q ad d rv S s.heap.size) args s 0 0 (AU ad s.heap.size)) D q ad d 3 41 [] [.int w0] S := by
  unfold b_X0_bootsVerdict_41 at he
  exact j_iret X hr hlocks dX0_bootsVerdict_41 he rfl
def b_X0_bootsVerdict_0 (this : Nat) (x1 : Int32) (S : Sx) : Int32 := if (b_X0_horseVerdict_0 this x1 S) = 0 then if (b_X1_isRolling_0 (this + 11 + x1.toNatClampNeg) S) = 0 then b_X0_bootsVerdict_41 0 S else b_X0_bootsVerdict_41 (b_X6_refused_0 2 (S (this + 11 + x1.toNatClampNeg) 3) S) S else b_X0_horseVerdict_0 this x1 S
def o_X0_bootsVerdict_0 (this : Nat) (x1 : Int32) (S : Sx) : Prop := ((b_X0_horseVerdict_0 this x1 S) = 0 → (vp_in x1 5 ∧ (o_X1_isRolling_0 (this + 11 + x1.toNatClampNeg) S ∧ (((b_X1_isRolling_0 (this + 11 + x1.toNatClampNeg) S) = 0 → True) ∧ (¬ (b_X1_isRolling_0 (this + 11 + x1.toNatClampNeg) S) = 0 → (vp_in x1 5 ∧ True)))))) ∧ (¬ (b_X0_horseVerdict_0 this x1 S) = 0 → True)
set_option maxRecDepth 20000 in
theorem t_X0_bootsVerdict_0 (X : Cx p m c cX0_bootsVerdict 3 s args RX0 D q ad) (hr : meth.sig.returnType = some .int) (hlocks : meth.locks = false) (this : Nat) (hthis : isK 0 this) (x1 : Int32) (S : Sx) (rv : Int32) (ho : o_X0_bootsVerdict_0 this x1 S) (he : b_X0_bootsVerdict_0 this x1 S = rv) : Jg p l e rm_X0_bootsVerdict s m args below meth c 0 0 (MQ below (Qi D q ad d rv S s.heap.size) args s 0 0 (AU ad s.heap.size)) D q ad d 3 0 [(0, .ref (ad this)), (1, .int x1)] [] S := by
  unfold b_X0_bootsVerdict_0 at he
  unfold o_X0_bootsVerdict_0 at ho
  refine j_aload_n X 0 dX0_bootsVerdict_0 rfl ?_
  refine j_iload_n X 1 dX0_bootsVerdict_1 rfl ?_
  refine j_callVi (rest := []) X (c_X0_horseVerdict (cx_inj X) this hthis x1 S) cw_X0_126 hthis.1 (cl_0 hthis) rfl ⟨rfl, rfl, Nat.le_of_ble_eq_true rfl, Nat.le_of_ble_eq_true rfl⟩ rfl rfl (Nat.le_of_ble_eq_true rfl) ⟨Nat.le_of_ble_eq_true rfl, Nat.le_of_ble_eq_true rfl⟩ dX0_bootsVerdict_2 ?_
  refine j_istore_n X [(2, .int (b_X0_horseVerdict_0 this x1 S)), (0, .ref (ad this)), (1, .int x1)] dX0_bootsVerdict_5 (by decide) rfl ?_
  refine j_iload_n X 0 dX0_bootsVerdict_6 rfl ?_
  refine j_if_eq X 12 dX0_bootsVerdict_7 (by decide) (fun h2 => ?_) (fun h2 => ?_)
  · rw [if_pos h2] at he
    have ho := ho.1 h2
    refine j_aload_n X 1 dX0_bootsVerdict_12 rfl ?_
    refine gf_0_7 X m_fl_X0_30 hthis dX0_bootsVerdict_13 ?_
    refine j_iload_n X 2 dX0_bootsVerdict_16 rfl ?_
    have h3 := ho.1
    have ho := ho.2
    refine j_aald (a := ad (this + 11 + x1.toNatClampNeg)) X 2 (k0_5 hthis).1 (cl_5 (k0_5 hthis)) rfl h3 rfl dX0_bootsVerdict_17 ?_
    have hk4 : isK 8 (this + 11 + x1.toNatClampNeg) := k0_8 hthis (vlt h3)
    have h5 := ho.1
    have ho := ho.2
    refine j_callVi (rest := []) X (c_X1_isRolling (cx_inj X) (this + 11 + x1.toNatClampNeg) hk4 S h5) cw_X0_129 hk4.1 (cl_8 hk4) rfl ⟨rfl, rfl, Nat.le_of_ble_eq_true rfl, Nat.le_of_ble_eq_true rfl⟩ rfl rfl (Nat.le_of_ble_eq_true rfl) ⟨Nat.le_of_ble_eq_true rfl, Nat.le_of_ble_eq_true rfl⟩ dX0_bootsVerdict_18 ?_
    refine j_if_eq X 40 dX0_bootsVerdict_21 (by decide) (fun h6 => ?_) (fun h6 => ?_)
    · rw [if_pos h6] at he
      have ho := ho.1 h6
      refine j_iconst (v := 0) X dX0_bootsVerdict_40 (by decide) ?_
      refine j_lv [] [] rfl ?_
      exact t_X0_bootsVerdict_41 X hr hlocks 0 S _ he
    · rw [if_neg h6] at he
      have ho := ho.2 h6
      refine j_iconst (v := 2) X dX0_bootsVerdict_24 (by decide) ?_
      refine j_aload_n X 1 dX0_bootsVerdict_25 rfl ?_
      refine gf_0_7 X m_fl_X0_30 hthis dX0_bootsVerdict_26 ?_
      refine j_iload_n X 2 dX0_bootsVerdict_29 rfl ?_
      have h7 := ho.1
      have ho := ho.2
      refine j_aald (a := ad (this + 11 + x1.toNatClampNeg)) X 2 (k0_5 hthis).1 (cl_5 (k0_5 hthis)) rfl h7 rfl dX0_bootsVerdict_30 ?_
      have hk8 : isK 8 (this + 11 + x1.toNatClampNeg) := k0_8 hthis (vlt h7)
      refine gf_8_3 X m_fl_X0_77 hk8 dX0_bootsVerdict_31 ?_
      refine j_callNi (rest := []) X (c_X6_refused (cx_inj X) 2 (S (this + 11 + x1.toNatClampNeg) 3) S) cw_X0_117 ⟨rfl, rfl, Nat.le_of_ble_eq_true rfl, Nat.le_of_ble_eq_true rfl⟩ rfl rfl (Nat.le_of_ble_eq_true rfl) ⟨Nat.le_of_ble_eq_true rfl, Nat.le_of_ble_eq_true rfl⟩ dX0_bootsVerdict_34 ?_
      refine j_goto X 41 dX0_bootsVerdict_37 (by decide) ?_
      refine j_lv [] [] rfl ?_
      exact t_X0_bootsVerdict_41 X hr hlocks (b_X6_refused_0 2 (S (this + 11 + x1.toNatClampNeg) 3) S) S _ he
  · rw [if_neg h2] at he
    have ho := ho.2 h2
    refine j_iload_n X 0 dX0_bootsVerdict_10 rfl ?_
    exact j_iret X hr hlocks dX0_bootsVerdict_11 he rfl
theorem c_X0_bootsVerdict {l : Launch} {D : va_G} {q : Nat → ClassId} {ad : Nat → Nat} {d : UInt64} (hI : inj4 ad) (this : Nat) (hthis : isK 0 this) (x1 : Int32) (S : Sx) (ho : o_X0_bootsVerdict_0 this x1 S) : CI l yX0_bootsVerdict cX0_bootsVerdict 3 .int rm_X0_bootsVerdict D q ad d [.ref (ad this), .int x1] S (b_X0_bootsVerdict_0 this x1 S) S := ci_of hI (by decide +kernel) (Nat.le_of_ble_eq_true rfl) rfl (fun p e s m args below meth c X hr hlocks => t_X0_bootsVerdict_0 X hr hlocks this hthis x1 S _ ho rfl)
end
/-! RX6.rangeVerdict -/
abbrev rm_X6_rangeVerdict : Room := { frames := 0, cells := 0, slots := 0, locals := 0 }
section
variable {p : Program} {l : Launch} {e : Env} {s : State} {m : MethodId} {args : Array Value} {below : List Frame} {meth : Method} {c : Code} {D : va_G} {q : Nat → ClassId} {ad : Nat → Nat} {d : UInt64}
def b_X6_rangeVerdict_16 (w0 : Int32) (S : Sx) : Int32 := w0
set_option maxRecDepth 20000 in
theorem t_X6_rangeVerdict_16 (X : Cx p m c cX6_rangeVerdict 3 s args RX6 D q ad) (hr : meth.sig.returnType = some .int) (hlocks : meth.locks = false) (w0 : Int32) (S : Sx) (rv : Int32) (he : b_X6_rangeVerdict_16 w0 S = rv) : Jg p l e rm_X6_rangeVerdict s m args below meth c 0 0 (MQ below (Qi D q ad d rv S s.heap.size) args s 0 0 (AU ad s.heap.size)) D q ad d 3 16 [] [.int w0] S := by
  unfold b_X6_rangeVerdict_16 at he
  exact j_iret X hr hlocks dX6_rangeVerdict_16 he rfl
def b_X6_rangeVerdict_14  (S : Sx) : Int32 := b_X6_rangeVerdict_16 (-2) S
set_option maxRecDepth 20000 in
theorem t_X6_rangeVerdict_14 (X : Cx p m c cX6_rangeVerdict 3 s args RX6 D q ad) (hr : meth.sig.returnType = some .int) (hlocks : meth.locks = false) (S : Sx) (rv : Int32) (he : b_X6_rangeVerdict_14 S = rv) : Jg p l e rm_X6_rangeVerdict s m args below meth c 0 0 (MQ below (Qi D q ad d rv S s.heap.size) args s 0 0 (AU ad s.heap.size)) D q ad d 3 14 [] [] S := by
  unfold b_X6_rangeVerdict_14 at he
  refine j_bipush (v := (-2)) X dX6_rangeVerdict_14 (by decide) ?_
  exact t_X6_rangeVerdict_16 X hr hlocks (-2) S _ he
def b_X6_rangeVerdict_0 (x0 : Int32) (x1 : Int32) (x2 : Int32) (S : Sx) : Int32 := if x0 < x1 then b_X6_rangeVerdict_14 S else if x2 < x0 then b_X6_rangeVerdict_14 S else b_X6_rangeVerdict_16 0 S
set_option maxRecDepth 20000 in
theorem t_X6_rangeVerdict_0 (X : Cx p m c cX6_rangeVerdict 3 s args RX6 D q ad) (hr : meth.sig.returnType = some .int) (hlocks : meth.locks = false) (x0 : Int32) (x1 : Int32) (x2 : Int32) (S : Sx) (rv : Int32) (he : b_X6_rangeVerdict_0 x0 x1 x2 S = rv) : Jg p l e rm_X6_rangeVerdict s m args below meth c 0 0 (MQ below (Qi D q ad d rv S s.heap.size) args s 0 0 (AU ad s.heap.size)) D q ad d 3 0 [(0, .int x0), (1, .int x1), (2, .int x2)] [] S := by
  unfold b_X6_rangeVerdict_0 at he
  refine j_iload_n X 0 dX6_rangeVerdict_0 rfl ?_
  refine j_iload_n X 1 dX6_rangeVerdict_1 rfl ?_
  refine j_icmp_lt X 14 dX6_rangeVerdict_2 (by decide) (fun h2 => ?_) (fun h2 => ?_)
  · rw [if_pos h2] at he
    refine j_lv [] [] rfl ?_
    exact t_X6_rangeVerdict_14 X hr hlocks S _ he
  · rw [if_neg h2] at he
    refine j_iload_n X 0 dX6_rangeVerdict_5 rfl ?_
    refine j_iload_n X 2 dX6_rangeVerdict_6 rfl ?_
    refine j_icmp_gt X 14 dX6_rangeVerdict_7 (by decide) (fun h3 => ?_) (fun h3 => ?_)
    · rw [if_pos h3] at he
      refine j_lv [] [] rfl ?_
      exact t_X6_rangeVerdict_14 X hr hlocks S _ he
    · rw [if_neg h3] at he
      refine j_iconst (v := 0) X dX6_rangeVerdict_10 (by decide) ?_
      refine j_goto X 16 dX6_rangeVerdict_11 (by decide) ?_
      refine j_lv [] [] rfl ?_
      exact t_X6_rangeVerdict_16 X hr hlocks 0 S _ he
theorem c_X6_rangeVerdict {l : Launch} {D : va_G} {q : Nat → ClassId} {ad : Nat → Nat} {d : UInt64} (hI : inj4 ad) (x0 : Int32) (x1 : Int32) (x2 : Int32) (S : Sx) : CI l yX6_rangeVerdict cX6_rangeVerdict 3 .int rm_X6_rangeVerdict D q ad d [.int x0, .int x1, .int x2] S (b_X6_rangeVerdict_0 x0 x1 x2 S) S := ci_of hI (by decide +kernel) (Nat.le_of_ble_eq_true rfl) rfl (fun p e s m args below meth c X hr hlocks => t_X6_rangeVerdict_0 X hr hlocks x0 x1 x2 S _ rfl)
end
/-! RX0.rollVerdict -/
abbrev rm_X0_rollVerdict : Room := { frames := 3, cells := 0, slots := 0, locals := 64 }
section
variable {p : Program} {l : Launch} {e : Env} {s : State} {m : MethodId} {args : Array Value} {below : List Frame} {meth : Method} {c : Code} {D : va_G} {q : Nat → ClassId} {ad : Nat → Nat} {d : UInt64}
def b_X0_rollVerdict_16  (S : Sx) : Int32 := (-1)
set_option maxRecDepth 20000 in
theorem t_X0_rollVerdict_16 (X : Cx p m c cX0_rollVerdict 5 s args RX0 D q ad) (hr : meth.sig.returnType = some .int) (hlocks : meth.locks = false) (S : Sx) (rv : Int32) (he : b_X0_rollVerdict_16 S = rv) : Jg p l e rm_X0_rollVerdict s m args below meth c 0 0 (MQ below (Qi D q ad d rv S s.heap.size) args s 0 0 (AU ad s.heap.size)) D q ad d 5 16 [] [] S := by
  unfold b_X0_rollVerdict_16 at he
  refine j_iconst (v := (-1)) X dX0_rollVerdict_16 (by decide) ?_
  exact j_iret X hr hlocks dX0_rollVerdict_17 he rfl
def b_X0_rollVerdict_168 (v4 : Int32) (S : Sx) : Int32 := v4
set_option maxRecDepth 20000 in
theorem t_X0_rollVerdict_168 (X : Cx p m c cX0_rollVerdict 5 s args RX0 D q ad) (hr : meth.sig.returnType = some .int) (hlocks : meth.locks = false) (v4 : Int32) (S : Sx) (rv : Int32) (he : b_X0_rollVerdict_168 v4 S = rv) : Jg p l e rm_X0_rollVerdict s m args below meth c 0 0 (MQ below (Qi D q ad d rv S s.heap.size) args s 0 0 (AU ad s.heap.size)) D q ad d 5 168 [(4, .int v4)] [] S := by
  unfold b_X0_rollVerdict_168 at he
  refine j_iload X 0 dX0_rollVerdict_168 rfl ?_
  exact j_iret X hr hlocks dX0_rollVerdict_170 he rfl
def b_X0_rollVerdict_121 (j0 : Nat) (v1 : Int32) (v2 : Int32) (v4 : Int32) (S : Sx) : Int32 := if v4 = 0 then if (S (j0 + 7 + v2.toNatClampNeg) 0) ≤ 60 then b_X0_rollVerdict_168 v4 S else if (nb (S (j0 + 11 + v1.toNatClampNeg) 1)) = 0 then b_X0_rollVerdict_168 (b_X6_refused_0 7 (S (j0 + 7 + v2.toNatClampNeg) 0) S) S else b_X0_rollVerdict_168 v4 S else b_X0_rollVerdict_168 v4 S
def o_X0_rollVerdict_121 (j0 : Nat) (v1 : Int32) (v2 : Int32) (v4 : Int32) (S : Sx) : Prop := (v4 = 0 → (vp_in v2 4 ∧ (((S (j0 + 7 + v2.toNatClampNeg) 0) ≤ 60 → True) ∧ (¬ (S (j0 + 7 + v2.toNatClampNeg) 0) ≤ 60 → (vp_in v1 5 ∧ (((nb (S (j0 + 11 + v1.toNatClampNeg) 1)) = 0 → (vp_in v2 4 ∧ True)) ∧ (¬ (nb (S (j0 + 11 + v1.toNatClampNeg) 1)) = 0 → True))))))) ∧ (¬ v4 = 0 → True)
set_option maxRecDepth 20000 in
theorem t_X0_rollVerdict_121 (X : Cx p m c cX0_rollVerdict 5 s args RX0 D q ad) (hr : meth.sig.returnType = some .int) (hlocks : meth.locks = false) (j0 : Nat) (hj0 : isK 0 j0) (v1 : Int32) (v2 : Int32) (v4 : Int32) (S : Sx) (rv : Int32) (ho : o_X0_rollVerdict_121 j0 v1 v2 v4 S) (he : b_X0_rollVerdict_121 j0 v1 v2 v4 S = rv) : Jg p l e rm_X0_rollVerdict s m args below meth c 0 0 (MQ below (Qi D q ad d rv S s.heap.size) args s 0 0 (AU ad s.heap.size)) D q ad d 5 121 [(0, .ref (ad j0)), (1, .int v1), (2, .int v2), (4, .int v4)] [] S := by
  unfold b_X0_rollVerdict_121 at he
  unfold o_X0_rollVerdict_121 at ho
  refine j_iload X 3 dX0_rollVerdict_121 rfl ?_
  refine j_if_ne X 168 dX0_rollVerdict_123 (by decide) (fun h2 => ?_) (fun h2 => ?_)
  · rw [if_neg h2] at he
    have ho := ho.2 h2
    refine j_lv [3] [(4, .int v4)] rfl ?_
    exact t_X0_rollVerdict_168 X hr hlocks v4 S _ he
  · rw [if_pos h2] at he
    have ho := ho.1 h2
    refine j_aload_n X 0 dX0_rollVerdict_126 rfl ?_
    refine gf_0_5 X m_fl_X0_24 hj0 dX0_rollVerdict_127 ?_
    refine j_iload_n X 2 dX0_rollVerdict_130 rfl ?_
    have h3 := ho.1
    have ho := ho.2
    refine j_aald (a := ad (j0 + 7 + v2.toNatClampNeg)) X 1 (k0_4 hj0).1 (cl_4 (k0_4 hj0)) rfl h3 rfl dX0_rollVerdict_131 ?_
    have hk4 : isK 7 (j0 + 7 + v2.toNatClampNeg) := k0_7 hj0 (vlt h3)
    refine gf_7_0 X m_fl_X0_102 hk4 dX0_rollVerdict_132 ?_
    refine j_bipush (v := 60) X dX0_rollVerdict_135 (by decide) ?_
    refine j_icmp_le X 168 dX0_rollVerdict_137 (by decide) (fun h5 => ?_) (fun h5 => ?_)
    · rw [if_pos h5] at he
      have ho := ho.1 h5
      refine j_lv [3] [(4, .int v4)] rfl ?_
      exact t_X0_rollVerdict_168 X hr hlocks v4 S _ he
    · rw [if_neg h5] at he
      have ho := ho.2 h5
      refine j_aload_n X 0 dX0_rollVerdict_140 rfl ?_
      refine gf_0_7 X m_fl_X0_30 hj0 dX0_rollVerdict_141 ?_
      refine j_iload_n X 1 dX0_rollVerdict_144 rfl ?_
      have h6 := ho.1
      have ho := ho.2
      refine j_aald (a := ad (j0 + 11 + v1.toNatClampNeg)) X 2 (k0_5 hj0).1 (cl_5 (k0_5 hj0)) rfl h6 rfl dX0_rollVerdict_145 ?_
      have hk7 : isK 8 (j0 + 11 + v1.toNatClampNeg) := k0_8 hj0 (vlt h6)
      refine gf_8_1 X m_fl_X0_145 hk7 dX0_rollVerdict_146 ?_
      refine j_if_ne X 168 dX0_rollVerdict_149 (by decide) (fun h8 => ?_) (fun h8 => ?_)
      · rw [if_neg h8] at he
        have ho := ho.2 h8
        refine j_lv [3] [(4, .int v4)] rfl ?_
        exact t_X0_rollVerdict_168 X hr hlocks v4 S _ he
      · rw [if_pos h8] at he
        have ho := ho.1 h8
        refine j_bipush (v := 7) X dX0_rollVerdict_152 (by decide) ?_
        refine j_aload_n X 0 dX0_rollVerdict_154 rfl ?_
        refine gf_0_5 X m_fl_X0_24 hj0 dX0_rollVerdict_155 ?_
        refine j_iload_n X 2 dX0_rollVerdict_158 rfl ?_
        have h9 := ho.1
        have ho := ho.2
        refine j_aald (a := ad (j0 + 7 + v2.toNatClampNeg)) X 1 (k0_4 hj0).1 (cl_4 (k0_4 hj0)) rfl h9 rfl dX0_rollVerdict_159 ?_
        have hk10 : isK 7 (j0 + 7 + v2.toNatClampNeg) := k0_7 hj0 (vlt h9)
        refine gf_7_0 X m_fl_X0_102 hk10 dX0_rollVerdict_160 ?_
        refine j_callNi (rest := []) X (c_X6_refused (cx_inj X) 7 (S (j0 + 7 + v2.toNatClampNeg) 0) S) cw_X0_117 ⟨rfl, rfl, Nat.le_of_ble_eq_true rfl, Nat.le_of_ble_eq_true rfl⟩ rfl rfl (Nat.le_of_ble_eq_true rfl) ⟨Nat.le_of_ble_eq_true rfl, Nat.le_of_ble_eq_true rfl⟩ dX0_rollVerdict_163 ?_
        refine j_istore X [(4, .int (b_X6_refused_0 7 (S (j0 + 7 + v2.toNatClampNeg) 0) S)), (0, .ref (ad j0)), (1, .int v1), (2, .int v2)] dX0_rollVerdict_166 (by decide) rfl ?_
        refine j_lv [0] [(4, .int (b_X6_refused_0 7 (S (j0 + 7 + v2.toNatClampNeg) 0) S))] rfl ?_
        exact t_X0_rollVerdict_168 X hr hlocks (b_X6_refused_0 7 (S (j0 + 7 + v2.toNatClampNeg) 0) S) S _ he
def b_X0_rollVerdict_96 (j0 : Nat) (v1 : Int32) (v2 : Int32) (v4 : Int32) (S : Sx) : Int32 := if v4 = 0 then if (nb (S (j0 + 7 + v2.toNatClampNeg) 3)) = 0 then b_X0_rollVerdict_121 j0 v1 v2 v4 S else b_X0_rollVerdict_121 j0 v1 v2 (b_X6_refused_0 6 v2 S) S else b_X0_rollVerdict_121 j0 v1 v2 v4 S
def o_X0_rollVerdict_96 (j0 : Nat) (v1 : Int32) (v2 : Int32) (v4 : Int32) (S : Sx) : Prop := (v4 = 0 → (vp_in v2 4 ∧ (((nb (S (j0 + 7 + v2.toNatClampNeg) 3)) = 0 → (o_X0_rollVerdict_121 j0 v1 v2 v4 S)) ∧ (¬ (nb (S (j0 + 7 + v2.toNatClampNeg) 3)) = 0 → (o_X0_rollVerdict_121 j0 v1 v2 (b_X6_refused_0 6 v2 S) S))))) ∧ (¬ v4 = 0 → (o_X0_rollVerdict_121 j0 v1 v2 v4 S))
set_option maxRecDepth 20000 in
theorem t_X0_rollVerdict_96 (X : Cx p m c cX0_rollVerdict 5 s args RX0 D q ad) (hr : meth.sig.returnType = some .int) (hlocks : meth.locks = false) (j0 : Nat) (hj0 : isK 0 j0) (v1 : Int32) (v2 : Int32) (v4 : Int32) (S : Sx) (rv : Int32) (ho : o_X0_rollVerdict_96 j0 v1 v2 v4 S) (he : b_X0_rollVerdict_96 j0 v1 v2 v4 S = rv) : Jg p l e rm_X0_rollVerdict s m args below meth c 0 0 (MQ below (Qi D q ad d rv S s.heap.size) args s 0 0 (AU ad s.heap.size)) D q ad d 5 96 [(0, .ref (ad j0)), (1, .int v1), (2, .int v2), (4, .int v4)] [] S := by
  unfold b_X0_rollVerdict_96 at he
  unfold o_X0_rollVerdict_96 at ho
  refine j_iload X 3 dX0_rollVerdict_96 rfl ?_
  refine j_if_ne X 121 dX0_rollVerdict_98 (by decide) (fun h2 => ?_) (fun h2 => ?_)
  · rw [if_neg h2] at he
    have ho := ho.2 h2
    exact t_X0_rollVerdict_121 X hr hlocks j0 hj0 v1 v2 v4 S _ ho he
  · rw [if_pos h2] at he
    have ho := ho.1 h2
    refine j_aload_n X 0 dX0_rollVerdict_101 rfl ?_
    refine gf_0_5 X m_fl_X0_24 hj0 dX0_rollVerdict_102 ?_
    refine j_iload_n X 2 dX0_rollVerdict_105 rfl ?_
    have h3 := ho.1
    have ho := ho.2
    refine j_aald (a := ad (j0 + 7 + v2.toNatClampNeg)) X 1 (k0_4 hj0).1 (cl_4 (k0_4 hj0)) rfl h3 rfl dX0_rollVerdict_106 ?_
    have hk4 : isK 7 (j0 + 7 + v2.toNatClampNeg) := k0_7 hj0 (vlt h3)
    refine gf_7_3 X m_fl_X0_94 hk4 dX0_rollVerdict_107 ?_
    refine j_if_eq X 121 dX0_rollVerdict_110 (by decide) (fun h5 => ?_) (fun h5 => ?_)
    · rw [if_pos h5] at he
      have ho := ho.1 h5
      exact t_X0_rollVerdict_121 X hr hlocks j0 hj0 v1 v2 v4 S _ ho he
    · rw [if_neg h5] at he
      have ho := ho.2 h5
      refine j_bipush (v := 6) X dX0_rollVerdict_113 (by decide) ?_
      refine j_iload_n X 2 dX0_rollVerdict_115 rfl ?_
      refine j_callNi (rest := []) X (c_X6_refused (cx_inj X) 6 v2 S) cw_X0_117 ⟨rfl, rfl, Nat.le_of_ble_eq_true rfl, Nat.le_of_ble_eq_true rfl⟩ rfl rfl (Nat.le_of_ble_eq_true rfl) ⟨Nat.le_of_ble_eq_true rfl, Nat.le_of_ble_eq_true rfl⟩ dX0_rollVerdict_116 ?_
      refine j_istore X [(4, .int (b_X6_refused_0 6 v2 S)), (0, .ref (ad j0)), (1, .int v1), (2, .int v2)] dX0_rollVerdict_119 (by decide) rfl ?_
      refine j_lv [1, 2, 3, 0] [(0, .ref (ad j0)), (1, .int v1), (2, .int v2), (4, .int (b_X6_refused_0 6 v2 S))] rfl ?_
      exact t_X0_rollVerdict_121 X hr hlocks j0 hj0 v1 v2 (b_X6_refused_0 6 v2 S) S _ ho he
def b_X0_rollVerdict_84 (j0 : Nat) (v1 : Int32) (v2 : Int32) (v4 : Int32) (S : Sx) : Int32 := if v4 = 0 then b_X0_rollVerdict_96 j0 v1 v2 (b_X0_playVerdict_0 j0 v2 S) S else b_X0_rollVerdict_96 j0 v1 v2 v4 S
def o_X0_rollVerdict_84 (j0 : Nat) (v1 : Int32) (v2 : Int32) (v4 : Int32) (S : Sx) : Prop := (v4 = 0 → (o_X0_playVerdict_0 j0 v2 S ∧ (o_X0_rollVerdict_96 j0 v1 v2 (b_X0_playVerdict_0 j0 v2 S) S))) ∧ (¬ v4 = 0 → (o_X0_rollVerdict_96 j0 v1 v2 v4 S))
set_option maxRecDepth 20000 in
theorem t_X0_rollVerdict_84 (X : Cx p m c cX0_rollVerdict 5 s args RX0 D q ad) (hr : meth.sig.returnType = some .int) (hlocks : meth.locks = false) (j0 : Nat) (hj0 : isK 0 j0) (v1 : Int32) (v2 : Int32) (v4 : Int32) (S : Sx) (rv : Int32) (ho : o_X0_rollVerdict_84 j0 v1 v2 v4 S) (he : b_X0_rollVerdict_84 j0 v1 v2 v4 S = rv) : Jg p l e rm_X0_rollVerdict s m args below meth c 0 0 (MQ below (Qi D q ad d rv S s.heap.size) args s 0 0 (AU ad s.heap.size)) D q ad d 5 84 [(0, .ref (ad j0)), (1, .int v1), (2, .int v2), (4, .int v4)] [] S := by
  unfold b_X0_rollVerdict_84 at he
  unfold o_X0_rollVerdict_84 at ho
  refine j_iload X 3 dX0_rollVerdict_84 rfl ?_
  refine j_if_ne X 96 dX0_rollVerdict_86 (by decide) (fun h2 => ?_) (fun h2 => ?_)
  · rw [if_neg h2] at he
    have ho := ho.2 h2
    exact t_X0_rollVerdict_96 X hr hlocks j0 hj0 v1 v2 v4 S _ ho he
  · rw [if_pos h2] at he
    have ho := ho.1 h2
    refine j_aload_n X 0 dX0_rollVerdict_89 rfl ?_
    refine j_iload_n X 2 dX0_rollVerdict_90 rfl ?_
    have h3 := ho.1
    have ho := ho.2
    refine j_callVi (rest := []) X (c_X0_playVerdict (cx_inj X) j0 hj0 v2 S h3) cw_X0_142 hj0.1 (cl_0 hj0) rfl ⟨rfl, rfl, Nat.le_of_ble_eq_true rfl, Nat.le_of_ble_eq_true rfl⟩ rfl rfl (Nat.le_of_ble_eq_true rfl) ⟨Nat.le_of_ble_eq_true rfl, Nat.le_of_ble_eq_true rfl⟩ dX0_rollVerdict_91 ?_
    refine j_istore X [(4, .int (b_X0_playVerdict_0 j0 v2 S)), (0, .ref (ad j0)), (1, .int v1), (2, .int v2)] dX0_rollVerdict_94 (by decide) rfl ?_
    refine j_lv [1, 2, 3, 0] [(0, .ref (ad j0)), (1, .int v1), (2, .int v2), (4, .int (b_X0_playVerdict_0 j0 v2 S))] rfl ?_
    exact t_X0_rollVerdict_96 X hr hlocks j0 hj0 v1 v2 (b_X0_playVerdict_0 j0 v2 S) S _ ho he
def b_X0_rollVerdict_72 (j0 : Nat) (v1 : Int32) (v2 : Int32) (v4 : Int32) (S : Sx) : Int32 := if v4 = 0 then b_X0_rollVerdict_84 j0 v1 v2 (b_X0_rollerVerdict_0 j0 v2 S) S else b_X0_rollVerdict_84 j0 v1 v2 v4 S
def o_X0_rollVerdict_72 (j0 : Nat) (v1 : Int32) (v2 : Int32) (v4 : Int32) (S : Sx) : Prop := (v4 = 0 → (o_X0_rollerVerdict_0 j0 v2 S ∧ (o_X0_rollVerdict_84 j0 v1 v2 (b_X0_rollerVerdict_0 j0 v2 S) S))) ∧ (¬ v4 = 0 → (o_X0_rollVerdict_84 j0 v1 v2 v4 S))
set_option maxRecDepth 20000 in
theorem t_X0_rollVerdict_72 (X : Cx p m c cX0_rollVerdict 5 s args RX0 D q ad) (hr : meth.sig.returnType = some .int) (hlocks : meth.locks = false) (j0 : Nat) (hj0 : isK 0 j0) (v1 : Int32) (v2 : Int32) (v4 : Int32) (S : Sx) (rv : Int32) (ho : o_X0_rollVerdict_72 j0 v1 v2 v4 S) (he : b_X0_rollVerdict_72 j0 v1 v2 v4 S = rv) : Jg p l e rm_X0_rollVerdict s m args below meth c 0 0 (MQ below (Qi D q ad d rv S s.heap.size) args s 0 0 (AU ad s.heap.size)) D q ad d 5 72 [(0, .ref (ad j0)), (1, .int v1), (2, .int v2), (4, .int v4)] [] S := by
  unfold b_X0_rollVerdict_72 at he
  unfold o_X0_rollVerdict_72 at ho
  refine j_iload X 3 dX0_rollVerdict_72 rfl ?_
  refine j_if_ne X 84 dX0_rollVerdict_74 (by decide) (fun h2 => ?_) (fun h2 => ?_)
  · rw [if_neg h2] at he
    have ho := ho.2 h2
    exact t_X0_rollVerdict_84 X hr hlocks j0 hj0 v1 v2 v4 S _ ho he
  · rw [if_pos h2] at he
    have ho := ho.1 h2
    refine j_aload_n X 0 dX0_rollVerdict_77 rfl ?_
    refine j_iload_n X 2 dX0_rollVerdict_78 rfl ?_
    have h3 := ho.1
    have ho := ho.2
    refine j_callVi (rest := []) X (c_X0_rollerVerdict (cx_inj X) j0 hj0 v2 S h3) cw_X0_114 hj0.1 (cl_0 hj0) rfl ⟨rfl, rfl, Nat.le_of_ble_eq_true rfl, Nat.le_of_ble_eq_true rfl⟩ rfl rfl (Nat.le_of_ble_eq_true rfl) ⟨Nat.le_of_ble_eq_true rfl, Nat.le_of_ble_eq_true rfl⟩ dX0_rollVerdict_79 ?_
    refine j_istore X [(4, .int (b_X0_rollerVerdict_0 j0 v2 S)), (0, .ref (ad j0)), (1, .int v1), (2, .int v2)] dX0_rollVerdict_82 (by decide) rfl ?_
    refine j_lv [1, 2, 3, 0] [(0, .ref (ad j0)), (1, .int v1), (2, .int v2), (4, .int (b_X0_rollerVerdict_0 j0 v2 S))] rfl ?_
    exact t_X0_rollVerdict_84 X hr hlocks j0 hj0 v1 v2 (b_X0_rollerVerdict_0 j0 v2 S) S _ ho he
def b_X0_rollVerdict_0 (this : Nat) (x1 : Int32) (x2 : Int32) (x3 : Int32) (S : Sx) : Int32 := if (b_X0_horseVerdict_0 this x1 S) = 0 then if (b_X0_pitchVerdict_0 this x2 S) = 0 then if (b_X6_rangeVerdict_0 x3 1 6 S) = 0 then if (b_X0_bootsVerdict_0 this x1 S) = 0 then if (S (this + 11 + x1.toNatClampNeg) 2) ≤ 15 then b_X0_rollVerdict_72 this x1 x2 (b_X0_bootsVerdict_0 this x1 S) S else b_X0_rollVerdict_72 this x1 x2 (b_X6_refused_0 3 (S (this + 11 + x1.toNatClampNeg) 2) S) S else b_X0_rollVerdict_72 this x1 x2 (b_X0_bootsVerdict_0 this x1 S) S else (-2) else b_X0_rollVerdict_16 S else b_X0_rollVerdict_16 S
def o_X0_rollVerdict_0 (this : Nat) (x1 : Int32) (x2 : Int32) (x3 : Int32) (S : Sx) : Prop := ((b_X0_horseVerdict_0 this x1 S) = 0 → (((b_X0_pitchVerdict_0 this x2 S) = 0 → (((b_X6_rangeVerdict_0 x3 1 6 S) = 0 → (o_X0_bootsVerdict_0 this x1 S ∧ (((b_X0_bootsVerdict_0 this x1 S) = 0 → (vp_in x1 5 ∧ (((S (this + 11 + x1.toNatClampNeg) 2) ≤ 15 → (o_X0_rollVerdict_72 this x1 x2 (b_X0_bootsVerdict_0 this x1 S) S)) ∧ (¬ (S (this + 11 + x1.toNatClampNeg) 2) ≤ 15 → (vp_in x1 5 ∧ (o_X0_rollVerdict_72 this x1 x2 (b_X6_refused_0 3 (S (this + 11 + x1.toNatClampNeg) 2) S) S)))))) ∧ (¬ (b_X0_bootsVerdict_0 this x1 S) = 0 → (o_X0_rollVerdict_72 this x1 x2 (b_X0_bootsVerdict_0 this x1 S) S))))) ∧ (¬ (b_X6_rangeVerdict_0 x3 1 6 S) = 0 → True))) ∧ (¬ (b_X0_pitchVerdict_0 this x2 S) = 0 → True))) ∧ (¬ (b_X0_horseVerdict_0 this x1 S) = 0 → True)
set_option maxRecDepth 20000 in
theorem t_X0_rollVerdict_0 (X : Cx p m c cX0_rollVerdict 5 s args RX0 D q ad) (hr : meth.sig.returnType = some .int) (hlocks : meth.locks = false) (this : Nat) (hthis : isK 0 this) (x1 : Int32) (x2 : Int32) (x3 : Int32) (S : Sx) (rv : Int32) (ho : o_X0_rollVerdict_0 this x1 x2 x3 S) (he : b_X0_rollVerdict_0 this x1 x2 x3 S = rv) : Jg p l e rm_X0_rollVerdict s m args below meth c 0 0 (MQ below (Qi D q ad d rv S s.heap.size) args s 0 0 (AU ad s.heap.size)) D q ad d 5 0 [(0, .ref (ad this)), (1, .int x1), (2, .int x2), (3, .int x3)] [] S := by
  unfold b_X0_rollVerdict_0 at he
  unfold o_X0_rollVerdict_0 at ho
  refine j_aload_n X 0 dX0_rollVerdict_0 rfl ?_
  refine j_iload_n X 1 dX0_rollVerdict_1 rfl ?_
  refine j_callVi (rest := []) X (c_X0_horseVerdict (cx_inj X) this hthis x1 S) cw_X0_126 hthis.1 (cl_0 hthis) rfl ⟨rfl, rfl, Nat.le_of_ble_eq_true rfl, Nat.le_of_ble_eq_true rfl⟩ rfl rfl (Nat.le_of_ble_eq_true rfl) ⟨Nat.le_of_ble_eq_true rfl, Nat.le_of_ble_eq_true rfl⟩ dX0_rollVerdict_2 ?_
  refine j_if_ne X 16 dX0_rollVerdict_5 (by decide) (fun h2 => ?_) (fun h2 => ?_)
  · rw [if_neg h2] at he
    have ho := ho.2 h2
    refine j_lv [] [] rfl ?_
    exact t_X0_rollVerdict_16 X hr hlocks S _ he
  · rw [if_pos h2] at he
    have ho := ho.1 h2
    refine j_aload_n X 0 dX0_rollVerdict_8 rfl ?_
    refine j_iload_n X 2 dX0_rollVerdict_9 rfl ?_
    refine j_callVi (rest := []) X (c_X0_pitchVerdict (cx_inj X) this hthis x2 S) cw_X0_111 hthis.1 (cl_0 hthis) rfl ⟨rfl, rfl, Nat.le_of_ble_eq_true rfl, Nat.le_of_ble_eq_true rfl⟩ rfl rfl (Nat.le_of_ble_eq_true rfl) ⟨Nat.le_of_ble_eq_true rfl, Nat.le_of_ble_eq_true rfl⟩ dX0_rollVerdict_10 ?_
    refine j_if_eq X 18 dX0_rollVerdict_13 (by decide) (fun h3 => ?_) (fun h3 => ?_)
    · rw [if_pos h3] at he
      have ho := ho.1 h3
      refine j_iload_n X 3 dX0_rollVerdict_18 rfl ?_
      refine j_iconst (v := 1) X dX0_rollVerdict_19 (by decide) ?_
      refine j_bipush (v := 6) X dX0_rollVerdict_20 (by decide) ?_
      refine j_callNi (rest := []) X (c_X6_rangeVerdict (cx_inj X) x3 1 6 S) cw_X0_132 ⟨rfl, rfl, Nat.le_of_ble_eq_true rfl, Nat.le_of_ble_eq_true rfl⟩ rfl rfl (Nat.le_of_ble_eq_true rfl) ⟨Nat.le_of_ble_eq_true rfl, Nat.le_of_ble_eq_true rfl⟩ dX0_rollVerdict_22 ?_
      refine j_if_eq X 31 dX0_rollVerdict_25 (by decide) (fun h4 => ?_) (fun h4 => ?_)
      · rw [if_pos h4] at he
        have ho := ho.1 h4
        refine j_aload_n X 0 dX0_rollVerdict_31 rfl ?_
        refine j_iload_n X 1 dX0_rollVerdict_32 rfl ?_
        have h5 := ho.1
        have ho := ho.2
        refine j_callVi (rest := []) X (c_X0_bootsVerdict (cx_inj X) this hthis x1 S h5) cw_X0_136 hthis.1 (cl_0 hthis) rfl ⟨rfl, rfl, Nat.le_of_ble_eq_true rfl, Nat.le_of_ble_eq_true rfl⟩ rfl rfl (Nat.le_of_ble_eq_true rfl) ⟨Nat.le_of_ble_eq_true rfl, Nat.le_of_ble_eq_true rfl⟩ dX0_rollVerdict_33 ?_
        refine j_istore X [(4, .int (b_X0_bootsVerdict_0 this x1 S)), (0, .ref (ad this)), (1, .int x1), (2, .int x2), (3, .int x3)] dX0_rollVerdict_36 (by decide) rfl ?_
        refine j_iload X 0 dX0_rollVerdict_38 rfl ?_
        refine j_if_ne X 72 dX0_rollVerdict_40 (by decide) (fun h6 => ?_) (fun h6 => ?_)
        · rw [if_neg h6] at he
          have ho := ho.2 h6
          refine j_lv [1, 2, 3, 0] [(0, .ref (ad this)), (1, .int x1), (2, .int x2), (4, .int (b_X0_bootsVerdict_0 this x1 S))] rfl ?_
          exact t_X0_rollVerdict_72 X hr hlocks this hthis x1 x2 (b_X0_bootsVerdict_0 this x1 S) S _ ho he
        · rw [if_pos h6] at he
          have ho := ho.1 h6
          refine j_aload_n X 1 dX0_rollVerdict_43 rfl ?_
          refine gf_0_7 X m_fl_X0_30 hthis dX0_rollVerdict_44 ?_
          refine j_iload_n X 2 dX0_rollVerdict_47 rfl ?_
          have h7 := ho.1
          have ho := ho.2
          refine j_aald (a := ad (this + 11 + x1.toNatClampNeg)) X 2 (k0_5 hthis).1 (cl_5 (k0_5 hthis)) rfl h7 rfl dX0_rollVerdict_48 ?_
          have hk8 : isK 8 (this + 11 + x1.toNatClampNeg) := k0_8 hthis (vlt h7)
          refine gf_8_2 X m_fl_X0_139 hk8 dX0_rollVerdict_49 ?_
          refine j_bipush (v := 15) X dX0_rollVerdict_52 (by decide) ?_
          refine j_icmp_le X 72 dX0_rollVerdict_54 (by decide) (fun h9 => ?_) (fun h9 => ?_)
          · rw [if_pos h9] at he
            have ho := ho.1 h9
            refine j_lv [1, 2, 3, 0] [(0, .ref (ad this)), (1, .int x1), (2, .int x2), (4, .int (b_X0_bootsVerdict_0 this x1 S))] rfl ?_
            exact t_X0_rollVerdict_72 X hr hlocks this hthis x1 x2 (b_X0_bootsVerdict_0 this x1 S) S _ ho he
          · rw [if_neg h9] at he
            have ho := ho.2 h9
            refine j_iconst (v := 3) X dX0_rollVerdict_57 (by decide) ?_
            refine j_aload_n X 1 dX0_rollVerdict_58 rfl ?_
            refine gf_0_7 X m_fl_X0_30 hthis dX0_rollVerdict_59 ?_
            refine j_iload_n X 2 dX0_rollVerdict_62 rfl ?_
            have h10 := ho.1
            have ho := ho.2
            refine j_aald (a := ad (this + 11 + x1.toNatClampNeg)) X 2 (k0_5 hthis).1 (cl_5 (k0_5 hthis)) rfl h10 rfl dX0_rollVerdict_63 ?_
            have hk11 : isK 8 (this + 11 + x1.toNatClampNeg) := k0_8 hthis (vlt h10)
            refine gf_8_2 X m_fl_X0_139 hk11 dX0_rollVerdict_64 ?_
            refine j_callNi (rest := []) X (c_X6_refused (cx_inj X) 3 (S (this + 11 + x1.toNatClampNeg) 2) S) cw_X0_117 ⟨rfl, rfl, Nat.le_of_ble_eq_true rfl, Nat.le_of_ble_eq_true rfl⟩ rfl rfl (Nat.le_of_ble_eq_true rfl) ⟨Nat.le_of_ble_eq_true rfl, Nat.le_of_ble_eq_true rfl⟩ dX0_rollVerdict_67 ?_
            refine j_istore X [(4, .int (b_X6_refused_0 3 (S (this + 11 + x1.toNatClampNeg) 2) S)), (0, .ref (ad this)), (1, .int x1), (2, .int x2), (3, .int x3)] dX0_rollVerdict_70 (by decide) rfl ?_
            refine j_lv [1, 2, 3, 0] [(0, .ref (ad this)), (1, .int x1), (2, .int x2), (4, .int (b_X6_refused_0 3 (S (this + 11 + x1.toNatClampNeg) 2) S))] rfl ?_
            exact t_X0_rollVerdict_72 X hr hlocks this hthis x1 x2 (b_X6_refused_0 3 (S (this + 11 + x1.toNatClampNeg) 2) S) S _ ho he
      · rw [if_neg h4] at he
        have ho := ho.2 h4
        refine j_bipush (v := (-2)) X dX0_rollVerdict_28 (by decide) ?_
        exact j_iret X hr hlocks dX0_rollVerdict_30 he rfl
    · rw [if_neg h3] at he
      have ho := ho.2 h3
      refine j_lv [] [] rfl ?_
      exact t_X0_rollVerdict_16 X hr hlocks S _ he
theorem c_X0_rollVerdict {l : Launch} {D : va_G} {q : Nat → ClassId} {ad : Nat → Nat} {d : UInt64} (hI : inj4 ad) (this : Nat) (hthis : isK 0 this) (x1 : Int32) (x2 : Int32) (x3 : Int32) (S : Sx) (ho : o_X0_rollVerdict_0 this x1 x2 x3 S) : CI l yX0_rollVerdict cX0_rollVerdict 5 .int rm_X0_rollVerdict D q ad d [.ref (ad this), .int x1, .int x2, .int x3] S (b_X0_rollVerdict_0 this x1 x2 x3 S) S := ci_of hI (by decide +kernel) (Nat.le_of_ble_eq_true rfl) rfl (fun p e s m args below meth c X hr hlocks => t_X0_rollVerdict_0 X hr hlocks this hthis x1 x2 x3 S _ ho rfl)
end
/-! RX6.roomVerdict -/
abbrev rm_X6_roomVerdict : Room := { frames := 1, cells := 0, slots := 0, locals := 21 }
section
variable {p : Program} {l : Launch} {e : Env} {s : State} {m : MethodId} {args : Array Value} {below : List Frame} {meth : Method} {c : Code} {D : va_G} {q : Nat → ClassId} {ad : Nat → Nat} {d : UInt64}
def b_X6_roomVerdict_14 (w0 : Int32) (S : Sx) : Int32 := w0
set_option maxRecDepth 20000 in
theorem t_X6_roomVerdict_14 (X : Cx p m c cX6_roomVerdict 2 s args RX6 D q ad) (hr : meth.sig.returnType = some .int) (hlocks : meth.locks = false) (w0 : Int32) (S : Sx) (rv : Int32) (he : b_X6_roomVerdict_14 w0 S = rv) : Jg p l e rm_X6_roomVerdict s m args below meth c 0 0 (MQ below (Qi D q ad d rv S s.heap.size) args s 0 0 (AU ad s.heap.size)) D q ad d 2 14 [] [.int w0] S := by
  unfold b_X6_roomVerdict_14 at he
  exact j_iret X hr hlocks dX6_roomVerdict_14 he rfl
def b_X6_roomVerdict_0 (x0 : Int32) (x1 : Int32) (S : Sx) : Int32 := if x1 ≤ x0 then b_X6_roomVerdict_14 (b_X6_refused_0 1 x1 S) S else b_X6_roomVerdict_14 0 S
set_option maxRecDepth 20000 in
theorem t_X6_roomVerdict_0 (X : Cx p m c cX6_roomVerdict 2 s args RX6 D q ad) (hr : meth.sig.returnType = some .int) (hlocks : meth.locks = false) (x0 : Int32) (x1 : Int32) (S : Sx) (rv : Int32) (he : b_X6_roomVerdict_0 x0 x1 S = rv) : Jg p l e rm_X6_roomVerdict s m args below meth c 0 0 (MQ below (Qi D q ad d rv S s.heap.size) args s 0 0 (AU ad s.heap.size)) D q ad d 2 0 [(0, .int x0), (1, .int x1)] [] S := by
  unfold b_X6_roomVerdict_0 at he
  refine j_iload_n X 0 dX6_roomVerdict_0 rfl ?_
  refine j_iload_n X 1 dX6_roomVerdict_1 rfl ?_
  refine j_icmp_ge X 9 dX6_roomVerdict_2 (by decide) (fun h2 => ?_) (fun h2 => ?_)
  · rw [if_pos h2] at he
    refine j_iconst (v := 1) X dX6_roomVerdict_9 (by decide) ?_
    refine j_iload_n X 1 dX6_roomVerdict_10 rfl ?_
    refine j_callSi (rest := []) X (c_X6_refused (cx_inj X) 1 x1 S) cw_X6_374 ⟨rfl, rfl, Nat.le_of_ble_eq_true rfl, Nat.le_of_ble_eq_true rfl⟩ rfl rfl (Nat.le_of_ble_eq_true rfl) ⟨Nat.le_of_ble_eq_true rfl, Nat.le_of_ble_eq_true rfl⟩ dX6_roomVerdict_11 ?_
    refine j_lv [] [] rfl ?_
    exact t_X6_roomVerdict_14 X hr hlocks (b_X6_refused_0 1 x1 S) S _ he
  · rw [if_neg h2] at he
    refine j_iconst (v := 0) X dX6_roomVerdict_5 (by decide) ?_
    refine j_goto X 14 dX6_roomVerdict_6 (by decide) ?_
    refine j_lv [] [] rfl ?_
    exact t_X6_roomVerdict_14 X hr hlocks 0 S _ he
theorem c_X6_roomVerdict {l : Launch} {D : va_G} {q : Nat → ClassId} {ad : Nat → Nat} {d : UInt64} (hI : inj4 ad) (x0 : Int32) (x1 : Int32) (S : Sx) : CI l yX6_roomVerdict cX6_roomVerdict 2 .int rm_X6_roomVerdict D q ad d [.int x0, .int x1] S (b_X6_roomVerdict_0 x0 x1 S) S := ci_of hI (by decide +kernel) (Nat.le_of_ble_eq_true rfl) rfl (fun p e s m args below meth c X hr hlocks => t_X6_roomVerdict_0 X hr hlocks x0 x1 S _ rfl)
end
/-! RX0.inningsVerdict -/
abbrev rm_X0_inningsVerdict : Room := { frames := 3, cells := 0, slots := 0, locals := 68 }
section
variable {p : Program} {l : Launch} {e : Env} {s : State} {m : MethodId} {args : Array Value} {below : List Frame} {meth : Method} {c : Code} {D : va_G} {q : Nat → ClassId} {ad : Nat → Nat} {d : UInt64}
def b_X0_inningsVerdict_64 (w0 : Int32) (S : Sx) : Int32 := w0
set_option maxRecDepth 20000 in
theorem t_X0_inningsVerdict_64 (X : Cx p m c cX0_inningsVerdict 5 s args RX0 D q ad) (hr : meth.sig.returnType = some .int) (hlocks : meth.locks = false) (w0 : Int32) (S : Sx) (rv : Int32) (he : b_X0_inningsVerdict_64 w0 S = rv) : Jg p l e rm_X0_inningsVerdict s m args below meth c 0 0 (MQ below (Qi D q ad d rv S s.heap.size) args s 0 0 (AU ad s.heap.size)) D q ad d 5 64 [] [.int w0] S := by
  unfold b_X0_inningsVerdict_64 at he
  exact j_iret X hr hlocks dX0_inningsVerdict_64 he rfl
def b_X0_inningsVerdict_48 (j0 : Nat) (v1 : Int32) (v2 : Int32) (v4 : Int32) (S : Sx) : Int32 := if v4 = 0 then b_X0_inningsVerdict_64 (b_X0_callVerdict_0 j0 v2 v1 S) S else b_X0_inningsVerdict_64 v4 S
def o_X0_inningsVerdict_48 (j0 : Nat) (v1 : Int32) (v2 : Int32) (v4 : Int32) (S : Sx) : Prop := (v4 = 0 → (o_X0_callVerdict_0 j0 v2 v1 S ∧ True)) ∧ (¬ v4 = 0 → True)
set_option maxRecDepth 20000 in
theorem t_X0_inningsVerdict_48 (X : Cx p m c cX0_inningsVerdict 5 s args RX0 D q ad) (hr : meth.sig.returnType = some .int) (hlocks : meth.locks = false) (j0 : Nat) (hj0 : isK 0 j0) (v1 : Int32) (v2 : Int32) (v4 : Int32) (S : Sx) (rv : Int32) (ho : o_X0_inningsVerdict_48 j0 v1 v2 v4 S) (he : b_X0_inningsVerdict_48 j0 v1 v2 v4 S = rv) : Jg p l e rm_X0_inningsVerdict s m args below meth c 0 0 (MQ below (Qi D q ad d rv S s.heap.size) args s 0 0 (AU ad s.heap.size)) D q ad d 5 48 [(0, .ref (ad j0)), (1, .int v1), (2, .int v2), (4, .int v4)] [] S := by
  unfold b_X0_inningsVerdict_48 at he
  unfold o_X0_inningsVerdict_48 at ho
  refine j_iload X 3 dX0_inningsVerdict_48 rfl ?_
  refine j_if_ne X 62 dX0_inningsVerdict_50 (by decide) (fun h2 => ?_) (fun h2 => ?_)
  · rw [if_neg h2] at he
    have ho := ho.2 h2
    refine j_iload X 3 dX0_inningsVerdict_62 rfl ?_
    refine j_lv [] [] rfl ?_
    exact t_X0_inningsVerdict_64 X hr hlocks v4 S _ he
  · rw [if_pos h2] at he
    have ho := ho.1 h2
    refine j_aload_n X 0 dX0_inningsVerdict_53 rfl ?_
    refine j_iload_n X 2 dX0_inningsVerdict_54 rfl ?_
    refine j_iload_n X 1 dX0_inningsVerdict_55 rfl ?_
    have h3 := ho.1
    have ho := ho.2
    refine j_callVi (rest := []) X (c_X0_callVerdict (cx_inj X) j0 hj0 v2 v1 S h3) cw_X0_154 hj0.1 (cl_0 hj0) rfl ⟨rfl, rfl, Nat.le_of_ble_eq_true rfl, Nat.le_of_ble_eq_true rfl⟩ rfl rfl (Nat.le_of_ble_eq_true rfl) ⟨Nat.le_of_ble_eq_true rfl, Nat.le_of_ble_eq_true rfl⟩ dX0_inningsVerdict_56 ?_
    refine j_goto X 64 dX0_inningsVerdict_59 (by decide) ?_
    refine j_lv [] [] rfl ?_
    exact t_X0_inningsVerdict_64 X hr hlocks (b_X0_callVerdict_0 j0 v2 v1 S) S _ he
def b_X0_inningsVerdict_0 (this : Nat) (x1 : Int32) (x2 : Int32) (x3 : Int32) (S : Sx) : Int32 := if (b_X0_callerVerdict_0 this x2 x1 S) = 0 then if (b_X6_rangeVerdict_0 x3 6 120 S) = 0 then if (b_X6_roomVerdict_0 (S this 10) 12 S) = 0 then b_X0_inningsVerdict_48 this x1 x2 (b_X0_playVerdict_0 this x1 S) S else b_X0_inningsVerdict_48 this x1 x2 (b_X6_roomVerdict_0 (S this 10) 12 S) S else (-2) else (-1)
def o_X0_inningsVerdict_0 (this : Nat) (x1 : Int32) (x2 : Int32) (x3 : Int32) (S : Sx) : Prop := ((b_X0_callerVerdict_0 this x2 x1 S) = 0 → (((b_X6_rangeVerdict_0 x3 6 120 S) = 0 → (((b_X6_roomVerdict_0 (S this 10) 12 S) = 0 → (o_X0_playVerdict_0 this x1 S ∧ (o_X0_inningsVerdict_48 this x1 x2 (b_X0_playVerdict_0 this x1 S) S))) ∧ (¬ (b_X6_roomVerdict_0 (S this 10) 12 S) = 0 → (o_X0_inningsVerdict_48 this x1 x2 (b_X6_roomVerdict_0 (S this 10) 12 S) S)))) ∧ (¬ (b_X6_rangeVerdict_0 x3 6 120 S) = 0 → True))) ∧ (¬ (b_X0_callerVerdict_0 this x2 x1 S) = 0 → True)
set_option maxRecDepth 20000 in
theorem t_X0_inningsVerdict_0 (X : Cx p m c cX0_inningsVerdict 5 s args RX0 D q ad) (hr : meth.sig.returnType = some .int) (hlocks : meth.locks = false) (this : Nat) (hthis : isK 0 this) (x1 : Int32) (x2 : Int32) (x3 : Int32) (S : Sx) (rv : Int32) (ho : o_X0_inningsVerdict_0 this x1 x2 x3 S) (he : b_X0_inningsVerdict_0 this x1 x2 x3 S = rv) : Jg p l e rm_X0_inningsVerdict s m args below meth c 0 0 (MQ below (Qi D q ad d rv S s.heap.size) args s 0 0 (AU ad s.heap.size)) D q ad d 5 0 [(0, .ref (ad this)), (1, .int x1), (2, .int x2), (3, .int x3)] [] S := by
  unfold b_X0_inningsVerdict_0 at he
  unfold o_X0_inningsVerdict_0 at ho
  refine j_aload_n X 0 dX0_inningsVerdict_0 rfl ?_
  refine j_iload_n X 2 dX0_inningsVerdict_1 rfl ?_
  refine j_iload_n X 1 dX0_inningsVerdict_2 rfl ?_
  refine j_callVi (rest := []) X (c_X0_callerVerdict (cx_inj X) this hthis x2 x1 S) cw_X0_148 hthis.1 (cl_0 hthis) rfl ⟨rfl, rfl, Nat.le_of_ble_eq_true rfl, Nat.le_of_ble_eq_true rfl⟩ rfl rfl (Nat.le_of_ble_eq_true rfl) ⟨Nat.le_of_ble_eq_true rfl, Nat.le_of_ble_eq_true rfl⟩ dX0_inningsVerdict_3 ?_
  refine j_if_eq X 11 dX0_inningsVerdict_6 (by decide) (fun h2 => ?_) (fun h2 => ?_)
  · rw [if_pos h2] at he
    have ho := ho.1 h2
    refine j_iload_n X 3 dX0_inningsVerdict_11 rfl ?_
    refine j_bipush (v := 6) X dX0_inningsVerdict_12 (by decide) ?_
    refine j_bipush (v := 120) X dX0_inningsVerdict_14 (by decide) ?_
    refine j_callNi (rest := []) X (c_X6_rangeVerdict (cx_inj X) x3 6 120 S) cw_X0_132 ⟨rfl, rfl, Nat.le_of_ble_eq_true rfl, Nat.le_of_ble_eq_true rfl⟩ rfl rfl (Nat.le_of_ble_eq_true rfl) ⟨Nat.le_of_ble_eq_true rfl, Nat.le_of_ble_eq_true rfl⟩ dX0_inningsVerdict_16 ?_
    refine j_if_eq X 25 dX0_inningsVerdict_19 (by decide) (fun h3 => ?_) (fun h3 => ?_)
    · rw [if_pos h3] at he
      have ho := ho.1 h3
      refine j_aload_n X 0 dX0_inningsVerdict_25 rfl ?_
      refine gf_0_10 X m_fl_X0_64 hthis dX0_inningsVerdict_26 ?_
      refine j_bipush (v := 12) X dX0_inningsVerdict_29 (by decide) ?_
      refine j_callNi (rest := []) X (c_X6_roomVerdict (cx_inj X) (S this 10) 12 S) cw_X0_151 ⟨rfl, rfl, Nat.le_of_ble_eq_true rfl, Nat.le_of_ble_eq_true rfl⟩ rfl rfl (Nat.le_of_ble_eq_true rfl) ⟨Nat.le_of_ble_eq_true rfl, Nat.le_of_ble_eq_true rfl⟩ dX0_inningsVerdict_31 ?_
      refine j_istore X [(4, .int (b_X6_roomVerdict_0 (S this 10) 12 S)), (0, .ref (ad this)), (1, .int x1), (2, .int x2), (3, .int x3)] dX0_inningsVerdict_34 (by decide) rfl ?_
      refine j_iload X 0 dX0_inningsVerdict_36 rfl ?_
      refine j_if_ne X 48 dX0_inningsVerdict_38 (by decide) (fun h4 => ?_) (fun h4 => ?_)
      · rw [if_neg h4] at he
        have ho := ho.2 h4
        refine j_lv [1, 2, 3, 0] [(0, .ref (ad this)), (1, .int x1), (2, .int x2), (4, .int (b_X6_roomVerdict_0 (S this 10) 12 S))] rfl ?_
        exact t_X0_inningsVerdict_48 X hr hlocks this hthis x1 x2 (b_X6_roomVerdict_0 (S this 10) 12 S) S _ ho he
      · rw [if_pos h4] at he
        have ho := ho.1 h4
        refine j_aload_n X 1 dX0_inningsVerdict_41 rfl ?_
        refine j_iload_n X 2 dX0_inningsVerdict_42 rfl ?_
        have h5 := ho.1
        have ho := ho.2
        refine j_callVi (rest := []) X (c_X0_playVerdict (cx_inj X) this hthis x1 S h5) cw_X0_142 hthis.1 (cl_0 hthis) rfl ⟨rfl, rfl, Nat.le_of_ble_eq_true rfl, Nat.le_of_ble_eq_true rfl⟩ rfl rfl (Nat.le_of_ble_eq_true rfl) ⟨Nat.le_of_ble_eq_true rfl, Nat.le_of_ble_eq_true rfl⟩ dX0_inningsVerdict_43 ?_
        refine j_istore X [(4, .int (b_X0_playVerdict_0 this x1 S)), (0, .ref (ad this)), (1, .int x1), (2, .int x2), (3, .int x3)] dX0_inningsVerdict_46 (by decide) rfl ?_
        refine j_lv [1, 2, 3, 0] [(0, .ref (ad this)), (1, .int x1), (2, .int x2), (4, .int (b_X0_playVerdict_0 this x1 S))] rfl ?_
        exact t_X0_inningsVerdict_48 X hr hlocks this hthis x1 x2 (b_X0_playVerdict_0 this x1 S) S _ ho he
    · rw [if_neg h3] at he
      have ho := ho.2 h3
      refine j_bipush (v := (-2)) X dX0_inningsVerdict_22 (by decide) ?_
      exact j_iret X hr hlocks dX0_inningsVerdict_24 he rfl
  · rw [if_neg h2] at he
    have ho := ho.2 h2
    refine j_iconst (v := (-1)) X dX0_inningsVerdict_9 (by decide) ?_
    exact j_iret X hr hlocks dX0_inningsVerdict_10 he rfl
theorem c_X0_inningsVerdict {l : Launch} {D : va_G} {q : Nat → ClassId} {ad : Nat → Nat} {d : UInt64} (hI : inj4 ad) (this : Nat) (hthis : isK 0 this) (x1 : Int32) (x2 : Int32) (x3 : Int32) (S : Sx) (ho : o_X0_inningsVerdict_0 this x1 x2 x3 S) : CI l yX0_inningsVerdict cX0_inningsVerdict 5 .int rm_X0_inningsVerdict D q ad d [.ref (ad this), .int x1, .int x2, .int x3] S (b_X0_inningsVerdict_0 this x1 x2 x3 S) S := ci_of hI (by decide +kernel) (Nat.le_of_ble_eq_true rfl) rfl (fun p e s m args below meth c X hr hlocks => t_X0_inningsVerdict_0 X hr hlocks this hthis x1 x2 x3 S _ ho rfl)
end
/-! RX0.ballsVerdict -/
abbrev rm_X0_ballsVerdict : Room := { frames := 2, cells := 0, slots := 0, locals := 42 }
section
variable {p : Program} {l : Launch} {e : Env} {s : State} {m : MethodId} {args : Array Value} {below : List Frame} {meth : Method} {c : Code} {D : va_G} {q : Nat → ClassId} {ad : Nat → Nat} {d : UInt64}
def b_X0_ballsVerdict_21 (w0 : Int32) (S : Sx) : Int32 := w0
set_option maxRecDepth 20000 in
theorem t_X0_ballsVerdict_21 (X : Cx p m c cX0_ballsVerdict 4 s args RX0 D q ad) (hr : meth.sig.returnType = some .int) (hlocks : meth.locks = false) (w0 : Int32) (S : Sx) (rv : Int32) (he : b_X0_ballsVerdict_21 w0 S = rv) : Jg p l e rm_X0_ballsVerdict s m args below meth c 0 0 (MQ below (Qi D q ad d rv S s.heap.size) args s 0 0 (AU ad s.heap.size)) D q ad d 4 21 [] [.int w0] S := by
  unfold b_X0_ballsVerdict_21 at he
  exact j_iret X hr hlocks dX0_ballsVerdict_21 he rfl
def b_X0_ballsVerdict_0 (this : Nat) (x1 : Int32) (x2 : Int32) (S : Sx) : Int32 := if (b_X0_playedVerdict_0 this x1 S) = 0 then b_X0_ballsVerdict_21 (b_X6_rangeVerdict_0 x2 1 36 S) S else b_X0_ballsVerdict_21 (b_X0_playedVerdict_0 this x1 S) S
set_option maxRecDepth 20000 in
theorem t_X0_ballsVerdict_0 (X : Cx p m c cX0_ballsVerdict 4 s args RX0 D q ad) (hr : meth.sig.returnType = some .int) (hlocks : meth.locks = false) (this : Nat) (hthis : isK 0 this) (x1 : Int32) (x2 : Int32) (S : Sx) (rv : Int32) (he : b_X0_ballsVerdict_0 this x1 x2 S = rv) : Jg p l e rm_X0_ballsVerdict s m args below meth c 0 0 (MQ below (Qi D q ad d rv S s.heap.size) args s 0 0 (AU ad s.heap.size)) D q ad d 4 0 [(0, .ref (ad this)), (1, .int x1), (2, .int x2)] [] S := by
  unfold b_X0_ballsVerdict_0 at he
  refine j_aload_n X 0 dX0_ballsVerdict_0 rfl ?_
  refine j_iload_n X 1 dX0_ballsVerdict_1 rfl ?_
  refine j_callVi (rest := []) X (c_X0_playedVerdict (cx_inj X) this hthis x1 S) cw_X0_157 hthis.1 (cl_0 hthis) rfl ⟨rfl, rfl, Nat.le_of_ble_eq_true rfl, Nat.le_of_ble_eq_true rfl⟩ rfl rfl (Nat.le_of_ble_eq_true rfl) ⟨Nat.le_of_ble_eq_true rfl, Nat.le_of_ble_eq_true rfl⟩ dX0_ballsVerdict_2 ?_
  refine j_istore_n X [(3, .int (b_X0_playedVerdict_0 this x1 S)), (0, .ref (ad this)), (1, .int x1), (2, .int x2)] dX0_ballsVerdict_5 (by decide) rfl ?_
  refine j_iload_n X 0 dX0_ballsVerdict_6 rfl ?_
  refine j_if_ne X 20 dX0_ballsVerdict_7 (by decide) (fun h2 => ?_) (fun h2 => ?_)
  · rw [if_neg h2] at he
    refine j_iload_n X 0 dX0_ballsVerdict_20 rfl ?_
    refine j_lv [] [] rfl ?_
    exact t_X0_ballsVerdict_21 X hr hlocks (b_X0_playedVerdict_0 this x1 S) S _ he
  · rw [if_pos h2] at he
    refine j_iload_n X 3 dX0_ballsVerdict_10 rfl ?_
    refine j_iconst (v := 1) X dX0_ballsVerdict_11 (by decide) ?_
    refine j_bipush (v := 36) X dX0_ballsVerdict_12 (by decide) ?_
    refine j_callNi (rest := []) X (c_X6_rangeVerdict (cx_inj X) x2 1 36 S) cw_X0_132 ⟨rfl, rfl, Nat.le_of_ble_eq_true rfl, Nat.le_of_ble_eq_true rfl⟩ rfl rfl (Nat.le_of_ble_eq_true rfl) ⟨Nat.le_of_ble_eq_true rfl, Nat.le_of_ble_eq_true rfl⟩ dX0_ballsVerdict_14 ?_
    refine j_goto X 21 dX0_ballsVerdict_17 (by decide) ?_
    refine j_lv [] [] rfl ?_
    exact t_X0_ballsVerdict_21 X hr hlocks (b_X6_rangeVerdict_0 x2 1 36 S) S _ he
theorem c_X0_ballsVerdict {l : Launch} {D : va_G} {q : Nat → ClassId} {ad : Nat → Nat} {d : UInt64} (hI : inj4 ad) (this : Nat) (hthis : isK 0 this) (x1 : Int32) (x2 : Int32) (S : Sx) : CI l yX0_ballsVerdict cX0_ballsVerdict 4 .int rm_X0_ballsVerdict D q ad d [.ref (ad this), .int x1, .int x2] S (b_X0_ballsVerdict_0 this x1 x2 S) S := ci_of hI (by decide +kernel) (Nat.le_of_ble_eq_true rfl) rfl (fun p e s m args below meth c X hr hlocks => t_X0_ballsVerdict_0 X hr hlocks this hthis x1 x2 S _ rfl)
end

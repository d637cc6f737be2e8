/-! doubles and floats: no division here answers a NaN -/
theorem nan64 {a : UInt64} (h : FP.Core.dIsNaN a = false) : vf_n64 a := by
  have h1 : ¬ (9218868437227405312 < a.toNat % 2 ^ 63) := fun h2 => by rw [(FP.Core.isNaN_bits a).mpr h2] at h; cases h
  unfold vf_n64
  rw [UInt64.le_iff_toNat_le, UInt64.toNat_and]
  have e : (0x7fffffffffffffff : UInt64).toNat = 2 ^ 63 - 1 := by decide
  have e2 : (0x7ff0000000000000 : UInt64).toNat = 9218868437227405312 := by decide
  rw [e, e2, Nat.and_two_pow_sub_one_eq_mod]
  omega
theorem nan32 {a : UInt32} (h : FP.Core.fIsNaN a = false) : vf_n32 a := by
  have h1 : ¬ (2139095040 < a.toNat % 2 ^ 31) := fun h2 => by rw [(FP.Core.isNaN_bits32 a).mpr h2] at h; cases h
  unfold vf_n32
  rw [UInt32.le_iff_toNat_le, UInt32.toNat_and]
  have e : (0x7fffffff : UInt32).toNat = 2 ^ 31 - 1 := by decide
  have e2 : (0x7f800000 : UInt32).toNat = 2139095040 := by decide
  rw [e, e2, Nat.and_two_pow_sub_one_eq_mod]
  omega
theorem fn_ddiv {a b : Int32} (hb : ¬ b = 0) : FP.Core.dIsNaN (FP.ddiv (FP.i2d a) (FP.i2d b)) = false := FP.Core.ddiv_out (FP.Core.i2d_fin a).notNaN (FP.Core.i2d_fin b) (fun h => FP.Core.i2d_ne_zero hb ((FP.Core.zero_bits2 _).mp h))
theorem fn_fdiv {a b : Int32} (hb : ¬ b = 0) : FP.Core.fIsNaN (FP.fdiv (FP.i2f a) (FP.i2f b)) = false := FP.Core.fdiv_out (FP.Core.i2f_fin a).notNaN (FP.Core.i2f_fin b) (fun h => FP.Core.i2f_ne_zero hb ((FP.Core.zero_bits232 _).mp h))
theorem fn_f2d {a : UInt32} (h : FP.Core.fIsNaN a = false) : FP.Core.dIsNaN (FP.f2d a) = false := by
  unfold FP.f2d
  rw [if_neg (by rw [h]; decide)]
  exact FP.Core.f2d_out h
def Qd (D : va_G) (q : Nat → ClassId) (ad : Nat → Nat) (d : UInt64) (rv : UInt64) (S : Sx) (sz : Nat) : Array Value → State → Outcome → State → Prop := va_Qd (fun (r : UInt64) (_ : Unit) => r = rv) (fun _ t => va_P D vCl (wdU ad q d S) t.heap) (AU ad sz)
def Qf (D : va_G) (q : Nat → ClassId) (ad : Nat → Nat) (d : UInt64) (rv : UInt32) (S : Sx) (sz : Nat) : Array Value → State → Outcome → State → Prop := va_Qf (fun (r : UInt32) (_ : Unit) => r = rv) (fun _ t => va_P D vCl (wdU ad q d S) t.heap) (AU ad sz)
def CD (l : Launch) (y : MethodName) (code : ByteArray) (n : Nat) (rm : Room) (D : va_G) (q : Nat → ClassId) (ad : Nat → Nat) (d : UInt64) (av : List Value) (S : Sx) (rv : UInt64) (S' : Sx) : Prop := ∀ sz : Nat, Met l y (.code y code n (some .double) :: ALL) rm (Pq D q ad d av S sz) (Qd D q ad d rv S' sz) 0 0 (AU ad sz)
def CF (l : Launch) (y : MethodName) (code : ByteArray) (n : Nat) (rm : Room) (D : va_G) (q : Nat → ClassId) (ad : Nat → Nat) (d : UInt64) (av : List Value) (S : Sx) (rv : UInt32) (S' : Sx) : Prop := ∀ sz : Nat, Met l y (.code y code n (some .float) :: ALL) rm (Pq D q ad d av S sz) (Qf D q ad d rv S' sz) 0 0 (AU ad sz)
section JD
variable {p : Program} {l : Launch} {e : Env} {R : Room} {s : State} {m : MethodId} {args : Array Value} {below : List Frame} {meth : Method} {c : Code} {cells slots : Nat} {Q : State → Prop} {D : va_G} {q : Nat → ClassId} {ad : Nat → Nat} {d : UInt64} {nL : Nat} {sa : Nat → Nat}
variable {cc : ByteArray} {own : String} {pc : Nat} {lv lv' : List (Nat × Value)} {st rest : List Value} {S S' Sf : Sx} {mc ms : Nat} {xc : Nat}
theorem j_i2d (X : Cx p m c cc nL s args own D q ad) {x : Int32} (hd : decode cc pc = .ok (.i2d, 1)) (g : Jg p l e R s m args below meth c cells slots Q D q ad d nL (pc + 1) lv (.double (FP.i2d x) :: rest) S) : Jg p l e R s m args below meth c cells slots Q D q ad d nL pc lv (.int x :: rest) S := fun H locs ls hP hS hl => lv_i2d X.1 X.2.1 hd (g H locs ls hP hS hl)
theorem j_i2f (X : Cx p m c cc nL s args own D q ad) {x : Int32} (hd : decode cc pc = .ok (.i2f, 1)) (g : Jg p l e R s m args below meth c cells slots Q D q ad d nL (pc + 1) lv (.float (FP.i2f x) :: rest) S) : Jg p l e R s m args below meth c cells slots Q D q ad d nL pc lv (.int x :: rest) S := fun H locs ls hP hS hl => lv_i2f X.1 X.2.1 hd (g H locs ls hP hS hl)
theorem j_ddiv (X : Cx p m c cc nL s args own D q ad) {x y : UInt64} (hd : decode cc pc = .ok (.ddiv, 1)) (hn : FP.Core.dIsNaN (FP.ddiv x y) = false) (g : Jg p l e R s m args below meth c cells slots Q D q ad d nL (pc + 1) lv (.double (FP.ddiv x y) :: rest) S) : Jg p l e R s m args below meth c cells slots Q D q ad d nL pc lv (.double y :: .double x :: rest) S := fun H locs ls hP hS hl => lv_ddiv X.1 X.2.1 hd (nan64 hn) (g H locs ls hP hS hl)
theorem j_fdiv (X : Cx p m c cc nL s args own D q ad) {x y : UInt32} (hd : decode cc pc = .ok (.fdiv, 1)) (hn : FP.Core.fIsNaN (FP.fdiv x y) = false) (g : Jg p l e R s m args below meth c cells slots Q D q ad d nL (pc + 1) lv (.float (FP.fdiv x y) :: rest) S) : Jg p l e R s m args below meth c cells slots Q D q ad d nL pc lv (.float y :: .float x :: rest) S := fun H locs ls hP hS hl => lv_fdiv X.1 X.2.1 hd (nan32 hn) (g H locs ls hP hS hl)
theorem j_dconst (X : Cx p m c cc nL s args own D q ad) (hd : decode cc pc = .ok (.dconst 0, 1)) (g : Jg p l e R s m args below meth c cells slots Q D q ad d nL (pc + 1) lv (.double FP.dconst0 :: rest) S) : Jg p l e R s m args below meth c cells slots Q D q ad d nL pc lv rest S := fun H locs ls hP hS hl => lv_dconst0 X.1 X.2.1 hd (g H locs ls hP hS hl)
theorem j_fconst (X : Cx p m c cc nL s args own D q ad) (hd : decode cc pc = .ok (.fconst 0, 1)) (g : Jg p l e R s m args below meth c cells slots Q D q ad d nL (pc + 1) lv (.float FP.fconst0 :: rest) S) : Jg p l e R s m args below meth c cells slots Q D q ad d nL pc lv rest S := fun H locs ls hP hS hl => lv_fconst0 X.1 X.2.1 hd (g H locs ls hP hS hl)
theorem j_dretX (X : Cx p m c cc nL s args own D q ad) {v rv : UInt64} (hr : meth.sig.returnType = some .double) (hlocks : meth.locks = false) (hms : cells ≤ mc ∧ slots ≤ ms) (hd : decode cc pc = .ok (.dreturn, 1)) (hx : 0 = xc ∧ v = rv ∧ S = Sf) : Jg p l e R s m args below meth c cells slots (vx_MQ below (QdX D q ad d xc rv Sf s.heap.size) (XQ D q ad d xc Sf s.heap.size) args s mc ms (AU ad s.heap.size)) D q ad d nL pc lv [.double v] S := by
  intro H locs ls hP hS hl
  obtain ⟨rfl, rfl, rfl⟩ := hx
  exact W.widen hms.1 hms.2 (vx_ret (W.dret X.1 X.2.1 hr (fun t ht hW => ⟨⟨v, (), rfl, ⟨rfl, rfl⟩, by show va_P D vCl (wdU ad q d S) t.heap; rw [ht]; exact hP⟩, hS.F ht⟩) hS.2.2 hd hlocks))
theorem j_fretX (X : Cx p m c cc nL s args own D q ad) {v rv : UInt32} (hr : meth.sig.returnType = some .float) (hlocks : meth.locks = false) (hms : cells ≤ mc ∧ slots ≤ ms) (hd : decode cc pc = .ok (.freturn, 1)) (hx : 0 = xc ∧ v = rv ∧ S = Sf) : Jg p l e R s m args below meth c cells slots (vx_MQ below (QfX D q ad d xc rv Sf s.heap.size) (XQ D q ad d xc Sf s.heap.size) args s mc ms (AU ad s.heap.size)) D q ad d nL pc lv [.float v] S := by
  intro H locs ls hP hS hl
  obtain ⟨rfl, rfl, rfl⟩ := hx
  exact W.widen hms.1 hms.2 (vx_ret (W.fret X.1 X.2.1 hr (fun t ht hW => ⟨⟨v, (), rfl, ⟨rfl, rfl⟩, by show va_P D vCl (wdU ad q d S) t.heap; rw [ht]; exact hP⟩, hS.F ht⟩) hS.2.2 hd hlocks))
theorem j_dret (X : Cx p m c cc nL s args own D q ad) {v rv : UInt64} (hr : meth.sig.returnType = some .double) (hlocks : meth.locks = false) (hd : decode cc pc = .ok (.dreturn, 1)) (hx : v = rv ∧ S = Sf) : Jg p l e R s m args below meth c 0 0 (MQ below (Qd D q ad d rv Sf s.heap.size) args s 0 0 (AU ad s.heap.size)) D q ad d nL pc lv [.double v] S := by
  intro H locs ls hP hS hl
  obtain ⟨rfl, rfl⟩ := hx
  exact W.dret X.1 X.2.1 hr (fun t ht hW => ⟨⟨v, (), rfl, rfl, by show va_P D vCl (wdU ad q d S) t.heap; rw [ht]; exact hP⟩, hS.F ht⟩) hS.2.2 hd hlocks
theorem j_fret (X : Cx p m c cc nL s args own D q ad) {v rv : UInt32} (hr : meth.sig.returnType = some .float) (hlocks : meth.locks = false) (hd : decode cc pc = .ok (.freturn, 1)) (hx : v = rv ∧ S = Sf) : Jg p l e R s m args below meth c 0 0 (MQ below (Qf D q ad d rv Sf s.heap.size) args s 0 0 (AU ad s.heap.size)) D q ad d nL pc lv [.float v] S := by
  intro H locs ls hP hS hl
  obtain ⟨rfl, rfl⟩ := hx
  exact W.fret X.1 X.2.1 hr (fun t ht hW => ⟨⟨v, (), rfl, rfl, by show va_P D vCl (wdU ad q d S) t.heap; rw [ht]; exact hP⟩, hS.F ht⟩) hS.2.2 hd hlocks
end JD
theorem cxd_of {l : Launch} {y : MethodName} {code : ByteArray} {n : Nat} {rm : Room} {mc ms : Nat} {D : va_G} {q : Nat → ClassId} {ad : Nat → Nat} {d : UInt64} {sa : Nat → Nat} {av : List Value} {S S' : Sx} {xc : Nat} {rv : UInt64} {lv0 : List (Nat × Value)} (hI : inj4 ad) (hy : plainName y.cls = true) (hlen : (lg_sl av).length ≤ n) (hlv : lv_args 0 av = lv0)
    (body : ∀ (p : Program) (e : Env) (s : State) (m : MethodId) (args : Array Value) (below : List Frame) (meth : Method) (c : Code), Cx p m c code n s args y.cls D q ad → XF ad s.heap.size sa s → (∀ x ∈ c.exceptionTable.toList, False) → meth.sig.returnType = some .double → meth.locks = false → Jg p l e rm s m args below meth c 0 0 (vx_MQ below (QdX D q ad d xc rv S' s.heap.size) (XQ D q ad d xc S' s.heap.size) args s mc ms (AU ad s.heap.size)) D q ad d n 0 lv0 [] S) : CXd l y code n rm mc ms D q ad d sa av S xc rv S' := by
  intro sz
  refine vx_ofW (cc := code) (maxL := n) (ret := some .double) hy rfl ?_
  intro p e s m args below meth c s₁ B hml hnt hv
  obtain ⟨rfl, hsz, hP, hK, hN, hF⟩ := hv
  subst hsz
  have hts := atoms_spec (ws := .code y code n (some .double) :: ALL) B.pre
  have hown : s.vm.findClass y.cls = some m.cls := findClass_of_methodNamed B.named
  have hl := lv_entry av (n := n) hlen
  rw [hlv] at hl
  rw [lg_entry_eq]
  exact body p e s m _ below meth c ⟨B.exec, B.bytes, hml, hown, fun w h => hts w (List.mem_cons_of_mem _ h), hK, hN, hI⟩ hF hnt B.returns B.notSynchronized s.heap [] _ hP va_S.rf hl
theorem cxf_of {l : Launch} {y : MethodName} {code : ByteArray} {n : Nat} {rm : Room} {mc ms : Nat} {D : va_G} {q : Nat → ClassId} {ad : Nat → Nat} {d : UInt64} {sa : Nat → Nat} {av : List Value} {S S' : Sx} {xc : Nat} {rv : UInt32} {lv0 : List (Nat × Value)} (hI : inj4 ad) (hy : plainName y.cls = true) (hlen : (lg_sl av).length ≤ n) (hlv : lv_args 0 av = lv0)
    (body : ∀ (p : Program) (e : Env) (s : State) (m : MethodId) (args : Array Value) (below : List Frame) (meth : Method) (c : Code), Cx p m c code n s args y.cls D q ad → XF ad s.heap.size sa s → (∀ x ∈ c.exceptionTable.toList, False) → meth.sig.returnType = some .float → meth.locks = false → Jg p l e rm s m args below meth c 0 0 (vx_MQ below (QfX D q ad d xc rv S' s.heap.size) (XQ D q ad d xc S' s.heap.size) args s mc ms (AU ad s.heap.size)) D q ad d n 0 lv0 [] S) : CXf l y code n rm mc ms D q ad d sa av S xc rv S' := by
  intro sz
  refine vx_ofW (cc := code) (maxL := n) (ret := some .float) hy rfl ?_
  intro p e s m args below meth c s₁ B hml hnt hv
  obtain ⟨rfl, hsz, hP, hK, hN, hF⟩ := hv
  subst hsz
  have hts := atoms_spec (ws := .code y code n (some .float) :: ALL) B.pre
  have hown : s.vm.findClass y.cls = some m.cls := findClass_of_methodNamed B.named
  have hl := lv_entry av (n := n) hlen
  rw [hlv] at hl
  rw [lg_entry_eq]
  exact body p e s m _ below meth c ⟨B.exec, B.bytes, hml, hown, fun w h => hts w (List.mem_cons_of_mem _ h), hK, hN, hI⟩ hF hnt B.returns B.notSynchronized s.heap [] _ hP va_S.rf hl
theorem cd_of {l : Launch} {y : MethodName} {code : ByteArray} {n : Nat} {rm : Room} {D : va_G} {q : Nat → ClassId} {ad : Nat → Nat} {d : UInt64} {av : List Value} {S S' : Sx} {rv : UInt64} {lv0 : List (Nat × Value)} (hI : inj4 ad) (hy : plainFor y = true) (hlen : (lg_sl av).length ≤ n) (hlv : lv_args 0 av = lv0)
    (body : ∀ (p : Program) (e : Env) (s : State) (m : MethodId) (args : Array Value) (below : List Frame) (meth : Method) (c : Code), Cx p m c code n s args y.cls D q ad → meth.sig.returnType = some .double → meth.locks = false → Jg p l e rm s m args below meth c 0 0 (MQ below (Qd D q ad d rv S' s.heap.size) args s 0 0 (AU ad s.heap.size)) D q ad d n 0 lv0 [] S) : CD l y code n rm D q ad d av S rv S' := by
  intro sz
  refine ofWF (cc := code) (maxL := n) (ret := some .double) hy rfl ?_
  intro p e s m args below meth c s₁ B hml hv
  obtain ⟨rfl, hsz, hP, hK, hN⟩ := hv
  subst hsz
  have hts := atoms_spec (ws := .code y code n (some .double) :: ALL) B.pre
  have hown : s.vm.findClass y.cls = some m.cls := findClass_of_methodNamed B.named
  have hl := lv_entry av (n := n) hlen
  rw [hlv] at hl
  rw [lg_entry_eq]
  exact body p e s m _ below meth c ⟨B.exec, B.bytes, hml, hown, fun w h => hts w (List.mem_cons_of_mem _ h), hK, hN, hI⟩ B.returns B.notSynchronized s.heap [] _ hP va_S.rf hl
theorem cf_of {l : Launch} {y : MethodName} {code : ByteArray} {n : Nat} {rm : Room} {D : va_G} {q : Nat → ClassId} {ad : Nat → Nat} {d : UInt64} {av : List Value} {S S' : Sx} {rv : UInt32} {lv0 : List (Nat × Value)} (hI : inj4 ad) (hy : plainFor y = true) (hlen : (lg_sl av).length ≤ n) (hlv : lv_args 0 av = lv0)
    (body : ∀ (p : Program) (e : Env) (s : State) (m : MethodId) (args : Array Value) (below : List Frame) (meth : Method) (c : Code), Cx p m c code n s args y.cls D q ad → meth.sig.returnType = some .float → meth.locks = false → Jg p l e rm s m args below meth c 0 0 (MQ below (Qf D q ad d rv S' s.heap.size) args s 0 0 (AU ad s.heap.size)) D q ad d n 0 lv0 [] S) : CF l y code n rm D q ad d av S rv S' := by
  intro sz
  refine ofWF (cc := code) (maxL := n) (ret := some .float) hy rfl ?_
  intro p e s m args below meth c s₁ B hml hv
  obtain ⟨rfl, hsz, hP, hK, hN⟩ := hv
  subst hsz
  have hts := atoms_spec (ws := .code y code n (some .float) :: ALL) B.pre
  have hown : s.vm.findClass y.cls = some m.cls := findClass_of_methodNamed B.named
  have hl := lv_entry av (n := n) hlen
  rw [hlv] at hl
  rw [lg_entry_eq]
  exact body p e s m _ below meth c ⟨B.exec, B.bytes, hml, hown, fun w h => hts w (List.mem_cons_of_mem _ h), hK, hN, hI⟩ B.returns B.notSynchronized s.heap [] _ hP va_S.rf hl
abbrev rm_X6_meanRuns : Room := { frames := 6, cells := 1, slots := 6, locals := 102 }
abbrev rm_X6_wickets : Room := { frames := 6, cells := 1, slots := 6, locals := 102 }
def b_X6_meanRuns (S : Sx) : Nat × UInt64 × Sx := if S 15 10 = 0 then (6, 0, S) else (0, FP.ddiv (FP.i2d (b_X0_runsInInnings_0 15 S)) (FP.i2d (S 15 10)), S)
def o_X6_meanRuns (S : Sx) : Prop := o_X0_runsInInnings_0 15 S
def b_X6_wickets (S : Sx) : Nat × UInt32 × Sx := if b_X0_ballsInInnings_0 15 S = 0 then (6, 0, S) else (0, FP.fdiv (FP.i2f (b_X0_wicketsInInnings_0 15 S)) (FP.i2f (b_X0_ballsInInnings_0 15 S)), S)
def o_X6_wickets (S : Sx) : Prop := o_X0_ballsInInnings_0 15 S ∧ o_X0_wicketsInInnings_0 15 S
set_option maxRecDepth 20000 in
theorem c_X6_meanRuns {l : Launch} {D : va_G} {q : Nat → ClassId} {ad : Nat → Nat} {d : UInt64} {sa : Nat → Nat} (hst : l.stackTraces = false) (hI : inj4 ad) (S : Sx) (ho : o_X6_meanRuns S) : CXd l yX6_meanRuns cX6_meanRuns 1 rm_X6_meanRuns 1 6 D q ad d sa [.ref (ad 0)] S (b_X6_meanRuns S).1 (b_X6_meanRuns S).2.1 (b_X6_meanRuns S).2.2 := by
  unfold o_X6_meanRuns at ho
  refine cxd_of hI (by decide +kernel) (Nat.le_of_ble_eq_true rfl) rfl (fun p e s m args below meth c X F hnt hr hlocks => ?_)
  unfold b_X6_meanRuns
  refine j_aload_n X 0 dX6_meanRuns_0 rfl ?_
  refine gf_20_0 X m_fl_X6_10 kc20 dX6_meanRuns_1 ?_
  refine gf_0_10 X m_fl_X6_223 kg0 dX6_meanRuns_4 ?_
  refine j_if_ne X 21 dX6_meanRuns_7 (by decide) (fun h2 => ?_) (fun h2 => ?_)
  · rw [if_neg h2]
    refine j_aload_n X 0 dX6_meanRuns_21 rfl ?_
    refine gf_20_0 X m_fl_X6_10 kc20 dX6_meanRuns_22 ?_
    refine j_callVi (rest := []) X (c_X0_runsInInnings (cx_inj X) 15 kg0 S ho) cw_X6_318 kg0.1 (cl_0 kg0) rfl ⟨rfl, rfl, Nat.le_of_ble_eq_true rfl, Nat.le_of_ble_eq_true rfl⟩ rfl rfl (Nat.le_of_ble_eq_true rfl) ⟨Nat.le_of_ble_eq_true rfl, Nat.le_of_ble_eq_true rfl⟩ dX6_meanRuns_25 ?_
    refine j_i2d X dX6_meanRuns_28 ?_
    refine j_aload_n X 0 dX6_meanRuns_29 rfl ?_
    refine gf_20_0 X m_fl_X6_10 kc20 dX6_meanRuns_30 ?_
    refine gf_0_10 X m_fl_X6_223 kg0 dX6_meanRuns_33 ?_
    refine j_i2d X dX6_meanRuns_36 ?_
    refine j_ddiv X dX6_meanRuns_37 (fn_ddiv h2) ?_
    exact j_dretX X hr hlocks ⟨by decide, by decide⟩ dX6_meanRuns_38 ⟨rfl, rfl, rfl⟩
  · rw [if_pos h2]
    exact j_throwW X F hnt hlocks hst (k := 6) (by decide) ⟨by decide +kernel, by decide +kernel⟩ m_cl_X6_339 m_in_ArithmeticException m_sr_341 thA_6 thG_6 dX6_meanRuns_10 dX6_meanRuns_13 dX6_meanRuns_14 dX6_meanRuns_17 dX6_meanRuns_20 ⟨Nat.le_of_ble_eq_true rfl, Nat.le_of_ble_eq_true rfl, Nat.le_of_ble_eq_true rfl, Nat.le_of_ble_eq_true rfl⟩ ⟨by decide, by decide⟩ ⟨rfl, rfl⟩
set_option maxRecDepth 20000 in
theorem c_X6_wickets {l : Launch} {D : va_G} {q : Nat → ClassId} {ad : Nat → Nat} {d : UInt64} {sa : Nat → Nat} (hst : l.stackTraces = false) (hI : inj4 ad) (S : Sx) (ho : o_X6_wickets S) : CXf l yX6_wickets cX6_wickets 2 rm_X6_wickets 1 6 D q ad d sa [.ref (ad 0)] S (b_X6_wickets S).1 (b_X6_wickets S).2.1 (b_X6_wickets S).2.2 := by
  unfold o_X6_wickets at ho
  refine cxf_of hI (by decide +kernel) (Nat.le_of_ble_eq_true rfl) rfl (fun p e s m args below meth c X F hnt hr hlocks => ?_)
  unfold b_X6_wickets
  refine j_aload_n X 0 dX6_wickets_0 rfl ?_
  refine gf_20_0 X m_fl_X6_10 kc20 dX6_wickets_1 ?_
  refine j_callVi (rest := []) X (c_X0_ballsInInnings (cx_inj X) 15 kg0 S ho.1) cw_X6_315 kg0.1 (cl_0 kg0) rfl ⟨rfl, rfl, Nat.le_of_ble_eq_true rfl, Nat.le_of_ble_eq_true rfl⟩ rfl rfl (Nat.le_of_ble_eq_true rfl) ⟨Nat.le_of_ble_eq_true rfl, Nat.le_of_ble_eq_true rfl⟩ dX6_wickets_4 ?_
  refine j_istore_n X [(1, .int (b_X0_ballsInInnings_0 15 S)), (0, .ref (ad 0))] dX6_wickets_7 (by decide) rfl ?_
  refine j_iload_n X 0 dX6_wickets_8 rfl ?_
  refine j_if_ne X 23 dX6_wickets_9 (by decide) (fun h2 => ?_) (fun h2 => ?_)
  · rw [if_neg h2]
    refine j_aload_n X 1 dX6_wickets_23 rfl ?_
    refine gf_20_0 X m_fl_X6_10 kc20 dX6_wickets_24 ?_
    refine j_callVi (rest := []) X (c_X0_wicketsInInnings (cx_inj X) 15 kg0 S ho.2) cw_X6_321 kg0.1 (cl_0 kg0) rfl ⟨rfl, rfl, Nat.le_of_ble_eq_true rfl, Nat.le_of_ble_eq_true rfl⟩ rfl rfl (Nat.le_of_ble_eq_true rfl) ⟨Nat.le_of_ble_eq_true rfl, Nat.le_of_ble_eq_true rfl⟩ dX6_wickets_27 ?_
    refine j_i2f X dX6_wickets_30 ?_
    refine j_iload_n X 0 dX6_wickets_31 rfl ?_
    refine j_i2f X dX6_wickets_32 ?_
    refine j_fdiv X dX6_wickets_33 (fn_fdiv h2) ?_
    exact j_fretX X hr hlocks ⟨by decide, by decide⟩ dX6_wickets_34 ⟨rfl, rfl, rfl⟩
  · rw [if_pos h2]
    exact j_throwW X F hnt hlocks hst (k := 6) (by decide) ⟨by decide +kernel, by decide +kernel⟩ m_cl_X6_339 m_in_ArithmeticException m_sr_344 thA_6 thG_6 dX6_wickets_12 dX6_wickets_15 dX6_wickets_16 dX6_wickets_19 dX6_wickets_22 ⟨Nat.le_of_ble_eq_true rfl, Nat.le_of_ble_eq_true rfl, Nat.le_of_ble_eq_true rfl, Nat.le_of_ble_eq_true rfl⟩ ⟨by decide, by decide⟩ ⟨rfl, rfl⟩
abbrev rm_X7_meanRuns : Room := { frames := 2, cells := 0, slots := 0, locals := 60 }
abbrev rm_X7_wickets : Room := { frames := 2, cells := 0, slots := 0, locals := 60 }
def b_X7_meanRuns_16 (w : Int32) (S : Sx) : UInt64 × Sx := if (b_X7_fails_0 w S).1 = 0 then (FP.ddiv (FP.i2d (b_X7_sumOfInnings_0 4 (b_X7_fails_0 w S).2)) (FP.i2d ((b_X7_fails_0 w S).2 6 (106 : Int32).toNatClampNeg)), (b_X7_fails_0 w S).2) else (FP.dconst0, (b_X7_fails_0 w S).2)
def o_X7_meanRuns_16 (w : Int32) (S : Sx) : Prop := o_X7_fails_0 w S ∧ ((b_X7_fails_0 w S).1 = 0 → o_X7_sumOfInnings_0 4 (b_X7_fails_0 w S).2 ∧ ¬ (b_X7_fails_0 w S).2 6 (106 : Int32).toNatClampNeg = 0)
def b_X7_meanRuns (S : Sx) : UInt64 × Sx := if S 6 (106 : Int32).toNatClampNeg = 0 then b_X7_meanRuns_16 1 S else b_X7_meanRuns_16 0 S
def o_X7_meanRuns (S : Sx) : Prop := (S 6 (106 : Int32).toNatClampNeg = 0 → o_X7_meanRuns_16 1 S) ∧ (¬ S 6 (106 : Int32).toNatClampNeg = 0 → o_X7_meanRuns_16 0 S)
section
variable {p : Program} {l : Launch} {e : Env} {s : State} {m : MethodId} {args : Array Value} {below : List Frame} {meth : Method} {c : Code} {D : va_G} {q : Nat → ClassId} {ad : Nat → Nat} {d : UInt64}
set_option maxRecDepth 20000 in
theorem t_X7_meanRuns_16 (X : Cx p m c cX7_meanRuns 1 s args RX7 D q ad) (hr : meth.sig.returnType = some .double) (hlocks : meth.locks = false) (w : Int32) (S : Sx) (ho : o_X7_meanRuns_16 w S) : Jg p l e rm_X7_meanRuns s m args below meth c 0 0 (MQ below (Qd D q ad d (b_X7_meanRuns_16 w S).1 (b_X7_meanRuns_16 w S).2 s.heap.size) args s 0 0 (AU ad s.heap.size)) D q ad d 1 16 [(0, .ref (ad 5))] [.int w, .ref (ad 5)] S := by
  unfold o_X7_meanRuns_16 at ho
  unfold b_X7_meanRuns_16
  refine j_callVi (rest := []) X (c_X7_fails (cx_inj X) w S ho.1) cw_X7_70 kc25.1 (cl_25 kc25) rfl ⟨rfl, rfl, Nat.le_of_ble_eq_true rfl, Nat.le_of_ble_eq_true rfl⟩ rfl rfl (Nat.le_of_ble_eq_true rfl) ⟨Nat.le_of_ble_eq_true rfl, Nat.le_of_ble_eq_true rfl⟩ dX7_meanRuns_16 ?_
  refine j_if_eq X 26 dX7_meanRuns_19 (by decide) (fun h3 => ?_) (fun h3 => ?_)
  · rw [if_pos h3]
    have ho2 := ho.2 h3
    refine j_aload_n X 0 dX7_meanRuns_26 rfl ?_
    refine j_iconst (v := 4) X dX7_meanRuns_27 (by decide) ?_
    refine j_callVi (rest := []) X (c_X7_sumOfInnings (cx_inj X) 4 ((b_X7_fails_0 w S).2) ho2.1) cw_X7_218 kc25.1 (cl_25 kc25) rfl ⟨rfl, rfl, Nat.le_of_ble_eq_true rfl, Nat.le_of_ble_eq_true rfl⟩ rfl rfl (Nat.le_of_ble_eq_true rfl) ⟨Nat.le_of_ble_eq_true rfl, Nat.le_of_ble_eq_true rfl⟩ dX7_meanRuns_28 ?_
    refine j_i2d X dX7_meanRuns_31 ?_
    refine j_aload_n X 0 dX7_meanRuns_32 rfl ?_
    refine gf_25_0 X m_fl_X7_7 kc25 dX7_meanRuns_33 ?_
    refine j_bipush (v := 106) X dX7_meanRuns_36 (by decide) ?_
    refine j_iald X kc26.1 (cl_26 kc26) (by unfold vp_in; decide) dX7_meanRuns_38 ?_
    refine j_i2d X dX7_meanRuns_39 ?_
    refine j_ddiv X dX7_meanRuns_40 (fn_ddiv ho2.2) ?_
    exact j_dret X hr hlocks dX7_meanRuns_41 ⟨rfl, rfl⟩
  · rw [if_neg h3]
    refine j_dconst X dX7_meanRuns_22 ?_
    refine j_goto X 41 dX7_meanRuns_23 (by decide) ?_
    exact j_dret X hr hlocks dX7_meanRuns_41 ⟨rfl, rfl⟩
end
set_option maxRecDepth 20000 in
theorem c_X7_meanRuns {l : Launch} {D : va_G} {q : Nat → ClassId} {ad : Nat → Nat} {d : UInt64} (hI : inj4 ad) (S : Sx) (ho : o_X7_meanRuns S) : CD l yX7_meanRuns cX7_meanRuns 1 rm_X7_meanRuns D q ad d [.ref (ad 5)] S (b_X7_meanRuns S).1 (b_X7_meanRuns S).2 := by
  unfold o_X7_meanRuns at ho
  refine cd_of hI (by decide +kernel) (Nat.le_of_ble_eq_true rfl) rfl (fun p e s m args below meth c X hr hlocks => ?_)
  unfold b_X7_meanRuns
  refine j_aload_n X 0 dX7_meanRuns_0 rfl ?_
  refine j_aload_n X 0 dX7_meanRuns_1 rfl ?_
  refine gf_25_0 X m_fl_X7_7 kc25 dX7_meanRuns_2 ?_
  refine j_bipush (v := 106) X dX7_meanRuns_5 (by decide) ?_
  refine j_iald X kc26.1 (cl_26 kc26) (by unfold vp_in; decide) dX7_meanRuns_7 ?_
  refine j_if_ne X 15 dX7_meanRuns_8 (by decide) (fun h2 => ?_) (fun h2 => ?_)
  · rw [if_neg h2]
    refine j_iconst (v := 0) X dX7_meanRuns_15 (by decide) ?_
    exact t_X7_meanRuns_16 X hr hlocks 0 S (ho.2 h2)
  · rw [if_pos h2]
    refine j_iconst (v := 1) X dX7_meanRuns_11 (by decide) ?_
    refine j_goto X 16 dX7_meanRuns_12 (by decide) ?_
    exact t_X7_meanRuns_16 X hr hlocks 1 S (ho.1 h2)
def b_X7_wickets_14 (w : Int32) (S : Sx) : UInt32 × Sx := if (b_X7_fails_0 w S).1 = 0 then (FP.fdiv (FP.i2f (b_X7_sumOfInnings_0 5 (b_X7_fails_0 w S).2)) (FP.i2f (b_X7_sumOfInnings_0 3 (b_X7_fails_0 w S).2)), (b_X7_fails_0 w S).2) else (FP.fconst0, (b_X7_fails_0 w S).2)
def o_X7_wickets_14 (w : Int32) (S : Sx) : Prop := o_X7_fails_0 w S ∧ ((b_X7_fails_0 w S).1 = 0 → o_X7_sumOfInnings_0 5 (b_X7_fails_0 w S).2 ∧ o_X7_sumOfInnings_0 3 (b_X7_fails_0 w S).2 ∧ ¬ b_X7_sumOfInnings_0 3 (b_X7_fails_0 w S).2 = 0)
def b_X7_wickets (S : Sx) : UInt32 × Sx := if b_X7_sumOfInnings_0 3 S = 0 then b_X7_wickets_14 1 S else b_X7_wickets_14 0 S
def o_X7_wickets (S : Sx) : Prop := o_X7_sumOfInnings_0 3 S ∧ ((b_X7_sumOfInnings_0 3 S = 0 → o_X7_wickets_14 1 S) ∧ (¬ b_X7_sumOfInnings_0 3 S = 0 → o_X7_wickets_14 0 S))
section
variable {p : Program} {l : Launch} {e : Env} {s : State} {m : MethodId} {args : Array Value} {below : List Frame} {meth : Method} {c : Code} {D : va_G} {q : Nat → ClassId} {ad : Nat → Nat} {d : UInt64}
set_option maxRecDepth 20000 in
theorem t_X7_wickets_14 (X : Cx p m c cX7_wickets 1 s args RX7 D q ad) (hr : meth.sig.returnType = some .float) (hlocks : meth.locks = false) (w : Int32) (S : Sx) (ho : o_X7_wickets_14 w S) : Jg p l e rm_X7_wickets s m args below meth c 0 0 (MQ below (Qf D q ad d (b_X7_wickets_14 w S).1 (b_X7_wickets_14 w S).2 s.heap.size) args s 0 0 (AU ad s.heap.size)) D q ad d 1 14 [(0, .ref (ad 5))] [.int w, .ref (ad 5)] S := by
  unfold o_X7_wickets_14 at ho
  unfold b_X7_wickets_14
  refine j_callVi (rest := []) X (c_X7_fails (cx_inj X) w S ho.1) cw_X7_70 kc25.1 (cl_25 kc25) rfl ⟨rfl, rfl, Nat.le_of_ble_eq_true rfl, Nat.le_of_ble_eq_true rfl⟩ rfl rfl (Nat.le_of_ble_eq_true rfl) ⟨Nat.le_of_ble_eq_true rfl, Nat.le_of_ble_eq_true rfl⟩ dX7_wickets_14 ?_
  refine j_if_eq X 24 dX7_wickets_17 (by decide) (fun h3 => ?_) (fun h3 => ?_)
  · rw [if_pos h3]
    have ho2 := ho.2 h3
    refine j_aload_n X 0 dX7_wickets_24 rfl ?_
    refine j_iconst (v := 5) X dX7_wickets_25 (by decide) ?_
    refine j_callVi (rest := []) X (c_X7_sumOfInnings (cx_inj X) 5 ((b_X7_fails_0 w S).2) ho2.1) cw_X7_218 kc25.1 (cl_25 kc25) rfl ⟨rfl, rfl, Nat.le_of_ble_eq_true rfl, Nat.le_of_ble_eq_true rfl⟩ rfl rfl (Nat.le_of_ble_eq_true rfl) ⟨Nat.le_of_ble_eq_true rfl, Nat.le_of_ble_eq_true rfl⟩ dX7_wickets_26 ?_
    refine j_i2f X dX7_wickets_29 ?_
    refine j_aload_n X 0 dX7_wickets_30 rfl ?_
    refine j_iconst (v := 3) X dX7_wickets_31 (by decide) ?_
    refine j_callVi (rest := [.float (FP.i2f (b_X7_sumOfInnings_0 5 (b_X7_fails_0 w S).2))]) X (c_X7_sumOfInnings (cx_inj X) 3 ((b_X7_fails_0 w S).2) ho2.2.1) cw_X7_218 kc25.1 (cl_25 kc25) rfl ⟨rfl, rfl, Nat.le_of_ble_eq_true rfl, Nat.le_of_ble_eq_true rfl⟩ rfl rfl (Nat.le_of_ble_eq_true rfl) ⟨Nat.le_of_ble_eq_true rfl, Nat.le_of_ble_eq_true rfl⟩ dX7_wickets_32 ?_
    refine j_i2f X dX7_wickets_35 ?_
    refine j_fdiv X dX7_wickets_36 (fn_fdiv ho2.2.2) ?_
    exact j_fret X hr hlocks dX7_wickets_37 ⟨rfl, rfl⟩
  · rw [if_neg h3]
    refine j_fconst X dX7_wickets_20 ?_
    refine j_goto X 37 dX7_wickets_21 (by decide) ?_
    exact j_fret X hr hlocks dX7_wickets_37 ⟨rfl, rfl⟩
end
set_option maxRecDepth 20000 in
theorem c_X7_wickets {l : Launch} {D : va_G} {q : Nat → ClassId} {ad : Nat → Nat} {d : UInt64} (hI : inj4 ad) (S : Sx) (ho : o_X7_wickets S) : CF l yX7_wickets cX7_wickets 1 rm_X7_wickets D q ad d [.ref (ad 5)] S (b_X7_wickets S).1 (b_X7_wickets S).2 := by
  unfold o_X7_wickets at ho
  refine cf_of hI (by decide +kernel) (Nat.le_of_ble_eq_true rfl) rfl (fun p e s m args below meth c X hr hlocks => ?_)
  unfold b_X7_wickets
  refine j_aload_n X 0 dX7_wickets_0 rfl ?_
  refine j_aload_n X 0 dX7_wickets_1 rfl ?_
  refine j_iconst (v := 3) X dX7_wickets_2 (by decide) ?_
  refine j_callVi (rest := [.ref (ad 5)]) X (c_X7_sumOfInnings (cx_inj X) 3 S ho.1) cw_X7_218 kc25.1 (cl_25 kc25) rfl ⟨rfl, rfl, Nat.le_of_ble_eq_true rfl, Nat.le_of_ble_eq_true rfl⟩ rfl rfl (Nat.le_of_ble_eq_true rfl) ⟨Nat.le_of_ble_eq_true rfl, Nat.le_of_ble_eq_true rfl⟩ dX7_wickets_3 ?_
  refine j_if_ne X 13 dX7_wickets_6 (by decide) (fun h2 => ?_) (fun h2 => ?_)
  · rw [if_neg h2]
    refine j_iconst (v := 0) X dX7_wickets_13 (by decide) ?_
    exact t_X7_wickets_14 X hr hlocks 0 S (ho.2.2 h2)
  · rw [if_pos h2]
    refine j_iconst (v := 1) X dX7_wickets_9 (by decide) ?_
    refine j_goto X 14 dX7_wickets_10 (by decide) ?_
    exact t_X7_wickets_14 X hr hlocks 1 S (ho.2.1 h2)
/-! the law's two wrappers: what they leave in outD -/
def b_L_meanRuns (d : UInt64) (S : Sx) : Int32 × UInt64 × Sx := if (b_X6_meanRuns S).1 = 0 then (0, (b_X6_meanRuns S).2.1, (b_X6_meanRuns S).2.2) else (1, d, (b_X6_meanRuns S).2.2)
def o_L_meanRuns (S : Sx) : Prop := o_X6_meanRuns S ∧ ((b_X6_meanRuns S).1 = 0 ∨ (b_X6_meanRuns S).1 = 6)
abbrev rm_L_meanRuns : Room := { frames := 7, cells := 1, slots := 6, locals := 122 }
set_option maxRecDepth 20000 in
theorem c_L_meanRuns {l : Launch} {D : va_G} {q : Nat → ClassId} {ad : Nat → Nat} {d : UInt64} {sa : Nat → Nat} (hst : l.stackTraces = false) (hI : inj4 ad) (S : Sx) (ho : o_L_meanRuns S) : CIw l yL_meanRuns cL_meanRuns 3 [(0, 7, 10, 121)] rm_L_meanRuns 1 6 D q ad d (b_L_meanRuns d S).2.1 sa [.ref (ad 0), .ref (ad 14)] S (b_L_meanRuns d S).1 (b_L_meanRuns d S).2.2 := by
  unfold o_L_meanRuns at ho
  obtain ⟨ho1, ho⟩ := ho
  refine ciw_of hI (by decide +kernel) (Nat.le_of_ble_eq_true rfl) rfl (fun p e s m args below meth c X F htb hr hlocks => ?_)
  refine j_aload_n X 1 dL_meanRuns_0 rfl ?_
  refine j_iconst (v := 0) X dL_meanRuns_1 (by decide) ?_
  refine j_aload_n X 0 dL_meanRuns_2 rfl ?_
  refine j_callXdc (rest := [.int 0, .ref (ad 14)]) X F htb (c_X6_meanRuns hst hI S ho1) cw_L_117 kc20.1 (cl_20 kc20) rfl ⟨rfl, rfl, Nat.le_of_ble_eq_true rfl, Nat.le_of_ble_eq_true rfl⟩ rfl rfl (Nat.le_of_ble_eq_true rfl) ⟨Nat.le_of_ble_eq_true rfl, Nat.le_of_ble_eq_true rfl⟩ dL_meanRuns_3 (fun h0 => ?_) (fun h0 => ?_)
  · rcases ho with h | h
    · exact absurd h h0
    · refine ⟨10, ?_, fun q9 => ?_⟩
      · exact ctch_1 (by decide) (by decide) (by rw [h]; exact m_cl_L_121)
      · refine j_astore_n X [(2, .ref q9), (0, .ref (ad 0)), (1, .ref (ad 14))] dL_meanRuns_10 (by decide) rfl ?_
        refine j_iconst (v := 1) X dL_meanRuns_11 (by decide) ?_
        have e1 : b_L_meanRuns d S = (1, d, (b_X6_meanRuns S).2.2) := by simp [b_L_meanRuns, h]
        rw [e1]
        exact j_iretC X hr hlocks ⟨by decide, by decide⟩ dL_meanRuns_12 ⟨rfl, rfl⟩
  · have e1 : b_L_meanRuns d S = (0, (b_X6_meanRuns S).2.1, (b_X6_meanRuns S).2.2) := by simp [b_L_meanRuns, h0]
    rw [e1]
    refine j_outd X dL_meanRuns_6 ?_
    refine j_goto X 13 dL_meanRuns_7 (by decide) ?_
    refine j_iconst (v := 0) X dL_meanRuns_13 (by decide) ?_
    exact j_iretC X hr hlocks ⟨by decide, by decide⟩ dL_meanRuns_14 ⟨rfl, rfl⟩
def b_L_wickets (d : UInt64) (S : Sx) : Int32 × UInt64 × Sx := if (b_X6_wickets S).1 = 0 then (0, FP.f2d (b_X6_wickets S).2.1, (b_X6_wickets S).2.2) else (1, d, (b_X6_wickets S).2.2)
def o_L_wickets (S : Sx) : Prop := o_X6_wickets S ∧ ((b_X6_wickets S).1 = 0 ∨ (b_X6_wickets S).1 = 6) ∧ ((b_X6_wickets S).1 = 0 → FP.Core.fIsNaN (b_X6_wickets S).2.1 = false)
abbrev rm_L_wickets : Room := { frames := 7, cells := 1, slots := 6, locals := 123 }
set_option maxRecDepth 20000 in
theorem c_L_wickets {l : Launch} {D : va_G} {q : Nat → ClassId} {ad : Nat → Nat} {d : UInt64} {sa : Nat → Nat} (hst : l.stackTraces = false) (hI : inj4 ad) (S : Sx) (ho : o_L_wickets S) : CIw l yL_wickets cL_wickets 3 [(0, 8, 11, 121)] rm_L_wickets 1 6 D q ad d (b_L_wickets d S).2.1 sa [.ref (ad 0), .ref (ad 14)] S (b_L_wickets d S).1 (b_L_wickets d S).2.2 := by
  unfold o_L_wickets at ho
  obtain ⟨ho1, ho, hn⟩ := ho
  refine ciw_of hI (by decide +kernel) (Nat.le_of_ble_eq_true rfl) rfl (fun p e s m args below meth c X F htb hr hlocks => ?_)
  refine j_aload_n X 1 dL_wickets_0 rfl ?_
  refine j_iconst (v := 0) X dL_wickets_1 (by decide) ?_
  refine j_aload_n X 0 dL_wickets_2 rfl ?_
  refine j_callXfc (rest := [.int 0, .ref (ad 14)]) X F htb (c_X6_wickets hst hI S ho1) cw_L_123 kc20.1 (cl_20 kc20) rfl ⟨rfl, rfl, Nat.le_of_ble_eq_true rfl, Nat.le_of_ble_eq_true rfl⟩ rfl rfl (Nat.le_of_ble_eq_true rfl) ⟨Nat.le_of_ble_eq_true rfl, Nat.le_of_ble_eq_true rfl⟩ dL_wickets_3 (fun h0 => ?_) (fun h0 => ?_)
  · rcases ho with h | h
    · exact absurd h h0
    · refine ⟨11, ?_, fun q9 => ?_⟩
      · exact ctch_1 (by decide) (by decide) (by rw [h]; exact m_cl_L_121)
      · refine j_astore_n X [(2, .ref q9), (0, .ref (ad 0)), (1, .ref (ad 14))] dL_wickets_11 (by decide) rfl ?_
        refine j_iconst (v := 1) X dL_wickets_12 (by decide) ?_
        have e1 : b_L_wickets d S = (1, d, (b_X6_wickets S).2.2) := by simp [b_L_wickets, h]
        rw [e1]
        exact j_iretC X hr hlocks ⟨by decide, by decide⟩ dL_wickets_13 ⟨rfl, rfl⟩
  · have e1 : b_L_wickets d S = (0, FP.f2d (b_X6_wickets S).2.1, (b_X6_wickets S).2.2) := by simp [b_L_wickets, h0]
    rw [e1]
    refine j_f2d X dL_wickets_6 (nan64 (fn_f2d (hn h0))) ?_
    refine j_outd X dL_wickets_7 ?_
    refine j_goto X 14 dL_wickets_8 (by decide) ?_
    refine j_iconst (v := 0) X dL_wickets_14 (by decide) ?_
    exact j_iretC X hr hlocks ⟨by decide, by decide⟩ dL_wickets_15 ⟨rfl, rfl⟩

/-! rows of the law's wrappers: a call whose exception is caught here -/
theorem kd_d {k : Nat} (hk : k < 455) (h : k ≠ 14) : kd k = 0 ∨ kd k = 1 ∨ kd k = 2 ∨ kd k = 3 ∨ kd k = 4 ∨ kd k = 5 ∨ kd k = 6 ∨ kd k = 7 ∨ kd k = 8 ∨ kd k = 9 ∨ kd k = 10 ∨ kd k = 20 ∨ kd k = 21 ∨ kd k = 22 ∨ kd k = 23 ∨ kd k = 24 ∨ kd k = 25 ∨ kd k = 26 ∨ kd k = 27 ∨ kd k = 28 ∨ kd k = 29 ∨ kd k = 30 ∨ kd k = 31 ∨ kd k = 32 ∨ kd k = 33 := by
  unfold kd
  repeat' split
  all_goals omega
theorem cell_d {ad : Nat → Nat} {q : Nat → ClassId} {v d : UInt64} {S : Sx} {k : Nat} (hk : k < 455) (h : k ≠ 14) : cellU ad q v S k = cellU ad q d S k := by
  rcases kd_d hk h with h | h | h | h | h | h | h | h | h | h | h | h | h | h | h | h | h | h | h | h | h | h | h | h | h <;> (unfold cellU; rw [h]; rfl)
section JL
variable {p : Program} {l : Launch} {e : Env} {R : Room} {s : State} {m : MethodId} {args : Array Value} {below : List Frame} {meth : Method} {c : Code} {cells slots : Nat} {Q : State → Prop} {D : va_G} {q : Nat → ClassId} {ad : Nat → Nat} {d : UInt64} {nL : Nat} {sa : Nat → Nat}
variable {cc : ByteArray} {own : String} {pc : Nat} {lv lv' : List (Nat × Value)} {st : List Value} {S S' Sf : Sx} {mc ms : Nat} {xc : Nat}
def Ctch (hh : List (Nat × Nat × Nat × Nat)) (own : String) (pc xc hp : Nat) : Prop := ∃ (pre : List (Nat × Nat × Nat × Nat)) (x : Nat × Nat × Nat × Nat) (suf : List (Nat × Nat × Nat × Nat)), hh = pre ++ x :: suf ∧ (∀ z ∈ pre, z.2.2.2 ≠ 0 ∧ ∃ i, 1 ≤ i ∧ i ≤ 6 ∧ xc ≠ i ∧ Cond.classLink own z.2.2.2 (exN i) ∈ ALL) ∧ (x.1 ≤ pc ∧ pc < x.2.1) ∧ x.2.2.2 ≠ 0 ∧ Cond.classLink own x.2.2.2 (exN xc) ∈ ALL ∧ x.2.2.1 = hp
theorem ctch_1 {own : String} {pc xc a b hp t : Nat} {suf : List (Nat × Nat × Nat × Nat)} (h : a ≤ pc ∧ pc < b) (ht : t ≠ 0) (hl : Cond.classLink own t (exN xc) ∈ ALL) : Ctch ((a, b, hp, t) :: suf) own pc xc hp := ⟨[], (a, b, hp, t), suf, rfl, fun z hz => absurd hz List.not_mem_nil, h, ht, hl, rfl⟩
theorem ctch_s {hh : List (Nat × Nat × Nat × Nat)} {own : String} {pc xc a b h0 hp t i : Nat} (h : Ctch hh own pc xc hp) (ht : t ≠ 0) (hi : 1 ≤ i ∧ i ≤ 6) (hn : xc ≠ i) (hl : Cond.classLink own t (exN i) ∈ ALL) : Ctch ((a, b, h0, t) :: hh) own pc xc hp := by
  obtain ⟨pre, x, suf, e1, e2, e3⟩ := h
  refine ⟨(a, b, h0, t) :: pre, x, suf, by rw [e1]; rfl, fun z hz => ?_, e3⟩
  rcases List.mem_cons.mp hz with rfl | hz
  · exact ⟨ht, i, hi.1, hi.2, hn, hl⟩
  · exact e2 z hz
theorem j_catch (X : Cx p m c cc nL s args own D q ad) (F : XF ad s.heap.size sa s) {hh : List (Nat × Nat × Nat × Nat)} (htb : c.exceptionTable.toList = tableOf hh) {E : String} {ce : Cell} {q9 hp : Nat} {H1 : Heap} {locs1 : List Loc} {ls : Array Slot} {rest : List Value} {xc' : Nat} (hx : 1 ≤ xc' ∧ xc' ≤ 6) (hE : E = exN xc') (hC : Ctch hh own pc xc' hp) (hP1 : va_P D vCl (wdU ad q d S') H1) (hS1 : va_S (AU ad s.heap.size) s.heap H1 locs1) (hl : lv_has ls nL lv) (hce : H1[q9]? = some ce) (hcv : ce.vm = .none) (hcl : s.vm.findClass E = some ce.cls) (g : ∀ q9 : Nat, Jg p l e R s m args below meth c cells slots Q D q ad d nL hp lv [.ref q9] S') : vx_W p l e R s m args below meth c H1 locs1 cells slots Q (F0 m pc ls rest) q9 := by
  obtain ⟨pre, x, suf, e1, e2, e3, e4, e5, rfl⟩ := hC
  subst hE
  refine vx_catch (E := exN xc') (name := exN xc') X.2.2.2.1 (tableOf pre) ⟨x.1, x.2.1, x.2.2.1, x.2.2.2⟩ (tableOf suf) (by rw [htb, e1]; simp [tableOf]) (fun z hz => Or.inr ?_) (by show (decide (x.1 ≤ pc) && decide (pc < x.2.1)) = true; simp [e3.1, e3.2]) e4 (X.2.2.2.2.1 _ e5) (va_Nw.use rfl (F.2.2.2.1 xc' hx.1 hx.2)) hce hcv hcl (g q9 H1 locs1 ls hP1 hS1 hl)
  obtain ⟨z0, hz0, rfl⟩ := List.mem_map.mp hz
  obtain ⟨a1, i, i1, i2, i3, i4⟩ := e2 z0 hz0
  exact ⟨a1, exN i, X.2.2.2.2.1 _ i4, F.2.2.2.2.1 xc' i hx.1 hx.2 i1 i2 i3⟩
theorem j_callXic (X : Cx p m c cc nL s args own D q ad) (F : XF ad s.heap.size sa s) {hh : List (Nat × Nat × Nat × Nat)} (htb : c.exceptionTable.toList = tableOf hh) {index ci j n k N mc' ms' xc' : Nat} {C : String} {T : u_T} {fs As rest : List Value} {y : MethodName} {code : ByteArray} {ret : FieldType} {rm : Room} {rv : Int32} (hM : CXi l y code n ret rm mc' ms' D q ad d sa (.ref (ad j) :: As) S xc' rv S') (cw : CWv own index C y code n (some ret) k) (hj : j < 455) (hcell : cellU ad q d S j = .inr (ci, fs)) (hc : vCl[ci]? = some (C, T, N)) (hrm : rm.cells = mc' ∧ rm.slots = ms' ∧ rm.frames + 1 ≤ R.frames ∧ 8 + (n + 11) + rm.locals ≤ R.locals) (hn : As.length = k) (hst : st = As.reverse ++ .ref (ad j) :: rest) (hcat : (rest.map fun v => v.category).sum ≤ 8) (hcs : cells + mc' ≤ R.cells ∧ slots + ms' ≤ R.slots) (hd : decode cc pc = .ok (.invokevirtual index, 3)) (gx : ¬ xc' = 0 → ∃ hp, Ctch hh own pc xc' hp ∧ ∀ q9 : Nat, Jg p l e R s m args below meth c (cells + mc') (slots + ms') Q D q ad d nL hp lv [.ref q9] S') (g : xc' = 0 → Jg p l e R s m args below meth c (cells + mc') (slots + ms') Q D q ad d nL (pc + 3) lv (.int rv :: rest) S') : Jg p l e R s m args below meth c cells slots Q D q ad d nL pc lv st S := by
  intro H locs ls hP hS hl
  have X0 := X
  obtain ⟨hx, hb, hml, hown, hts, hK, hN, hI⟩ := X
  refine vx_calli (vx_runV ⟨hx, hb, hml, hown, hts⟩ (hM H.size) (cwV k hts (goodV cw) rfl hrm.1 hrm.2.1 cw.2.2.2.2.2 ⟨hrm.2.2.1, hrm.2.2.2⟩) ⟨PqX.blind, va_recv hK hP hc (by rw [wd_at hj, hcell]), (pqx_at F hS hK hN hP).2⟩ rfl hn hl.1 hst (lv_room hcat) hd hcs) hS (fun x _ h => au_keep hS x h) (au_keep hS) (fun x _ h => au_keep hS x h) (fun E ce q9 u t H1 locs1 ht _ hpx hBX _ _ hS1 hce hcv hcl => ?_) (fun r u t H1 locs1 ht _ hw hB _ _ hS1 => ?_)
  · obtain ⟨hE, hP1⟩ := hBX
    rw [ht] at hP1
    obtain ⟨hp, hC, g9⟩ := gx (by omega)
    exact j_catch X0 F htb hpx hE hC hP1 hS1 hl hce hcv hcl g9
  · obtain ⟨h0, rfl⟩ := hw
    rw [ht] at hB
    exact g h0 H1 locs1 ls hB hS1 hl
def QdX (D : va_G) (q : Nat → ClassId) (ad : Nat → Nat) (d : UInt64) (xc : Nat) (rv : UInt64) (S : Sx) (sz : Nat) : Array Value → State → Outcome → State → Prop := va_Qd (fun (r : UInt64) (_ : Unit) => xc = 0 ∧ r = rv) (fun _ t => va_P D vCl (wdU ad q d S) t.heap) (AU ad sz)
def QfX (D : va_G) (q : Nat → ClassId) (ad : Nat → Nat) (d : UInt64) (xc : Nat) (rv : UInt32) (S : Sx) (sz : Nat) : Array Value → State → Outcome → State → Prop := va_Qf (fun (r : UInt32) (_ : Unit) => xc = 0 ∧ r = rv) (fun _ t => va_P D vCl (wdU ad q d S) t.heap) (AU ad sz)
def CXd (l : Launch) (y : MethodName) (code : ByteArray) (n : Nat) (rm : Room) (mc ms : Nat) (D : va_G) (q : Nat → ClassId) (ad : Nat → Nat) (d : UInt64) (sa : Nat → Nat) (av : List Value) (S : Sx) (xc : Nat) (rv : UInt64) (S' : Sx) : Prop := ∀ sz : Nat, vx_Met l y (.code y code n (some .double) :: ALL) rm (PqX D q ad d sa av S sz) (QdX D q ad d xc rv S' sz) (XQ D q ad d xc S' sz) mc ms (AU ad sz)
def CXf (l : Launch) (y : MethodName) (code : ByteArray) (n : Nat) (rm : Room) (mc ms : Nat) (D : va_G) (q : Nat → ClassId) (ad : Nat → Nat) (d : UInt64) (sa : Nat → Nat) (av : List Value) (S : Sx) (xc : Nat) (rv : UInt32) (S' : Sx) : Prop := ∀ sz : Nat, vx_Met l y (.code y code n (some .float) :: ALL) rm (PqX D q ad d sa av S sz) (QfX D q ad d xc rv S' sz) (XQ D q ad d xc S' sz) mc ms (AU ad sz)
theorem j_callXdc (X : Cx p m c cc nL s args own D q ad) (F : XF ad s.heap.size sa s) {hh : List (Nat × Nat × Nat × Nat)} (htb : c.exceptionTable.toList = tableOf hh) {index ci j n k N mc' ms' xc' : Nat} {C : String} {T : u_T} {fs As rest : List Value} {y : MethodName} {code : ByteArray} {rm : Room} {rv : UInt64} (hM : CXd l y code n rm mc' ms' D q ad d sa (.ref (ad j) :: As) S xc' rv S') (cw : CWv own index C y code n (some .double) k) (hj : j < 455) (hcell : cellU ad q d S j = .inr (ci, fs)) (hc : vCl[ci]? = some (C, T, N)) (hrm : rm.cells = mc' ∧ rm.slots = ms' ∧ rm.frames + 1 ≤ R.frames ∧ 8 + (n + 11) + rm.locals ≤ R.locals) (hn : As.length = k) (hst : st = As.reverse ++ .ref (ad j) :: rest) (hcat : (rest.map fun v => v.category).sum ≤ 8) (hcs : cells + mc' ≤ R.cells ∧ slots + ms' ≤ R.slots) (hd : decode cc pc = .ok (.invokevirtual index, 3)) (gx : ¬ xc' = 0 → ∃ hp, Ctch hh own pc xc' hp ∧ ∀ q9 : Nat, Jg p l e R s m args below meth c (cells + mc') (slots + ms') Q D q ad d nL hp lv [.ref q9] S') (g : xc' = 0 → Jg p l e R s m args below meth c (cells + mc') (slots + ms') Q D q ad d nL (pc + 3) lv (.double rv :: rest) S') : Jg p l e R s m args below meth c cells slots Q D q ad d nL pc lv st S := by
  intro H locs ls hP hS hl
  have X0 := X
  obtain ⟨hx, hb, hml, hown, hts, hK, hN, hI⟩ := X
  refine vx_calld (vx_runV ⟨hx, hb, hml, hown, hts⟩ (hM H.size) (cwV k hts (goodV cw) rfl hrm.1 hrm.2.1 cw.2.2.2.2.2 ⟨hrm.2.2.1, hrm.2.2.2⟩) ⟨PqX.blind, va_recv hK hP hc (by rw [wd_at hj, hcell]), (pqx_at F hS hK hN hP).2⟩ rfl hn hl.1 hst (lv_room hcat) hd hcs) hS (fun x _ h => au_keep hS x h) (au_keep hS) (fun x _ h => au_keep hS x h) (fun E ce q9 u t H1 locs1 ht _ hpx hBX _ _ hS1 hce hcv hcl => ?_) (fun r u t H1 locs1 ht _ hw hB _ _ hS1 => ?_)
  · obtain ⟨hE, hP1⟩ := hBX
    rw [ht] at hP1
    obtain ⟨hp, hC, g9⟩ := gx (by omega)
    exact j_catch X0 F htb hpx hE hC hP1 hS1 hl hce hcv hcl g9
  · obtain ⟨h0, rfl⟩ := hw
    rw [ht] at hB
    exact g h0 H1 locs1 ls hB hS1 hl
theorem j_callXfc (X : Cx p m c cc nL s args own D q ad) (F : XF ad s.heap.size sa s) {hh : List (Nat × Nat × Nat × Nat)} (htb : c.exceptionTable.toList = tableOf hh) {index ci j n k N mc' ms' xc' : Nat} {C : String} {T : u_T} {fs As rest : List Value} {y : MethodName} {code : ByteArray} {rm : Room} {rv : UInt32} (hM : CXf l y code n rm mc' ms' D q ad d sa (.ref (ad j) :: As) S xc' rv S') (cw : CWv own index C y code n (some .float) k) (hj : j < 455) (hcell : cellU ad q d S j = .inr (ci, fs)) (hc : vCl[ci]? = some (C, T, N)) (hrm : rm.cells = mc' ∧ rm.slots = ms' ∧ rm.frames + 1 ≤ R.frames ∧ 8 + (n + 11) + rm.locals ≤ R.locals) (hn : As.length = k) (hst : st = As.reverse ++ .ref (ad j) :: rest) (hcat : (rest.map fun v => v.category).sum ≤ 8) (hcs : cells + mc' ≤ R.cells ∧ slots + ms' ≤ R.slots) (hd : decode cc pc = .ok (.invokevirtual index, 3)) (gx : ¬ xc' = 0 → ∃ hp, Ctch hh own pc xc' hp ∧ ∀ q9 : Nat, Jg p l e R s m args below meth c (cells + mc') (slots + ms') Q D q ad d nL hp lv [.ref q9] S') (g : xc' = 0 → Jg p l e R s m args below meth c (cells + mc') (slots + ms') Q D q ad d nL (pc + 3) lv (.float rv :: rest) S') : Jg p l e R s m args below meth c cells slots Q D q ad d nL pc lv st S := by
  intro H locs ls hP hS hl
  have X0 := X
  obtain ⟨hx, hb, hml, hown, hts, hK, hN, hI⟩ := X
  refine vx_callf (vx_runV ⟨hx, hb, hml, hown, hts⟩ (hM H.size) (cwV k hts (goodV cw) rfl hrm.1 hrm.2.1 cw.2.2.2.2.2 ⟨hrm.2.2.1, hrm.2.2.2⟩) ⟨PqX.blind, va_recv hK hP hc (by rw [wd_at hj, hcell]), (pqx_at F hS hK hN hP).2⟩ rfl hn hl.1 hst (lv_room hcat) hd hcs) hS (fun x _ h => au_keep hS x h) (au_keep hS) (fun x _ h => au_keep hS x h) (fun E ce q9 u t H1 locs1 ht _ hpx hBX _ _ hS1 hce hcv hcl => ?_) (fun r u t H1 locs1 ht _ hw hB _ _ hS1 => ?_)
  · obtain ⟨hE, hP1⟩ := hBX
    rw [ht] at hP1
    obtain ⟨hp, hC, g9⟩ := gx (by omega)
    exact j_catch X0 F htb hpx hE hC hP1 hS1 hl hce hcv hcl g9
  · obtain ⟨h0, rfl⟩ := hw
    rw [ht] at hB
    exact g h0 H1 locs1 ls hB hS1 hl
/-- i2l and lastore into out[0] -/
theorem j_outi (X : Cx p m c cc nL s args own D q ad) {v : Int32} {rest : List Value} (hd : decode cc pc = .ok (.i2l, 1)) (hd2 : decode cc (pc + 1) = .ok (.lastore, 1)) (g : Jg p l e R s m args below meth c cells slots Q D q ad d nL (pc + 2) lv rest (up2 S 13 0 v)) : Jg p l e R s m args below meth c cells slots Q D q ad d nL pc lv (.int v :: .int 0 :: .ref (ad 13) :: rest) S := by
  intro H locs ls hP hS hl
  obtain ⟨hx, hb, hml, hown, hts, hK, hN, hI⟩ := X
  refine lv_i2l hx hb hd rfl ?_
  refine va_last hx hb hK hP (wd_D hI) hS 13 6 (f := fun k => (S 13 k).toInt64) (n := 1) (by rw [wd_at (by decide)]; rfl) rfl (by unfold vp_in; decide) hd2 (fun H1 locs1 hP1 _ hS1 => ?_)
  rw [wd_set (S' := up2 S 13 0 v) (d' := d) (by decide) (fun i hi => cell_congr (up2_ne hi)) (by
    rw [cl_33 kc33]
    congr 5
    funext k
    simp only [up2_at, upd, vp_updL]
    by_cases hk : k = 0
    · subst hk; rfl
    · have : ¬ k = (0 : Int32).toNatClampNeg := hk
      simp [hk])] at hP1
  exact g H1 locs1 ls hP1 hS1 hl
theorem j_outd (X : Cx p m c cc nL s args own D q ad) {v : UInt64} {rest : List Value} (hd : decode cc pc = .ok (.dastore, 1)) (g : Jg p l e R s m args below meth c cells slots Q D q ad v nL (pc + 1) lv rest S) : Jg p l e R s m args below meth c cells slots Q D q ad d nL pc lv (.double v :: .int 0 :: .ref (ad 14) :: rest) S := by
  intro H locs ls hP hS hl
  obtain ⟨hx, hb, hml, hown, hts, hK, hN, hI⟩ := X
  refine va_dast hx hb hK hP (wd_D hI) hS 14 7 (f := fun _ => d) (n := 1) (by rw [wd_at (by decide)]; rfl) rfl (by unfold vp_in; decide) hd (fun H1 locs1 hP1 _ hS1 => ?_)
  have e1 : va_P D vCl (wdU ad q v S) H1 := by
    intro k x hk
    obtain ⟨hk1, rfl⟩ := wd_inv hk
    by_cases h14 : k = 14
    · subst h14
      have h2 := hP1 14 (ad 14, .inl (q 7, 1, .inr (.inr (.inr (.inl (vf_upd (fun _ => d) (0 : Int32).toNatClampNeg v)))))) (List.getElem?_set_self (by simp [wdU]))
      have h3 : H1[ad 14]? = some (vp_cell (q 7) (1, .inr (.inr (.inr (.inl (vf_upd (fun _ => d) (0 : Int32).toNatClampNeg v)))))) := h2
      show H1[ad 14]? = some (vp_cell (q 7) (1, .inr (.inr (.inr (.inl (fun _ => v))))))
      rw [h3]
      rfl
    · have h2 := hP1 k (ad k, cellU ad q d S k) (by rw [List.getElem?_set_ne (Ne.symm h14), wd_at hk1])
      have h3 : cellU ad q v S k = cellU ad q d S k := cell_d hk1 h14
      rw [h3]
      exact h2
  exact g H1 locs1 ls e1 hS1 hl
theorem j_f2d (X : Cx p m c cc nL s args own D q ad) {x : UInt32} {rest : List Value} (hd : decode cc pc = .ok (.f2d, 1)) (hne : vf_n64 (FP.f2d x)) (g : Jg p l e R s m args below meth c cells slots Q D q ad d nL (pc + 1) lv (.double (FP.f2d x) :: rest) S) : Jg p l e R s m args below meth c cells slots Q D q ad d nL pc lv (.float x :: rest) S := fun H locs ls hP hS hl => lv_f2d X.1 X.2.1 hd hne (g H locs ls hP hS hl)
theorem j_iretC (X : Cx p m c cc nL s args own D q ad) {v rv : Int32} (hr : meth.sig.returnType = some .int) (hlocks : meth.locks = false) (hms : cells ≤ mc ∧ slots ≤ ms) (hd : decode cc pc = .ok (.ireturn, 1)) (hx : v = rv ∧ S = Sf) : Jg p l e R s m args below meth c cells slots (MQ below (Qi D q ad d rv Sf s.heap.size) args s mc ms (AU ad s.heap.size)) D q ad d nL pc lv [.int v] S := by
  intro H locs ls hP hS hl
  obtain ⟨rfl, rfl⟩ := hx
  exact W.widen hms.1 hms.2 (W.iret X.1 X.2.1 hr (fun t ht hW => ⟨⟨v, (), rfl, rfl, by show va_P D vCl (wdU ad q d S) t.heap; rw [ht]; exact hP⟩, hS.F ht⟩) hS.2.2 hd hlocks)
end JL
/-- a wrapper's contract -/
def CIw (l : Launch) (y : MethodName) (code : ByteArray) (n : Nat) (hh : List (Nat × Nat × Nat × Nat)) (rm : Room) (mc ms : Nat) (D : va_G) (q : Nat → ClassId) (ad : Nat → Nat) (d d' : UInt64) (sa : Nat → Nat) (av : List Value) (S : Sx) (rv : Int32) (S' : Sx) : Prop := ∀ sz : Nat, Met l y (.codeWith y code n (some .int) hh :: ALL) rm (PqX D q ad d sa av S sz) (Qi D q ad d' rv S' sz) mc ms (AU ad sz)
theorem ciw_of {l : Launch} {y : MethodName} {code : ByteArray} {n : Nat} {hh : List (Nat × Nat × Nat × Nat)} {rm : Room} {mc ms : Nat} {D : va_G} {q : Nat → ClassId} {ad : Nat → Nat} {d d' : UInt64} {sa : Nat → Nat} {av : List Value} {S S' : Sx} {rv : Int32} {lv0 : List (Nat × Value)} (hI : inj4 ad) (hy : plainFor y = true) (hlen : (lg_sl av).length ≤ n) (hlv : lv_args 0 av = lv0)
    (body : ∀ (p : Program) (e : Env) (s : State) (m : MethodId) (args : Array Value) (below : List Frame) (meth : Method) (c : Code), Cx p m c code n s args y.cls D q ad → XF ad s.heap.size sa s → c.exceptionTable.toList = tableOf hh → meth.sig.returnType = some .int → meth.locks = false → Jg p l e rm s m args below meth c 0 0 (MQ below (Qi D q ad d' rv S' s.heap.size) args s mc ms (AU ad s.heap.size)) D q ad d n 0 lv0 [] S) : CIw l y code n hh rm mc ms D q ad d d' sa av S rv S' := by
  intro sz
  refine MetFree.of_bodySF (code := code) (maxLocals := n) (ret := some .int) hy ?_ ?_
  · intro args s m h hn
    obtain ⟨m9, meth9, c9, hn9, h1, h2, h3, h4, h5, h6, h7, -⟩ := Cond.codeWith_spec (atoms_spec (ws := .codeWith y code n (some .int) hh :: ALL) h _ List.mem_cons_self)
    cases Option.some.inj (hn9.symm.trans hn)
    exact ⟨meth9, c9, h1, h2, h3, h4, h6, h7⟩
  · intro p e s m args below meth c s₁ B hml hv _
    obtain ⟨rfl, hsz, hP, hK, hN, hF⟩ := hv
    subst hsz
    have hts := atoms_spec (ws := .codeWith y code n (some .int) hh :: ALL) B.pre
    have hown : s.vm.findClass y.cls = some m.cls := findClass_of_methodNamed B.named
    have hl := lv_entry av (n := n) hlen
    rw [hlv] at hl
    have hh0 : s₁.heap = s.heap := by rw [B.state]; rfl
    have htb := vx_table (x := y) B (hts _ List.mem_cons_self)
    have K : W p l e rm s m av.toArray below meth c s.heap [] 0 0 (MQ below (Qi D q ad d' rv S' s.heap.size) av.toArray s mc ms (AU ad s.heap.size)) (entryFrame m av.toArray n) := by
      rw [lg_entry_eq]
      exact body p e s m _ below meth c ⟨B.exec, B.bytes, hml, hown, fun w h => hts w (List.mem_cons_of_mem _ h), hK, hN, hI⟩ hF htb B.returns B.notSynchronized s.heap [] _ hP va_S.rf hl
    obtain ⟨t, a1, o, b1, b2, b3⟩ := K s₁ hh0 (Stand.of_body B)
    exact ⟨t, o, a1, b1, b2, ⟨b3.1, b3.2⟩⟩

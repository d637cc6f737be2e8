/-! THE LAW'S BODY: its rows -/
def lv0 (b : Nat) (ad : Nat → Nat) (i : Nat) : List (Nat × Value) := [(5, .int (nI i)), (0, .ref b), (1, .ref (ad 0)), (2, .ref (ad 5)), (3, .ref (ad 13)), (4, .ref (ad 14))]
def bx (x : Int32) : Int32 := if x = 0 then 0 else 1
theorem bz_bx {x : Int32} : bz (bx x) := by
  unfold bx
  by_cases h : x = 0
  · rw [if_pos h]; exact bz_0
  · rw [if_neg h]; exact bz_1
theorem lg_cmp_self (x : Int64) : lg_cmp x x = 0 := by simp [lg_cmp]
section LR
variable {p : Program} {l : Launch} {e : Env} {R : Room} {s : State} {m : MethodId} {args : Array Value} {below : List Frame} {meth : Method} {c : Code} {cells slots : Nat} {Q : State → Prop} {D : va_G} {q : Nat → ClassId} {ad : Nat → Nat} {d : UInt64} {nL : Nat} {sa : Nat → Nat}
variable {cc : ByteArray} {own : String} {pc : Nat} {lv lv' : List (Nat × Value)} {st : List Value} {S S' : Sx}
def Scr (b L : Nat) (xs : Nat → Int32) (ad : Nat → Nat) (s : State) : Prop := va_X b L xs s s.heap ∧ b < s.heap.size ∧ ¬ AU ad s.heap.size b ∧ L ≤ 2048
theorem j_wide {k n : Nat} (h1 : cells ≤ k) (h2 : slots ≤ n) (g : Jg p l e R s m args below meth c k n Q D q ad d nL pc lv st S) : Jg p l e R s m args below meth c cells slots Q D q ad d nL pc lv st S := fun H locs ls hP hS hl => W.widen h1 h2 (g H locs ls hP hS hl)
theorem lw_call (X : Cx p m c cc nL s args own D q ad) (F : XF ad s.heap.size sa s) {index n k mc' ms' : Nat} {As rest : List Value} {y : MethodName} {code : ByteArray} {hh : List (Nat × Nat × Nat × Nat)} {rm : Room} {rv : Int32} {d' : UInt64} (hM : CIw l y code n hh rm mc' ms' D q ad d d' sa As S rv S') (h1 : Cond.methodLink own index y ∈ ALL) (h2 : Cond.static y ∈ ALL) (h3 : Cond.initialized y.cls ∈ ALL) (h4 : Cond.codeWith y code n (some .int) hh ∈ ALL) (h5 : y.cls ≠ "java/lang/invoke/MethodHandle" ∧ y.cls ≠ "java/lang/invoke/VarHandle" ∧ (parseMethodDescriptor y.desc).map (fun d => d.parameters.length) = some k) (hrm : rm.cells = mc' ∧ rm.slots = ms' ∧ rm.frames + 1 ≤ R.frames ∧ 8 + (n + 11) + rm.locals ≤ R.locals) (hn : As.length = k) (hst : st = As.reverse ++ rest) (hcat : (rest.map fun v => v.category).sum ≤ 8) (hcs : cells + mc' ≤ R.cells ∧ slots + ms' ≤ R.slots) (hd : decode cc pc = .ok (.invokestatic index, 3)) (g : Jg p l e R s m args below meth c (cells + mc') (slots + ms') Q D q ad d' nL (pc + 3) lv (.int rv :: rest) S') : Jg p l e R s m args below meth c cells slots Q D q ad d nL pc lv st S := by
  intro H locs ls hP hS hl
  obtain ⟨hx, hb, hml, hown, hts, hK, hN, hI⟩ := X
  have good : GoodIn ALL (va_wsS own index y (.codeWith y code n (some .int) hh :: ALL)) := by
    intro v hv
    rcases List.mem_append.mp hv with h | h
    · simp only [List.mem_cons, List.not_mem_nil, or_false] at h
      rcases h with rfl | rfl | rfl
      · exact good_all h1
      · exact good_all h2
      · exact good_all h3
    · exact good_cons h4 v h
  refine va_calli (vx_runSW ⟨hx, hb, hml, hown, hts⟩ (hM H.size) (vx_cwSW k hts good rfl hrm.1 hrm.2.1 h5 ⟨hrm.2.2.1, hrm.2.2.2⟩) (pqx_at F hS hK hN hP) rfl hn hl.1 hst (lv_room hcat) hd hcs) hS (fun x _ h => au_keep hS x h) (au_keep hS) (fun r u t H1 locs1 ht _ hw hB _ _ hS1 => ?_)
  subst hw
  rw [ht] at hB
  exact g H1 locs1 ls hB hS1 hl
theorem lw_arg (X : Cx p m c cc nL s args own D q ad) {b L i : Nat} {xs : Nat → Int32} (C : Scr b L xs ad s) (k i0 i5 : Nat) {z : Int} (hd0 : decode cc pc = .ok (.aload_n 0, 1)) (hd1 : decode cc (pc + 1) = .ok (.iload 5, 2)) (hd2 : decode cc (pc + 3) = .ok (.iconst z, 1)) (hz : Int32.ofInt z = nI k) (hd3 : decode cc (pc + 4) = .ok (.iadd, 1)) (hd4 : decode cc (pc + 5) = .ok (.iaload, 1)) (h0 : lv[i0]? = some (0, .ref b)) (h5 : lv[i5]? = some (5, .int (nI i))) (hi : i + k < L) (g : Jg p l e R s m args below meth c cells slots Q D q ad d nL (pc + 6) lv (.int (xs (i + k)) :: st) S) : Jg p l e R s m args below meth c cells slots Q D q ad d nL pc lv st S := by
  refine j_aload_n X i0 hd0 h0 ?_
  refine j_iload X i5 hd1 h5 ?_
  refine j_iconst X hd2 hz ?_
  refine j_iadd X hd3 ?_
  rw [nI_add]
  intro H locs ls hP hS hl
  have hL := C.2.2.2
  refine va_sld X.1 X.2.1 C.1 C.2.1 C.2.2.1 hS (vp_in_nI hi (by omega)) hd4 ?_
  rw [nI_clamp (by omega)]
  exact g H locs ls hP hS hl
theorem lw_bool (X : Cx p m c cc nL s args own D q ad) {x : Int32} (hd0 : decode cc pc = .ok (.ifCond .eq 7, 3)) (hd1 : decode cc (pc + 3) = .ok (.iconst 1, 1)) (hd2 : decode cc (pc + 4) = .ok (.goto 4, 3)) (hd3 : decode cc (pc + 7) = .ok (.iconst 0, 1)) (g : Jg p l e R s m args below meth c cells slots Q D q ad d nL (pc + 8) lv (.int (bx x) :: st) S) : Jg p l e R s m args below meth c cells slots Q D q ad d nL pc lv (.int x :: st) S := by
  refine j_if_eq X (pc + 7) hd0 (by omega) (fun h => ?_) (fun h => ?_)
  · refine j_iconst (v := 0) X hd3 (by decide) ?_
    have e : bx x = 0 := if_pos h
    rw [e] at g
    exact g
  · refine j_iconst (v := 1) X hd1 (by decide) ?_
    refine j_goto X (pc + 8) hd2 (by omega) ?_
    have e : bx x = 1 := if_neg h
    rw [e] at g
    exact g
end LR
section LT
variable {p : Program} {l : Launch} {e : Env} {s : State} {m : MethodId} {args : Array Value} {below : List Frame} {meth : Method} {c : Code} {cells slots : Nat} {Q : State → Prop} {D : va_G} {q : Nat → ClassId} {ad : Nat → Nat} {d : UInt64} {S : Sx}
variable {b i pc : Nat} {v6 v7 : Int32}
abbrev room_L : Room := { frames := 20, cells := 603072, slots := 7207018, locals := 10832 }
theorem lw_tail (X : Cx p m c cL_law 9 s args RL D q ad) (hcs : cells ≤ 603072 ∧ slots ≤ 7207018) (h1 : S 5 8 = v6) (h2 : v6 = 0 → S 13 0 = v7)
    (k0 : decode cL_law pc = .ok (.aload_n 2, 1)) (k1 : decode cL_law (pc + 1) = .ok (.invokevirtual 143, 3)) (k2 : decode cL_law (pc + 4) = .ok (.iload 6, 2)) (k3 : decode cL_law (pc + 6) = .ok (.if_icmp .eq 5, 3)) (k4 : decode cL_law (pc + 11) = .ok (.iload 6, 2)) (k5 : decode cL_law (pc + 13) = .ok (.ifCond .ne 15, 3)) (k6 : decode cL_law (pc + 16) = .ok (.aload_n 3, 1)) (k7 : decode cL_law (pc + 17) = .ok (.iconst 0, 1)) (k8 : decode cL_law (pc + 18) = .ok (.laload, 1)) (k9 : decode cL_law (pc + 19) = .ok (.iload 7, 2)) (k10 : decode cL_law (pc + 21) = .ok (.i2l, 1)) (k11 : decode cL_law (pc + 22) = .ok (.lcmp, 1)) (k12 : decode cL_law (pc + 23) = .ok (.ifCond .eq 5, 3)) {z : Int} (k13 : decode cL_law (pc + 28) = .ok (.goto z, 3)) (hz : ((pc + 28 : Nat) : Int) + z = ((2420 : Nat) : Int))
    (g : Jg p l e room_L s m args below meth c cells slots Q D q ad d 9 2420 ((7, .int v7) :: (6, .int v6) :: lv0 b ad i) [] S) : Jg p l e room_L s m args below meth c cells slots Q D q ad d 9 pc ((7, .int v7) :: (6, .int v6) :: lv0 b ad i) [] S := by
  have g2 : Jg p l e room_L s m args below meth c cells slots Q D q ad d 9 (pc + 28) ((7, .int v7) :: (6, .int v6) :: lv0 b ad i) [] S := j_goto X 2420 k13 hz g
  refine j_aload_n X 5 k0 rfl ?_
  refine j_callVi (As := []) (rest := []) X (c_X7_thrown X.2.2.2.2.2.2.2 S) cw_L_143 kc25.1 (cl_25 kc25) rfl ⟨rfl, rfl, Nat.le_of_ble_eq_true rfl, Nat.le_of_ble_eq_true rfl⟩ rfl rfl (Nat.le_of_ble_eq_true rfl) hcs k1 ?_
  refine j_iload X 1 k2 rfl ?_
  refine j_icmp_eq X (pc + 11) k3 (by omega) (fun _ => ?_) (fun h => absurd h1 h)
  refine j_iload X 1 k4 rfl ?_
  refine j_if_ne X (pc + 28) k5 (by omega) (fun _ => g2) (fun hv => ?_)
  refine j_aload_n X 6 k6 rfl ?_
  refine j_iconst (v := 0) X k7 (by decide) ?_
  intro H locs ls hP hS hl
  refine va_lald X.1 X.2.1 X.2.2.2.2.2.1 hP 13 6 (f := fun k => (S 13 k).toInt64) (n := 1) (by rw [wd_at (by decide), cl_33 kc33]) rfl (by unfold vp_in; decide) k8 ?_
  have e0 : (S 13 (0 : Int32).toNatClampNeg).toInt64 = v7.toInt64 := by
    show (S 13 0).toInt64 = _
    rw [h2 hv]
  rw [e0]
  refine lv_iload X.1 X.2.1 k9 (lv_at hl 0 rfl) ?_
  refine lv_i2l X.1 X.2.1 k10 rfl ?_
  refine W.lcmp X.1 X.2.1 k11 ?_
  rw [lg_cmp_self]
  exact j_if_eq X (pc + 28) k12 (by omega) (fun _ => g2) (fun h => absurd rfl h) H locs ls hP hS hl
theorem lw_next {lv : List (Nat × Value)} (X : Cx p m c cL_law 9 s args RL D q ad) (ks : List Nat) (hl2 : lv_pick lv ks = lv0 b ad i) (g : Jg p l e room_L s m args below meth c cells slots Q D q ad d 9 28 (lv0 b ad (i + 4)) [] S) : Jg p l e room_L s m args below meth c cells slots Q D q ad d 9 2420 lv [] S := by
  refine j_lv ks (lv0 b ad i) hl2 ?_
  refine j_iinc X 0 (nI (i + 4)) (lv0 b ad (i + 4)) dL_law_2420 rfl ?_ (by decide) rfl ?_
  · rw [← nI_add]
    rfl
  · exact j_goto X 28 dL_law_2423 (by decide) g
end LT
/-- what comes after a call of the law -/
abbrev Nx (p : Program) (l : Launch) (e : Env) (s : State) (m : MethodId) (args : Array Value) (below : List Frame) (meth : Method) (c : Code) (cells slots : Nat) (Q : State → Prop) (D : va_G) (q : Nat → ClassId) (ad : Nat → Nat) (b i N : Nat) : Prop := ∀ (S' : Sx) (d' : UInt64), Inv (N + 4392) S' S' → Jg p l e room_L s m args below meth c (cells + 2) (slots + 12) Q D q ad d' 9 28 (lv0 b ad (i + 4)) [] S'

theorem ord_self (x : FP.Core.Datum) (h : ¬ x = .nan) : FP.Core.order x x = some .eq := by
  cases x with
  | nan => exact absurd rfl h
  | inf s => simp [FP.Core.order]
  | fin s c q => simp [FP.Core.order]
theorem dcmp_self {v : UInt64} (h : FP.Core.dIsNaN v = false) : FP.dcmp v v = some .eq := ord_self _ (of_decide_eq_false h)
theorem Inv.both {N : Nat} {S : Sx} (I : Inv N S S) (x : Int32) : Inv N (up2 S 5 8 x) (up2 S 5 8 x) := by
  have h : ∀ j, ¬ j = 5 → up2 S 5 8 x j = S j := fun j hj => up2_ne hj
  refine (I.c0 x).ag ⟨?_, ?_, ?_, ?_, ?_, ?_, ?_, ?_, fun j hj _ => h j (by omega)⟩ AgM.rf
  · rw [h 0 (by decide)]
  · rw [h 0 (by decide)]
  · rw [h 0 (by decide)]
  · rw [h 1 (by decide)]
  · rw [h 1 (by decide)]
  · rw [h 3 (by decide)]
  · rw [h 3 (by decide)]
  · rw [h 4 (by decide)]
section LD
variable {p : Program} {l : Launch} {e : Env} {R : Room} {s : State} {m : MethodId} {args : Array Value} {below : List Frame} {meth : Method} {c : Code} {cells slots : Nat} {Q : State → Prop} {D : va_G} {q : Nat → ClassId} {ad : Nat → Nat} {d : UInt64} {nL : Nat}
variable {cc : ByteArray} {own : String} {pc : Nat} {lv lv' : List (Nat × Value)} {st : List Value} {S S' : Sx}
theorem j_callVd (X : Cx p m c cc nL s args own D q ad) {index ci j n k N : Nat} {C : String} {T : u_T} {fs As rest : List Value} {y : MethodName} {code : ByteArray} {rm : Room} {rv : UInt64} (hM : CD l y code n rm D q ad d (.ref (ad j) :: As) S rv S') (cw : CWv own index C y code n (some .double) k) (hj : j < 455) (hcell : cellU ad q d S j = .inr (ci, fs)) (hc : vCl[ci]? = some (C, T, N)) (hrm : rm.cells = 0 ∧ rm.slots = 0 ∧ rm.frames + 1 ≤ R.frames ∧ 8 + (n + 11) + rm.locals ≤ R.locals) (hn : As.length = k) (hst : st = As.reverse ++ .ref (ad j) :: rest) (hcat : (rest.map fun v => v.category).sum ≤ 8) (hcs : cells ≤ R.cells ∧ slots ≤ R.slots) (hd : decode cc pc = .ok (.invokevirtual index, 3)) (g : Jg p l e R s m args below meth c cells slots Q D q ad d nL (pc + 3) lv (.double rv :: rest) S') : Jg p l e R s m args below meth c cells slots Q D q ad d nL pc lv st S := by
  intro H locs ls hP hS hl
  obtain ⟨hx, hb, hml, hown, hts, hK, hN, hI⟩ := X
  refine va_calld (va_runV ⟨hx, hb, hml, hown, hts⟩ (hM H.size) (cwV k hts (goodV cw) rfl hrm.1 hrm.2.1 cw.2.2.2.2.2 ⟨hrm.2.2.1, hrm.2.2.2⟩) ⟨Pq.blind, va_recv hK hP hc (by rw [wd_at hj, hcell]), (pq_at hK hN hP).2⟩ rfl hn hl.1 hst (lv_room hcat) hd ⟨hcs.1, hcs.2⟩) hS (fun x _ h => au_keep hS x h) (au_keep hS) (fun r u t H1 locs1 ht _ hw hB _ _ hS1 => ?_)
  subst hw
  rw [ht] at hB
  exact g H1 locs1 ls hB hS1 hl
theorem j_callVf (X : Cx p m c cc nL s args own D q ad) {index ci j n k N : Nat} {C : String} {T : u_T} {fs As rest : List Value} {y : MethodName} {code : ByteArray} {rm : Room} {rv : UInt32} (hM : CF l y code n rm D q ad d (.ref (ad j) :: As) S rv S') (cw : CWv own index C y code n (some .float) k) (hj : j < 455) (hcell : cellU ad q d S j = .inr (ci, fs)) (hc : vCl[ci]? = some (C, T, N)) (hrm : rm.cells = 0 ∧ rm.slots = 0 ∧ rm.frames + 1 ≤ R.frames ∧ 8 + (n + 11) + rm.locals ≤ R.locals) (hn : As.length = k) (hst : st = As.reverse ++ .ref (ad j) :: rest) (hcat : (rest.map fun v => v.category).sum ≤ 8) (hcs : cells ≤ R.cells ∧ slots ≤ R.slots) (hd : decode cc pc = .ok (.invokevirtual index, 3)) (g : Jg p l e R s m args below meth c cells slots Q D q ad d nL (pc + 3) lv (.float rv :: rest) S') : Jg p l e R s m args below meth c cells slots Q D q ad d nL pc lv st S := by
  intro H locs ls hP hS hl
  obtain ⟨hx, hb, hml, hown, hts, hK, hN, hI⟩ := X
  refine va_callf (va_runV ⟨hx, hb, hml, hown, hts⟩ (hM H.size) (cwV k hts (goodV cw) rfl hrm.1 hrm.2.1 cw.2.2.2.2.2 ⟨hrm.2.2.1, hrm.2.2.2⟩) ⟨Pq.blind, va_recv hK hP hc (by rw [wd_at hj, hcell]), (pq_at hK hN hP).2⟩ rfl hn hl.1 hst (lv_room hcat) hd ⟨hcs.1, hcs.2⟩) hS (fun x _ h => au_keep hS x h) (au_keep hS) (fun r u t H1 locs1 ht _ hw hB _ _ hS1 => ?_)
  subst hw
  rw [ht] at hB
  exact g H1 locs1 ls hB hS1 hl
theorem j_dstore (X : Cx p m c cc nL s args own D q ad) {k : Nat} {x : UInt64} (lv' : List (Nat × Value)) (hd : decode cc pc = .ok (.dstore k, 2)) (hn : k + 1 < nL) (hl2 : (k, Value.double x) :: lv.filter (fun q => !(q.1 == k) && (!(q.1 == k + 1) && !(q.1 + 1 == k && q.2.category == 2))) = lv') (g : Jg p l e R s m args below meth c cells slots Q D q ad d nL (pc + 2) lv' st S) : Jg p l e R s m args below meth c cells slots Q D q ad d nL pc lv (.double x :: st) S := fun H locs ls hP hS hl => lv_dstore X.1 X.2.1 hd hl hn hl2 (fun ls' h => g H locs ls' hP hS h)
theorem j_fstore (X : Cx p m c cc nL s args own D q ad) {k : Nat} {x : UInt32} (lv' : List (Nat × Value)) (hd : decode cc pc = .ok (.fstore k, 2)) (hn : k < nL) (hl2 : (k, Value.float x) :: lv.filter (fun q => !(q.1 == k) && !(q.1 + 1 == k && q.2.category == 2)) = lv') (g : Jg p l e R s m args below meth c cells slots Q D q ad d nL (pc + 2) lv' st S) : Jg p l e R s m args below meth c cells slots Q D q ad d nL pc lv (.float x :: st) S := fun H locs ls hP hS hl => lv_fstore X.1 X.2.1 hd hl hn hl2 (fun ls' h => g H locs ls' hP hS h)
theorem j_dload (X : Cx p m c cc nL s args own D q ad) {k : Nat} {x : UInt64} (i : Nat) (hd : decode cc pc = .ok (.dload k, 2)) (hk : lv[i]? = some (k, .double x)) (g : Jg p l e R s m args below meth c cells slots Q D q ad d nL (pc + 2) lv (.double x :: st) S) : Jg p l e R s m args below meth c cells slots Q D q ad d nL pc lv st S := fun H locs ls hP hS hl => lv_dload X.1 X.2.1 hd (lv_at hl i hk) (g H locs ls hP hS hl)
theorem j_fload (X : Cx p m c cc nL s args own D q ad) {k : Nat} {x : UInt32} (i : Nat) (hd : decode cc pc = .ok (.fload k, 2)) (hk : lv[i]? = some (k, .float x)) (g : Jg p l e R s m args below meth c cells slots Q D q ad d nL (pc + 2) lv (.float x :: st) S) : Jg p l e R s m args below meth c cells slots Q D q ad d nL pc lv st S := fun H locs ls hP hS hl => lv_fload X.1 X.2.1 hd (lv_at hl i hk) (g H locs ls hP hS hl)
theorem j_dcmpS (X : Cx p m c cc nL s args own D q ad) {x : UInt64} {op : CmpOp} (hn : FP.Core.dIsNaN x = false) (hd : decode cc pc = .ok (.dcmp op, 1)) (g : Jg p l e R s m args below meth c cells slots Q D q ad d nL (pc + 1) lv (.int 0 :: st) S) : Jg p l e R s m args below meth c cells slots Q D q ad d nL pc lv (.double x :: .double x :: st) S := fun H locs ls hP hS hl => lv_dcmp X.1 X.2.1 hd (by rw [dcmp_self hn]; exact g H locs ls hP hS hl)
theorem j_dald (X : Cx p m c cc nL s args own D q ad) (hd : decode cc pc = .ok (.daload, 1)) (g : Jg p l e R s m args below meth c cells slots Q D q ad d nL (pc + 1) lv (.double d :: st) S) : Jg p l e R s m args below meth c cells slots Q D q ad d nL pc lv (.int 0 :: .ref (ad 14) :: st) S := fun H locs ls hP hS hl => va_dald X.1 X.2.1 X.2.2.2.2.2.1 hP 14 7 (f := fun _ => d) (n := 1) (by rw [wd_at (by decide)]; rfl) rfl (by unfold vp_in; decide) hd (g H locs ls hP hS hl)
end LD
section LC2
variable {p : Program} {l : Launch} {e : Env} {s : State} {m : MethodId} {args : Array Value} {below : List Frame} {meth : Method} {c : Code} {cells slots : Nat} {Q : State → Prop} {D : va_G} {q : Nat → ClassId} {ad : Nat → Nat} {d : UInt64} {S : Sx} {sa : Nat → Nat}
variable {b i L N : Nat} {xs : Nat → Int32}
theorem lc_errorPosition (hst : l.stackTraces = false) (X : Cx p m c cL_law 9 s args RL D q ad) (F : XF ad s.heap.size sa s) (C : Scr b L xs ad s) (hi : i + 4 ≤ L) (hcs : cells + 2 ≤ 603072 ∧ slots + 12 ≤ 7207018) (hN : N + 4392 < 2 ^ 30) (I : Inv N S S) (nx : Nx p l e s m args below meth c cells slots Q D q ad b i N) : Jg p l e room_L s m args below meth c cells slots Q D q ad d 9 2034 (lv0 b ad i) [] S := by
  obtain ⟨g1, g2, g3, g4⟩ := glue0 (N' := N) (c := (b_X6_errorPosition_0 S, S)) (mf := fun M => b_X7_errorPosition_0 M) (om := fun _ => True) (oc := True) I (fun M IM => L_err IM)
  refine j_aload_n X 2 dL_law_2034 rfl ?_
  refine j_callVi (As := []) (rest := []) X (c_X6_errorPosition X.2.2.2.2.2.2.2 S) cw_L_232 kc20.1 (cl_20 kc20) rfl ⟨rfl, rfl, Nat.le_of_ble_eq_true rfl, Nat.le_of_ble_eq_true rfl⟩ rfl rfl (Nat.le_of_ble_eq_true rfl) ⟨by show cells ≤ 603072; omega, by show slots ≤ 7207018; omega⟩ dL_law_2035 ?_
  refine j_aload_n X 3 dL_law_2038 rfl ?_
  refine j_callVi (As := []) (rest := [.int (b_X6_errorPosition_0 S)]) X (c_X7_errorPosition X.2.2.2.2.2.2.2 S) cw_L_235 kc25.1 (cl_25 kc25) rfl ⟨rfl, rfl, Nat.le_of_ble_eq_true rfl, Nat.le_of_ble_eq_true rfl⟩ rfl rfl (Nat.le_of_ble_eq_true rfl) ⟨by show cells ≤ 603072; omega, by show slots ≤ 7207018; omega⟩ dL_law_2039 ?_
  refine j_icmp_eq X 2420 dL_law_2042 (by decide) (fun _ => ?_) (fun h => absurd g3 h)
  refine lw_next X [0, 1, 2, 3, 4, 5] rfl ?_
  exact j_widen (by omega) (by omega) (nx _ _ (g4.up (by omega)))
theorem lc_isWell (hst : l.stackTraces = false) (X : Cx p m c cL_law 9 s args RL D q ad) (F : XF ad s.heap.size sa s) (C : Scr b L xs ad s) (hi : i + 4 ≤ L) (hcs : cells + 2 ≤ 603072 ∧ slots + 12 ≤ 7207018) (hN : N + 4392 < 2 ^ 30) (I : Inv N S S) (nx : Nx p l e s m args below meth c cells slots Q D q ad b i N) : Jg p l e room_L s m args below meth c cells slots Q D q ad d 9 2175 (lv0 b ad i) [] S := by
  obtain ⟨g1, g2, g3, g4⟩ := glue0 (N' := N) (c := (b_X6_isWell_0 S, S)) (mf := fun M => b_X7_isWell_0 M) (om := fun M => o_X7_isWell_0 M) (oc := o_X6_isWell_0 S) I (fun M IM => L_well IM)
  refine j_aload_n X 2 dL_law_2175 rfl ?_
  refine j_callVi (As := []) (rest := []) X (c_X6_isWell X.2.2.2.2.2.2.2 S g1) cw_L_243 kc20.1 (cl_20 kc20) rfl ⟨rfl, rfl, Nat.le_of_ble_eq_true rfl, Nat.le_of_ble_eq_true rfl⟩ rfl rfl (Nat.le_of_ble_eq_true rfl) ⟨by show cells ≤ 603072; omega, by show slots ≤ 7207018; omega⟩ dL_law_2176 ?_
  refine j_aload_n X 3 dL_law_2179 rfl ?_
  refine j_callVi (As := []) (rest := [.int (b_X6_isWell_0 S)]) X (c_X7_isWell X.2.2.2.2.2.2.2 S g2) cw_L_247 kc25.1 (cl_25 kc25) rfl ⟨rfl, rfl, Nat.le_of_ble_eq_true rfl, Nat.le_of_ble_eq_true rfl⟩ rfl rfl (Nat.le_of_ble_eq_true rfl) ⟨by show cells ≤ 603072; omega, by show slots ≤ 7207018; omega⟩ dL_law_2180 ?_
  refine j_icmp_eq X 2420 dL_law_2183 (by decide) (fun _ => ?_) (fun h => absurd g3 h)
  refine lw_next X [0, 1, 2, 3, 4, 5] rfl ?_
  exact j_widen (by omega) (by omega) (nx _ _ (g4.up (by omega)))
theorem lc_save (hst : l.stackTraces = false) (X : Cx p m c cL_law 9 s args RL D q ad) (F : XF ad s.heap.size sa s) (C : Scr b L xs ad s) (hi : i + 4 ≤ L) (hcs : cells + 2 ≤ 603072 ∧ slots + 12 ≤ 7207018) (hN : N + 4392 < 2 ^ 30) (I : Inv N S S) (nx : Nx p l e s m args below meth c cells slots Q D q ad b i N) : Jg p l e room_L s m args below meth c cells slots Q D q ad d 9 2363 (lv0 b ad i) [] S := by
  obtain ⟨g1, g2, g3, g4⟩ := glue0 (N' := N) (c := (b_X6_save_0 S)) (mf := fun M => b_X7_save_0 M) (om := fun M => o_X7_save_0 M) (oc := o_X6_save_0 S) I (fun M IM => L_save IM)
  refine j_aload_n X 2 dL_law_2363 rfl ?_
  refine j_callVi (As := []) (rest := []) X (c_X6_save X.2.2.2.2.2.2.2 S g1) cw_L_258 kc20.1 (cl_20 kc20) rfl ⟨rfl, rfl, Nat.le_of_ble_eq_true rfl, Nat.le_of_ble_eq_true rfl⟩ rfl rfl (Nat.le_of_ble_eq_true rfl) ⟨by show cells ≤ 603072; omega, by show slots ≤ 7207018; omega⟩ dL_law_2364 ?_
  refine j_aload_n X 3 dL_law_2367 rfl ?_
  refine j_callVi (As := []) (rest := [.int ((b_X6_save_0 S).1)]) X (c_X7_save X.2.2.2.2.2.2.2 (b_X6_save_0 S).2 g2) cw_L_261 kc25.1 (cl_25 kc25) rfl ⟨rfl, rfl, Nat.le_of_ble_eq_true rfl, Nat.le_of_ble_eq_true rfl⟩ rfl rfl (Nat.le_of_ble_eq_true rfl) ⟨by show cells ≤ 603072; omega, by show slots ≤ 7207018; omega⟩ dL_law_2368 ?_
  refine j_icmp_eq X 2420 dL_law_2371 (by decide) (fun _ => ?_) (fun h => absurd g3 h)
  refine lw_next X [0, 1, 2, 3, 4, 5] rfl ?_
  exact j_widen (by omega) (by omega) (nx _ _ (g4.up (by omega)))
theorem lc_meanRuns (hst : l.stackTraces = false) (X : Cx p m c cL_law 9 s args RL D q ad) (F : XF ad s.heap.size sa s) (C : Scr b L xs ad s) (hi : i + 4 ≤ L) (hcs : cells + 2 ≤ 603072 ∧ slots + 12 ≤ 7207018) (hN : N + 4392 < 2 ^ 30) (I : Inv N S S) (nx : Nx p l e s m args below meth c cells slots Q D q ad b i N) : Jg p l e room_L s m args below meth c cells slots Q D q ad d 9 2188 (lv0 b ad i) [] S := by
  obtain ⟨o6, o7, h⟩ := L_mean I
  have ho : o_L_meanRuns S := by
    rcases h with ⟨v, h1, -, hn⟩ | ⟨h1, -⟩
    · exact ⟨o6, by rw [h1]; exact Or.inl rfl⟩
    · exact ⟨o6, by rw [h1]; exact Or.inr rfl⟩
  refine j_aload_n X 2 dL_law_2188 rfl ?_
  refine j_aload X 5 dL_law_2189 rfl ?_
  refine lw_call (k := 2) (As := [.ref (ad 0), .ref (ad 14)]) (rest := []) X F (c_L_meanRuns hst X.2.2.2.2.2.2.2 S ho) m_ml_L_248 m_st_L_meanRuns m_in_L m_co_L_meanRuns (by decide +kernel) ⟨rfl, rfl, Nat.le_of_ble_eq_true rfl, Nat.le_of_ble_eq_true rfl⟩ rfl rfl (Nat.le_of_ble_eq_true rfl) ⟨by show cells + 1 ≤ 603072; omega, by show slots + 6 ≤ 7207018; omega⟩ dL_law_2191 ?_
  rcases h with ⟨v, h1, h2, hn⟩ | ⟨h1, h2⟩
  · have e1 : b_L_meanRuns d S = (0, v, S) := by simp [b_L_meanRuns, h1]
    rw [e1]
    refine j_istore X ((6, .int 0) :: lv0 b ad i) dL_law_2194 (by decide) rfl ?_
    refine j_aload_n X 4 dL_law_2196 rfl ?_
    refine j_callVd (As := []) (rest := []) X (c_X7_meanRuns X.2.2.2.2.2.2.2 S o7) cw_L_251 kc25.1 (cl_25 kc25) rfl ⟨rfl, rfl, Nat.le_of_ble_eq_true rfl, Nat.le_of_ble_eq_true rfl⟩ rfl rfl (Nat.le_of_ble_eq_true rfl) ⟨by show cells + 1 ≤ 603072; omega, by show slots + 6 ≤ 7207018; omega⟩ dL_law_2197 ?_
    rw [h2]
    refine j_dstore X ((7, .double v) :: (6, .int 0) :: lv0 b ad i) dL_law_2200 (by decide) rfl ?_
    refine j_aload_n X 5 dL_law_2202 rfl ?_
    refine j_callVi (As := []) (rest := []) X (c_X7_thrown X.2.2.2.2.2.2.2 (up2 S 5 8 0)) cw_L_143 kc25.1 (cl_25 kc25) rfl ⟨rfl, rfl, Nat.le_of_ble_eq_true rfl, Nat.le_of_ble_eq_true rfl⟩ rfl rfl (Nat.le_of_ble_eq_true rfl) ⟨by show cells + 1 ≤ 603072; omega, by show slots + 6 ≤ 7207018; omega⟩ dL_law_2203 ?_
    refine j_iload X 1 dL_law_2206 rfl ?_
    refine j_icmp_eq X 2213 dL_law_2208 (by decide) (fun _ => ?_) (fun h => absurd (code_at (M := S) (x := 0)) h)
    refine j_iload X 1 dL_law_2213 rfl ?_
    refine j_if_ne X 2250 dL_law_2215 (by decide) (fun h => absurd rfl h) (fun _ => ?_)
    refine j_aload X 7 dL_law_2218 rfl ?_
    refine j_iconst (v := 0) X dL_law_2220 (by decide) ?_
    refine j_dald X dL_law_2221 ?_
    refine j_dload X 0 dL_law_2222 rfl ?_
    refine j_dcmpS X hn dL_law_2224 ?_
    refine j_if_eq X 2250 dL_law_2225 (by decide) (fun _ => ?_) (fun h => absurd rfl h)
    refine j_goto X 2420 dL_law_2250 (by decide) ?_
    refine lw_next X [2, 3, 4, 5, 6, 7] rfl ?_
    exact j_widen (by omega) (by omega) (nx _ _ ((I.both 0).up (by omega)))
  · have e1 : b_L_meanRuns d S = (1, d, S) := by simp [b_L_meanRuns, h1]
    rw [e1]
    refine j_istore X ((6, .int 1) :: lv0 b ad i) dL_law_2194 (by decide) rfl ?_
    refine j_aload_n X 4 dL_law_2196 rfl ?_
    refine j_callVd (As := []) (rest := []) X (c_X7_meanRuns X.2.2.2.2.2.2.2 S o7) cw_L_251 kc25.1 (cl_25 kc25) rfl ⟨rfl, rfl, Nat.le_of_ble_eq_true rfl, Nat.le_of_ble_eq_true rfl⟩ rfl rfl (Nat.le_of_ble_eq_true rfl) ⟨by show cells + 1 ≤ 603072; omega, by show slots + 6 ≤ 7207018; omega⟩ dL_law_2197 ?_
    rw [h2]
    refine j_dstore X ((7, .double (b_X7_meanRuns S).1) :: (6, .int 1) :: lv0 b ad i) dL_law_2200 (by decide) rfl ?_
    refine j_aload_n X 5 dL_law_2202 rfl ?_
    refine j_callVi (As := []) (rest := []) X (c_X7_thrown X.2.2.2.2.2.2.2 (up2 S 5 8 1)) cw_L_143 kc25.1 (cl_25 kc25) rfl ⟨rfl, rfl, Nat.le_of_ble_eq_true rfl, Nat.le_of_ble_eq_true rfl⟩ rfl rfl (Nat.le_of_ble_eq_true rfl) ⟨by show cells + 1 ≤ 603072; omega, by show slots + 6 ≤ 7207018; omega⟩ dL_law_2203 ?_
    refine j_iload X 1 dL_law_2206 rfl ?_
    refine j_icmp_eq X 2213 dL_law_2208 (by decide) (fun _ => ?_) (fun h => absurd (code_at (M := S) (x := 1)) h)
    refine j_iload X 1 dL_law_2213 rfl ?_
    refine j_if_ne X 2250 dL_law_2215 (by decide) (fun _ => ?_) (fun h => absurd h (by decide))
    refine j_goto X 2420 dL_law_2250 (by decide) ?_
    refine lw_next X [2, 3, 4, 5, 6, 7] rfl ?_
    exact j_widen (by omega) (by omega) (nx _ _ ((I.both 1).up (by omega)))
theorem lc_wickets (hst : l.stackTraces = false) (X : Cx p m c cL_law 9 s args RL D q ad) (F : XF ad s.heap.size sa s) (C : Scr b L xs ad s) (hi : i + 4 ≤ L) (hcs : cells + 2 ≤ 603072 ∧ slots + 12 ≤ 7207018) (hN : N + 4392 < 2 ^ 30) (I : Inv N S S) (nx : Nx p l e s m args below meth c cells slots Q D q ad b i N) : Jg p l e room_L s m args below meth c cells slots Q D q ad d 9 2253 (lv0 b ad i) [] S := by
  obtain ⟨o6, o7, h⟩ := L_wick I
  have ho : o_L_wickets S := by
    rcases h with ⟨v, h1, -, hn⟩ | ⟨h1, -⟩
    · exact ⟨o6, by rw [h1]; exact Or.inl rfl, by rw [h1]; exact fun _ => hn⟩
    · exact ⟨o6, by rw [h1]; exact Or.inr rfl, by rw [h1]; exact fun h => absurd h (show ¬ (6 : Nat) = 0 by decide)⟩
  refine j_aload_n X 2 dL_law_2253 rfl ?_
  refine j_aload X 5 dL_law_2254 rfl ?_
  refine lw_call (k := 2) (As := [.ref (ad 0), .ref (ad 14)]) (rest := []) X F (c_L_wickets hst X.2.2.2.2.2.2.2 S ho) m_ml_L_252 m_st_L_wickets m_in_L m_co_L_wickets (by decide +kernel) ⟨rfl, rfl, Nat.le_of_ble_eq_true rfl, Nat.le_of_ble_eq_true rfl⟩ rfl rfl (Nat.le_of_ble_eq_true rfl) ⟨by show cells + 1 ≤ 603072; omega, by show slots + 6 ≤ 7207018; omega⟩ dL_law_2256 ?_
  rcases h with ⟨v, h1, h2, hn⟩ | ⟨h1, h2⟩
  · have e1 : b_L_wickets d S = (0, (FP.f2d v), S) := by simp [b_L_wickets, h1]
    rw [e1]
    refine j_istore X ((6, .int 0) :: lv0 b ad i) dL_law_2259 (by decide) rfl ?_
    refine j_aload_n X 4 dL_law_2261 rfl ?_
    refine j_callVf (As := []) (rest := []) X (c_X7_wickets X.2.2.2.2.2.2.2 S o7) cw_L_254 kc25.1 (cl_25 kc25) rfl ⟨rfl, rfl, Nat.le_of_ble_eq_true rfl, Nat.le_of_ble_eq_true rfl⟩ rfl rfl (Nat.le_of_ble_eq_true rfl) ⟨by show cells + 1 ≤ 603072; omega, by show slots + 6 ≤ 7207018; omega⟩ dL_law_2262 ?_
    rw [h2]
    refine j_fstore X ((7, .float v) :: (6, .int 0) :: lv0 b ad i) dL_law_2265 (by decide) rfl ?_
    refine j_aload_n X 5 dL_law_2267 rfl ?_
    refine j_callVi (As := []) (rest := []) X (c_X7_thrown X.2.2.2.2.2.2.2 (up2 S 5 8 0)) cw_L_143 kc25.1 (cl_25 kc25) rfl ⟨rfl, rfl, Nat.le_of_ble_eq_true rfl, Nat.le_of_ble_eq_true rfl⟩ rfl rfl (Nat.le_of_ble_eq_true rfl) ⟨by show cells + 1 ≤ 603072; omega, by show slots + 6 ≤ 7207018; omega⟩ dL_law_2268 ?_
    refine j_iload X 1 dL_law_2271 rfl ?_
    refine j_icmp_eq X 2278 dL_law_2273 (by decide) (fun _ => ?_) (fun h => absurd (code_at (M := S) (x := 0)) h)
    refine j_iload X 1 dL_law_2278 rfl ?_
    refine j_if_ne X 2316 dL_law_2280 (by decide) (fun h => absurd rfl h) (fun _ => ?_)
    refine j_aload X 7 dL_law_2283 rfl ?_
    refine j_iconst (v := 0) X dL_law_2285 (by decide) ?_
    refine j_dald X dL_law_2286 ?_
    refine j_fload X 0 dL_law_2287 rfl ?_
    refine j_f2d X dL_law_2289 (nan64 (fn_f2d hn)) ?_
    refine j_dcmpS X (fn_f2d hn) dL_law_2290 ?_
    refine j_if_eq X 2316 dL_law_2291 (by decide) (fun _ => ?_) (fun h => absurd rfl h)
    refine j_goto X 2420 dL_law_2316 (by decide) ?_
    refine lw_next X [2, 3, 4, 5, 6, 7] rfl ?_
    exact j_widen (by omega) (by omega) (nx _ _ ((I.both 0).up (by omega)))
  · have e1 : b_L_wickets d S = (1, d, S) := by simp [b_L_wickets, h1]
    rw [e1]
    refine j_istore X ((6, .int 1) :: lv0 b ad i) dL_law_2259 (by decide) rfl ?_
    refine j_aload_n X 4 dL_law_2261 rfl ?_
    refine j_callVf (As := []) (rest := []) X (c_X7_wickets X.2.2.2.2.2.2.2 S o7) cw_L_254 kc25.1 (cl_25 kc25) rfl ⟨rfl, rfl, Nat.le_of_ble_eq_true rfl, Nat.le_of_ble_eq_true rfl⟩ rfl rfl (Nat.le_of_ble_eq_true rfl) ⟨by show cells + 1 ≤ 603072; omega, by show slots + 6 ≤ 7207018; omega⟩ dL_law_2262 ?_
    rw [h2]
    refine j_fstore X ((7, .float (b_X7_wickets S).1) :: (6, .int 1) :: lv0 b ad i) dL_law_2265 (by decide) rfl ?_
    refine j_aload_n X 5 dL_law_2267 rfl ?_
    refine j_callVi (As := []) (rest := []) X (c_X7_thrown X.2.2.2.2.2.2.2 (up2 S 5 8 1)) cw_L_143 kc25.1 (cl_25 kc25) rfl ⟨rfl, rfl, Nat.le_of_ble_eq_true rfl, Nat.le_of_ble_eq_true rfl⟩ rfl rfl (Nat.le_of_ble_eq_true rfl) ⟨by show cells + 1 ≤ 603072; omega, by show slots + 6 ≤ 7207018; omega⟩ dL_law_2268 ?_
    refine j_iload X 1 dL_law_2271 rfl ?_
    refine j_icmp_eq X 2278 dL_law_2273 (by decide) (fun _ => ?_) (fun h => absurd (code_at (M := S) (x := 1)) h)
    refine j_iload X 1 dL_law_2278 rfl ?_
    refine j_if_ne X 2316 dL_law_2280 (by decide) (fun _ => ?_) (fun h => absurd h (by decide))
    refine j_goto X 2420 dL_law_2316 (by decide) ?_
    refine lw_next X [2, 3, 4, 5, 6, 7] rfl ?_
    exact j_widen (by omega) (by omega) (nx _ _ ((I.both 1).up (by omega)))
end LC2

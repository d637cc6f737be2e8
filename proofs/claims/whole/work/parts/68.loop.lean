/-! THE CLAIM OUT OF ONE WALK OF THE LAW'S BODY. Your part is whole_start (and what it stands on); all else here is the same for every law, but numbers. -/
def R_law : String := "RollerHorsesLaw"
def lw_P (b : Addr) (xs : List Int32) (args : Array Value) (s : State) : Prop := args = #[.ref b] ∧ s.IntsAt b xs ∧ xs.length ≤ 2048 ∧ (Jvm.Cond.and given_1 narrow_1).before args s = true
/-- what a walk over the start with the record d0 says of its end, said of the start itself -/
theorem lw_closed {s t : State} {o : Outcome} {d0 : Drawn} {L : List Loc} {k n : Nat} (hd0 : s.drawn.sameBut d0 lw_cs) (hv : ∃ v, o = .returned v) (hW : (s.setDrawn d0).WarmedH t.vm) (hs : (s.setDrawn d0).sameButNew ({ t with vm := s.vm } : State) L k n) : State.butDraws s t lw_cs (fun t1 => Framed s o t1 L k n) := by
  have h2 : t.drawn = d0 := congrArg State.drawn hs.1
  refine ⟨⟨hv, hW, State.sameButNew.setDrawn hs s.drawn⟩, ?_, by decide⟩
  rw [h2]
  exact hd0
def lw_Q (_ : Array Value) (s : State) (o : Outcome) (t : State) : Prop := o = .returned (some (.int 1)) ∧ State.butDraws s t lw_cs (fun t1 => Framed s o t1 [] 603072 7207018)
def lw_Z (below : List Frame) (a : Array Value) (s : State) : State → Prop := fun t => ∃ o, t.status = .running ∧ Ended t below o ∧ lw_Q a s o t
/-- the law's own end, with 1 on the stack, nothing written that was there before, its room as the claim has it; d0: the record of draws at this point (at the entry s.drawn: begin with 'refine W.base ?_' and 'have hd0 := Drawn.sameBut.refl s.drawn lw_cs') -/
theorem lw_ret {p : Program} {l : Launch} {e : Env} {s : State} {m : MethodId} {below : List Frame} {meth : Method} {c : Code} {b : Nat} {d0 : Drawn} (hd0 : s.drawn.sameBut d0 lw_cs) (hx : p.tables.exec = Jvm.exec) (hb : c.code = code) (hr : meth.sig.returnType = ret) (hlocks : meth.locks = false) {pc : Nat} {H : Heap} {ls : Array Slot} (hdg : decode code pc = .ok (.ireturn, 1)) : W p l e room_1 (s.setDrawn d0) m #[Value.ref b] below meth c H [] 603072 7207018 (lw_Z below #[Value.ref b] s) (F0 m pc ls [.int 1]) := by
  intro T hT X
  obtain ⟨fs, hret, hrun, hended, hW, hframe⟩ := X.leave (v := some (.int 1)) (hlocks := hlocks) (fun h => by rw [hr] at h; cases h)
  have hmeth' : T.vm.method? m = some meth := X.method'
  refine ⟨T.setFrames fs, ?_, .returned (some (.int 1)), hrun, hended, rfl, lw_closed hd0 ⟨_, rfl⟩ hW hframe⟩
  jvm_step X.here [X.here.top, hx, hb, hdg, hmeth', hr, ret, narrow_b1]
  (try refine ⟨rfl, ?_⟩); (try refine ⟨rfl, ?_⟩)
  first | (intro acts; rw [hret _ acts rfl rfl rfl]) | rw [hret _ _ rfl rfl rfl]
  exact Steps.refl _
/-- what holds at the law's entry: the machine, the code, the tables' words (any of lw_tbl by 'hts w (by decide +kernel)'), the script of L ints xs at the cell b, what the Statement gives of the start (any of its parts by flat_of_before) -/
def lw_At (p : Program) (s : State) (m : MethodId) (meth : Method) (c : Code) (b L : Nat) (xs : Nat → Int32) : Prop :=
  p.tables.exec = Jvm.exec ∧ c.code = code ∧ meth.sig.returnType = ret ∧ c.maxLocals = 9 ∧ s.vm.findClass R_law = some m.cls ∧ (∀ w ∈ lw_tbl, w.before #[Value.ref b] s = true) ∧ va_X b L xs s s.heap ∧ b < s.heap.size ∧ meth.locks = false ∧ (Jvm.Cond.and given_1 narrow_1).before #[Value.ref b] s = true
section LP
variable {p : Program} {l : Launch} {e : Env} {s : State} {m : MethodId} {args : Array Value} {below : List Frame} {meth : Method} {c : Code} {cells slots : Nat} {Q : State → Prop} {D : va_G} {q : Nat → ClassId} {ad : Nat → Nat} {d : UInt64} {S : Sx} {sa : Nat → Nat}
variable {b i L N : Nat} {xs : Nat → Int32}
theorem j_tin {cc : ByteArray} {own : String} {nL pc : Nat} {lv : List (Nat × Value)} {st : List Value} {R : Room} (X : Cx p m c cc nL s args own D q ad) {dflt lo hi : Int} {offs : Array Int} {len : Nat} {x : Int32} (off : Int) (tgt : Nat) (hd : decode cc pc = .ok (.tableswitch dflt lo hi offs, len)) (h1 : ¬ x.toInt < lo) (h2 : ¬ hi < x.toInt) (ho : offs[(x.toInt - lo).toNat]? = some off) (ht : (pc : Int) + off = (tgt : Int)) (g : Jg p l e R s m args below meth c cells slots Q D q ad d nL tgt lv st S) : Jg p l e R s m args below meth c cells slots Q D q ad d nL pc lv (.int x :: st) S := fun H locs ls hP hS hl => lv_tableIn X.1 X.2.1 hd h1 h2 ho ht (g H locs ls hP hS hl)
theorem j_tout {cc : ByteArray} {own : String} {nL pc : Nat} {lv : List (Nat × Value)} {st : List Value} {R : Room} (X : Cx p m c cc nL s args own D q ad) {dflt lo hi : Int} {offs : Array Int} {len : Nat} {x : Int32} (tgt : Nat) (hd : decode cc pc = .ok (.tableswitch dflt lo hi offs, len)) (h : x.toInt < lo ∨ hi < x.toInt) (ht : (pc : Int) + dflt = (tgt : Int)) (g : Jg p l e R s m args below meth c cells slots Q D q ad d nL tgt lv st S) : Jg p l e R s m args below meth c cells slots Q D q ad d nL pc lv (.int x :: st) S := fun H locs ls hP hS hl => lv_tableOut X.1 X.2.1 hd h ht (g H locs ls hP hS hl)
theorem lw_sw (hst : l.stackTraces = false) (X : Cx p m c cL_law 9 s args RL D q ad) (F : XF ad s.heap.size sa s) (C : Scr b L xs ad s) (hi : i + 4 ≤ L) (hcs : cells + 2 ≤ 603072 ∧ slots + 12 ≤ 7207018) (hN : N + 4392 < 2 ^ 30) (I : Inv N S S) (nx : Nx p l e s m args below meth c cells slots Q D q ad b i N) {j : Nat} (hj : j < 64) : Jg p l e room_L s m args below meth c cells slots Q D q ad d 9 44 (lv0 b ad i) [.int (nI j)] S := by
  have h37 : j = 0 ∨ j = 1 ∨ j = 2 ∨ j = 3 ∨ j = 4 ∨ j = 5 ∨ j = 6 ∨ j = 7 ∨ j = 8 ∨ j = 9 ∨ j = 10 ∨ j = 11 ∨ j = 12 ∨ j = 13 ∨ j = 14 ∨ j = 15 ∨ j = 16 ∨ j = 17 ∨ j = 18 ∨ j = 19 ∨ j = 20 ∨ j = 21 ∨ j = 22 ∨ j = 23 ∨ j = 24 ∨ j = 25 ∨ j = 26 ∨ j = 27 ∨ j = 28 ∨ j = 29 ∨ j = 30 ∨ j = 31 ∨ j = 32 ∨ j = 33 ∨ j = 34 ∨ j = 35 ∨ j = 36 ∨ 36 < j := by omega
  rcases h37 with rfl | rfl | rfl | rfl | rfl | rfl | rfl | rfl | rfl | rfl | rfl | rfl | rfl | rfl | rfl | rfl | rfl | rfl | rfl | rfl | rfl | rfl | rfl | rfl | rfl | rfl | rfl | rfl | rfl | rfl | rfl | rfl | rfl | rfl | rfl | rfl | rfl | h36
  · exact j_tin X 164 208 dL_law_44 (by decide) (by decide) (by decide) (by decide) (lc_rain hst X F C hi hcs hN I nx)
  · exact j_tin X 232 276 dL_law_44 (by decide) (by decide) (by decide) (by decide) (lc_light hst X F C hi hcs hN I nx)
  · exact j_tin X 300 344 dL_law_44 (by decide) (by decide) (by decide) (by decide) (lc_bell hst X F C hi hcs hN I nx)
  · exact j_tin X 356 400 dL_law_44 (by decide) (by decide) (by decide) (by decide) (lc_weather hst X F C hi hcs hN I nx)
  · exact j_tin X 440 484 dL_law_44 (by decide) (by decide) (by decide) (by decide) (lc_pitch hst X F C hi hcs hN I nx)
  · exact j_tin X 484 528 dL_law_44 (by decide) (by decide) (by decide) (by decide) (lc_cover hst X F C hi hcs hN I nx)
  · exact j_tin X 568 612 dL_law_44 (by decide) (by decide) (by decide) (by decide) (lc_pitchOf hst X F C hi hcs hN I nx)
  · exact j_tin X 636 680 dL_law_44 (by decide) (by decide) (by decide) (by decide) (lc_sign hst X F C hi hcs hN I nx)
  · exact j_tin X 692 736 dL_law_44 (by decide) (by decide) (by decide) (by decide) (lc_horse hst X F C hi hcs hN I nx)
  · exact j_tin X 776 820 dL_law_44 (by decide) (by decide) (by decide) (by decide) (lc_boots hst X F C hi hcs hN I nx)
  · exact j_tin X 860 904 dL_law_44 (by decide) (by decide) (by decide) (by decide) (lc_horseOf hst X F C hi hcs hN I nx)
  · exact j_tin X 928 972 dL_law_44 (by decide) (by decide) (by decide) (by decide) (lc_roll hst X F C hi hcs hN I nx)
  · exact j_tin X 1008 1052 dL_law_44 (by decide) (by decide) (by decide) (by decide) (lc_bestHorse hst X F C hi hcs hN I nx)
  · exact j_tin X 1064 1108 dL_law_44 (by decide) (by decide) (by decide) (by decide) (lc_umpire hst X F C hi hcs hN I nx)
  · exact j_tin X 1120 1164 dL_law_44 (by decide) (by decide) (by decide) (by decide) (lc_call hst X F C hi hcs hN I nx)
  · exact j_tin X 1188 1232 dL_law_44 (by decide) (by decide) (by decide) (by decide) (lc_fitIn hst X F C hi hcs hN I nx)
  · exact j_tin X 1256 1300 dL_law_44 (by decide) (by decide) (by decide) (by decide) (lc_bestPitch hst X F C hi hcs hN I nx)
  · exact j_tin X 1312 1356 dL_law_44 (by decide) (by decide) (by decide) (by decide) (lc_innings hst X F C hi hcs hN I nx)
  · exact j_tin X 1392 1436 dL_law_44 (by decide) (by decide) (by decide) (by decide) (lc_bowl hst X F C hi hcs hN I nx)
  · exact j_tin X 1460 1504 dL_law_44 (by decide) (by decide) (by decide) (by decide) (lc_would hst X F C hi hcs hN I nx)
  · exact j_tin X 1528 1572 dL_law_44 (by decide) (by decide) (by decide) (by decide) (lc_end hst X F C hi hcs hN I nx)
  · exact j_tin X 1584 1628 dL_law_44 (by decide) (by decide) (by decide) (by decide) (lc_inningsOf hst X F C hi hcs hN I nx)
  · exact j_tin X 1652 1696 dL_law_44 (by decide) (by decide) (by decide) (by decide) (lc_balls hst X F C hi hcs hN I nx)
  · exact j_tin X 1720 1764 dL_law_44 (by decide) (by decide) (by decide) (by decide) (lc_runsAgain hst X F C hi hcs hN I nx)
  · exact j_tin X 1776 1820 dL_law_44 (by decide) (by decide) (by decide) (by decide) (lc_ranked hst X F C hi hcs hN I nx)
  · exact j_tin X 1832 1876 dL_law_44 (by decide) (by decide) (by decide) (by decide) (lc_pass hst X F C hi hcs hN I nx)
  · exact j_tin X 1888 1932 dL_law_44 (by decide) (by decide) (by decide) (by decide) (lc_append hst X F C hi hcs hN I nx)
  · exact j_tin X 1946 1990 dL_law_44 (by decide) (by decide) (by decide) (by decide) (lc_read hst X F C hi hcs hN I nx)
  · exact j_tin X 1990 2034 dL_law_44 (by decide) (by decide) (by decide) (by decide) (lc_errorPosition hst X F C hi hcs hN I nx)
  · exact j_tin X 2003 2047 dL_law_44 (by decide) (by decide) (by decide) (by decide) (lc_refusal hst X F C hi hcs hN I nx)
  · exact j_tin X 2075 2119 dL_law_44 (by decide) (by decide) (by decide) (by decide) (lc_account hst X F C hi hcs hN I nx)
  · exact j_tin X 2131 2175 dL_law_44 (by decide) (by decide) (by decide) (by decide) (lc_isWell hst X F C hi hcs hN I nx)
  · exact j_tin X 2144 2188 dL_law_44 (by decide) (by decide) (by decide) (by decide) (lc_meanRuns hst X F C hi hcs hN I nx)
  · exact j_tin X 2209 2253 dL_law_44 (by decide) (by decide) (by decide) (by decide) (lc_wickets hst X F C hi hcs hN I nx)
  · exact j_tin X 2275 2319 dL_law_44 (by decide) (by decide) (by decide) (by decide) (lc_undo hst X F C hi hcs hN I nx)
  · exact j_tin X 2319 2363 dL_law_44 (by decide) (by decide) (by decide) (by decide) (lc_save hst X F C hi hcs hN I nx)
  · exact j_tin X 2332 2376 dL_law_44 (by decide) (by decide) (by decide) (by decide) (lc_restore hst X F C hi hcs hN I nx)
  · refine j_tout X 2420 dL_law_44 (Or.inr ?_) (by decide) ?_
    · rw [nI_toInt (by omega)]
      omega
    · refine lw_next X [0, 1, 2, 3, 4, 5] rfl ?_
      exact j_widen (by omega) (by omega) (nx _ _ (I.up (by omega)))
theorem lw_loop (hst : l.stackTraces = false) (X : Cx p m c cL_law 9 s args RL D q ad) (F : XF ad s.heap.size sa s) (C : Scr b L xs ad s) (ex : ∀ (cells slots : Nat) (d : UInt64) (S : Sx) (i : Nat), cells ≤ 603072 → slots ≤ 7207018 → Jg p l e room_L s m args below meth c cells slots Q D q ad d 9 2426 (lv0 b ad i) [] S) : ∀ (f k : Nat) (S : Sx) (d : UInt64), Inv (4392 * k) S S → L < 4 * k + 4 * f + 4 → 4 * k ≤ L → Jg p l e room_L s m args below meth c (455 + 2 * k) (7046 + 12 * k) Q D q ad d 9 28 (lv0 b ad (4 * k)) [] S := by
  intro f
  induction f with
  | zero =>
    intro k S d I hf hk
    have hL := C.2.2.2
    refine j_iload X 0 dL_law_28 rfl ?_
    refine j_aload_n X 1 dL_law_30 rfl ?_
    intro H locs ls hP hS hl
    refine va_slen X.1 X.2.1 C.1 C.2.1 C.2.2.1 hS dL_law_31 ?_
    refine lv_iconst (v := nI 4) X.1 X.2.1 dL_law_32 (by decide) ?_
    refine lv_isub X.1 X.2.1 dL_law_33 ?_
    refine j_icmp_gt X 2426 dL_law_34 (by decide) (fun _ => ex _ _ d S _ (by omega) (by omega)) (fun h => absurd ?_ h) H locs ls hP hS hl
    show nI L - nI 4 < nI (4 * k)
    by_cases h4 : 4 ≤ L
    · rw [nI_subI h4]
      exact nI_lt (by omega) (by omega)
    · have h5 := nI_neg (a := L) (c := 4) (by omega) (by decide)
      exact Int32.lt_of_lt_of_le (Int32.not_le.mp h5) (nI_pos' (by omega))
  | succ f ih =>
    intro k S d I hf hk
    have hL := C.2.2.2
    refine j_iload X 0 dL_law_28 rfl ?_
    refine j_aload_n X 1 dL_law_30 rfl ?_
    intro H locs ls hP hS hl
    refine va_slen X.1 X.2.1 C.1 C.2.1 C.2.2.1 hS dL_law_31 ?_
    refine lv_iconst (v := nI 4) X.1 X.2.1 dL_law_32 (by decide) ?_
    refine lv_isub X.1 X.2.1 dL_law_33 ?_
    refine j_icmp_gt X 2426 dL_law_34 (by decide) (fun _ => ex _ _ d S _ (by omega) (by omega)) (fun h => ?_) H locs ls hP hS hl
    have hi : 4 * k + 4 ≤ L := by
      by_cases q1 : 4 * k + 4 ≤ L
      · exact q1
      · refine absurd ?_ h
        show nI L - nI 4 < nI (4 * k)
        by_cases h4 : 4 ≤ L
        · rw [nI_subI h4]
          exact nI_lt (by omega) (by omega)
        · have h5 := nI_neg (a := L) (c := 4) (by omega) (by decide)
          exact Int32.lt_of_lt_of_le (Int32.not_le.mp h5) (nI_pos' (by omega))
    refine j_aload_n X 1 dL_law_37 rfl ?_
    refine j_iload X 0 dL_law_38 rfl ?_
    intro H locs ls hP hS hl
    refine va_sld X.1 X.2.1 C.1 C.2.1 C.2.2.1 hS (vp_in_nI (by omega) (by omega)) dL_law_40 ?_
    refine j_bipush (v := 63) X dL_law_41 (by decide) ?_ H locs ls hP hS hl
    refine j_iand X dL_law_43 ?_
    obtain ⟨j, hj, e⟩ := pk_andE (xs (nI (4 * k)).toNatClampNeg) (m := 63) 6 (by decide)
    rw [e]
    refine lw_sw hst X F C hi ⟨by omega, by omega⟩ (N := 4392 * k) (by omega) I (fun S' d' I' => ?_) hj
    have := ih (k + 1) S' d' (by rw [show 4392 * (k + 1) = 4392 * k + 4392 by omega]; exact I') (by omega) (by omega)
    rw [show 455 + 2 * (k + 1) = 455 + 2 * k + 2 by omega, show 7046 + 12 * (k + 1) = 7046 + 12 * k + 12 by omega, show 4 * (k + 1) = 4 * k + 4 by omega] at this
    exact this
end LP

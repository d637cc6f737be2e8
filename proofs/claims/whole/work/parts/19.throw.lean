theorem pe3i {α β γ : Type} (x : α × β × γ) : x = (x.1, x.2.1, x.2.2) := rfl
theorem pe3 {α β γ : Type} {a a' : α} {b b' : β} {c c' : γ} (h : (a, b, c) = (a', b', c')) : a = a' ∧ b = b' ∧ c = c' := ⟨congrArg Prod.fst h, congrArg (fun x => x.2.1) h, congrArg (fun x => x.2.2) h⟩
theorem pe2 {α β γ : Type} {a a' : α} {b b' : β} {c c' : γ} (h : (a, b, c) = (a', b', c')) : a = a' ∧ c = c' := ⟨(pe3 h).1, (pe3 h).2.2⟩
def exN : Nat → String := fun k => match k with
  | 1 => "java/lang/IndexOutOfBoundsException"
  | 2 => "java/lang/IllegalArgumentException"
  | 3 => "java/lang/UnsupportedOperationException"
  | 4 => "java/util/NoSuchElementException"
  | 5 => "java/lang/IllegalStateException"
  | _ => "java/lang/ArithmeticException"
def exNames : List String := ["java/lang/RuntimeException", "java/lang/Exception"]
def SREFS : List (Nat × String) := [(358, "there is no such number"), (361, "out of range, or a text that cannot be carried out"), (365, "refused; the reason is kept for refusal"), (115, "what is not from 0 to 6"), (165, "what is not from 0 to 5"), (184, "no horse could roll the pitch now"), (206, "the pitch would not be fit within 48 hours"), (214, "the umpire calls no pitch fit now"), (274, "there is no such place"), (284, "the input contains 60 characters"), (301, "nothing was refused"), (331, "what is not from 0 to 16"), (341, "there are no innings"), (344, "no balls were bowled"), (346, "no change can be undone"), (354, "there is no snapshot")]
def DECL : List MethodName := [⟨"java/lang/RuntimeException", "<init>", "(Ljava/lang/String;)V"⟩, ⟨"java/lang/Exception", "<init>", "(Ljava/lang/String;)V"⟩, ⟨"java/lang/Throwable", "<init>", "(Ljava/lang/String;)V"⟩]
def NGW (k : Nat) : List Cond := .castable (exN k) (exN k) :: DECL.map Cond.declares
theorem m_sr_358 : ((358, "there is no such number") : Nat × String) ∈ SREFS := List.mem_of_getElem? (i := 0) rfl
theorem m_sr_361 : ((361, "out of range, or a text that cannot be carried out") : Nat × String) ∈ SREFS := List.mem_of_getElem? (i := 1) rfl
theorem m_sr_365 : ((365, "refused; the reason is kept for refusal") : Nat × String) ∈ SREFS := List.mem_of_getElem? (i := 2) rfl
theorem m_sr_115 : ((115, "what is not from 0 to 6") : Nat × String) ∈ SREFS := List.mem_of_getElem? (i := 3) rfl
theorem m_sr_165 : ((165, "what is not from 0 to 5") : Nat × String) ∈ SREFS := List.mem_of_getElem? (i := 4) rfl
theorem m_sr_184 : ((184, "no horse could roll the pitch now") : Nat × String) ∈ SREFS := List.mem_of_getElem? (i := 5) rfl
theorem m_sr_206 : ((206, "the pitch would not be fit within 48 hours") : Nat × String) ∈ SREFS := List.mem_of_getElem? (i := 6) rfl
theorem m_sr_214 : ((214, "the umpire calls no pitch fit now") : Nat × String) ∈ SREFS := List.mem_of_getElem? (i := 7) rfl
theorem m_sr_274 : ((274, "there is no such place") : Nat × String) ∈ SREFS := List.mem_of_getElem? (i := 8) rfl
theorem m_sr_284 : ((284, "the input contains 60 characters") : Nat × String) ∈ SREFS := List.mem_of_getElem? (i := 9) rfl
theorem m_sr_301 : ((301, "nothing was refused") : Nat × String) ∈ SREFS := List.mem_of_getElem? (i := 10) rfl
theorem m_sr_331 : ((331, "what is not from 0 to 16") : Nat × String) ∈ SREFS := List.mem_of_getElem? (i := 11) rfl
theorem m_sr_341 : ((341, "there are no innings") : Nat × String) ∈ SREFS := List.mem_of_getElem? (i := 12) rfl
theorem m_sr_344 : ((344, "no balls were bowled") : Nat × String) ∈ SREFS := List.mem_of_getElem? (i := 13) rfl
theorem m_sr_346 : ((346, "no change can be undone") : Nat × String) ∈ SREFS := List.mem_of_getElem? (i := 14) rfl
theorem m_sr_354 : ((354, "there is no snapshot") : Nat × String) ∈ SREFS := List.mem_of_getElem? (i := 15) rfl
theorem thA_1 : ∀ w ∈ vx_atS RX6 360 (exN 1) exNames, (w ∈ lw_tbl ∧ goodWord w = true) ∨ w ∈ NGW 1 := by decide +kernel
theorem thG_1 : ∀ w ∈ Cond.classLink RX6 356 (exN 1) :: Cond.initialized (exN 1) :: vx_atS RX6 360 (exN 1) exNames, vx_ot w = true := by decide +kernel
theorem thA_2 : ∀ w ∈ vx_atS RX6 117 (exN 2) exNames, (w ∈ lw_tbl ∧ goodWord w = true) ∨ w ∈ NGW 2 := by decide +kernel
theorem thG_2 : ∀ w ∈ Cond.classLink RX6 113 (exN 2) :: Cond.initialized (exN 2) :: vx_atS RX6 117 (exN 2) exNames, vx_ot w = true := by decide +kernel
theorem thA_3 : ∀ w ∈ vx_atS RX6 367 (exN 3) exNames, (w ∈ lw_tbl ∧ goodWord w = true) ∨ w ∈ NGW 3 := by decide +kernel
theorem thG_3 : ∀ w ∈ Cond.classLink RX6 363 (exN 3) :: Cond.initialized (exN 3) :: vx_atS RX6 367 (exN 3) exNames, vx_ot w = true := by decide +kernel
theorem thA_4 : ∀ w ∈ (x_atoms RX6 186 (exN 4) 13 prog_23_method_4_code "java/lang/RuntimeException" ["java/lang/Exception"]).filter vx_no, (w ∈ lw_tbl ∧ goodWord w = true) ∨ w ∈ NGW 4 := by decide +kernel
theorem thG_4 : ∀ w ∈ Cond.classLink RX6 182 (exN 4) :: Cond.initialized (exN 4) :: (x_atoms RX6 186 (exN 4) 13 prog_23_method_4_code "java/lang/RuntimeException" ["java/lang/Exception"]).filter vx_no, vx_ot w = true := by decide +kernel
theorem thA_5 : ∀ w ∈ vx_atS RX6 286 (exN 5) exNames, (w ∈ lw_tbl ∧ goodWord w = true) ∨ w ∈ NGW 5 := by decide +kernel
theorem thG_5 : ∀ w ∈ Cond.classLink RX6 282 (exN 5) :: Cond.initialized (exN 5) :: vx_atS RX6 286 (exN 5) exNames, vx_ot w = true := by decide +kernel
theorem thA_6 : ∀ w ∈ vx_atS RX6 343 (exN 6) exNames, (w ∈ lw_tbl ∧ goodWord w = true) ∨ w ∈ NGW 6 := by decide +kernel
theorem thG_6 : ∀ w ∈ Cond.classLink RX6 339 (exN 6) :: Cond.initialized (exN 6) :: vx_atS RX6 343 (exN 6) exNames, vx_ot w = true := by decide +kernel

def XW (sa : Nat → Nat) (U : State) : Prop := (∀ w ∈ SREFS, vk_R RX6 w.1 w.2 (sa w.1) U) ∧ (∀ k, 1 ≤ k → k ≤ 6 → va_Nw (.castable (exN k) (exN k)) U) ∧ (∀ i j, 1 ≤ i → i ≤ 6 → 1 ≤ j → j ≤ 6 → i ≠ j → va_Nc (exN i) (exN j) U) ∧ (∀ x ∈ DECL, va_Nw (.declares x) U)
theorem XW.warm {sa : Nat → Nat} {s U : State} (hW : s.WarmedH U.vm) (h : XW sa s) : XW sa U := ⟨fun w hw => vk_R.warm hW (h.1 w hw), fun k h1 h2 => va_Nw.warmC hW (h.2.1 k h1 h2), fun i j a b c d e => va_Nc.moved hW.alike (h.2.2.1 i j a b c d e), fun x hx => va_Nw.warmD hW (h.2.2.2 x hx)⟩
def XF (ad : Nat → Nat) (sz : Nat) (sa : Nat → Nat) (U : State) : Prop := vx_Zq Bundle.tN "UNASSIGNED_STACK" Bundle.steD (AU ad sz) U U.heap ∧ vx_Zq Bundle.tN "SUPPRESSED_SENTINEL" Bundle.listD (AU ad sz) U U.heap ∧ XW sa U
theorem XF.at {ad : Nat → Nat} {sa : Nat → Nat} {s U : State} {H : Heap} {locs : List Loc} (h : XF ad s.heap.size sa s) (hS : va_S (AU ad s.heap.size) s.heap H locs) (hU : U.heap = H) (hW : s.WarmedH U.vm) : XF ad H.size sa U := by
  refine ⟨?_, ?_, h.2.2.warm hW⟩
  · rw [hU]; exact vx_Zq.narrow (vx_Zq.moved hW.alike (h.1.kept hS.2.1)) (au_keep hS)
  · rw [hU]; exact vx_Zq.narrow (vx_Zq.moved hW.alike (h.2.1.kept hS.2.1)) (au_keep hS)
def PqX (D : va_G) (q : Nat → ClassId) (ad : Nat → Nat) (d : UInt64) (sa : Nat → Nat) (av : List Value) (S : Sx) (sz : Nat) : Array Value → State → Prop := va_Pc av (fun U => U.heap.size = sz ∧ va_P D vCl (wdU ad q d S) U.heap ∧ va_K D vCl (tysU q) U ∧ NWs U ∧ XF ad sz sa U)
theorem PqX.blind {D : va_G} {q : Nat → ClassId} {ad : Nat → Nat} {d : UInt64} {sa : Nat → Nat} {av : List Value} {S : Sx} {sz : Nat} : FrameBlind (PqX D q ad d sa av S sz) := by
  intro a U g mk h
  obtain ⟨h1, h2, h3, h4, h5, h6⟩ := h
  exact ⟨h1, h2, h3, va_K.moved (u := U) (U := U.calling g mk a) (Vm.Alike.refl U.vm) h4, NWs.same (s := U) (U := U.calling g mk a) rfl h5, vx_Zq.moved (u := U) (U := U.calling g mk a) (Vm.Alike.refl U.vm) h6.1, vx_Zq.moved (u := U) (U := U.calling g mk a) (Vm.Alike.refl U.vm) h6.2.1, XW.warm (s := U) (U := U.calling g mk a) (State.WarmedH.refl U) h6.2.2⟩
def QiX (D : va_G) (q : Nat → ClassId) (ad : Nat → Nat) (d : UInt64) (xc : Nat) (rv : Int32) (S : Sx) (sz : Nat) : Array Value → State → Outcome → State → Prop := va_Qi (fun (r : Int32) (_ : Unit) => xc = 0 ∧ r = rv) (fun _ t => va_P D vCl (wdU ad q d S) t.heap) (AU ad sz)
def QvX (D : va_G) (q : Nat → ClassId) (ad : Nat → Nat) (d : UInt64) (xc : Nat) (S : Sx) (sz : Nat) : Array Value → State → Outcome → State → Prop := va_Qv (fun (_ : Unit) => xc = 0) (fun _ t => va_P D vCl (wdU ad q d S) t.heap) (AU ad sz)
def XQ (D : va_G) (q : Nat → ClassId) (ad : Nat → Nat) (d : UInt64) (xc : Nat) (S : Sx) (sz : Nat) : String → State → State → Prop := vx_X (fun (_ : Unit) => 1 ≤ xc ∧ xc ≤ 6) (fun E _ t => E = exN xc ∧ va_P D vCl (wdU ad q d S) t.heap) (AU ad sz)
def CXi (l : Launch) (y : MethodName) (code : ByteArray) (n : Nat) (ret : FieldType) (rm : Room) (mc ms : Nat) (D : va_G) (q : Nat → ClassId) (ad : Nat → Nat) (d : UInt64) (sa : Nat → Nat) (av : List Value) (S : Sx) (xc : Nat) (rv : Int32) (S' : Sx) : Prop := ∀ sz : Nat, vx_Met l y (.code y code n (some ret) :: ALL) rm (PqX D q ad d sa av S sz) (QiX D q ad d xc rv S' sz) (XQ D q ad d xc S' sz) mc ms (AU ad sz)
def CXv (l : Launch) (y : MethodName) (code : ByteArray) (n : Nat) (rm : Room) (mc ms : Nat) (D : va_G) (q : Nat → ClassId) (ad : Nat → Nat) (d : UInt64) (sa : Nat → Nat) (av : List Value) (S : Sx) (xc : Nat) (S' : Sx) : Prop := ∀ sz : Nat, vx_Met l y (.code y code n none :: ALL) rm (PqX D q ad d sa av S sz) (QvX D q ad d xc S' sz) (XQ D q ad d xc S' sz) mc ms (AU ad sz)
section JX
variable {p : Program} {l : Launch} {e : Env} {R : Room} {s : State} {m : MethodId} {args : Array Value} {below : List Frame} {meth : Method} {c : Code} {cells slots : Nat} {Q : State → Prop} {D : va_G} {q : Nat → ClassId} {ad : Nat → Nat} {d : UInt64} {nL : Nat} {sa : Nat → Nat}
variable {cc : ByteArray} {own : String} {pc : Nat} {lv lv' : List (Nat × Value)} {st : List Value} {S S' Sf : Sx} {mc ms : Nat} {xc : Nat} {Qc : Array Value → State → Outcome → State → Prop}
theorem pqx_at {H : Heap} {locs : List Loc} {av : List Value} (F : XF ad s.heap.size sa s) (hS : va_S (AU ad s.heap.size) s.heap H locs) (hK : va_K D vCl (tysU q) s) (hN : NWs s) (hP : va_P D vCl (wdU ad q d S) H) : PreS s H (PqX D q ad d sa av S H.size) av := ⟨PqX.blind, fun U hU hW => ⟨rfl, by rw [hU], by rw [hU]; exact hP, va_K.moved hW.alike hK, hN.warm hW, F.at hS hU hW⟩⟩
theorem j_widen {k n : Nat} (h1 : cells ≤ k) (h2 : slots ≤ n) (g : Jg p l e R s m args below meth c k n Q D q ad d nL pc lv st S) : Jg p l e R s m args below meth c cells slots Q D q ad d nL pc lv st S := fun H locs ls hP hS hl => W.widen h1 h2 (g H locs ls hP hS hl)
theorem j_outX {H1 : Heap} {locs1 : List Loc} {ls : Array Slot} {rest : List Value} {E : String} {ce : Cell} {q9 : Addr} {k n xc' : Nat} (hnt : ∀ x ∈ c.exceptionTable.toList, False) (hlocks : meth.locks = false) (hS1 : va_S (AU ad s.heap.size) s.heap H1 locs1) (hP1 : va_P D vCl (wdU ad q d S') H1) (hE : E = exN xc') (hx1 : 1 ≤ xc' ∧ xc' ≤ 6) (hce : H1[q9]? = some ce) (hcv : ce.vm = .none) (hcl : s.vm.findClass E = some ce.cls) (hk : k ≤ mc) (hn : n ≤ ms) (hx : xc' = xc ∧ S' = Sf) : vx_W p l e R s m args below meth c H1 locs1 k n (vx_MQ below Qc (XQ D q ad d xc Sf s.heap.size) args s mc ms (AU ad s.heap.size)) (F0 m pc ls rest) q9 := by
  obtain ⟨rfl, rfl⟩ := hx
  exact vx_out (fun x h => (hnt x h).elim) hlocks hce hcv hcl (fun t' ht' _ => ⟨(), hx1, ⟨hE, by rw [ht']; exact hP1⟩, hS1.F ht'⟩) hS1.2.2 hk hn
theorem j_callXi (X : Cx p m c cc nL s args own D q ad) (F : XF ad s.heap.size sa s) (hnt : ∀ x ∈ c.exceptionTable.toList, False) (hlocks : meth.locks = false) {index ci j n k N mc' ms' xc' : Nat} {C : String} {T : u_T} {fs As rest : List Value} {y : MethodName} {code : ByteArray} {ret : FieldType} {rm : Room} {rv : Int32} (hM : CXi l y code n ret rm mc' ms' D q ad d sa (.ref (ad j) :: As) S xc' rv S') (cw : CWv own index C y code n (some ret) k) (hj : j < 455) (hcell : cellU ad q d S j = .inr (ci, fs)) (hc : vCl[ci]? = some (C, T, N)) (hrm : rm.cells = mc' ∧ rm.slots = ms' ∧ rm.frames + 1 ≤ R.frames ∧ 8 + (n + 11) + rm.locals ≤ R.locals) (hn : As.length = k) (hst : st = As.reverse ++ .ref (ad j) :: rest) (hcat : (rest.map fun v => v.category).sum ≤ 8) (hcs : cells + mc' ≤ R.cells ∧ slots + ms' ≤ R.slots) (hms : cells + mc' ≤ mc ∧ slots + ms' ≤ ms) (hd : decode cc pc = .ok (.invokevirtual index, 3)) (gx : ¬ xc' = 0 → xc' = xc ∧ S' = Sf) (g : xc' = 0 → Jg p l e R s m args below meth c (cells + mc') (slots + ms') (vx_MQ below Qc (XQ D q ad d xc Sf s.heap.size) args s mc ms (AU ad s.heap.size)) D q ad d nL (pc + 3) lv (.int rv :: rest) S') : Jg p l e R s m args below meth c cells slots (vx_MQ below Qc (XQ D q ad d xc Sf s.heap.size) args s mc ms (AU ad s.heap.size)) D q ad d nL pc lv st S := by
  intro H locs ls hP hS hl
  obtain ⟨hx, hb, hml, hown, hts, hK, hN, hI⟩ := X
  refine vx_calli (vx_runV ⟨hx, hb, hml, hown, hts⟩ (hM H.size) (cwV k hts (goodV cw) rfl hrm.1 hrm.2.1 cw.2.2.2.2.2 ⟨hrm.2.2.1, hrm.2.2.2⟩) ⟨PqX.blind, va_recv hK hP hc (by rw [wd_at hj, hcell]), (pqx_at F hS hK hN hP).2⟩ rfl hn hl.1 hst (lv_room hcat) hd hcs) hS (fun x _ h => au_keep hS x h) (au_keep hS) (fun x _ h => au_keep hS x h) (fun E ce q9 u t H1 locs1 ht _ hpx hBX _ _ hS1 hce hcv hcl => ?_) (fun r u t H1 locs1 ht _ hw hB _ _ hS1 => ?_)
  · obtain ⟨hE, hP1⟩ := hBX
    rw [ht] at hP1
    exact j_outX hnt hlocks hS1 hP1 hE hpx hce hcv hcl hms.1 hms.2 (gx (by omega))
  · obtain ⟨h0, rfl⟩ := hw
    rw [ht] at hB
    exact g h0 H1 locs1 ls hB hS1 hl
theorem j_callXv (X : Cx p m c cc nL s args own D q ad) (F : XF ad s.heap.size sa s) (hnt : ∀ x ∈ c.exceptionTable.toList, False) (hlocks : meth.locks = false) {index ci j n k N mc' ms' xc' : Nat} {C : String} {T : u_T} {fs As rest : List Value} {y : MethodName} {code : ByteArray} {rm : Room} (hM : CXv l y code n rm mc' ms' D q ad d sa (.ref (ad j) :: As) S xc' S') (cw : CWv own index C y code n none k) (hj : j < 455) (hcell : cellU ad q d S j = .inr (ci, fs)) (hc : vCl[ci]? = some (C, T, N)) (hrm : rm.cells = mc' ∧ rm.slots = ms' ∧ rm.frames + 1 ≤ R.frames ∧ 8 + (n + 11) + rm.locals ≤ R.locals) (hn : As.length = k) (hst : st = As.reverse ++ .ref (ad j) :: rest) (hcat : (rest.map fun v => v.category).sum ≤ 8) (hcs : cells + mc' ≤ R.cells ∧ slots + ms' ≤ R.slots) (hms : cells + mc' ≤ mc ∧ slots + ms' ≤ ms) (hd : decode cc pc = .ok (.invokevirtual index, 3)) (gx : ¬ xc' = 0 → xc' = xc ∧ S' = Sf) (g : xc' = 0 → Jg p l e R s m args below meth c (cells + mc') (slots + ms') (vx_MQ below Qc (XQ D q ad d xc Sf s.heap.size) args s mc ms (AU ad s.heap.size)) D q ad d nL (pc + 3) lv rest S') : Jg p l e R s m args below meth c cells slots (vx_MQ below Qc (XQ D q ad d xc Sf s.heap.size) args s mc ms (AU ad s.heap.size)) D q ad d nL pc lv st S := by
  intro H locs ls hP hS hl
  obtain ⟨hx, hb, hml, hown, hts, hK, hN, hI⟩ := X
  refine vx_callv (vx_runV ⟨hx, hb, hml, hown, hts⟩ (hM H.size) (cwV k hts (goodV cw) rfl hrm.1 hrm.2.1 cw.2.2.2.2.2 ⟨hrm.2.2.1, hrm.2.2.2⟩) ⟨PqX.blind, va_recv hK hP hc (by rw [wd_at hj, hcell]), (pqx_at F hS hK hN hP).2⟩ rfl hn hl.1 hst (lv_room hcat) hd hcs) hS (fun x _ h => au_keep hS x h) (au_keep hS) (fun x _ h => au_keep hS x h) (fun E ce q9 u t H1 locs1 ht _ hpx hBX _ _ hS1 hce hcv hcl => ?_) (fun u t H1 locs1 ht _ hw hB _ _ hS1 => ?_)
  · obtain ⟨hE, hP1⟩ := hBX
    rw [ht] at hP1
    exact j_outX hnt hlocks hS1 hP1 hE hpx hce hcv hcl hms.1 hms.2 (gx (by omega))
  · rw [ht] at hB
    exact g hw H1 locs1 ls hB hS1 hl
theorem th_hat {k ic : Nat} (X : Cx p m c cc nL s args own D q ad) (F : XF ad s.heap.size sa s) (hk : 1 ≤ k ∧ k ≤ 6) (h : ∀ w ∈ vx_atS RX6 ic (exN k) exNames, (w ∈ lw_tbl ∧ goodWord w = true) ∨ w ∈ NGW k) : ∀ w ∈ vx_atS RX6 ic (exN k) exNames, w.before args s = true := by
  intro w hw
  rcases h w hw with h1 | h1
  · exact X.2.2.2.2.1 w (List.mem_filter.mpr h1)
  · rcases List.mem_cons.mp h1 with rfl | h1
    · exact va_Nw.use rfl (F.2.2.2.1 k hk.1 hk.2)
    · obtain ⟨x, hx, rfl⟩ := List.mem_map.mp h1
      exact va_Nw.use rfl (F.2.2.2.2.2 x hx)
theorem j_throw (X : Cx p m c cc nL s args RX6 D q ad) (F : XF ad s.heap.size sa s) (hnt : ∀ x ∈ c.exceptionTable.toList, False) (hlocks : meth.locks = false) (hst : l.stackTraces = false) {k ik is ic : Nat} {text : String} (hk : 1 ≤ k ∧ k ≤ 6) (hfit : Bundle.fit (exN k) = true ∧ (∀ n ∈ exNames, Bundle.fit n = true)) (h1 : Cond.classLink RX6 ik (exN k) ∈ ALL) (h2 : Cond.initialized (exN k) ∈ ALL) (h3 : (is, text) ∈ SREFS) (h4 : ∀ w ∈ vx_atS RX6 ic (exN k) exNames, (w ∈ lw_tbl ∧ goodWord w = true) ∨ w ∈ NGW k) (h5 : ∀ w ∈ Cond.classLink RX6 ik (exN k) :: Cond.initialized (exN k) :: vx_atS RX6 ic (exN k) exNames, vx_ot w = true)
    (d0 : decode cc pc = .ok (.new ik, 3)) (d3 : decode cc (pc + 3) = .ok (.dup, 1)) (d4 : decode cc (pc + 4) = .ok (.ldc is, 2)) (d6 : decode cc (pc + 6) = .ok (.invokespecial ic, 3)) (d9 : decode cc (pc + 9) = .ok (.athrow, 1))
    (hR : 5 < R.frames ∧ (st.map fun v => v.category).sum + 82 ≤ R.locals ∧ cells + 1 ≤ R.cells ∧ slots + 6 ≤ R.slots) (hms : cells + 1 ≤ mc ∧ slots + 6 ≤ ms) (hx : k = xc ∧ S = Sf) : Jg p l e R s m args below meth c cells slots (vx_MQ below Qc (XQ D q ad d xc Sf s.heap.size) args s mc ms (AU ad s.heap.size)) D q ad d nL pc lv st S := by
  intro H locs ls hP hS hl
  obtain ⟨rfl, rfl⟩ := hx
  refine vx_throwS X.1 X.2.1 hst (names := exNames) (ic := ic) X.2.2.2.1 hfit.1 hfit.2 (X.2.2.2.2.1 _ h1) (X.2.2.2.2.1 _ h2) (F.2.2.1 _ h3) (th_hat X F hk h4) h5 F.1 F.2.1 hS (by rw [hl.1, X.2.2.1]) d0 d3 d4 d6 d9 (fun x h => (hnt x h).elim) hR.1 hR.2.1 hR.2.2.1 hR.2.2.2 hlocks (fun t _ h1 h2 => ⟨(), hk, ⟨rfl, ?_⟩, ?_⟩) hS.2.2 hms.1 hms.2
  · exact hP.kept (fun i x hi => h2 x.1 ((hP i x hi).lt))
  · exact ⟨Nat.le_trans hS.1 h1, fun x hx1 hx2 => by rw [h2 x (Nat.lt_of_lt_of_le hx1 hS.1)]; exact hS.2.1 x hx1 hx2⟩
theorem j_throwW (X : Cx p m c cc nL s args RX6 D q ad) (F : XF ad s.heap.size sa s) (hnt : ∀ x ∈ c.exceptionTable.toList, False) (hlocks : meth.locks = false) (hst : l.stackTraces = false) {k ik is ic : Nat} {text : String} (hk : 1 ≤ k ∧ k ≤ 6) (hfit : Bundle.fit (exN k) = true ∧ (∀ n ∈ exNames, Bundle.fit n = true)) (h1 : Cond.classLink RX6 ik (exN k) ∈ ALL) (h2 : Cond.initialized (exN k) ∈ ALL) (h3 : (is, text) ∈ SREFS) (h4 : ∀ w ∈ vx_atS RX6 ic (exN k) exNames, (w ∈ lw_tbl ∧ goodWord w = true) ∨ w ∈ NGW k) (h5 : ∀ w ∈ Cond.classLink RX6 ik (exN k) :: Cond.initialized (exN k) :: vx_atS RX6 ic (exN k) exNames, vx_ot w = true)
    (d0 : decode cc pc = .ok (.new ik, 3)) (d3 : decode cc (pc + 3) = .ok (.dup, 1)) (d4 : decode cc (pc + 4) = .ok (.ldc_w is, 3)) (d6 : decode cc (pc + 7) = .ok (.invokespecial ic, 3)) (d9 : decode cc (pc + 10) = .ok (.athrow, 1))
    (hR : 5 < R.frames ∧ (st.map fun v => v.category).sum + 82 ≤ R.locals ∧ cells + 1 ≤ R.cells ∧ slots + 6 ≤ R.slots) (hms : cells + 1 ≤ mc ∧ slots + 6 ≤ ms) (hx : k = xc ∧ S = Sf) : Jg p l e R s m args below meth c cells slots (vx_MQ below Qc (XQ D q ad d xc Sf s.heap.size) args s mc ms (AU ad s.heap.size)) D q ad d nL pc lv st S := by
  intro H locs ls hP hS hl
  obtain ⟨rfl, rfl⟩ := hx
  refine vx_throwSW X.1 X.2.1 hst (names := exNames) (ic := ic) X.2.2.2.1 hfit.1 hfit.2 (X.2.2.2.2.1 _ h1) (X.2.2.2.2.1 _ h2) (F.2.2.1 _ h3) (th_hat X F hk h4) h5 F.1 F.2.1 hS (by rw [hl.1, X.2.2.1]) d0 d3 d4 d6 d9 (fun x h => (hnt x h).elim) hR.1 hR.2.1 hR.2.2.1 hR.2.2.2 hlocks (fun t _ h1 h2 => ⟨(), hk, ⟨rfl, ?_⟩, ?_⟩) hS.2.2 hms.1 hms.2
  · exact hP.kept (fun i x hi => h2 x.1 ((hP i x hi).lt))
  · exact ⟨Nat.le_trans hS.1 h1, fun x hx1 hx2 => by rw [h2 x (Nat.lt_of_lt_of_le hx1 hS.1)]; exact hS.2.1 x hx1 hx2⟩
theorem th_hat4 (X : Cx p m c cc nL s args own D q ad) (F : XF ad s.heap.size sa s) {L : List Cond} (h : ∀ w ∈ L, (w ∈ lw_tbl ∧ goodWord w = true) ∨ w ∈ NGW 4) : ∀ w ∈ L, w.before args s = true := by
  intro w hw
  rcases h w hw with h1 | h1
  · exact X.2.2.2.2.1 w (List.mem_filter.mpr h1)
  · rcases List.mem_cons.mp h1 with rfl | h1
    · exact va_Nw.use rfl (F.2.2.2.1 4 (by decide) (by decide))
    · obtain ⟨x, hx, rfl⟩ := List.mem_map.mp h1
      exact va_Nw.use rfl (F.2.2.2.2.2 x hx)
theorem nse0 : decode prog_23_method_4_code 0 = .ok (.aload_n 0, 1) := by decide +kernel
theorem nse1 : decode prog_23_method_4_code 1 = .ok (.aload_n 1, 1) := by decide +kernel
theorem nse2 : decode prog_23_method_4_code 2 = .ok (.invokespecial 13, 3) := by decide +kernel
theorem nse5 : decode prog_23_method_4_code 5 = .ok (.return_, 1) := by decide +kernel
theorem j_throw4 (X : Cx p m c cc nL s args RX6 D q ad) (F : XF ad s.heap.size sa s) (hnt : ∀ x ∈ c.exceptionTable.toList, False) (hlocks : meth.locks = false) (hst : l.stackTraces = false) {is : Nat} {text : String} (h3 : (is, text) ∈ SREFS)
    (d0 : decode cc pc = .ok (.new 182, 3)) (d3 : decode cc (pc + 3) = .ok (.dup, 1)) (d4 : decode cc (pc + 4) = .ok (.ldc is, 2)) (d6 : decode cc (pc + 6) = .ok (.invokespecial 186, 3)) (d9 : decode cc (pc + 9) = .ok (.athrow, 1))
    (hR : 5 < R.frames ∧ (st.map fun v => v.category).sum + 82 ≤ R.locals ∧ cells + 1 ≤ R.cells ∧ slots + 6 ≤ R.slots) (hms : cells + 1 ≤ mc ∧ slots + 6 ≤ ms) (hx : 4 = xc ∧ S = Sf) : Jg p l e R s m args below meth c cells slots (vx_MQ below Qc (XQ D q ad d xc Sf s.heap.size) args s mc ms (AU ad s.heap.size)) D q ad d nL pc lv st S := by
  intro H locs ls hP hS hl
  obtain ⟨rfl, rfl⟩ := hx
  refine x_throw X.1 X.2.1 hst (cls := exN 4) (ic := 186) false nse0 nse1 nse2 nse5 X.2.2.2.1 (by decide +kernel) (by decide +kernel) (by decide +kernel) (X.2.2.2.2.1 _ m_cl_X6_182) (X.2.2.2.2.1 _ m_in_NoSuchElementException) (F.2.2.1 _ h3) (th_hat4 X F thA_4) thG_4 F.1 F.2.1 hS (by rw [hl.1, X.2.2.1]) d0 d3 (by simpa using d4) (by simpa using d6) (by simpa using d9) hnt hR.1 hR.2.1 hR.2.2.1 hR.2.2.2 hlocks (fun t _ h1 h2 => ⟨(), by decide, ⟨rfl, ?_⟩, ?_⟩) hS.2.2 hms.1 hms.2
  · exact hP.kept (fun i x hi => h2 x.1 ((hP i x hi).lt))
  · exact ⟨Nat.le_trans hS.1 h1, fun x hx1 hx2 => by rw [h2 x (Nat.lt_of_lt_of_le hx1 hS.1)]; exact hS.2.1 x hx1 hx2⟩
theorem j_throw4W (X : Cx p m c cc nL s args RX6 D q ad) (F : XF ad s.heap.size sa s) (hnt : ∀ x ∈ c.exceptionTable.toList, False) (hlocks : meth.locks = false) (hst : l.stackTraces = false) {is : Nat} {text : String} (h3 : (is, text) ∈ SREFS)
    (d0 : decode cc pc = .ok (.new 182, 3)) (d3 : decode cc (pc + 3) = .ok (.dup, 1)) (d4 : decode cc (pc + 4) = .ok (.ldc_w is, 3)) (d6 : decode cc (pc + 7) = .ok (.invokespecial 186, 3)) (d9 : decode cc (pc + 10) = .ok (.athrow, 1))
    (hR : 5 < R.frames ∧ (st.map fun v => v.category).sum + 82 ≤ R.locals ∧ cells + 1 ≤ R.cells ∧ slots + 6 ≤ R.slots) (hms : cells + 1 ≤ mc ∧ slots + 6 ≤ ms) (hx : 4 = xc ∧ S = Sf) : Jg p l e R s m args below meth c cells slots (vx_MQ below Qc (XQ D q ad d xc Sf s.heap.size) args s mc ms (AU ad s.heap.size)) D q ad d nL pc lv st S := by
  intro H locs ls hP hS hl
  obtain ⟨rfl, rfl⟩ := hx
  refine x_throw X.1 X.2.1 hst (cls := exN 4) (ic := 186) true nse0 nse1 nse2 nse5 X.2.2.2.1 (by decide +kernel) (by decide +kernel) (by decide +kernel) (X.2.2.2.2.1 _ m_cl_X6_182) (X.2.2.2.2.1 _ m_in_NoSuchElementException) (F.2.2.1 _ h3) (th_hat4 X F thA_4) thG_4 F.1 F.2.1 hS (by rw [hl.1, X.2.2.1]) d0 d3 (by simpa using d4) (by simpa using d6) (by simpa using d9) hnt hR.1 hR.2.1 hR.2.2.1 hR.2.2.2 hlocks (fun t _ h1 h2 => ⟨(), by decide, ⟨rfl, ?_⟩, ?_⟩) hS.2.2 hms.1 hms.2
  · exact hP.kept (fun i x hi => h2 x.1 ((hP i x hi).lt))
  · exact ⟨Nat.le_trans hS.1 h1, fun x hx1 hx2 => by rw [h2 x (Nat.lt_of_lt_of_le hx1 hS.1)]; exact hS.2.1 x hx1 hx2⟩
theorem j_iretX (X : Cx p m c cc nL s args own D q ad) {v rv : Int32} (hr : meth.sig.returnType = some .int) (hlocks : meth.locks = false) (hms : cells ≤ mc ∧ slots ≤ ms) (hd : decode cc pc = .ok (.ireturn, 1)) (hx : 0 = xc ∧ v = rv ∧ S = Sf) : Jg p l e R s m args below meth c cells slots (vx_MQ below (QiX D q ad d xc rv Sf s.heap.size) (XQ D q ad d xc Sf s.heap.size) args s mc ms (AU ad s.heap.size)) D q ad d nL pc lv [.int v] S := by
  intro H locs ls hP hS hl
  obtain ⟨rfl, rfl, rfl⟩ := hx
  exact W.widen hms.1 hms.2 (vx_ret (W.iret X.1 X.2.1 hr (fun t ht hW => ⟨⟨v, (), rfl, ⟨rfl, rfl⟩, by show va_P D vCl (wdU ad q d S) t.heap; rw [ht]; exact hP⟩, hS.F ht⟩) hS.2.2 hd hlocks))
theorem j_zretX (X : Cx p m c cc nL s args own D q ad) {v rv : Int32} {ty : FieldType} (hr : meth.sig.returnType = some ty) (hlocks : meth.locks = false) (hn : narrow ty (.int v) = .int v) (hms : cells ≤ mc ∧ slots ≤ ms) (hd : decode cc pc = .ok (.ireturn, 1)) (hx : 0 = xc ∧ v = rv ∧ S = Sf) : Jg p l e R s m args below meth c cells slots (vx_MQ below (QiX D q ad d xc rv Sf s.heap.size) (XQ D q ad d xc Sf s.heap.size) args s mc ms (AU ad s.heap.size)) D q ad d nL pc lv [.int v] S := by
  intro H locs ls hP hS hl
  obtain ⟨rfl, rfl, rfl⟩ := hx
  exact W.widen hms.1 hms.2 (vx_ret (W.zret X.1 X.2.1 hr hn (fun t ht hW => ⟨⟨v, (), rfl, ⟨rfl, rfl⟩, by show va_P D vCl (wdU ad q d S) t.heap; rw [ht]; exact hP⟩, hS.F ht⟩) hS.2.2 hd hlocks))
theorem j_vretX (X : Cx p m c cc nL s args own D q ad) (hr : meth.sig.returnType = none) (hlocks : meth.locks = false) (hms : cells ≤ mc ∧ slots ≤ ms) (hd : decode cc pc = .ok (.return_, 1)) (hx : 0 = xc ∧ S = Sf) : Jg p l e R s m args below meth c cells slots (vx_MQ below (QvX D q ad d xc Sf s.heap.size) (XQ D q ad d xc Sf s.heap.size) args s mc ms (AU ad s.heap.size)) D q ad d nL pc lv [] S := by
  intro H locs ls hP hS hl
  obtain ⟨rfl, rfl⟩ := hx
  exact W.widen hms.1 hms.2 (vx_ret (W.vret X.1 X.2.1 hr (fun t ht hW => ⟨⟨(), rfl, rfl, by show va_P D vCl (wdU ad q d S) t.heap; rw [ht]; exact hP⟩, hS.F ht⟩) hS.2.2 hd hlocks))
end JX
theorem cxi_of {l : Launch} {y : MethodName} {code : ByteArray} {n : Nat} {ret : FieldType} {rm : Room} {mc ms : Nat} {D : va_G} {q : Nat → ClassId} {ad : Nat → Nat} {d : UInt64} {sa : Nat → Nat} {av : List Value} {S S' : Sx} {xc : Nat} {rv : Int32} {lv0 : List (Nat × Value)} (hI : inj4 ad) (hy : plainName y.cls = true) (hlen : (lg_sl av).length ≤ n) (hlv : lv_args 0 av = lv0)
    (body : ∀ (p : Program) (e : Env) (s : State) (m : MethodId) (args : Array Value) (below : List Frame) (meth : Method) (c : Code), Cx p m c code n s args y.cls D q ad → XF ad s.heap.size sa s → (∀ x ∈ c.exceptionTable.toList, False) → meth.sig.returnType = some ret → meth.locks = false → Jg p l e rm s m args below meth c 0 0 (vx_MQ below (QiX D q ad d xc rv S' s.heap.size) (XQ D q ad d xc S' s.heap.size) args s mc ms (AU ad s.heap.size)) D q ad d n 0 lv0 [] S) : CXi l y code n ret rm mc ms D q ad d sa av S xc rv S' := by
  intro sz
  refine vx_ofW (cc := code) (maxL := n) (ret := some ret) hy rfl ?_
  intro p e s m args below meth c s₁ B hml hnt hv
  obtain ⟨rfl, hsz, hP, hK, hN, hF⟩ := hv
  subst hsz
  have hts := atoms_spec (ws := .code y code n (some ret) :: ALL) B.pre
  have hown : s.vm.findClass y.cls = some m.cls := findClass_of_methodNamed B.named
  have hl := lv_entry av (n := n) hlen
  rw [hlv] at hl
  rw [lg_entry_eq]
  exact body p e s m _ below meth c ⟨B.exec, B.bytes, hml, hown, fun w h => hts w (List.mem_cons_of_mem _ h), hK, hN, hI⟩ hF hnt B.returns B.notSynchronized s.heap [] _ hP va_S.rf hl
theorem cxv_of {l : Launch} {y : MethodName} {code : ByteArray} {n : Nat} {rm : Room} {mc ms : Nat} {D : va_G} {q : Nat → ClassId} {ad : Nat → Nat} {d : UInt64} {sa : Nat → Nat} {av : List Value} {S S' : Sx} {xc : Nat} {lv0 : List (Nat × Value)} (hI : inj4 ad) (hy : plainName y.cls = true) (hlen : (lg_sl av).length ≤ n) (hlv : lv_args 0 av = lv0)
    (body : ∀ (p : Program) (e : Env) (s : State) (m : MethodId) (args : Array Value) (below : List Frame) (meth : Method) (c : Code), Cx p m c code n s args y.cls D q ad → XF ad s.heap.size sa s → (∀ x ∈ c.exceptionTable.toList, False) → meth.sig.returnType = none → meth.locks = false → Jg p l e rm s m args below meth c 0 0 (vx_MQ below (QvX D q ad d xc S' s.heap.size) (XQ D q ad d xc S' s.heap.size) args s mc ms (AU ad s.heap.size)) D q ad d n 0 lv0 [] S) : CXv l y code n rm mc ms D q ad d sa av S xc S' := by
  intro sz
  refine vx_ofW (cc := code) (maxL := n) (ret := none) hy rfl ?_
  intro p e s m args below meth c s₁ B hml hnt hv
  obtain ⟨rfl, hsz, hP, hK, hN, hF⟩ := hv
  subst hsz
  have hts := atoms_spec (ws := .code y code n none :: ALL) B.pre
  have hown : s.vm.findClass y.cls = some m.cls := findClass_of_methodNamed B.named
  have hl := lv_entry av (n := n) hlen
  rw [hlv] at hl
  rw [lg_entry_eq]
  exact body p e s m _ below meth c ⟨B.exec, B.bytes, hml, hown, fun w h => hts w (List.mem_cons_of_mem _ h), hK, hN, hI⟩ hF hnt B.returns B.notSynchronized s.heap [] _ hP va_S.rf hl

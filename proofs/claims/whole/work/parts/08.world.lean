/-! THE UNIVERSE: every cell that class, reference and law hold once they are made: 455 cells at the addresses ad 0 .. ad 454; what they hold of numbers is one function S (cell, place) -/
abbrev Sx : Type := Nat → Nat → Int32
def up2 (S : Sx) (j k : Nat) (v : Int32) : Sx := fun a b => if a = j then (if b = k then v else S a b) else S a b
theorem up2_ne {S : Sx} {j k : Nat} {v : Int32} {i : Nat} (h : i ≠ j) : up2 S j k v i = S i := by
  funext b
  simp [up2, h]
theorem up2_at {S : Sx} {j k : Nat} {v : Int32} : up2 S j k v j = upd (S j) k v := by
  funext b
  by_cases hb : b = k <;> simp [up2, upd, hb]
def upA (S : Sx) (j : Nat) (f : Nat → Int32) : Sx := fun a => if a = j then f else S a
theorem upA_ne {S : Sx} {j : Nat} {f : Nat → Int32} {i : Nat} (h : i ≠ j) : upA S j f i = S i := by simp [upA, h]
def nb (v : Int32) : Int32 := v &&& 1
def bz (v : Int32) : Prop := v = 0 ∨ v = 1
theorem bz_nb (v : Int32) : bz (nb v) := by
  obtain ⟨j, hj, e⟩ := pk_andE v (m := 1) 1 (by decide)
  have h2 : j = 0 ∨ j = 1 := by omega
  rcases h2 with rfl | rfl
  · exact Or.inl e
  · exact Or.inr e
theorem nb_of {v : Int32} (h : bz v) : nb v = v := by
  rcases h with rfl | rfl <;> decide
theorem bz_0 : bz 0 := Or.inl rfl
theorem bz_1 : bz 1 := Or.inr rfl
theorem bz_narrow {v : Int32} (h : bz v) : narrow .boolean (.int v) = .int v := by
  rcases h with rfl | rfl <;> rfl
theorem bz_fits {v : Int32} (h : bz v) : fits .boolean (.int v) = true := by
  rcases h with rfl | rfl <;> rfl
def kd (j : Nat) : Nat := if j < 15 then 20 + j else if (j - 15) % 40 < 7 then (j - 15) % 40 else if (j - 15) % 40 < 11 then 7 else if (j - 15) % 40 < 16 then 8 else if (j - 15) % 40 < 28 then 9 else 10
def isK (K j : Nat) : Prop := j < 455 ∧ kd j = K
abbrev vCl : List vw_C := [(RX0, TX0, 12), (RX1, TX1, 6), (RX2, TX2, 8), (RX3, TX3, 9), (RX4, TX4, 3), (RX5, TX5, 5), (RX6, TX6, 8), (RX7, TX7, 18)]
abbrev tysU (q : Nat → ClassId) : List (ClassId × FieldType) := [(q 0, .int), (q 1, .object RX5), (q 2, .object RX1), (q 3, .object RX2), (q 4, .object RX0), (q 5, .char), (q 6, .long), (q 7, .double)]
def cellU (ad : Nat → Nat) (q : Nat → ClassId) (d : UInt64) (S : Sx) (j : Nat) : va_E :=
  match kd j with
  | 0 => .inr (0, [.int (S j 0), .int (S j 1), .ref (ad (j + 1)), .ref (ad (j + 2)), .int (S j 4), .ref (ad (j + 4)), .int (S j 6), .ref (ad (j + 5)), .int (S j 8), .ref (ad (j + 3)), .int (S j 10), .ref (ad (j + 6))])
  | 1 => .inl (q 0, 24, .inl (S j))
  | 2 => .inl (q 0, 24, .inl (S j))
  | 3 => .inl (q 0, 3, .inl (S j))
  | 4 => .inl (q 1, 4, .inr (.inr (.inr (.inr (fun k => some (ad (j + 3 + k)))))))
  | 5 => .inl (q 2, 5, .inr (.inr (.inr (.inr (fun k => some (ad (j + 6 + k)))))))
  | 6 => .inl (q 3, 12, .inr (.inr (.inr (.inr (fun k => some (ad (j + 10 + k)))))))
  | 7 => .inr (5, [.int (S j 0), .int (S j 1), .int (S j 2), .int (nb (S j 3)), .int (S j 4)])
  | 8 => .inr (1, [.int (S j 0), .int (nb (S j 1)), .int (S j 2), .int (S j 3), .int (S j 4), .int (S j 5)])
  | 9 => .inr (2, [.int (S j 0), .int (S j 1), .int (S j 2), .int (S j 3), .int (S j 4), .int (S j 5), .int (nb (S j 6)), .ref (ad (j + 12))])
  | 10 => .inl (q 0, 7, .inl (S j))
  | 20 => .inr (6, [.ref (ad 15), .ref (ad 55), .ref (ad 95), .int (nb (S j 3)), .ref (ad 1), .ref (ad 3), .int (S j 6), .int (S j 7)])
  | 21 => .inr (4, [.ref (ad 2), .int (S j 1), .int (S j 2)])
  | 22 => .inl (q 4, 8, .inr (.inr (.inr (.inr (fun k => some (ad (135 + 40 * k)))))))
  | 23 => .inr (3, [.ref (ad 4), .int (S j 1), .int (S j 2), .int (S j 3), .int (S j 4), .int (S j 5), .int (S j 6), .int (S j 7), .int (S j 8)])
  | 24 => .inl (q 5, 60, .inl (S j))
  | 25 => .inr (7, [.ref (ad 6), .ref (ad 7), .ref (ad 8), .ref (ad 9), .ref (ad 10), .int (nb (S j 5)), .int (S j 6), .int (nb (S j 7)), .int (S j 8), .int (nb (S j 9)), .int (S j 10), .int (S j 11), .ref (ad 11), .int (S j 13), .int (S j 14), .int (S j 15), .ref (ad 12), .int (S j 17)])
  | 26 => .inl (q 0, 275, .inl (S j))
  | 27 => .inl (q 0, 2200, .inl (S j))
  | 28 => .inl (q 0, 275, .inl (S j))
  | 29 => .inl (q 0, 275, .inl (S j))
  | 30 => .inl (q 0, 275, .inl (S j))
  | 31 => .inl (q 0, 60, .inl (S j))
  | 32 => .inl (q 0, 124, .inl (S j))
  | 33 => .inl (q 6, 1, .inr (.inl (fun k => (S j k).toInt64)))
  | _ => .inl (q 7, 1, .inr (.inr (.inr (.inl (fun _ => d)))))
theorem cell_congr {ad : Nat → Nat} {q : Nat → ClassId} {d : UInt64} {S S' : Sx} {j : Nat} (h : S' j = S j) : cellU ad q d S' j = cellU ad q d S j := by
  unfold cellU
  rw [h]
def wdU (ad : Nat → Nat) (q : Nat → ClassId) (d : UInt64) (S : Sx) : va_W := (List.range 455).map (fun j => (ad j, cellU ad q d S j))
theorem wd_at {ad : Nat → Nat} {q : Nat → ClassId} {d : UInt64} {S : Sx} {j : Nat} (h : j < 455) : (wdU ad q d S)[j]? = some (ad j, cellU ad q d S j) := by
  unfold wdU
  rw [List.getElem?_map, List.getElem?_range h]
  rfl
theorem wd_inv {ad : Nat → Nat} {q : Nat → ClassId} {d : UInt64} {S : Sx} {k : Nat} {x : Nat × va_E} (h : (wdU ad q d S)[k]? = some x) : k < 455 ∧ x = (ad k, cellU ad q d S k) := by
  have hl : k < (wdU ad q d S).length := (List.getElem?_eq_some_iff.mp h).1
  have h4 : k < 455 := by simpa [wdU] using hl
  rw [wd_at h4] at h
  exact ⟨h4, (Option.some.inj h).symm⟩
theorem wd_set {ad : Nat → Nat} {q : Nat → ClassId} {d d' : UInt64} {S S' : Sx} {j : Nat} {e : va_E} (hj : j < 455) (h1 : ∀ i, i ≠ j → cellU ad q d' S' i = cellU ad q d S i) (h2 : cellU ad q d' S' j = e) : (wdU ad q d S).set j (ad j, e) = wdU ad q d' S' := by
  apply List.ext_getElem?
  intro i
  by_cases hi : i < 455
  · rw [wd_at hi]
    by_cases hij : i = j
    · subst hij
      rw [List.getElem?_set_self (by simpa [wdU] using hi), h2]
    · rw [List.getElem?_set_ne (Ne.symm hij), wd_at hi, h1 i hij]
  · rw [List.getElem?_eq_none (by simp [wdU]; omega), List.getElem?_eq_none (by simp [wdU]; omega)]
/-- the addresses are apart -/
def inj4 (ad : Nat → Nat) : Prop := ∀ i j, i < 455 → j < 455 → ad i = ad j → i = j
def AU (ad : Nat → Nat) (sz : Nat) : Nat → Prop := fun a => (∃ j, j < 455 ∧ a = ad j) ∨ sz ≤ a
theorem wd_D {ad : Nat → Nat} {q : Nat → ClassId} {d : UInt64} {S : Sx} {sz : Nat} (h : inj4 ad) : va_D (AU ad sz) (wdU ad q d S) := by
  refine ⟨fun i j x y hi hj hxy => ?_, fun k x hk => ?_⟩
  · obtain ⟨h1, rfl⟩ := wd_inv hi
    obtain ⟨h2, rfl⟩ := wd_inv hj
    exact h i j h1 h2 hxy
  · obtain ⟨h1, rfl⟩ := wd_inv hk
    exact Or.inl ⟨k, h1, rfl⟩
def NWs (U : State) : Prop := ∀ w ∈ NEST, va_Nw (.methodLinkNest w.1 w.2.1 w.2.2.1 w.2.2.2) U
theorem NWs.warm {s U : State} (hW : s.WarmedH U.vm) (h : NWs s) : NWs U := fun w hw => va_Nw.warmM hW (h w hw)
theorem NWs.same {s U : State} (hv : s.vm = U.vm) (h : NWs s) : NWs U := fun w hw => va_Nw.same rfl hv (h w hw)
/-- a method's start -/
def Pq (D : va_G) (q : Nat → ClassId) (ad : Nat → Nat) (d : UInt64) (av : List Value) (S : Sx) (sz : Nat) : Array Value → State → Prop := va_Pc av (fun U => U.heap.size = sz ∧ va_P D vCl (wdU ad q d S) U.heap ∧ va_K D vCl (tysU q) U ∧ NWs U)
theorem Pq.blind {D : va_G} {q : Nat → ClassId} {ad : Nat → Nat} {d : UInt64} {av : List Value} {S : Sx} {sz : Nat} : FrameBlind (Pq D q ad d av S sz) := by
  intro a U g mk h
  obtain ⟨h1, h2, h3, h4, h5⟩ := h
  exact ⟨h1, h2, h3, va_K.moved (u := U) (U := U.calling g mk a) (Vm.Alike.refl U.vm) h4, NWs.same (s := U) (U := U.calling g mk a) rfl h5⟩
/-- the end of a method that answers an int -/
def Qi (D : va_G) (q : Nat → ClassId) (ad : Nat → Nat) (d : UInt64) (rv : Int32) (S : Sx) (sz : Nat) : Array Value → State → Outcome → State → Prop := va_Qi (fun (r : Int32) (_ : Unit) => r = rv) (fun _ t => va_P D vCl (wdU ad q d S) t.heap) (AU ad sz)
/-- the end of a method that answers nothing -/
def Qv (D : va_G) (q : Nat → ClassId) (ad : Nat → Nat) (d : UInt64) (S : Sx) (sz : Nat) : Array Value → State → Outcome → State → Prop := va_Qv (fun (_ : Unit) => True) (fun _ t => va_P D vCl (wdU ad q d S) t.heap) (AU ad sz)
/-- contracts: an int, or nothing -/
def CI (l : Launch) (y : MethodName) (code : ByteArray) (n : Nat) (ret : FieldType) (rm : Room) (D : va_G) (q : Nat → ClassId) (ad : Nat → Nat) (d : UInt64) (av : List Value) (S : Sx) (rv : Int32) (S' : Sx) : Prop := ∀ sz : Nat, Met l y (.code y code n (some ret) :: ALL) rm (Pq D q ad d av S sz) (Qi D q ad d rv S' sz) 0 0 (AU ad sz)
def CV (l : Launch) (y : MethodName) (code : ByteArray) (n : Nat) (rm : Room) (D : va_G) (q : Nat → ClassId) (ad : Nat → Nat) (d : UInt64) (av : List Value) (S : Sx) (S' : Sx) : Prop := ∀ sz : Nat, Met l y (.code y code n none :: ALL) rm (Pq D q ad d av S sz) (Qv D q ad d S' sz) 0 0 (AU ad sz)
/-- what stands fixed in a method's body -/
def Cx (p : Program) (m : MethodId) (c : Code) (cc : ByteArray) (nL : Nat) (s : State) (args : Array Value) (own : String) (D : va_G) (q : Nat → ClassId) (ad : Nat → Nat) : Prop := p.tables.exec = Jvm.exec ∧ c.code = cc ∧ c.maxLocals = nL ∧ s.vm.findClass own = some m.cls ∧ (∀ w ∈ ALL, w.before args s = true) ∧ va_K D vCl (tysU q) s ∧ NWs s ∧ inj4 ad
section JJ
variable {p : Program} {l : Launch} {e : Env} {R : Room} {s : State} {m : MethodId} {args : Array Value} {below : List Frame} {meth : Method} {c : Code} {cells slots : Nat} {Q : State → Prop} {D : va_G} {q : Nat → ClassId} {ad : Nat → Nat} {d : UInt64} {nL : Nat}
variable {cc : ByteArray} {own : String} {pc : Nat} {lv lv' : List (Nat × Value)} {st : List Value} {S S' : Sx}
/-- from here, at this place with these locals and operands and this state of the universe, Q is reached -/
def Jg (p : Program) (l : Launch) (e : Env) (R : Room) (s : State) (m : MethodId) (args : Array Value) (below : List Frame) (meth : Method) (c : Code) (cells slots : Nat) (Q : State → Prop) (D : va_G) (q : Nat → ClassId) (ad : Nat → Nat) (d : UInt64) (nL : Nat) (pc : Nat) (lv : List (Nat × Value)) (st : List Value) (S : Sx) : Prop :=
  ∀ (H : Heap) (locs : List Loc) (ls : Array Slot), va_P D vCl (wdU ad q d S) H → va_S (AU ad s.heap.size) s.heap H locs → lv_has ls nL lv → W p l e R s m args below meth c H locs cells slots Q (F0 m pc ls st)
theorem j_iconst (X : Cx p m c cc nL s args own D q ad) {n : Int} {v : Int32} (hd : decode cc pc = .ok (.iconst n, 1)) (hv : Int32.ofInt n = v) (g : Jg p l e R s m args below meth c cells slots Q D q ad d nL (pc + 1) lv (.int v :: st) S) : Jg p l e R s m args below meth c cells slots Q D q ad d nL pc lv st S :=
  fun H locs ls hP hS hl => lv_iconst X.1 X.2.1 hd hv (g H locs ls hP hS hl)
theorem j_bipush (X : Cx p m c cc nL s args own D q ad) {n : Int} {v : Int32} (hd : decode cc pc = .ok (.bipush n, 2)) (hv : (Int8.ofInt n).toInt32 = v) (g : Jg p l e R s m args below meth c cells slots Q D q ad d nL (pc + 2) lv (.int v :: st) S) : Jg p l e R s m args below meth c cells slots Q D q ad d nL pc lv st S :=
  fun H locs ls hP hS hl => lv_bipush X.1 X.2.1 hd hv (g H locs ls hP hS hl)
theorem j_sipush (X : Cx p m c cc nL s args own D q ad) {n : Int} {v : Int32} (hd : decode cc pc = .ok (.sipush n, 3)) (hv : (Int16.ofInt n).toInt32 = v) (g : Jg p l e R s m args below meth c cells slots Q D q ad d nL (pc + 3) lv (.int v :: st) S) : Jg p l e R s m args below meth c cells slots Q D q ad d nL pc lv st S :=
  fun H locs ls hP hS hl => lv_sipush X.1 X.2.1 hd hv (g H locs ls hP hS hl)
theorem j_iload_n (X : Cx p m c cc nL s args own D q ad) {k : Fin 4} {x : Int32} (i : Nat) (hd : decode cc pc = .ok (.iload_n k, 1)) (hk : lv[i]? = some ((k : Nat), .int x)) (g : Jg p l e R s m args below meth c cells slots Q D q ad d nL (pc + 1) lv (.int x :: st) S) : Jg p l e R s m args below meth c cells slots Q D q ad d nL pc lv st S :=
  fun H locs ls hP hS hl => lv_iload_n X.1 X.2.1 hd rfl (lv_at hl i hk) (g H locs ls hP hS hl)
theorem j_iload (X : Cx p m c cc nL s args own D q ad) {k : Nat} {x : Int32} (i : Nat) (hd : decode cc pc = .ok (.iload k, 2)) (hk : lv[i]? = some (k, .int x)) (g : Jg p l e R s m args below meth c cells slots Q D q ad d nL (pc + 2) lv (.int x :: st) S) : Jg p l e R s m args below meth c cells slots Q D q ad d nL pc lv st S :=
  fun H locs ls hP hS hl => lv_iload X.1 X.2.1 hd (lv_at hl i hk) (g H locs ls hP hS hl)
theorem j_aload_n (X : Cx p m c cc nL s args own D q ad) {k : Fin 4} {x : Nat} (i : Nat) (hd : decode cc pc = .ok (.aload_n k, 1)) (hk : lv[i]? = some ((k : Nat), .ref x)) (g : Jg p l e R s m args below meth c cells slots Q D q ad d nL (pc + 1) lv (.ref x :: st) S) : Jg p l e R s m args below meth c cells slots Q D q ad d nL pc lv st S :=
  fun H locs ls hP hS hl => lv_aload_n X.1 X.2.1 hd rfl (lv_at hl i hk) (g H locs ls hP hS hl)
theorem j_aload (X : Cx p m c cc nL s args own D q ad) {k : Nat} {x : Nat} (i : Nat) (hd : decode cc pc = .ok (.aload k, 2)) (hk : lv[i]? = some (k, .ref x)) (g : Jg p l e R s m args below meth c cells slots Q D q ad d nL (pc + 2) lv (.ref x :: st) S) : Jg p l e R s m args below meth c cells slots Q D q ad d nL pc lv st S :=
  fun H locs ls hP hS hl => lv_aload X.1 X.2.1 hd (lv_at hl i hk) (g H locs ls hP hS hl)
theorem j_istore_n (X : Cx p m c cc nL s args own D q ad) {k : Fin 4} {x : Int32} (lv' : List (Nat × Value)) (hd : decode cc pc = .ok (.istore_n k, 1)) (hn : (k : Nat) < nL) (hl2 : ((k : Nat), Value.int x) :: lv.filter (fun z => !(z.1 == (k : Nat)) && !(z.1 + 1 == (k : Nat) && z.2.category == 2)) = lv') (g : Jg p l e R s m args below meth c cells slots Q D q ad d nL (pc + 1) lv' st S) : Jg p l e R s m args below meth c cells slots Q D q ad d nL pc lv (.int x :: st) S :=
  fun H locs ls hP hS hl => lv_istore_n X.1 X.2.1 hd rfl hl hn hl2 (fun ls' h => g H locs ls' hP hS h)
theorem j_istore (X : Cx p m c cc nL s args own D q ad) {k : Nat} {x : Int32} (lv' : List (Nat × Value)) (hd : decode cc pc = .ok (.istore k, 2)) (hn : k < nL) (hl2 : (k, Value.int x) :: lv.filter (fun z => !(z.1 == k) && !(z.1 + 1 == k && z.2.category == 2)) = lv') (g : Jg p l e R s m args below meth c cells slots Q D q ad d nL (pc + 2) lv' st S) : Jg p l e R s m args below meth c cells slots Q D q ad d nL pc lv (.int x :: st) S :=
  fun H locs ls hP hS hl => lv_istore X.1 X.2.1 hd hl hn hl2 (fun ls' h => g H locs ls' hP hS h)
theorem j_astore_n (X : Cx p m c cc nL s args own D q ad) {k : Fin 4} {x : Nat} (lv' : List (Nat × Value)) (hd : decode cc pc = .ok (.astore_n k, 1)) (hn : (k : Nat) < nL) (hl2 : ((k : Nat), Value.ref x) :: lv.filter (fun z => !(z.1 == (k : Nat)) && !(z.1 + 1 == (k : Nat) && z.2.category == 2)) = lv') (g : Jg p l e R s m args below meth c cells slots Q D q ad d nL (pc + 1) lv' st S) : Jg p l e R s m args below meth c cells slots Q D q ad d nL pc lv (.ref x :: st) S :=
  fun H locs ls hP hS hl => lv_astore_n X.1 X.2.1 hd rfl hl hn hl2 (fun ls' h => g H locs ls' hP hS h)
theorem j_astore (X : Cx p m c cc nL s args own D q ad) {k : Nat} {x : Nat} (lv' : List (Nat × Value)) (hd : decode cc pc = .ok (.astore k, 2)) (hn : k < nL) (hl2 : (k, Value.ref x) :: lv.filter (fun z => !(z.1 == k) && !(z.1 + 1 == k && z.2.category == 2)) = lv') (g : Jg p l e R s m args below meth c cells slots Q D q ad d nL (pc + 2) lv' st S) : Jg p l e R s m args below meth c cells slots Q D q ad d nL pc lv (.ref x :: st) S :=
  fun H locs ls hP hS hl => lv_astore X.1 X.2.1 hd hl hn hl2 (fun ls' h => g H locs ls' hP hS h)
theorem j_iinc (X : Cx p m c cc nL s args own D q ad) {k : Nat} {n : Int} {x : Int32} (i : Nat) (v : Int32) (lv' : List (Nat × Value)) (hd : decode cc pc = .ok (.iinc k n, 3)) (hk : lv[i]? = some (k, .int x)) (hv : x + Int32.ofInt n = v) (hn : k < nL) (hl2 : (k, Value.int v) :: lv.filter (fun z => !(z.1 == k) && !(z.1 + 1 == k && z.2.category == 2)) = lv') (g : Jg p l e R s m args below meth c cells slots Q D q ad d nL (pc + 3) lv' st S) : Jg p l e R s m args below meth c cells slots Q D q ad d nL pc lv st S :=
  fun H locs ls hP hS hl => lv_iinc X.1 X.2.1 hd hl hk hv hn hl2 (fun ls' h => g H locs ls' hP hS h)
theorem j_iadd (X : Cx p m c cc nL s args own D q ad) {x y : Int32} (hd : decode cc pc = .ok (.iadd, 1)) (g : Jg p l e R s m args below meth c cells slots Q D q ad d nL (pc + 1) lv (.int (x + y) :: st) S) : Jg p l e R s m args below meth c cells slots Q D q ad d nL pc lv (.int y :: .int x :: st) S :=
  fun H locs ls hP hS hl => lv_iadd X.1 X.2.1 hd (g H locs ls hP hS hl)
theorem j_isub (X : Cx p m c cc nL s args own D q ad) {x y : Int32} (hd : decode cc pc = .ok (.isub, 1)) (g : Jg p l e R s m args below meth c cells slots Q D q ad d nL (pc + 1) lv (.int (x - y) :: st) S) : Jg p l e R s m args below meth c cells slots Q D q ad d nL pc lv (.int y :: .int x :: st) S :=
  fun H locs ls hP hS hl => lv_isub X.1 X.2.1 hd (g H locs ls hP hS hl)
theorem j_imul (X : Cx p m c cc nL s args own D q ad) {x y : Int32} (hd : decode cc pc = .ok (.imul, 1)) (g : Jg p l e R s m args below meth c cells slots Q D q ad d nL (pc + 1) lv (.int (x * y) :: st) S) : Jg p l e R s m args below meth c cells slots Q D q ad d nL pc lv (.int y :: .int x :: st) S :=
  fun H locs ls hP hS hl => lv_imul X.1 X.2.1 hd (g H locs ls hP hS hl)
theorem j_iand (X : Cx p m c cc nL s args own D q ad) {x y : Int32} (hd : decode cc pc = .ok (.iand, 1)) (g : Jg p l e R s m args below meth c cells slots Q D q ad d nL (pc + 1) lv (.int (x &&& y) :: st) S) : Jg p l e R s m args below meth c cells slots Q D q ad d nL pc lv (.int y :: .int x :: st) S :=
  fun H locs ls hP hS hl => lv_iand X.1 X.2.1 hd (g H locs ls hP hS hl)
theorem j_ixor (X : Cx p m c cc nL s args own D q ad) {x y : Int32} (hd : decode cc pc = .ok (.ixor, 1)) (g : Jg p l e R s m args below meth c cells slots Q D q ad d nL (pc + 1) lv (.int (x ^^^ y) :: st) S) : Jg p l e R s m args below meth c cells slots Q D q ad d nL pc lv (.int y :: .int x :: st) S :=
  fun H locs ls hP hS hl => lv_ixor X.1 X.2.1 hd (g H locs ls hP hS hl)
theorem j_idiv (X : Cx p m c cc nL s args own D q ad) {x y : Int32} (hd : decode cc pc = .ok (.idiv, 1)) (hne : ¬ y = 0) (g : Jg p l e R s m args below meth c cells slots Q D q ad d nL (pc + 1) lv (.int (x / y) :: st) S) : Jg p l e R s m args below meth c cells slots Q D q ad d nL pc lv (.int y :: .int x :: st) S :=
  fun H locs ls hP hS hl => lv_idiv X.1 X.2.1 hd hne (g H locs ls hP hS hl)
def i_rem (x y : Int32) : Int32 := x - x / y * y
theorem j_irem (X : Cx p m c cc nL s args own D q ad) {x y : Int32} (hd : decode cc pc = .ok (.irem, 1)) (hne : ¬ y = 0) (g : Jg p l e R s m args below meth c cells slots Q D q ad d nL (pc + 1) lv (.int (i_rem x y) :: st) S) : Jg p l e R s m args below meth c cells slots Q D q ad d nL pc lv (.int y :: .int x :: st) S :=
  fun H locs ls hP hS hl => lv_irem X.1 X.2.1 hd hne (g H locs ls hP hS hl)
def i_i2c (x : Int32) : Int32 := (x.toUInt32 % 65536).toInt32
theorem j_i2c (X : Cx p m c cc nL s args own D q ad) {x : Int32} (hd : decode cc pc = .ok (.i2c, 1)) (g : Jg p l e R s m args below meth c cells slots Q D q ad d nL (pc + 1) lv (.int (i_i2c x) :: st) S) : Jg p l e R s m args below meth c cells slots Q D q ad d nL pc lv (.int x :: st) S :=
  fun H locs ls hP hS hl => lv_i2c X.1 X.2.1 hd rfl (g H locs ls hP hS hl)
theorem j_dup (X : Cx p m c cc nL s args own D q ad) {a : Value} (hd : decode cc pc = .ok (.dup, 1)) (ha : a.category = 1) (g : Jg p l e R s m args below meth c cells slots Q D q ad d nL (pc + 1) lv (a :: a :: st) S) : Jg p l e R s m args below meth c cells slots Q D q ad d nL pc lv (a :: st) S :=
  fun H locs ls hP hS hl => lv_dup X.1 X.2.1 hd ha (g H locs ls hP hS hl)
theorem j_pop (X : Cx p m c cc nL s args own D q ad) {a : Value} (hd : decode cc pc = .ok (.pop, 1)) (ha : a.category = 1) (g : Jg p l e R s m args below meth c cells slots Q D q ad d nL (pc + 1) lv st S) : Jg p l e R s m args below meth c cells slots Q D q ad d nL pc lv (a :: st) S :=
  fun H locs ls hP hS hl => lv_pop X.1 X.2.1 hd ha (g H locs ls hP hS hl)
theorem j_dup2 (X : Cx p m c cc nL s args own D q ad) {a b : Value} (hd : decode cc pc = .ok (.dup2, 1)) (ha : a.category = 1) (hb : b.category = 1) (g : Jg p l e R s m args below meth c cells slots Q D q ad d nL (pc + 1) lv (a :: b :: a :: b :: st) S) : Jg p l e R s m args below meth c cells slots Q D q ad d nL pc lv (a :: b :: st) S :=
  fun H locs ls hP hS hl => lv_dup2_11 X.1 X.2.1 hd ha hb (g H locs ls hP hS hl)
theorem j_dup_x1 (X : Cx p m c cc nL s args own D q ad) {a b : Value} (hd : decode cc pc = .ok (.dup_x1, 1)) (ha : a.category = 1) (hb : b.category = 1) (g : Jg p l e R s m args below meth c cells slots Q D q ad d nL (pc + 1) lv (a :: b :: a :: st) S) : Jg p l e R s m args below meth c cells slots Q D q ad d nL pc lv (a :: b :: st) S :=
  fun H locs ls hP hS hl => lv_dup_x1 X.1 X.2.1 hd ha hb (g H locs ls hP hS hl)
theorem j_if_eq (X : Cx p m c cc nL s args own D q ad) {x : Int32} {off : Int} (tgt : Nat) (hd : decode cc pc = .ok (.ifCond .eq off, 3)) (ht : (pc : Int) + off = (tgt : Int)) (gt : x = 0 → Jg p l e R s m args below meth c cells slots Q D q ad d nL tgt lv st S) (gf : ¬ x = 0 → Jg p l e R s m args below meth c cells slots Q D q ad d nL (pc + 3) lv st S) : Jg p l e R s m args below meth c cells slots Q D q ad d nL pc lv (.int x :: st) S :=
  fun H locs ls hP hS hl => lv_if_eq X.1 X.2.1 hd ht (fun h => gt h H locs ls hP hS hl) (fun h => gf h H locs ls hP hS hl)
theorem j_if_ne (X : Cx p m c cc nL s args own D q ad) {x : Int32} {off : Int} (tgt : Nat) (hd : decode cc pc = .ok (.ifCond .ne off, 3)) (ht : (pc : Int) + off = (tgt : Int)) (gt : ¬ x = 0 → Jg p l e R s m args below meth c cells slots Q D q ad d nL tgt lv st S) (gf : x = 0 → Jg p l e R s m args below meth c cells slots Q D q ad d nL (pc + 3) lv st S) : Jg p l e R s m args below meth c cells slots Q D q ad d nL pc lv (.int x :: st) S :=
  fun H locs ls hP hS hl => lv_if_ne X.1 X.2.1 hd ht (fun h => gt h H locs ls hP hS hl) (fun h => gf h H locs ls hP hS hl)
theorem j_if_lt (X : Cx p m c cc nL s args own D q ad) {x : Int32} {off : Int} (tgt : Nat) (hd : decode cc pc = .ok (.ifCond .lt off, 3)) (ht : (pc : Int) + off = (tgt : Int)) (gt : x < 0 → Jg p l e R s m args below meth c cells slots Q D q ad d nL tgt lv st S) (gf : ¬ x < 0 → Jg p l e R s m args below meth c cells slots Q D q ad d nL (pc + 3) lv st S) : Jg p l e R s m args below meth c cells slots Q D q ad d nL pc lv (.int x :: st) S :=
  fun H locs ls hP hS hl => lv_if_lt X.1 X.2.1 hd ht (fun h => gt h H locs ls hP hS hl) (fun h => gf h H locs ls hP hS hl)
theorem j_if_ge (X : Cx p m c cc nL s args own D q ad) {x : Int32} {off : Int} (tgt : Nat) (hd : decode cc pc = .ok (.ifCond .ge off, 3)) (ht : (pc : Int) + off = (tgt : Int)) (gt : 0 ≤ x → Jg p l e R s m args below meth c cells slots Q D q ad d nL tgt lv st S) (gf : ¬ 0 ≤ x → Jg p l e R s m args below meth c cells slots Q D q ad d nL (pc + 3) lv st S) : Jg p l e R s m args below meth c cells slots Q D q ad d nL pc lv (.int x :: st) S :=
  fun H locs ls hP hS hl => lv_if_ge X.1 X.2.1 hd ht (fun h => gt h H locs ls hP hS hl) (fun h => gf h H locs ls hP hS hl)
theorem j_if_gt (X : Cx p m c cc nL s args own D q ad) {x : Int32} {off : Int} (tgt : Nat) (hd : decode cc pc = .ok (.ifCond .gt off, 3)) (ht : (pc : Int) + off = (tgt : Int)) (gt : 0 < x → Jg p l e R s m args below meth c cells slots Q D q ad d nL tgt lv st S) (gf : ¬ 0 < x → Jg p l e R s m args below meth c cells slots Q D q ad d nL (pc + 3) lv st S) : Jg p l e R s m args below meth c cells slots Q D q ad d nL pc lv (.int x :: st) S :=
  fun H locs ls hP hS hl => lv_if_gt X.1 X.2.1 hd ht (fun h => gt h H locs ls hP hS hl) (fun h => gf h H locs ls hP hS hl)
theorem j_if_le (X : Cx p m c cc nL s args own D q ad) {x : Int32} {off : Int} (tgt : Nat) (hd : decode cc pc = .ok (.ifCond .le off, 3)) (ht : (pc : Int) + off = (tgt : Int)) (gt : x ≤ 0 → Jg p l e R s m args below meth c cells slots Q D q ad d nL tgt lv st S) (gf : ¬ x ≤ 0 → Jg p l e R s m args below meth c cells slots Q D q ad d nL (pc + 3) lv st S) : Jg p l e R s m args below meth c cells slots Q D q ad d nL pc lv (.int x :: st) S :=
  fun H locs ls hP hS hl => lv_if_le X.1 X.2.1 hd ht (fun h => gt h H locs ls hP hS hl) (fun h => gf h H locs ls hP hS hl)
theorem j_icmp_eq (X : Cx p m c cc nL s args own D q ad) {x y : Int32} {off : Int} (tgt : Nat) (hd : decode cc pc = .ok (.if_icmp .eq off, 3)) (ht : (pc : Int) + off = (tgt : Int)) (gt : x = y → Jg p l e R s m args below meth c cells slots Q D q ad d nL tgt lv st S) (gf : ¬ x = y → Jg p l e R s m args below meth c cells slots Q D q ad d nL (pc + 3) lv st S) : Jg p l e R s m args below meth c cells slots Q D q ad d nL pc lv (.int y :: .int x :: st) S :=
  fun H locs ls hP hS hl => lv_icmp_eq X.1 X.2.1 hd ht (fun h => gt h H locs ls hP hS hl) (fun h => gf h H locs ls hP hS hl)
theorem j_icmp_ne (X : Cx p m c cc nL s args own D q ad) {x y : Int32} {off : Int} (tgt : Nat) (hd : decode cc pc = .ok (.if_icmp .ne off, 3)) (ht : (pc : Int) + off = (tgt : Int)) (gt : ¬ x = y → Jg p l e R s m args below meth c cells slots Q D q ad d nL tgt lv st S) (gf : x = y → Jg p l e R s m args below meth c cells slots Q D q ad d nL (pc + 3) lv st S) : Jg p l e R s m args below meth c cells slots Q D q ad d nL pc lv (.int y :: .int x :: st) S :=
  fun H locs ls hP hS hl => lv_icmp_ne X.1 X.2.1 hd ht (fun h => gt h H locs ls hP hS hl) (fun h => gf h H locs ls hP hS hl)
theorem j_icmp_lt (X : Cx p m c cc nL s args own D q ad) {x y : Int32} {off : Int} (tgt : Nat) (hd : decode cc pc = .ok (.if_icmp .lt off, 3)) (ht : (pc : Int) + off = (tgt : Int)) (gt : x < y → Jg p l e R s m args below meth c cells slots Q D q ad d nL tgt lv st S) (gf : ¬ x < y → Jg p l e R s m args below meth c cells slots Q D q ad d nL (pc + 3) lv st S) : Jg p l e R s m args below meth c cells slots Q D q ad d nL pc lv (.int y :: .int x :: st) S :=
  fun H locs ls hP hS hl => lv_icmp_lt X.1 X.2.1 hd ht (fun h => gt h H locs ls hP hS hl) (fun h => gf h H locs ls hP hS hl)
theorem j_icmp_ge (X : Cx p m c cc nL s args own D q ad) {x y : Int32} {off : Int} (tgt : Nat) (hd : decode cc pc = .ok (.if_icmp .ge off, 3)) (ht : (pc : Int) + off = (tgt : Int)) (gt : y ≤ x → Jg p l e R s m args below meth c cells slots Q D q ad d nL tgt lv st S) (gf : ¬ y ≤ x → Jg p l e R s m args below meth c cells slots Q D q ad d nL (pc + 3) lv st S) : Jg p l e R s m args below meth c cells slots Q D q ad d nL pc lv (.int y :: .int x :: st) S :=
  fun H locs ls hP hS hl => lv_icmp_ge X.1 X.2.1 hd ht (fun h => gt h H locs ls hP hS hl) (fun h => gf h H locs ls hP hS hl)
theorem j_icmp_gt (X : Cx p m c cc nL s args own D q ad) {x y : Int32} {off : Int} (tgt : Nat) (hd : decode cc pc = .ok (.if_icmp .gt off, 3)) (ht : (pc : Int) + off = (tgt : Int)) (gt : y < x → Jg p l e R s m args below meth c cells slots Q D q ad d nL tgt lv st S) (gf : ¬ y < x → Jg p l e R s m args below meth c cells slots Q D q ad d nL (pc + 3) lv st S) : Jg p l e R s m args below meth c cells slots Q D q ad d nL pc lv (.int y :: .int x :: st) S :=
  fun H locs ls hP hS hl => lv_icmp_gt X.1 X.2.1 hd ht (fun h => gt h H locs ls hP hS hl) (fun h => gf h H locs ls hP hS hl)
theorem j_icmp_le (X : Cx p m c cc nL s args own D q ad) {x y : Int32} {off : Int} (tgt : Nat) (hd : decode cc pc = .ok (.if_icmp .le off, 3)) (ht : (pc : Int) + off = (tgt : Int)) (gt : x ≤ y → Jg p l e R s m args below meth c cells slots Q D q ad d nL tgt lv st S) (gf : ¬ x ≤ y → Jg p l e R s m args below meth c cells slots Q D q ad d nL (pc + 3) lv st S) : Jg p l e R s m args below meth c cells slots Q D q ad d nL pc lv (.int y :: .int x :: st) S :=
  fun H locs ls hP hS hl => lv_icmp_le X.1 X.2.1 hd ht (fun h => gt h H locs ls hP hS hl) (fun h => gf h H locs ls hP hS hl)
theorem j_goto (X : Cx p m c cc nL s args own D q ad) {off : Int} (tgt : Nat) (hd : decode cc pc = .ok (.goto off, 3)) (ht : (pc : Int) + off = (tgt : Int)) (g : Jg p l e R s m args below meth c cells slots Q D q ad d nL tgt lv st S) : Jg p l e R s m args below meth c cells slots Q D q ad d nL pc lv st S :=
  fun H locs ls hP hS hl => lv_goto X.1 X.2.1 hd ht (g H locs ls hP hS hl)
theorem j_tableIn (X : Cx p m c cc nL s args own D q ad) {dflt lo hi : Int} {offs : Array Int} {len : Nat} {x : Int32} (v off : Int) (tgt : Nat) (hd : decode cc pc = .ok (.tableswitch dflt lo hi offs, len)) (hv : x.toInt = v) (h1 : ¬ v < lo) (h2 : ¬ hi < v) (ho : offs[(v - lo).toNat]? = some off) (ht : (pc : Int) + off = (tgt : Int)) (g : Jg p l e R s m args below meth c cells slots Q D q ad d nL tgt lv st S) : Jg p l e R s m args below meth c cells slots Q D q ad d nL pc lv (.int x :: st) S :=
  fun H locs ls hP hS hl => lv_tableIn X.1 X.2.1 hd (by rw [hv]; exact h1) (by rw [hv]; exact h2) (by rw [hv]; exact ho) ht (g H locs ls hP hS hl)
theorem j_tableOut (X : Cx p m c cc nL s args own D q ad) {dflt lo hi : Int} {offs : Array Int} {len : Nat} {x : Int32} (tgt : Nat) (hd : decode cc pc = .ok (.tableswitch dflt lo hi offs, len)) (h : x.toInt < lo ∨ hi < x.toInt) (ht : (pc : Int) + dflt = (tgt : Int)) (g : Jg p l e R s m args below meth c cells slots Q D q ad d nL tgt lv st S) : Jg p l e R s m args below meth c cells slots Q D q ad d nL pc lv (.int x :: st) S :=
  fun H locs ls hP hS hl => lv_tableOut X.1 X.2.1 hd h ht (g H locs ls hP hS hl)
theorem j_lookup (X : Cx p m c cc nL s args own D q ad) {dflt : Int} {ps : Array (Int × Int)} {len : Nat} {x : Int32} (off : Int) (tgt : Nat) (hd : decode cc pc = .ok (.lookupswitch dflt ps, len)) (hp : (ps.toList.zip (ps.toList.drop 1)).all (fun (a, next) => a.1 < next.1) = true) (ho : Op.lookupswitch.offset ps.toList dflt x.toInt = off) (ht : (pc : Int) + off = (tgt : Int)) (g : Jg p l e R s m args below meth c cells slots Q D q ad d nL tgt lv st S) : Jg p l e R s m args below meth c cells slots Q D q ad d nL pc lv (.int x :: st) S :=
  fun H locs ls hP hS hl => lv_lookup X.1 X.2.1 hd hp ho ht (g H locs ls hP hS hl)
/-- fewer locals, by their places -/
theorem j_lv (ks : List Nat) (lv' : List (Nat × Value)) (h : lv_pick lv ks = lv') (g : Jg p l e R s m args below meth c cells slots Q D q ad d nL pc lv' st S) : Jg p l e R s m args below meth c cells slots Q D q ad d nL pc lv st S :=
  fun H locs ls hP hS hl => g H locs ls hP hS (lv_sub hl ks h)
theorem j_get (X : Cx p m c cc nL s args own D q ad) {index ci k j N : Nat} {C : String} {T : u_T} {fs : List Value} {v : Value} (hl1 : Cond.fieldLink own index C (T k).2.1 (T k).2.2.1 ∈ ALL) (hw : ∀ w ∈ u_ws C T N, w ∈ ALL) (hc : vCl[ci]? = some (C, T, N)) (hk : k < N) (hT : (T k).1 = C) (hj : j < 455) (hcell : cellU ad q d S j = .inr (ci, fs)) (hv : fs[k]? = some v) (hd : decode cc pc = .ok (.getfield index, 3)) (g : Jg p l e R s m args below meth c cells slots Q D q ad d nL (pc + 3) lv (v :: st) S) : Jg p l e R s m args below meth c cells slots Q D q ad d nL pc lv (.ref (ad j) :: st) S :=
  fun H locs ls hP hS hl => va_get X.1 X.2.1 X.2.2.2.2.1 hw X.2.2.2.1 X.2.2.2.2.2.1 hP j (by rw [wd_at hj, hcell]) hc k hk (X.2.2.2.2.1 _ hl1) (fun x hx => by rw [← hT]; exact hx) hv hd (g H locs ls hP hS hl)
theorem j_put (X : Cx p m c cc nL s args own D q ad) {index ci k j N : Nat} {C : String} {T : u_T} {fs : List Value} {v : Value} {ty : FieldType} (ty0 : Nat → FieldType) (hty : ∀ k, k < N → parseFieldDescriptor (T k).2.2.1 = some (ty0 k)) (hnm : ∀ a, a < N → ∀ b, b < N → a ≠ b → (T a).2.1 ≠ (T b).2.1) (hl1 : Cond.fieldLink own index C (T k).2.1 (T k).2.2.1 ∈ ALL) (hw : ∀ w ∈ u_ws C T N, w ∈ ALL) (hc : vCl[ci]? = some (C, T, N)) (hk : k < N) (hT : (T k).1 = C) (hfin : (T k).2.2.2 = false) (htk : ty0 k = ty) (hn : narrow ty v = v) (hfit : fits ty v = true) (hj : j < 455) (hcell : cellU ad q d S j = .inr (ci, fs)) (hln : k < fs.length) (hne : ∀ i, i ≠ j → S' i = S i) (hcell' : cellU ad q d S' j = .inr (ci, fs.set k v)) (hd : decode cc pc = .ok (.putfield index, 3)) (g : Jg p l e R s m args below meth c cells slots Q D q ad d nL (pc + 3) lv st S') : Jg p l e R s m args below meth c cells slots Q D q ad d nL pc lv (v :: .ref (ad j) :: st) S := by
  intro H locs ls hP hS hl
  refine va_put X.1 X.2.1 X.2.2.2.2.1 hw ty0 hty hnm X.2.2.2.1 X.2.2.2.2.2.1 hP (wd_D X.2.2.2.2.2.2.2) hS j (by rw [wd_at hj, hcell]) hc k hk (X.2.2.2.2.1 _ hl1) (fun x hx => by rw [← hT]; exact hx) hfin (by rw [hty k hk, htk]) hn hfit hln hd (fun H1 locs1 hP1 _ hS1 => ?_)
  rw [wd_set hj (fun i hi => cell_congr (hne i hi)) hcell'] at hP1
  exact g H1 locs1 ls hP1 hS1 hl
theorem j_iald (X : Cx p m c cc nL s args own D q ad) {j n : Nat} {f : Nat → Int32} {i : Int32} (hj : j < 455) (hcell : cellU ad q d S j = .inl (q 0, n, .inl f)) (hin : vp_in i n) (hd : decode cc pc = .ok (.iaload, 1)) (g : Jg p l e R s m args below meth c cells slots Q D q ad d nL (pc + 1) lv (.int (f i.toNatClampNeg) :: st) S) : Jg p l e R s m args below meth c cells slots Q D q ad d nL pc lv (.int i :: .ref (ad j) :: st) S :=
  fun H locs ls hP hS hl => va_iald X.1 X.2.1 X.2.2.2.2.2.1 hP j 0 (by rw [wd_at hj, hcell]) rfl hin hd (g H locs ls hP hS hl)
theorem j_cald (X : Cx p m c cc nL s args own D q ad) {j n : Nat} {f : Nat → Int32} {i : Int32} (hj : j < 455) (hcell : cellU ad q d S j = .inl (q 5, n, .inl f)) (hin : vp_in i n) (hd : decode cc pc = .ok (.caload, 1)) (g : Jg p l e R s m args below meth c cells slots Q D q ad d nL (pc + 1) lv (.int (f i.toNatClampNeg) :: st) S) : Jg p l e R s m args below meth c cells slots Q D q ad d nL pc lv (.int i :: .ref (ad j) :: st) S :=
  fun H locs ls hP hS hl => va_cald X.1 X.2.1 X.2.2.2.2.2.1 hP j 5 (by rw [wd_at hj, hcell]) rfl hin hd (g H locs ls hP hS hl)
theorem j_aald (X : Cx p m c cc nL s args own D q ad) {j n a : Nat} (t0 : Nat) {cA : ClassId} {C : String} {f : Nat → Option Nat} {i : Int32} (hj : j < 455) (hcell : cellU ad q d S j = .inl (cA, n, .inr (.inr (.inr (.inr f))))) (ht : (tysU q)[t0]? = some (cA, .object C)) (hin : vp_in i n) (hf : f i.toNatClampNeg = some a) (hd : decode cc pc = .ok (.aaload, 1)) (g : Jg p l e R s m args below meth c cells slots Q D q ad d nL (pc + 1) lv (.ref a :: st) S) : Jg p l e R s m args below meth c cells slots Q D q ad d nL pc lv (.int i :: .ref (ad j) :: st) S :=
  fun H locs ls hP hS hl => va_aldq X.1 X.2.1 X.2.2.2.2.2.1 hP j t0 (by rw [wd_at hj, hcell]) ht hin hd (by rw [hf]; exact g H locs ls hP hS hl)
theorem j_iast (X : Cx p m c cc nL s args own D q ad) {j n : Nat} {i x : Int32} (hj : j < 455) (hcell : ∀ T : Sx, cellU ad q d T j = .inl (q 0, n, .inl (T j))) (hin : vp_in i n) (hd : decode cc pc = .ok (.iastore, 1)) (g : Jg p l e R s m args below meth c cells slots Q D q ad d nL (pc + 1) lv st (up2 S j i.toNatClampNeg x)) : Jg p l e R s m args below meth c cells slots Q D q ad d nL pc lv (.int x :: .int i :: .ref (ad j) :: st) S := by
  intro H locs ls hP hS hl
  refine va_iast X.1 X.2.1 X.2.2.2.2.2.1 hP (wd_D X.2.2.2.2.2.2.2) hS j 0 (by rw [wd_at hj, hcell]) rfl hin hd (fun H1 locs1 hP1 _ hS1 => ?_)
  rw [wd_set (S' := up2 S j i.toNatClampNeg x) (d' := d) hj (fun i hi => cell_congr (up2_ne hi)) (by rw [hcell, up2_at])] at hP1
  exact g H1 locs1 ls hP1 hS1 hl
theorem j_cast (X : Cx p m c cc nL s args own D q ad) {j n : Nat} {i x : Int32} (hj : j < 455) (hcell : ∀ T : Sx, cellU ad q d T j = .inl (q 5, n, .inl (T j))) (hin : vp_in i n) (hd : decode cc pc = .ok (.castore, 1)) (g : Jg p l e R s m args below meth c cells slots Q D q ad d nL (pc + 1) lv st (up2 S j i.toNatClampNeg (vp_nar .char x))) : Jg p l e R s m args below meth c cells slots Q D q ad d nL pc lv (.int x :: .int i :: .ref (ad j) :: st) S := by
  intro H locs ls hP hS hl
  refine va_cast X.1 X.2.1 X.2.2.2.2.2.1 hP (wd_D X.2.2.2.2.2.2.2) hS j 5 (by rw [wd_at hj, hcell]) rfl hin hd (fun H1 locs1 hP1 _ hS1 => ?_)
  rw [wd_set (S' := up2 S j i.toNatClampNeg (vp_nar .char x)) (d' := d) hj (fun i hi => cell_congr (up2_ne hi)) (by rw [hcell, up2_at])] at hP1
  exact g H1 locs1 ls hP1 hS1 hl
/-- the words of a call -/
def CWv (own : String) (index : Nat) (C : String) (y : MethodName) (code : ByteArray) (n : Nat) (ret : Option FieldType) (k : Nat) : Prop := Cond.methodLink own index y ∈ ALL ∧ Cond.instanceMethod y ∈ ALL ∧ Cond.selects C y y ∈ ALL ∧ Cond.initialized C ∈ ALL ∧ Cond.code y code n ret ∈ ALL ∧ (y.cls = C ∧ y.cls ≠ "java/lang/invoke/MethodHandle" ∧ y.cls ≠ "java/lang/invoke/VarHandle" ∧ (parseMethodDescriptor y.desc).map (fun d => d.parameters.length) = some k)
def CWs (own : String) (index : Nat) (y : MethodName) (code : ByteArray) (n : Nat) (ret : Option FieldType) (k : Nat) : Prop := Cond.methodLink own index y ∈ ALL ∧ Cond.static y ∈ ALL ∧ Cond.initialized own ∈ ALL ∧ Cond.code y code n ret ∈ ALL ∧ (y.cls = own ∧ y.cls ≠ "java/lang/invoke/MethodHandle" ∧ y.cls ≠ "java/lang/invoke/VarHandle" ∧ (parseMethodDescriptor y.desc).map (fun d => d.parameters.length) = some k)
def CWn (own : String) (index : Nat) (y : MethodName) (host : String) (code : ByteArray) (n : Nat) (ret : Option FieldType) (k : Nat) : Prop := (own, index, y, host) ∈ NEST ∧ Cond.static y ∈ ALL ∧ Cond.initialized y.cls ∈ ALL ∧ Cond.code y code n ret ∈ ALL ∧ (y.cls ≠ "java/lang/invoke/MethodHandle" ∧ y.cls ≠ "java/lang/invoke/VarHandle" ∧ (parseMethodDescriptor y.desc).map (fun d => d.parameters.length) = some k)
theorem all_good : ∀ w ∈ ALL, goodWord w = true := fun w h => (List.mem_filter.mp h).2
theorem good_all {w : Cond} (h : w ∈ ALL) : w ∈ ALL ∧ ((w.onTables && w.keeps) = true ∨ ∃ ty, w = .arrayClass ty) := ⟨h, good_of_word (all_good w h)⟩
theorem good_cons {w : Cond} (h : w ∈ ALL) : GoodIn ALL (w :: ALL) := fun v hv => (List.mem_cons.mp hv).elim (fun e => by rw [e]; exact good_all h) good_all
theorem goodV {own C : String} {index : Nat} {y : MethodName} {code : ByteArray} {n : Nat} {ret : Option FieldType} {k : Nat} (w : CWv own index C y code n ret k) : GoodIn ALL (wsV own index C y (.code y code n ret :: ALL)) := by
  intro v hv
  rcases List.mem_append.mp hv with h | h
  · simp only [List.mem_cons, List.not_mem_nil, or_false] at h
    rcases h with rfl | rfl | rfl | rfl
    · exact good_all w.1
    · exact good_all w.2.1
    · exact good_all w.2.2.1
    · exact good_all w.2.2.2.1
  · exact good_cons w.2.2.2.2.1 v h
theorem goodS {own : String} {index : Nat} {y : MethodName} {code : ByteArray} {n : Nat} {ret : Option FieldType} {k : Nat} (w : CWs own index y code n ret k) : GoodIn ALL (wsS own index y (.code y code n ret :: ALL)) := by
  intro v hv
  rcases List.mem_append.mp hv with h | h
  · simp only [List.mem_cons, List.not_mem_nil, or_false] at h
    rcases h with rfl | rfl | rfl
    · exact good_all w.1
    · exact good_all w.2.1
    · exact good_all w.2.2.1
  · exact good_cons w.2.2.2.1 v h
theorem pq_at {H : Heap} {av : List Value} (hK : va_K D vCl (tysU q) s) (hN : NWs s) (hP : va_P D vCl (wdU ad q d S) H) : PreS s H (Pq D q ad d av S H.size) av := ⟨Pq.blind, fun U hU hW => ⟨rfl, by rw [hU], by rw [hU]; exact hP, va_K.moved hW.alike hK, hN.warm hW⟩⟩
theorem au_keep {H : Heap} {locs : List Loc} (hS : va_S (AU ad s.heap.size) s.heap H locs) : ∀ x, AU ad H.size x → AU ad s.heap.size x := fun x h => h.elim Or.inl (fun h => Or.inr (Nat.le_trans hS.1 h))
/-- behind a call that answers an int, or nothing -/
theorem j_backi {y : MethodName} {H : Heap} {locs : List Loc} {ls : Array Slot} {rv : Int32} {st0 rest : List Value} {av : Array Value} {rm : Room} (hl : lv_has ls nL lv) (hS : va_S (AU ad s.heap.size) s.heap H locs) (hr : va_Run p l e R s m args below meth c H locs cells slots 0 0 (F0 m pc ls st0) rest (Qi D q ad d rv S' H.size av) (AU ad H.size)) (g : Jg p l e R s m args below meth c cells slots Q D q ad d nL (pc + 3) lv (.int rv :: rest) S') : W p l e R s m args below meth c H locs cells slots Q (F0 m pc ls st0) := by
  refine va_calli hr hS (fun x _ h => au_keep hS x h) (au_keep hS) (fun r u t H1 locs1 ht _ hw hB _ _ hS1 => ?_)
  subst hw
  rw [ht] at hB
  exact g H1 locs1 ls hB hS1 hl
theorem j_backv {H : Heap} {locs : List Loc} {ls : Array Slot} {st0 rest : List Value} {av : Array Value} (hl : lv_has ls nL lv) (hS : va_S (AU ad s.heap.size) s.heap H locs) (hr : va_Run p l e R s m args below meth c H locs cells slots 0 0 (F0 m pc ls st0) rest (Qv D q ad d S' H.size av) (AU ad H.size)) (g : Jg p l e R s m args below meth c cells slots Q D q ad d nL (pc + 3) lv rest S') : W p l e R s m args below meth c H locs cells slots Q (F0 m pc ls st0) := by
  refine va_callv hr hS (fun x _ h => au_keep hS x h) (au_keep hS) (fun u t H1 locs1 ht _ _ hB _ _ hS1 => ?_)
  rw [ht] at hB
  exact g H1 locs1 ls hB hS1 hl
theorem j_callVi (X : Cx p m c cc nL s args own D q ad) {index ci j n k N : Nat} {C : String} {T : u_T} {fs As rest : List Value} {y : MethodName} {code : ByteArray} {ret : FieldType} {rm : Room} {rv : Int32} (hM : CI l y code n ret rm D q ad d (.ref (ad j) :: As) S rv S') (cw : CWv own index C y code n (some ret) k) (hj : j < 455) (hcell : cellU ad q d S j = .inr (ci, fs)) (hc : vCl[ci]? = some (C, T, N)) (hrm : rm.cells = 0 ∧ rm.slots = 0 ∧ rm.frames + 1 ≤ R.frames ∧ 8 + (n + 11) + rm.locals ≤ R.locals) (hn : As.length = k) (hst : st = As.reverse ++ .ref (ad j) :: rest) (hcat : (rest.map fun v => v.category).sum ≤ 8) (hcs : cells ≤ R.cells ∧ slots ≤ R.slots) (hd : decode cc pc = .ok (.invokevirtual index, 3)) (g : Jg p l e R s m args below meth c cells slots Q D q ad d nL (pc + 3) lv (.int rv :: rest) S') : Jg p l e R s m args below meth c cells slots Q D q ad d nL pc lv st S := by
  intro H locs ls hP hS hl
  obtain ⟨hx, hb, hml, hown, hts, hK, hN, hI⟩ := X
  refine j_backi (y := y) (rm := rm) hl hS (va_runV ⟨hx, hb, hml, hown, hts⟩ (hM H.size) (cwV k hts (goodV cw) rfl hrm.1 hrm.2.1 cw.2.2.2.2.2 ⟨hrm.2.2.1, hrm.2.2.2⟩) ⟨Pq.blind, va_recv hK hP hc (by rw [wd_at hj, hcell]), (pq_at hK hN hP).2⟩ rfl hn hl.1 hst (lv_room hcat) hd ⟨hcs.1, hcs.2⟩) g
theorem j_callVv (X : Cx p m c cc nL s args own D q ad) {index ci j n k N : Nat} {C : String} {T : u_T} {fs As rest : List Value} {y : MethodName} {code : ByteArray} {rm : Room} (hM : CV l y code n rm D q ad d (.ref (ad j) :: As) S S') (cw : CWv own index C y code n none k) (hj : j < 455) (hcell : cellU ad q d S j = .inr (ci, fs)) (hc : vCl[ci]? = some (C, T, N)) (hrm : rm.cells = 0 ∧ rm.slots = 0 ∧ rm.frames + 1 ≤ R.frames ∧ 8 + (n + 11) + rm.locals ≤ R.locals) (hn : As.length = k) (hst : st = As.reverse ++ .ref (ad j) :: rest) (hcat : (rest.map fun v => v.category).sum ≤ 8) (hcs : cells ≤ R.cells ∧ slots ≤ R.slots) (hd : decode cc pc = .ok (.invokevirtual index, 3)) (g : Jg p l e R s m args below meth c cells slots Q D q ad d nL (pc + 3) lv rest S') : Jg p l e R s m args below meth c cells slots Q D q ad d nL pc lv st S := by
  intro H locs ls hP hS hl
  obtain ⟨hx, hb, hml, hown, hts, hK, hN, hI⟩ := X
  refine j_backv hl hS (va_runV ⟨hx, hb, hml, hown, hts⟩ (hM H.size) (cwV k hts (goodV cw) rfl hrm.1 hrm.2.1 cw.2.2.2.2.2 ⟨hrm.2.2.1, hrm.2.2.2⟩) ⟨Pq.blind, va_recv hK hP hc (by rw [wd_at hj, hcell]), (pq_at hK hN hP).2⟩ rfl hn hl.1 hst (lv_room hcat) hd ⟨hcs.1, hcs.2⟩) g
theorem j_callSi (X : Cx p m c cc nL s args own D q ad) {index n k : Nat} {As rest : List Value} {y : MethodName} {code : ByteArray} {ret : FieldType} {rm : Room} {rv : Int32} (hM : CI l y code n ret rm D q ad d As S rv S') (cw : CWs own index y code n (some ret) k) (hrm : rm.cells = 0 ∧ rm.slots = 0 ∧ rm.frames + 1 ≤ R.frames ∧ 8 + (n + 11) + rm.locals ≤ R.locals) (hn : As.length = k) (hst : st = As.reverse ++ rest) (hcat : (rest.map fun v => v.category).sum ≤ 8) (hcs : cells ≤ R.cells ∧ slots ≤ R.slots) (hd : decode cc pc = .ok (.invokestatic index, 3)) (g : Jg p l e R s m args below meth c cells slots Q D q ad d nL (pc + 3) lv (.int rv :: rest) S') : Jg p l e R s m args below meth c cells slots Q D q ad d nL pc lv st S := by
  intro H locs ls hP hS hl
  obtain ⟨hx, hb, hml, hown, hts, hK, hN, hI⟩ := X
  refine j_backi (y := y) (rm := rm) hl hS (va_runS ⟨hx, hb, hml, hown, hts⟩ (hM H.size) (cwS k hts (goodS cw) rfl hrm.1 hrm.2.1 cw.2.2.2.2 ⟨hrm.2.2.1, hrm.2.2.2⟩) (pq_at hK hN hP) rfl hn hl.1 hst (lv_room hcat) hd ⟨hcs.1, hcs.2⟩) g
theorem j_callSv (X : Cx p m c cc nL s args own D q ad) {index n k : Nat} {As rest : List Value} {y : MethodName} {code : ByteArray} {rm : Room} (hM : CV l y code n rm D q ad d As S S') (cw : CWs own index y code n none k) (hrm : rm.cells = 0 ∧ rm.slots = 0 ∧ rm.frames + 1 ≤ R.frames ∧ 8 + (n + 11) + rm.locals ≤ R.locals) (hn : As.length = k) (hst : st = As.reverse ++ rest) (hcat : (rest.map fun v => v.category).sum ≤ 8) (hcs : cells ≤ R.cells ∧ slots ≤ R.slots) (hd : decode cc pc = .ok (.invokestatic index, 3)) (g : Jg p l e R s m args below meth c cells slots Q D q ad d nL (pc + 3) lv rest S') : Jg p l e R s m args below meth c cells slots Q D q ad d nL pc lv st S := by
  intro H locs ls hP hS hl
  obtain ⟨hx, hb, hml, hown, hts, hK, hN, hI⟩ := X
  refine j_backv hl hS (va_runS ⟨hx, hb, hml, hown, hts⟩ (hM H.size) (cwS k hts (goodS cw) rfl hrm.1 hrm.2.1 cw.2.2.2.2 ⟨hrm.2.2.1, hrm.2.2.2⟩) (pq_at hK hN hP) rfl hn hl.1 hst (lv_room hcat) hd ⟨hcs.1, hcs.2⟩) g
def CWt (own : String) (index : Nat) (y : MethodName) (code : ByteArray) (n : Nat) (ret : Option FieldType) (k : Nat) : Prop := Cond.methodLink own index y ∈ ALL ∧ Cond.static y ∈ ALL ∧ Cond.initialized y.cls ∈ ALL ∧ Cond.code y code n ret ∈ ALL ∧ (y.cls ≠ "java/lang/invoke/MethodHandle" ∧ y.cls ≠ "java/lang/invoke/VarHandle" ∧ (parseMethodDescriptor y.desc).map (fun d => d.parameters.length) = some k)
theorem goodT {own : String} {index : Nat} {y : MethodName} {code : ByteArray} {n : Nat} {ret : Option FieldType} {k : Nat} (w : CWt own index y code n ret k) : GoodIn ALL (va_wsS own index y (.code y code n ret :: ALL)) := by
  intro v hv
  rcases List.mem_append.mp hv with h | h
  · simp only [List.mem_cons, List.not_mem_nil, or_false] at h
    rcases h with rfl | rfl | rfl
    · exact good_all w.1
    · exact good_all w.2.1
    · exact good_all w.2.2.1
  · exact good_cons w.2.2.2.1 v h
theorem j_callTi (X : Cx p m c cc nL s args own D q ad) {index n k : Nat} {As rest : List Value} {y : MethodName} {code : ByteArray} {ret : FieldType} {rm : Room} {rv : Int32} (hM : CI l y code n ret rm D q ad d As S rv S') (cw : CWt own index y code n (some ret) k) (hrm : rm.cells = 0 ∧ rm.slots = 0 ∧ rm.frames + 1 ≤ R.frames ∧ 8 + (n + 11) + rm.locals ≤ R.locals) (hn : As.length = k) (hst : st = As.reverse ++ rest) (hcat : (rest.map fun v => v.category).sum ≤ 8) (hcs : cells ≤ R.cells ∧ slots ≤ R.slots) (hd : decode cc pc = .ok (.invokestatic index, 3)) (g : Jg p l e R s m args below meth c cells slots Q D q ad d nL (pc + 3) lv (.int rv :: rest) S') : Jg p l e R s m args below meth c cells slots Q D q ad d nL pc lv st S := by
  intro H locs ls hP hS hl
  obtain ⟨hx, hb, hml, hown, hts, hK, hN, hI⟩ := X
  refine j_backi (y := y) (rm := rm) hl hS (va_runS ⟨hx, hb, hml, hown, hts⟩ (hM H.size) (va_cwS k hts (goodT cw) rfl hrm.1 hrm.2.1 cw.2.2.2.2 ⟨hrm.2.2.1, hrm.2.2.2⟩) (pq_at hK hN hP) rfl hn hl.1 hst (lv_room hcat) hd ⟨hcs.1, hcs.2⟩) g
theorem j_callNi (X : Cx p m c cc nL s args own D q ad) {index n k : Nat} {host : String} {As rest : List Value} {y : MethodName} {code : ByteArray} {ret : FieldType} {rm : Room} {rv : Int32} (hM : CI l y code n ret rm D q ad d As S rv S') (cw : CWn own index y host code n (some ret) k) (hrm : rm.cells = 0 ∧ rm.slots = 0 ∧ rm.frames + 1 ≤ R.frames ∧ 8 + (n + 11) + rm.locals ≤ R.locals) (hn : As.length = k) (hst : st = As.reverse ++ rest) (hcat : (rest.map fun v => v.category).sum ≤ 8) (hcs : cells ≤ R.cells ∧ slots ≤ R.slots) (hd : decode cc pc = .ok (.invokestatic index, 3)) (g : Jg p l e R s m args below meth c cells slots Q D q ad d nL (pc + 3) lv (.int rv :: rest) S') : Jg p l e R s m args below meth c cells slots Q D q ad d nL pc lv st S := by
  intro H locs ls hP hS hl
  obtain ⟨hx, hb, hml, hown, hts, hK, hN, hI⟩ := X
  refine j_backi (y := y) (rm := rm) hl hS (va_runSN ⟨hx, hb, hml, hown, hts⟩ (hM H.size) ⟨va_cnB k hts (good_cons cw.2.2.2.1) rfl hrm.1 hrm.2.1 (hN _ cw.1) (hts _ cw.2.2.1) cw.2.2.2.2 ⟨hrm.2.2.1, hrm.2.2.2⟩, hts _ cw.2.1, trivial⟩ (pq_at hK hN hP) rfl hn hl.1 hst (lv_room hcat) hd ⟨hcs.1, hcs.2⟩) g
theorem j_min (X : Cx p m c cc nL s args own D q ad) {index : Nat} {x y : Int32} {rest : List Value} (h1 : Cond.methodLink own index Lib.Math.min.name ∈ ALL) (h2 : Cond.static Lib.Math.min.name ∈ ALL) (h3 : Cond.initialized "java/lang/Math" ∈ ALL) (h4 : Cond.code Lib.Math.min.name Lib.Math.min.code 2 (some .int) ∈ ALL) (hf : 1 ≤ R.frames) (hlo : (rest.map fun v => v.category).sum + 13 ≤ R.locals) (hcs : cells ≤ R.cells ∧ slots ≤ R.slots) (hd : decode cc pc = .ok (.invokestatic index, 3)) (g : Jg p l e R s m args below meth c cells slots Q D q ad d nL (pc + 3) lv (.int (if y < x then y else x) :: rest) S) : Jg p l e R s m args below meth c cells slots Q D q ad d nL pc lv (.int y :: .int x :: rest) S := by
  intro H locs ls hP hS hl
  obtain ⟨hx, hb, hml, hown, hts, hK, hN, hI⟩ := X
  exact va_mmin hx hb (by rw [hml, hl.1]) hown (hts _ h1) (hts _ h2) (hts _ h3) (hts _ h4) hf hlo hcs.1 hcs.2 hd (g H locs ls hP hS hl)
theorem j_copy (X : Cx p m c cc nL s args own D q ad) {index j0 j1 n0 n1 : Nat} {rest : List Value} (h1 : Cond.methodLink own index arraycopyName ∈ ALL) (h2 : Cond.native arraycopyName ∈ ALL) (h3 : Cond.static arraycopyName ∈ ALL) (h4 : Cond.initialized "java/lang/System" ∈ ALL) (hj0 : j0 < 455) (hj1 : j1 < 455) (hc0 : ∀ T : Sx, cellU ad q d T j0 = .inl (q 0, n0, .inl (T j0))) (hc1 : ∀ T : Sx, cellU ad q d T j1 = .inl (q 0, n1, .inl (T j1))) {n : Int32} (hn : ¬ n < 0) (hn0 : n.toNatClampNeg ≤ n0) (hn1 : n.toNatClampNeg ≤ n1) (hf : 1 ≤ R.frames) (hlo : (rest.map fun v => v.category).sum + (nativeFrameWords "java/lang/System" "arraycopy" 5 + 11) ≤ R.locals) (hd : decode cc pc = .ok (.invokestatic index, 3)) (g : Jg p l e R s m args below meth c cells slots Q D q ad d nL (pc + 3) lv rest (upA S j1 (va_cpy (S j0) (S j1) 0 0 n.toNatClampNeg))) : Jg p l e R s m args below meth c cells slots Q D q ad d nL pc lv (.int n :: .int 0 :: .ref (ad j1) :: .int 0 :: .ref (ad j0) :: rest) S := by
  intro H locs ls hP hS hl
  obtain ⟨hx, hb, hml, hown, hts, hK, hN, hI⟩ := X
  have z : (0 : Int32).toNatClampNeg = 0 := by decide
  refine va_copyi hx hb (by rw [hml, hl.1]) hown (hts _ h1) (hts _ h2) (hts _ h3) (hts _ h4) hK hP (wd_D hI) hS j0 j1 0 0 (ty := .int) (by rw [wd_at hj0, hc0]) (by rw [wd_at hj1, hc1]) rfl rfl rfl (by decide) (by decide) hn (by rw [z]; omega) (by rw [z]; omega) (fun _ _ => rfl) hf hlo hd (fun H1 locs1 hP1 _ hS1 => ?_)
  rw [z, wd_set (S' := upA S j1 (va_cpy (S j0) (S j1) 0 0 n.toNatClampNeg)) (d' := d) hj1 (fun i hi => cell_congr (upA_ne hi)) (by rw [hc1]; simp [upA])] at hP1
  exact g H1 locs1 ls hP1 hS1 hl
theorem j_iret (X : Cx p m c cc nL s args own D q ad) {v rv : Int32} (hr : meth.sig.returnType = some .int) (hlocks : meth.locks = false) (hd : decode cc pc = .ok (.ireturn, 1)) (hv : v = rv) (hSS : S = S') : Jg p l e R s m args below meth c 0 0 (MQ below (Qi D q ad d rv S' s.heap.size) args s 0 0 (AU ad s.heap.size)) D q ad d nL pc lv [.int v] S := by
  intro H locs ls hP hS hl
  subst hv
  subst hSS
  exact W.iret X.1 X.2.1 hr (fun t ht hW => ⟨⟨v, (), rfl, rfl, by show va_P D vCl (wdU ad q d S) t.heap; rw [ht]; exact hP⟩, hS.F ht⟩) hS.2.2 hd hlocks
theorem j_zret (X : Cx p m c cc nL s args own D q ad) {v rv : Int32} {ty : FieldType} (hr : meth.sig.returnType = some ty) (hlocks : meth.locks = false) (hn : narrow ty (.int v) = .int v) (hd : decode cc pc = .ok (.ireturn, 1)) (hv : v = rv) (hSS : S = S') : Jg p l e R s m args below meth c 0 0 (MQ below (Qi D q ad d rv S' s.heap.size) args s 0 0 (AU ad s.heap.size)) D q ad d nL pc lv [.int v] S := by
  intro H locs ls hP hS hl
  subst hv
  subst hSS
  exact W.zret X.1 X.2.1 hr hn (fun t ht hW => ⟨⟨v, (), rfl, rfl, by show va_P D vCl (wdU ad q d S) t.heap; rw [ht]; exact hP⟩, hS.F ht⟩) hS.2.2 hd hlocks
theorem j_vret (X : Cx p m c cc nL s args own D q ad) (hr : meth.sig.returnType = none) (hlocks : meth.locks = false) (hd : decode cc pc = .ok (.return_, 1)) (hSS : S = S') : Jg p l e R s m args below meth c 0 0 (MQ below (Qv D q ad d S' s.heap.size) args s 0 0 (AU ad s.heap.size)) D q ad d nL pc lv [] S := by
  intro H locs ls hP hS hl
  subst hSS
  exact W.vret X.1 X.2.1 hr (fun t ht hW => ⟨⟨(), rfl, trivial, by show va_P D vCl (wdU ad q d S) t.heap; rw [ht]; exact hP⟩, hS.F ht⟩) hS.2.2 hd hlocks
end JJ
theorem ofWF {l : Launch} {y : MethodName} {ws ws' : List Cond} {rm : Room} {Pc : Array Value → State → Prop} {Qc : Array Value → State → Outcome → State → Prop} {mc ms : Nat} {free : Addr → Prop} {cc : ByteArray} {maxL : Nat} {ret : Option FieldType}
    (hy : plainFor y = true) (hw : ws = Cond.code y cc maxL ret :: ws')
    (body : ∀ p e s m args below meth c s₁, BodyLoose p l y (headSpec ws rm) cc maxL ret e s m args below meth c s₁ → c.maxLocals = maxL → Pc args s →
      W p l e (headSpec ws rm).room s m args below meth c s.heap [] 0 0 (MQ below Qc args s mc ms free) (entryFrame m args maxL)) : Met l y ws rm Pc Qc mc ms free := by
  refine MetFree.of_bodySF (code := cc) (maxLocals := maxL) (ret := ret) hy ?_ ?_
  · intro args s m h hn
    obtain ⟨meth, c, h1, h2, h3, h4, h5, h6, -, -⟩ := Cond.code_spec hn (atoms_spec (ws := ws) h _ (by rw [hw]; exact List.mem_cons_self))
    exact ⟨meth, c, h1, h2, h3, h4, h5, h6⟩
  · intro p e s m args below meth c s₁ B hml hP _
    have hh0 : s₁.heap = s.heap := by rw [B.state]; rfl
    obtain ⟨t, a1, o, b1, b2, b3⟩ := body p e s m args below meth c s₁ B hml hP s₁ hh0 (Stand.of_body B)
    exact ⟨t, o, a1, b1, b2, ⟨b3.1, b3.2⟩⟩
/-- a method's contract out of its body -/
theorem ci_of {l : Launch} {y : MethodName} {code : ByteArray} {n : Nat} {ret : FieldType} {rm : Room} {D : va_G} {q : Nat → ClassId} {ad : Nat → Nat} {d : UInt64} {av : List Value} {S S' : Sx} {rv : Int32} {lv0 : List (Nat × Value)} (hI : inj4 ad) (hy : plainFor y = true) (hlen : (lg_sl av).length ≤ n) (hlv : lv_args 0 av = lv0)
    (body : ∀ (p : Program) (e : Env) (s : State) (m : MethodId) (args : Array Value) (below : List Frame) (meth : Method) (c : Code), Cx p m c code n s args y.cls D q ad → meth.sig.returnType = some ret → meth.locks = false → Jg p l e rm s m args below meth c 0 0 (MQ below (Qi D q ad d rv S' s.heap.size) args s 0 0 (AU ad s.heap.size)) D q ad d n 0 lv0 [] S) : CI l y code n ret rm D q ad d av S rv S' := by
  intro sz
  refine ofWF (cc := code) (maxL := n) (ret := some ret) hy rfl ?_
  intro p e s m args below meth c s₁ B hml hv
  obtain ⟨rfl, hsz, hP, hK, hN⟩ := hv
  subst hsz
  have hts := atoms_spec (ws := .code y code n (some ret) :: ALL) B.pre
  have hown : s.vm.findClass y.cls = some m.cls := findClass_of_methodNamed B.named
  have hl := lv_entry av (n := n) hlen
  rw [hlv] at hl
  rw [lg_entry_eq]
  exact body p e s m _ below meth c ⟨B.exec, B.bytes, hml, hown, fun w h => hts w (List.mem_cons_of_mem _ h), hK, hN, hI⟩ B.returns B.notSynchronized s.heap [] _ hP va_S.rf hl
theorem cv_of {l : Launch} {y : MethodName} {code : ByteArray} {n : Nat} {rm : Room} {D : va_G} {q : Nat → ClassId} {ad : Nat → Nat} {d : UInt64} {av : List Value} {S S' : Sx} {lv0 : List (Nat × Value)} (hI : inj4 ad) (hy : plainFor y = true) (hlen : (lg_sl av).length ≤ n) (hlv : lv_args 0 av = lv0)
    (body : ∀ (p : Program) (e : Env) (s : State) (m : MethodId) (args : Array Value) (below : List Frame) (meth : Method) (c : Code), Cx p m c code n s args y.cls D q ad → meth.sig.returnType = none → meth.locks = false → Jg p l e rm s m args below meth c 0 0 (MQ below (Qv D q ad d S' s.heap.size) args s 0 0 (AU ad s.heap.size)) D q ad d n 0 lv0 [] S) : CV l y code n rm D q ad d av S S' := by
  intro sz
  refine ofWF (cc := code) (maxL := n) (ret := none) hy rfl ?_
  intro p e s m args below meth c s₁ B hml hv
  obtain ⟨rfl, hsz, hP, hK, hN⟩ := hv
  subst hsz
  have hts := atoms_spec (ws := .code y code n none :: ALL) B.pre
  have hown : s.vm.findClass y.cls = some m.cls := findClass_of_methodNamed B.named
  have hl := lv_entry av (n := n) hlen
  rw [hlv] at hl
  rw [lg_entry_eq]
  exact body p e s m _ below meth c ⟨B.exec, B.bytes, hml, hown, fun w h => hts w (List.mem_cons_of_mem _ h), hK, hN, hI⟩ B.returns B.notSynchronized s.heap [] _ hP va_S.rf hl

/-! MAKING: cells laid one behind the other from an address on -/
def gw (B n : Nat) (cel : Nat → va_E) : va_W := (List.range n).map (fun i => (B + i, cel i))
theorem gw_at {B n : Nat} {cel : Nat → va_E} {i : Nat} (h : i < n) : (gw B n cel)[i]? = some (B + i, cel i) := by
  unfold gw
  rw [List.getElem?_map, List.getElem?_range h]
  rfl
theorem gw_inv {B n k : Nat} {cel : Nat → va_E} {x : Nat × va_E} (h : (gw B n cel)[k]? = some x) : k < n ∧ x = (B + k, cel k) := by
  have hl : k < (gw B n cel).length := (List.getElem?_eq_some_iff.mp h).1
  have h4 : k < n := by simpa [gw] using hl
  rw [gw_at h4] at h
  exact ⟨h4, (Option.some.inj h).symm⟩
theorem gw_ext {w : va_W} {B n : Nat} {cel : Nat → va_E} (h1 : w.length = n) (h2 : ∀ i, i < n → w[i]? = some (B + i, cel i)) : w = gw B n cel := by
  apply List.ext_getElem?
  intro i
  by_cases hi : i < n
  · rw [h2 i hi, gw_at hi]
  · rw [List.getElem?_eq_none (by omega), List.getElem?_eq_none (by simp [gw]; omega)]
def ue (cel : Nat → va_E) (i : Nat) (e : va_E) : Nat → va_E := fun k => if k = i then e else cel k
theorem ue_at {cel : Nat → va_E} {i : Nat} {e : va_E} : ue cel i e i = e := by simp [ue]
theorem ue_ne {cel : Nat → va_E} {i k : Nat} {e : va_E} (h : ¬ k = i) : ue cel i e k = cel k := by simp [ue, h]
theorem gw_set {B n : Nat} {cel : Nat → va_E} {i : Nat} {e : va_E} (h : i < n) : (gw B n cel).set i (B + i, e) = gw B n (ue cel i e) := by
  refine gw_ext (by simp [gw]) (fun k hk => ?_)
  by_cases q : i = k
  · subst q
    rw [List.getElem?_set_self (by simpa [gw] using hk), ue_at]
  · rw [List.getElem?_set_ne q, gw_at hk, ue_ne (Ne.symm q)]
theorem gw_app {B n : Nat} {cel : Nat → va_E} {e : va_E} : gw B n cel ++ [(B + n, e)] = gw B (n + 1) (ue cel n e) := by
  refine gw_ext (by simp [gw]) (fun k hk => ?_)
  by_cases q : k < n
  · rw [List.getElem?_append_left (by simpa [gw] using q), gw_at q, ue_ne (by omega)]
  · have e1 : k = n := by omega
    subst e1
    rw [List.getElem?_append_right (by simp [gw]), ue_at]
    simp [gw]
theorem gw_congr {B n : Nat} {cel cel' : Nat → va_E} (h : ∀ i, i < n → cel i = cel' i) : gw B n cel = gw B n cel' := gw_ext (by simp [gw]) (fun i hi => by rw [gw_at hi, h i hi])
theorem gw_D {A : Nat → Prop} {B n : Nat} {cel : Nat → va_E} (hA : ∀ i, i < n → A (B + i)) : va_D A (gw B n cel) := by
  refine ⟨fun i j x y hi hj hxy => ?_, fun k x hk => ?_⟩
  · obtain ⟨h1, rfl⟩ := gw_inv hi
    obtain ⟨h2, rfl⟩ := gw_inv hj
    have : B + i = B + j := hxy
    omega
  · obtain ⟨h1, rfl⟩ := gw_inv hk
    exact hA k h1
def Ao (B : Nat) : Nat → Prop := fun x => B ≤ x
theorem gw_DB {B n : Nat} {cel : Nat → va_E} : va_D (Ao B) (gw B n cel) := gw_D (fun i _ => Nat.le_add_right B i)
def AOs (U : State) : Prop := va_AO RX5 U ∧ va_AO RX1 U ∧ va_AO RX2 U ∧ va_AO RX0 U
theorem AOs.moved {u U : State} (h : u.vm.Alike U.vm) (a : AOs u) : AOs U := ⟨va_AO.moved h a.1, va_AO.moved h a.2.1, va_AO.moved h a.2.2.1, va_AO.moved h a.2.2.2⟩
/-- what stands fixed in a maker's body -/
def Ck (p : Program) (m : MethodId) (c : Code) (cc : ByteArray) (nL : Nat) (s : State) (args : Array Value) (own : String) (D : va_G) (q : Nat → ClassId) (B : Nat) : Prop := p.tables.exec = Jvm.exec ∧ c.code = cc ∧ c.maxLocals = nL ∧ s.vm.findClass own = some m.cls ∧ (∀ w ∈ ALL, w.before args s = true) ∧ va_K D vCl (tysU q) s ∧ NWs s ∧ AOs s ∧ B ≤ s.heap.size
/-- a maker's contract: the object a, the latest cell, becomes a group of n cells from a on -/
def NewC (l : Launch) (y : MethodName) (code : ByteArray) (nL : Nat) (rm : Room) (mc ms : Nat) (D : va_G) (q : Nat → ClassId) (ci : Nat) (dfs : List Value) (n : Nat) (cel : Nat → Nat → va_E) : Prop := ∀ a : Nat, Met l y (.code y code nL none :: ALL) rm (va_Pc [.ref a] (fun U => U.heap.size = a + 1 ∧ va_P D vCl (gw a 1 (fun _ => .inr (ci, dfs))) U.heap ∧ va_K D vCl (tysU q) U ∧ NWs U ∧ AOs U)) (va_Qv (fun _ : Unit => True) (fun _ t => t.heap.size = a + n ∧ va_P D vCl (gw a n (cel a)) t.heap) (Ao a)) mc ms (Ao a)
section KK
variable {p : Program} {l : Launch} {e : Env} {R : Room} {s : State} {m : MethodId} {args : Array Value} {below : List Frame} {meth : Method} {c : Code} {cells slots : Nat} {Q : State → Prop} {D : va_G} {q : Nat → ClassId} {nL B n : Nat}
variable {cc : ByteArray} {own : String} {pc : Nat} {lv lv' : List (Nat × Value)} {st : List Value} {cel cel' : Nat → va_E}
def Kg (p : Program) (l : Launch) (e : Env) (R : Room) (s : State) (m : MethodId) (args : Array Value) (below : List Frame) (meth : Method) (c : Code) (Q : State → Prop) (D : va_G) (B nL : Nat) (cells slots pc : Nat) (lv : List (Nat × Value)) (st : List Value) (n : Nat) (cel : Nat → va_E) : Prop :=
  s.heap.size + cells = B + n → ∀ (H : Heap) (locs : List Loc) (ls : Array Slot), va_P D vCl (gw B n cel) H → va_S (Ao B) s.heap H locs → lv_has ls nL lv → W p l e R s m args below meth c H locs cells slots Q (F0 m pc ls st)
theorem k_congr (h : ∀ i, i < n → cel i = cel' i) (g : Kg p l e R s m args below meth c Q D B nL cells slots pc lv st n cel') : Kg p l e R s m args below meth c Q D B nL cells slots pc lv st n cel := by
  intro hz H locs ls hP hS hl
  rw [gw_congr h] at hP
  exact g hz H locs ls hP hS hl
theorem k_widen {k2 : Nat} (h2 : slots ≤ k2) (g : Kg p l e R s m args below meth c Q D B nL cells k2 pc lv st n cel) : Kg p l e R s m args below meth c Q D B nL cells slots pc lv st n cel := fun hz H locs ls hP hS hl => W.widen (Nat.le_refl _) h2 (g hz H locs ls hP hS hl)
theorem k_cells {k1 k2 : Nat} (h1 : cells = k1) (h2 : slots = k2) (g : Kg p l e R s m args below meth c Q D B nL k1 k2 pc lv st n cel) : Kg p l e R s m args below meth c Q D B nL cells slots pc lv st n cel := by
  subst h1
  subst h2
  exact g
/-- the heap is no larger than what was made -/
theorem k_sz {H : Heap} {locs : List Loc} {gg : JFrame} (g : H.size ≤ s.heap.size + cells → W p l e R s m args below meth c H locs cells slots Q gg) : W p l e R s m args below meth c H locs cells slots Q gg := fun T hT X => g (by rw [← hT]; exact X.same.2.2.1) T hT X
theorem new_at {A0 : Nat → Prop} {q9 : Nat} {e9 : va_E} {H1 : Heap} (hA : ∀ x, A0 x → B ≤ x) (hP1 : va_P D vCl (gw B n cel ++ [(q9, e9)]) H1) (hD1 : va_D A0 (gw B n cel ++ [(q9, e9)])) (hsz : H1.size ≤ B + n + 1) : q9 = B + n := by
  have hlen : (gw B n cel).length = n := by simp [gw]
  have hx : (gw B n cel ++ [(q9, e9)])[n]? = some (q9, e9) := by
    rw [List.getElem?_append_right (by omega), hlen]
    simp
  have a1 : q9 < H1.size := (hP1 n _ hx).lt
  have a2 : B ≤ q9 := hA _ (hD1.2 n _ hx)
  have a4 : ¬ q9 < B + n := fun h => by
    have hi : q9 - B < n := by omega
    have h2 : (gw B n cel ++ [(q9, e9)])[q9 - B]? = some (B + (q9 - B), cel (q9 - B)) := by
      rw [List.getElem?_append_left (by omega), gw_at hi]
    have := hD1.1 (q9 - B) n _ _ h2 hx (by show B + (q9 - B) = q9; omega)
    omega
  omega
theorem sz_eq {H : Heap} {locs : List Loc} (hz : s.heap.size + cells = B + n) (hn : 0 < n) (hP : va_P D vCl (gw B n cel) H) (h : H.size ≤ s.heap.size + cells) : H.size = B + n := by
  have := (hP (n - 1) _ (gw_at (by omega))).lt
  have h2 : B + (n - 1) < H.size := this
  omega
theorem k_iconst (X : Ck p m c cc nL s args own D q B) {z : Int} {v : Int32} (hd : decode cc pc = .ok (.iconst z, 1)) (hv : Int32.ofInt z = v) (g : Kg p l e R s m args below meth c Q D B nL cells slots (pc + 1) lv (.int v :: st) n cel) : Kg p l e R s m args below meth c Q D B nL cells slots pc lv st n cel := fun hz H locs ls hP hS hl => lv_iconst X.1 X.2.1 hd hv (g hz H locs ls hP hS hl)
theorem k_bipush (X : Ck p m c cc nL s args own D q B) {z : Int} {v : Int32} (hd : decode cc pc = .ok (.bipush z, 2)) (hv : (Int8.ofInt z).toInt32 = v) (g : Kg p l e R s m args below meth c Q D B nL cells slots (pc + 2) lv (.int v :: st) n cel) : Kg p l e R s m args below meth c Q D B nL cells slots pc lv st n cel := fun hz H locs ls hP hS hl => lv_bipush X.1 X.2.1 hd hv (g hz H locs ls hP hS hl)
theorem k_sipush (X : Ck p m c cc nL s args own D q B) {z : Int} {v : Int32} (hd : decode cc pc = .ok (.sipush z, 3)) (hv : (Int16.ofInt z).toInt32 = v) (g : Kg p l e R s m args below meth c Q D B nL cells slots (pc + 3) lv (.int v :: st) n cel) : Kg p l e R s m args below meth c Q D B nL cells slots pc lv st n cel := fun hz H locs ls hP hS hl => lv_sipush X.1 X.2.1 hd hv (g hz H locs ls hP hS hl)
theorem k_iload_n (X : Ck p m c cc nL s args own D q B) {k : Fin 4} {x : Int32} (i : Nat) (hd : decode cc pc = .ok (.iload_n k, 1)) (hk : lv[i]? = some ((k : Nat), .int x)) (g : Kg p l e R s m args below meth c Q D B nL cells slots (pc + 1) lv (.int x :: st) n cel) : Kg p l e R s m args below meth c Q D B nL cells slots pc lv st n cel := fun hz H locs ls hP hS hl => lv_iload_n X.1 X.2.1 hd rfl (lv_at hl i hk) (g hz H locs ls hP hS hl)
theorem k_aload_n (X : Ck p m c cc nL s args own D q B) {k : Fin 4} {x : Nat} (i : Nat) (hd : decode cc pc = .ok (.aload_n k, 1)) (hk : lv[i]? = some ((k : Nat), .ref x)) (g : Kg p l e R s m args below meth c Q D B nL cells slots (pc + 1) lv (.ref x :: st) n cel) : Kg p l e R s m args below meth c Q D B nL cells slots pc lv st n cel := fun hz H locs ls hP hS hl => lv_aload_n X.1 X.2.1 hd rfl (lv_at hl i hk) (g hz H locs ls hP hS hl)
theorem k_istore_n (X : Ck p m c cc nL s args own D q B) {k : Fin 4} {x : Int32} (lv' : List (Nat × Value)) (hd : decode cc pc = .ok (.istore_n k, 1)) (hn : (k : Nat) < nL) (hl2 : ((k : Nat), Value.int x) :: lv.filter (fun z => !(z.1 == (k : Nat)) && !(z.1 + 1 == (k : Nat) && z.2.category == 2)) = lv') (g : Kg p l e R s m args below meth c Q D B nL cells slots (pc + 1) lv' st n cel) : Kg p l e R s m args below meth c Q D B nL cells slots pc lv (.int x :: st) n cel := fun hz H locs ls hP hS hl => lv_istore_n X.1 X.2.1 hd rfl hl hn hl2 (fun ls' h => g hz H locs ls' hP hS h)
theorem k_istore (X : Ck p m c cc nL s args own D q B) {k : Nat} {x : Int32} (lv' : List (Nat × Value)) (hd : decode cc pc = .ok (.istore k, 2)) (hn : k < nL) (hl2 : (k, Value.int x) :: lv.filter (fun z => !(z.1 == k) && !(z.1 + 1 == k && z.2.category == 2)) = lv') (g : Kg p l e R s m args below meth c Q D B nL cells slots (pc + 2) lv' st n cel) : Kg p l e R s m args below meth c Q D B nL cells slots pc lv (.int x :: st) n cel := fun hz H locs ls hP hS hl => lv_istore X.1 X.2.1 hd hl hn hl2 (fun ls' h => g hz H locs ls' hP hS h)
theorem k_astore_n (X : Ck p m c cc nL s args own D q B) {k : Fin 4} {x : Nat} (lv' : List (Nat × Value)) (hd : decode cc pc = .ok (.astore_n k, 1)) (hn : (k : Nat) < nL) (hl2 : ((k : Nat), Value.ref x) :: lv.filter (fun z => !(z.1 == (k : Nat)) && !(z.1 + 1 == (k : Nat) && z.2.category == 2)) = lv') (g : Kg p l e R s m args below meth c Q D B nL cells slots (pc + 1) lv' st n cel) : Kg p l e R s m args below meth c Q D B nL cells slots pc lv (.ref x :: st) n cel := fun hz H locs ls hP hS hl => lv_astore_n X.1 X.2.1 hd rfl hl hn hl2 (fun ls' h => g hz H locs ls' hP hS h)
theorem k_astore (X : Ck p m c cc nL s args own D q B) {k : Nat} {x : Nat} (lv' : List (Nat × Value)) (hd : decode cc pc = .ok (.astore k, 2)) (hn : k < nL) (hl2 : (k, Value.ref x) :: lv.filter (fun z => !(z.1 == k) && !(z.1 + 1 == k && z.2.category == 2)) = lv') (g : Kg p l e R s m args below meth c Q D B nL cells slots (pc + 2) lv' st n cel) : Kg p l e R s m args below meth c Q D B nL cells slots pc lv (.ref x :: st) n cel := fun hz H locs ls hP hS hl => lv_astore X.1 X.2.1 hd hl hn hl2 (fun ls' h => g hz H locs ls' hP hS h)
theorem k_iinc (X : Ck p m c cc nL s args own D q B) {k : Nat} {z : Int} {x : Int32} (i : Nat) (v : Int32) (lv' : List (Nat × Value)) (hd : decode cc pc = .ok (.iinc k z, 3)) (hk : lv[i]? = some (k, .int x)) (hv : x + Int32.ofInt z = v) (hn : k < nL) (hl2 : (k, Value.int v) :: lv.filter (fun z => !(z.1 == k) && !(z.1 + 1 == k && z.2.category == 2)) = lv') (g : Kg p l e R s m args below meth c Q D B nL cells slots (pc + 3) lv' st n cel) : Kg p l e R s m args below meth c Q D B nL cells slots pc lv st n cel := fun hz H locs ls hP hS hl => lv_iinc X.1 X.2.1 hd hl hk hv hn hl2 (fun ls' h => g hz H locs ls' hP hS h)
theorem k_iadd (X : Ck p m c cc nL s args own D q B) {x y : Int32} (hd : decode cc pc = .ok (.iadd, 1)) (g : Kg p l e R s m args below meth c Q D B nL cells slots (pc + 1) lv (.int (x + y) :: st) n cel) : Kg p l e R s m args below meth c Q D B nL cells slots pc lv (.int y :: .int x :: st) n cel := fun hz H locs ls hP hS hl => lv_iadd X.1 X.2.1 hd (g hz H locs ls hP hS hl)
theorem k_dup (X : Ck p m c cc nL s args own D q B) {x : Nat} (hd : decode cc pc = .ok (.dup, 1)) (g : Kg p l e R s m args below meth c Q D B nL cells slots (pc + 1) lv (.ref x :: .ref x :: st) n cel) : Kg p l e R s m args below meth c Q D B nL cells slots pc lv (.ref x :: st) n cel := fun hz H locs ls hP hS hl => lv_dup X.1 X.2.1 hd rfl (g hz H locs ls hP hS hl)
theorem k_goto (X : Ck p m c cc nL s args own D q B) {off : Int} (tgt : Nat) (hd : decode cc pc = .ok (.goto off, 3)) (ht : (pc : Int) + off = (tgt : Int)) (g : Kg p l e R s m args below meth c Q D B nL cells slots tgt lv st n cel) : Kg p l e R s m args below meth c Q D B nL cells slots pc lv st n cel := fun hz H locs ls hP hS hl => lv_goto X.1 X.2.1 hd ht (g hz H locs ls hP hS hl)
theorem k_icmp_ge (X : Ck p m c cc nL s args own D q B) {x y : Int32} {off : Int} (tgt : Nat) (hd : decode cc pc = .ok (.if_icmp .ge off, 3)) (ht : (pc : Int) + off = (tgt : Int)) (k1 : y ≤ x → Kg p l e R s m args below meth c Q D B nL cells slots tgt lv st n cel) (k2 : ¬ y ≤ x → Kg p l e R s m args below meth c Q D B nL cells slots (pc + 3) lv st n cel) : Kg p l e R s m args below meth c Q D B nL cells slots pc lv (.int y :: .int x :: st) n cel := fun hz H locs ls hP hS hl => lv_icmp_ge X.1 X.2.1 hd ht (fun h => k1 h hz H locs ls hP hS hl) (fun h => k2 h hz H locs ls hP hS hl)
theorem k_icmp_gt (X : Ck p m c cc nL s args own D q B) {x y : Int32} {off : Int} (tgt : Nat) (hd : decode cc pc = .ok (.if_icmp .gt off, 3)) (ht : (pc : Int) + off = (tgt : Int)) (k1 : y < x → Kg p l e R s m args below meth c Q D B nL cells slots tgt lv st n cel) (k2 : ¬ y < x → Kg p l e R s m args below meth c Q D B nL cells slots (pc + 3) lv st n cel) : Kg p l e R s m args below meth c Q D B nL cells slots pc lv (.int y :: .int x :: st) n cel := fun hz H locs ls hP hS hl => lv_icmp_gt X.1 X.2.1 hd ht (fun h => k1 h hz H locs ls hP hS hl) (fun h => k2 h hz H locs ls hP hS hl)
theorem k_obj (X : Ck p m c cc nL s args own D q B) {index x : Nat} (h1 : Cond.methodLink own index objectInit ∈ ALL) (hf : 1 ≤ R.frames) (hlo : (st.map fun v => v.category).sum + 12 ≤ R.locals) (hd : decode cc pc = .ok (.invokespecial index, 3)) (g : Kg p l e R s m args below meth c Q D B nL cells slots (pc + 3) lv st n cel) : Kg p l e R s m args below meth c Q D B nL cells slots pc lv (.ref x :: st) n cel := fun hz H locs ls hP hS hl => W.objInit X.1 X.2.1 X.2.2.2.1 (X.2.2.2.2.1 _ h1) (X.2.2.2.2.1 _ m_im_objectInit) (X.2.2.2.2.1 _ m_co_objectInit) rfl (by show ls.size = c.maxLocals; rw [X.2.2.1, hl.1]) rfl hd hf (by show 2 * 0 + _ + 12 ≤ R.locals; omega) (g hz H locs ls hP hS hl)
theorem k_get (X : Ck p m c cc nL s args own D q B) {index ci k i N : Nat} {C : String} {T : u_T} {fs : List Value} {v : Value} (hi : i < n) (hcell : cel i = .inr (ci, fs)) (hl1 : Cond.fieldLink own index C (T k).2.1 (T k).2.2.1 ∈ ALL) (hw : ∀ w ∈ u_ws C T N, w ∈ ALL) (hc : vCl[ci]? = some (C, T, N)) (hk : k < N) (hT : (T k).1 = C) (hv : fs[k]? = some v) (hd : decode cc pc = .ok (.getfield index, 3)) (g : Kg p l e R s m args below meth c Q D B nL cells slots (pc + 3) lv (v :: st) n cel) : Kg p l e R s m args below meth c Q D B nL cells slots pc lv (.ref (B + i) :: st) n cel := fun hz H locs ls hP hS hl => va_get X.1 X.2.1 X.2.2.2.2.1 hw X.2.2.2.1 X.2.2.2.2.2.1 hP i (by rw [gw_at hi, hcell]) hc k hk (X.2.2.2.2.1 _ hl1) (fun x hx => by rw [← hT]; exact hx) hv hd (g hz H locs ls hP hS hl)
theorem k_put (X : Ck p m c cc nL s args own D q B) {index ci k i N : Nat} {C : String} {T : u_T} {fs : List Value} {v : Value} {ty : FieldType} (ty0 : Nat → FieldType) (hi : i < n) (hcell : cel i = .inr (ci, fs)) (hty : ∀ k, k < N → parseFieldDescriptor (T k).2.2.1 = some (ty0 k)) (hnm : ∀ a, a < N → ∀ b, b < N → a ≠ b → (T a).2.1 ≠ (T b).2.1) (hl1 : Cond.fieldLink own index C (T k).2.1 (T k).2.2.1 ∈ ALL) (hw : ∀ w ∈ u_ws C T N, w ∈ ALL) (hc : vCl[ci]? = some (C, T, N)) (hk : k < N) (hT : (T k).1 = C) (hfin : (T k).2.2.2 = false) (htk : ty0 k = ty) (hn : narrow ty v = v) (hfit : fits ty v = true) (hln : k < fs.length) (hd : decode cc pc = .ok (.putfield index, 3)) (g : Kg p l e R s m args below meth c Q D B nL cells slots (pc + 3) lv st n (ue cel i (.inr (ci, fs.set k v)))) : Kg p l e R s m args below meth c Q D B nL cells slots pc lv (v :: .ref (B + i) :: st) n cel := by
  intro hz H locs ls hP hS hl
  refine va_put X.1 X.2.1 X.2.2.2.2.1 hw ty0 hty hnm X.2.2.2.1 X.2.2.2.2.2.1 hP gw_DB hS i (by rw [gw_at hi, hcell]) hc k hk (X.2.2.2.2.1 _ hl1) (fun x hx => by rw [← hT]; exact hx) hfin (by rw [hty k hk, htk]) hn hfit hln hd (fun H1 locs1 hP1 _ hS1 => ?_)
  rw [gw_set hi] at hP1
  exact g hz H1 locs1 ls hP1 hS1 hl
theorem k_putF (X : Ck p m c cc nL s args own D q B) {index ci k i N : Nat} {C : String} {T : u_T} {fs : List Value} {v : Value} {ty : FieldType} (ty0 : Nat → FieldType) (hin : meth.name = "<init>") (hi : i < n) (hcell : cel i = .inr (ci, fs)) (hty : ∀ k, k < N → parseFieldDescriptor (T k).2.2.1 = some (ty0 k)) (hnm : ∀ a, a < N → ∀ b, b < N → a ≠ b → (T a).2.1 ≠ (T b).2.1) (hl1 : Cond.fieldLink own index C (T k).2.1 (T k).2.2.1 ∈ ALL) (hw : ∀ w ∈ u_ws C T N, w ∈ ALL) (hc : vCl[ci]? = some (C, T, N)) (hk : k < N) (hT : (T k).1 = C) (hown : (T k).1 = own) (hfin : (T k).2.2.2 = true) (htk : ty0 k = ty) (hn : narrow ty v = v) (hfit : fits ty v = true) (hln : k < fs.length) (hd : decode cc pc = .ok (.putfield index, 3)) (g : Kg p l e R s m args below meth c Q D B nL cells slots (pc + 3) lv st n (ue cel i (.inr (ci, fs.set k v)))) : Kg p l e R s m args below meth c Q D B nL cells slots pc lv (v :: .ref (B + i) :: st) n cel := by
  intro hz H locs ls hP hS hl
  refine va_putF X.1 X.2.1 X.2.2.2.2.1 hw ty0 hty hnm X.2.2.2.1 X.2.2.2.2.2.1 hP gw_DB hS i (by rw [gw_at hi, hcell]) hc k hk (X.2.2.2.2.1 _ hl1) (fun x hx => by rw [← hT]; exact hx) hfin hin hown (by rw [hty k hk, htk]) hn hfit hln hd (fun H1 locs1 hP1 _ hS1 => ?_)
  rw [gw_set hi] at hP1
  exact g hz H1 locs1 ls hP1 hS1 hl
theorem k_iast (X : Ck p m c cc nL s args own D q B) {i N : Nat} {f : Nat → Int32} {j x : Int32} (hi : i < n) (hcell : cel i = .inl (q 0, N, .inl f)) (hin : vp_in j N) (hd : decode cc pc = .ok (.iastore, 1)) (g : Kg p l e R s m args below meth c Q D B nL cells slots (pc + 1) lv st n (ue cel i (.inl (q 0, N, .inl (upd f j.toNatClampNeg x))))) : Kg p l e R s m args below meth c Q D B nL cells slots pc lv (.int x :: .int j :: .ref (B + i) :: st) n cel := by
  intro hz H locs ls hP hS hl
  refine va_iast X.1 X.2.1 X.2.2.2.2.2.1 hP gw_DB hS i 0 (by rw [gw_at hi, hcell]) rfl hin hd (fun H1 locs1 hP1 _ hS1 => ?_)
  rw [gw_set hi] at hP1
  exact g hz H1 locs1 ls hP1 hS1 hl
theorem k_astq (X : Ck p m c cc nL s args own D q B) {i N i2 ci t0 : Nat} {cA : ClassId} {r : vw_C} {f : Nat → Option Nat} {vs : List Value} {j : Int32} (hi : i < n) (hcell : cel i = .inl (cA, N, .inr (.inr (.inr (.inr f))))) (ht : (tysU q)[t0]? = some (cA, .object r.1)) (hi2 : i2 < n) (hcell2 : cel i2 = .inr (ci, vs)) (hc : vCl[ci]? = some r) (hin : vp_in j N) (hd : decode cc pc = .ok (.aastore, 1)) (g : Kg p l e R s m args below meth c Q D B nL cells slots (pc + 1) lv st n (ue cel i (.inl (cA, N, .inr (.inr (.inr (.inr (va_up f j.toNatClampNeg (some (B + i2))))))))))  : Kg p l e R s m args below meth c Q D B nL cells slots pc lv (.ref (B + i2) :: .int j :: .ref (B + i) :: st) n cel := by
  intro hz H locs ls hP hS hl
  refine va_astq X.1 X.2.1 X.2.2.2.2.2.1 hP gw_DB hS i t0 i2 ci (by rw [gw_at hi, hcell]) ht (by rw [gw_at hi2, hcell2]) hc hin hd (fun H1 locs1 hP1 _ hS1 => ?_)
  rw [gw_set hi] at hP1
  exact g hz H1 locs1 ls hP1 hS1 hl
theorem k_new (X : Ck p m c cc nL s args own D q B) {index ci N : Nat} {C : String} {T : u_T} {fs : List Value} (ty0 : Nat → FieldType) (hty : ∀ k, k < N → parseFieldDescriptor (T k).2.2.1 = some (ty0 k)) (hcl : Cond.classLink own index C ∈ ALL) (his : Cond.instantiable C N ∈ ALL) (hini : Cond.initialized C ∈ ALL) (hw : ∀ w ∈ u_ws C T N, w ∈ ALL) (hc : vCl[ci]? = some (C, T, N)) (hfs : ∀ j, j < N → defaultValue (ty0 j) = vp_V fs j) (hcells : cells + 1 ≤ R.cells) (hslots : slots + N ≤ R.slots) (hd : decode cc pc = .ok (.new index, 3)) (g : Kg p l e R s m args below meth c Q D B nL (cells + 1) (slots + N) (pc + 3) lv (.ref (B + n) :: st) (n + 1) (ue cel n (.inr (ci, fs)))) : Kg p l e R s m args below meth c Q D B nL cells slots pc lv st n cel := by
  intro hz H locs ls hP hS hl
  refine va_new X.1 X.2.1 X.2.2.2.2.1 hw ty0 hty X.2.2.2.1 (X.2.2.2.2.1 _ hcl) (X.2.2.2.2.1 _ his) (X.2.2.2.2.1 _ hini) X.2.2.2.2.2.1 hP gw_DB hS (fun x hx => Nat.le_trans X.2.2.2.2.2.2.2.2 hx) hc hfs hcells hslots hd (fun q9 H1 hP1 hD1 hS1 => ?_)
  refine k_sz (fun hsz => ?_)
  have e9 := new_at (fun x hx => hx) hP1 hD1 (by omega)
  subst e9
  rw [gw_app] at hP1
  exact g (by omega) H1 locs ls hP1 hS1 hl
theorem k_newa (X : Ck p m c cc nL s args own D q B) {atype : ArrayType} {ty : FieldType} {t0 N : Nat} {z : Int32} {a0 : vp_A} (harr : Cond.arrayClass (newarray.typeOf atype) ∈ ALL) (hty : newarray.typeOf atype = ty) (ht : (tysU q)[t0]? = some (q t0, ty)) (hra : ∀ cA, va_RA s cA ty → va_RA s (q t0) ty → cA = q t0) (ha : ∀ cA : ClassId, vp_cell cA a0 = arrV cA N (fun _ => defaultValue ty)) (hn : ¬ z < 0) (hN : z.toNatClampNeg = N) (hbytes : N * componentBytes ty ≤ 536870912) (hcells : cells + 1 ≤ R.cells) (hslots : slots + N ≤ R.slots) (hd : decode cc pc = .ok (.newarray atype, 2)) (g : Kg p l e R s m args below meth c Q D B nL (cells + 1) (slots + N) (pc + 2) lv (.ref (B + n) :: st) (n + 1) (ue cel n (.inl (q t0, a0)))) : Kg p l e R s m args below meth c Q D B nL cells slots pc lv (.int z :: st) n cel := by
  intro hz H locs ls hP hS hl
  refine va_newa X.1 X.2.1 (X.2.2.2.2.1 _ harr) hty X.2.2.2.2.2.1 hP gw_DB hS (fun x hx => Nat.le_trans X.2.2.2.2.2.2.2.2 hx) ha hn hN hbytes hcells hslots hd (fun q9 cA H1 hK1 hP1 hD1 hS1 => ?_)
  have r1 := (hK1.2 8 (cA, ty) (by rw [List.getElem?_append_right (show (tysU q).length ≤ 8 from Nat.le_refl 8)]; rfl)).2
  have r2 := (X.2.2.2.2.2.1.2 t0 _ ht).2
  have e1 := hra cA r1 r2
  subst e1
  refine k_sz (fun hsz => ?_)
  have e9 := new_at (fun x hx => hx) hP1 hD1 (by omega)
  subst e9
  rw [gw_app] at hP1
  exact g (by omega) H1 locs ls hP1 hS1 hl
theorem ra_obj {s : State} {cA cB : ClassId} {C : String} (h1 : va_RA s cA (.object C)) (h2 : va_RA s cB (.object C)) : cA = cB := by
  obtain ⟨_, _, _, _, _, e1⟩ := h1
  obtain ⟨_, _, _, _, _, e2⟩ := h2
  exact Option.some.inj (e1.symm.trans e2)
theorem k_newq (X : Ck p m c cc nL s args own D q B) {index t0 N : Nat} {C : String} {z : Int32} (hcl : Cond.classLink own index C ∈ ALL) (hao : va_AO C s) (ht : (tysU q)[t0]? = some (q t0, .object C)) (hn : ¬ z < 0) (hN : z.toNatClampNeg = N) (hbytes : N * 4 ≤ 536870912) (hcells : cells + 1 ≤ R.cells) (hslots : slots + N ≤ R.slots) (hd : decode cc pc = .ok (.anewarray index, 3)) (g : Kg p l e R s m args below meth c Q D B nL (cells + 1) (slots + N) (pc + 3) lv (.ref (B + n) :: st) (n + 1) (ue cel n (.inl (q t0, N, .inr (.inr (.inr (.inr (fun _ => none)))))))) : Kg p l e R s m args below meth c Q D B nL cells slots pc lv (.int z :: st) n cel := by
  intro hz H locs ls hP hS hl
  refine va_newq X.1 X.2.1 X.2.2.2.1 (X.2.2.2.2.1 _ hcl) hao X.2.2.2.2.2.1 hP gw_DB hS (fun x hx => Nat.le_trans X.2.2.2.2.2.2.2.2 hx) hn hN hbytes hcells hslots hd (fun q9 cA H1 hK1 hP1 hD1 hS1 => ?_)
  have r1 := (hK1.2 8 (cA, .object C) (by rw [List.getElem?_append_right (show (tysU q).length ≤ 8 from Nat.le_refl 8)]; rfl)).2
  have r2 := (X.2.2.2.2.2.1.2 t0 _ ht).2
  have e1 := ra_obj r1 r2
  subst e1
  refine k_sz (fun hsz => ?_)
  have e9 := new_at (fun x hx => hx) hP1 hD1 (by omega)
  subst e9
  rw [gw_app] at hP1
  exact g (by omega) H1 locs ls hP1 hS1 hl
/-- behind a maker's call: n0 cells before it, k of its own -/
def jn (n0 : Nat) (cel : Nat → va_E) (f : Nat → va_E) : Nat → va_E := fun i => if i < n0 then cel i else f (i - n0)
theorem nc_pre {rm : Room} {ci : Nat} {dfs : List Value} {n0 : Nat} {H : Heap} (X : Ck p m c cc nL s args own D q B) (hz : H.size = B + (n0 + 1)) (hcell : cel n0 = .inr (ci, dfs)) (hP : va_P D vCl (gw B (n0 + 1) cel) H) : PreS s H (va_Pc [.ref (B + n0)] (fun U => U.heap.size = B + n0 + 1 ∧ va_P D vCl (gw (B + n0) 1 (fun _ => .inr (ci, dfs))) U.heap ∧ va_K D vCl (tysU q) U ∧ NWs U ∧ AOs U)) [.ref (B + n0)] := by
  refine ⟨fun a U gf mk h => ?_, fun U hU hW => ⟨rfl, by rw [hU, hz]; rfl, fun k x hx => ?_, va_K.moved hW.alike X.2.2.2.2.2.1, X.2.2.2.2.2.2.1.warm hW, X.2.2.2.2.2.2.2.1.moved hW.alike⟩⟩
  · obtain ⟨h1, h2, h3, h4, h5, h6⟩ := h
    exact ⟨h1, h2, h3, va_K.moved (u := U) (U := U.calling gf mk a) (Vm.Alike.refl U.vm) h4, NWs.same (s := U) (U := U.calling gf mk a) rfl h5, AOs.moved (u := U) (U := U.calling gf mk a) (Vm.Alike.refl U.vm) h6⟩
  · obtain ⟨h1, rfl⟩ := gw_inv hx
    have h0 : k = 0 := by omega
    subst h0
    have := hP n0 _ (gw_at (by omega))
    rw [hcell] at this
    rw [hU]
    exact this
theorem nc_back {ci : Nat} {dfs : List Value} {n0 k mc ms : Nat} {fcel : Nat → Nat → va_E} {H : Heap} {locs : List Loc} {ls : Array Slot} {st0 : List Value} {a : Array Value} (X : Ck p m c cc nL s args own D q B) (hz : s.heap.size + cells = B + (n0 + 1)) (hzH : H.size = B + (n0 + 1)) (hk : k = mc + 1) (hP : va_P D vCl (gw B (n0 + 1) cel) H) (hS : va_S (Ao B) s.heap H locs) (hl : lv_has ls nL lv) (hr : va_Run p l e R s m args below meth c H locs cells slots mc ms (F0 m pc ls st0) st (va_Qv (fun _ : Unit => True) (fun _ t => t.heap.size = B + n0 + k ∧ va_P D vCl (gw (B + n0) k (fcel (B + n0))) t.heap) (Ao (B + n0)) a) (Ao (B + n0))) (g : Kg p l e R s m args below meth c Q D B nL (cells + mc) (slots + ms) (pc + 3) lv st (n0 + k) (jn n0 cel (fcel (B + n0)))) : W p l e R s m args below meth c H locs cells slots Q (F0 m pc ls st0) := by
  refine va_callv hr hS (fun x _ h => Nat.le_trans (Nat.le_add_right B n0) h) (fun x h => Nat.le_trans (Nat.le_add_right B n0) h) (fun u t H1 locs1 ht _ _ hB _ hk1 hS1 => ?_)
  obtain ⟨hB1, hB2⟩ := hB
  rw [ht] at hB1 hB2
  refine g (by omega) H1 locs1 ls (fun i x hx => ?_) hS1 hl
  obtain ⟨hi, rfl⟩ := gw_inv hx
  by_cases h : i < n0
  · have h1 := hP i _ (gw_at (by omega))
    have e : jn n0 cel (fcel (B + n0)) i = cel i := by simp [jn, h]
    rw [e]
    exact h1.kept (hk1 (B + i) (by omega) (fun q9 => by have q8 : B + n0 ≤ B + i := q9; omega))
  · have h1 := hB2 (i - n0) _ (gw_at (by omega))
    have e : jn n0 cel (fcel (B + n0)) i = fcel (B + n0) (i - n0) := by simp [jn, h]
    rw [e]
    rw [show B + i = B + n0 + (i - n0) by omega]
    exact h1
theorem k_ctor (X : Ck p m c cc nL s args own D q B) {index ci n0 k mc ms nL2 : Nat} {dfs : List Value} {fcel : Nat → Nat → va_E} {y : MethodName} {code : ByteArray} {rm : Room} (hM : NewC l y code nL2 rm mc ms D q ci dfs k fcel) (hcell : cel n0 = .inr (ci, dfs)) (hk : k = mc + 1) (hml : Cond.methodLink own index y ∈ ALL) (him : Cond.instanceMethod y ∈ ALL) (hini : Cond.initialized y.cls ∈ ALL) (hco : Cond.code y code nL2 none ∈ ALL) (hy : y.name = "<init>" ∧ y.cls ≠ "java/lang/invoke/MethodHandle" ∧ y.cls ≠ "java/lang/invoke/VarHandle" ∧ (parseMethodDescriptor y.desc).map (fun d => d.parameters.length) = some 0) (hrm : rm.cells = mc ∧ rm.slots = ms ∧ rm.frames + 1 ≤ R.frames ∧ 8 + (nL2 + 11) + rm.locals ≤ R.locals) (hcat : (st.map fun v => v.category).sum ≤ 8) (hcs : cells + mc ≤ R.cells ∧ slots + ms ≤ R.slots) (hd : decode cc pc = .ok (.invokespecial index, 3)) (g : Kg p l e R s m args below meth c Q D B nL (cells + mc) (slots + ms) (pc + 3) lv st (n0 + k) (jn n0 cel (fcel (B + n0)))) : Kg p l e R s m args below meth c Q D B nL cells slots pc lv (.ref (B + n0) :: st) (n0 + 1) cel := by
  intro hz H locs ls hP hS hl
  refine k_sz (fun hsz => ?_)
  have hzH := sz_eq (s := s) (locs := locs) hz (by omega) hP hsz
  exact nc_back (ci := ci) (dfs := dfs) X hz hzH hk hP hS hl (va_runI (As := []) (rest := st) ⟨X.1, X.2.1, X.2.2.1, X.2.2.2.1, X.2.2.2.2.1⟩ (hM (B + n0)) (cwI 0 X.2.2.2.2.1 (good_cons hco) rfl hrm.1 hrm.2.1 (X.2.2.2.2.1 _ hini) (X.2.2.2.2.1 _ hml) (X.2.2.2.2.1 _ him) hy.1 hy.2 ⟨hrm.2.2.1, hrm.2.2.2⟩) (nc_pre (rm := rm) X hzH hcell hP) rfl rfl hl.1 rfl (lv_room hcat) hd hcs) g
theorem k_ctorN (X : Ck p m c cc nL s args own D q B) {index ci n0 k mc ms nL2 : Nat} {dfs : List Value} {host : String} {fcel : Nat → Nat → va_E} {y : MethodName} {code : ByteArray} {rm : Room} (hM : NewC l y code nL2 rm mc ms D q ci dfs k fcel) (hcell : cel n0 = .inr (ci, dfs)) (hk : k = mc + 1) (hml : (own, index, y, host) ∈ NEST) (him : Cond.instanceMethod y ∈ ALL) (hini : Cond.initialized y.cls ∈ ALL) (hco : Cond.code y code nL2 none ∈ ALL) (hy : y.name = "<init>" ∧ y.cls ≠ "java/lang/invoke/MethodHandle" ∧ y.cls ≠ "java/lang/invoke/VarHandle" ∧ (parseMethodDescriptor y.desc).map (fun d => d.parameters.length) = some 0) (hrm : rm.cells = mc ∧ rm.slots = ms ∧ rm.frames + 1 ≤ R.frames ∧ 8 + (nL2 + 11) + rm.locals ≤ R.locals) (hcat : (st.map fun v => v.category).sum ≤ 8) (hcs : cells + mc ≤ R.cells ∧ slots + ms ≤ R.slots) (hd : decode cc pc = .ok (.invokespecial index, 3)) (g : Kg p l e R s m args below meth c Q D B nL (cells + mc) (slots + ms) (pc + 3) lv st (n0 + k) (jn n0 cel (fcel (B + n0)))) : Kg p l e R s m args below meth c Q D B nL cells slots pc lv (.ref (B + n0) :: st) (n0 + 1) cel := by
  intro hz H locs ls hP hS hl
  refine k_sz (fun hsz => ?_)
  have hzH := sz_eq (s := s) (locs := locs) hz (by omega) hP hsz
  exact nc_back (ci := ci) (dfs := dfs) X hz hzH hk hP hS hl (va_runIN (As := []) (rest := st) ⟨X.1, X.2.1, X.2.2.1, X.2.2.2.1, X.2.2.2.2.1⟩ (hM (B + n0)) ⟨va_cnB 0 X.2.2.2.2.1 (good_cons hco) rfl hrm.1 hrm.2.1 (X.2.2.2.2.2.2.1 _ hml) (X.2.2.2.2.1 _ hini) hy.2 ⟨hrm.2.2.1, hrm.2.2.2⟩, hy.1, X.2.2.2.2.1 _ him⟩ (nc_pre (rm := rm) X hzH hcell hP) rfl rfl hl.1 rfl (lv_room hcat) hd hcs) g
/-- the end of a maker -/
theorem k_ret {k : Nat} {fcel : Nat → va_E} (X : Ck p m c cc nL s args own D q B) (hr : meth.sig.returnType = none) (hlocks : meth.locks = false) (hd : decode cc pc = .ok (.return_, 1)) (hn : 0 < n) (hk : n = k) (hcel : ∀ i, i < n → cel i = fcel i) : Kg p l e R s m args below meth c (MQ below (va_Qv (fun _ : Unit => True) (fun _ t => t.heap.size = B + k ∧ va_P D vCl (gw B k fcel) t.heap) (Ao B)) args s cells slots (Ao B)) D B nL cells slots pc lv [] n cel := by
  intro hz H locs ls hP hS hl
  refine k_sz (fun hsz => ?_)
  have hzH := sz_eq (s := s) (locs := locs) hz hn hP hsz
  subst hk
  rw [gw_congr hcel] at hP
  exact W.vret X.1 X.2.1 hr (fun t ht hW => ⟨⟨(), rfl, trivial, by rw [ht]; exact hzH, by rw [ht]; exact hP⟩, hS.F ht⟩) hS.2.2 hd hlocks
end KK
/-- a maker's contract out of its body -/
theorem nc_of {l : Launch} {y : MethodName} {code : ByteArray} {nL : Nat} {rm : Room} {mc ms : Nat} {D : va_G} {q : Nat → ClassId} {ci : Nat} {dfs : List Value} {k : Nat} {fcel : Nat → Nat → va_E} (hy : plainFor y = true) (hyn : y.name = "<init>") (hlen : 1 ≤ nL)
    (body : ∀ (p : Program) (e : Env) (s : State) (m : MethodId) (args : Array Value) (below : List Frame) (meth : Method) (c : Code) (a : Nat), Ck p m c code nL s args y.cls D q a → meth.name = "<init>" → meth.sig.returnType = none → meth.locks = false → Kg p l e rm s m args below meth c (MQ below (va_Qv (fun _ : Unit => True) (fun _ t => t.heap.size = a + k ∧ va_P D vCl (gw a k (fcel a)) t.heap) (Ao a)) args s mc ms (Ao a)) D a nL 0 0 0 [(0, .ref a)] [] 1 (fun _ => .inr (ci, dfs))) : NewC l y code nL rm mc ms D q ci dfs k fcel := by
  intro a
  refine ofWF (cc := code) (maxL := nL) (ret := none) hy rfl ?_
  intro p e s m args below meth c s₁ B hml hv
  obtain ⟨rfl, hsz, hP, hK, hN, hA⟩ := hv
  have hts := atoms_spec (ws := .code y code nL none :: ALL) B.pre
  have hown : s.vm.findClass y.cls = some m.cls := findClass_of_methodNamed B.named
  have hl := lv_entry [.ref a] (n := nL) hlen
  rw [lg_entry_eq]
  exact body p e s m _ below meth c a ⟨B.exec, B.bytes, hml, hown, fun w h => hts w (List.mem_cons_of_mem _ h), hK, hN, hA, by omega⟩ ((name_of_methodNamed B.named B.method).1.trans hyn) B.returns B.notSynchronized (by omega) s.heap [] _ hP va_S.rf hl

/-! RX7.read -/
abbrev rm_X7_read : Room := { frames := 5, cells := 0, slots := 0, locals := 116 }
section
variable {p : Program} {l : Launch} {e : Env} {s : State} {m : MethodId} {args : Array Value} {below : List Frame} {meth : Method} {c : Code} {D : va_G} {q : Nat → ClassId} {ad : Nat → Nat} {d : UInt64}
def b_X7_read_150 (w0 : Int32) (S : Sx) : Int32 × Sx := (w0, S)
set_option maxRecDepth 20000 in
theorem t_X7_read_150 (X : Cx p m c cX7_read 4 s args RX7 D q ad) (hr : meth.sig.returnType = some .int) (hlocks : meth.locks = false) (w0 : Int32) (S : Sx) (rv : Int32) (S' : Sx) (he : b_X7_read_150 w0 S = (rv, S')) : Jg p l e rm_X7_read s m args below meth c 0 0 (MQ below (Qi D q ad d rv S' s.heap.size) args s 0 0 (AU ad s.heap.size)) D q ad d 4 150 [] [.int w0] S := by
  unfold b_X7_read_150 at he
  exact j_iret X hr hlocks dX7_read_150 (congrArg Prod.fst he) (congrArg Prod.snd he)
def b_X7_read_138 (v3 : Int32) (w0 : Int32) (S : Sx) : Int32 × Sx := if 0 ≤ v3 then b_X7_read_150 0 (up2 S 5 8 w0) else b_X7_read_150 v3 (up2 S 5 8 w0)
set_option maxRecDepth 20000 in
theorem t_X7_read_138 (X : Cx p m c cX7_read 4 s args RX7 D q ad) (hr : meth.sig.returnType = some .int) (hlocks : meth.locks = false) (v3 : Int32) (w0 : Int32) (S : Sx) (rv : Int32) (S' : Sx) (he : b_X7_read_138 v3 w0 S = (rv, S')) : Jg p l e rm_X7_read s m args below meth c 0 0 (MQ below (Qi D q ad d rv S' s.heap.size) args s 0 0 (AU ad s.heap.size)) D q ad d 4 138 [(3, .int v3)] [.int w0, .ref (ad 5)] S := by
  unfold b_X7_read_138 at he
  refine pf_25_8 X m_fl_X7_35 kc25 dX7_read_138 ?_
  refine j_iload_n X 0 dX7_read_141 rfl ?_
  refine j_if_ge X 149 dX7_read_142 (by decide) (fun h2 => ?_) (fun h2 => ?_)
  · rw [if_pos h2] at he
    refine j_iconst (v := 0) X dX7_read_149 (by decide) ?_
    refine j_lv [] [] rfl ?_
    exact t_X7_read_150 X hr hlocks 0 (up2 S 5 8 w0) _ _ he
  · rw [if_neg h2] at he
    refine j_iload_n X 0 dX7_read_145 rfl ?_
    refine j_goto X 150 dX7_read_146 (by decide) ?_
    refine j_lv [] [] rfl ?_
    exact t_X7_read_150 X hr hlocks v3 (up2 S 5 8 w0) _ _ he
def b_X7_read_100 (v3 : Int32) (S : Sx) : Int32 × Sx := if ((up2 S 5 7 0) 5 8) ≤ 0 then ((b_X7_keeps_0 9 (up2 S 5 7 0)) 5 17, b_X7_keeps_0 9 (up2 S 5 7 0)) else if (nb ((b_X7_copies_0 9 0 6 0 (up2 S 5 7 0)) 5 9)) = 0 then b_X7_read_138 v3 1 (b_X7_copies_0 9 0 6 0 (up2 S 5 7 0)) else b_X7_read_138 v3 2 (b_X7_copies_0 9 0 6 0 (up2 S 5 7 0))
def o_X7_read_100 (v3 : Int32) (S : Sx) : Prop := (((up2 S 5 7 0) 5 8) ≤ 0 → (o_X7_keeps_0 9 (up2 S 5 7 0) ∧ True)) ∧ (¬ ((up2 S 5 7 0) 5 8) ≤ 0 → (o_X7_copies_0 9 0 6 0 (up2 S 5 7 0) ∧ True))
set_option maxRecDepth 20000 in
theorem t_X7_read_100 (X : Cx p m c cX7_read 4 s args RX7 D q ad) (hr : meth.sig.returnType = some .int) (hlocks : meth.locks = false) (v3 : Int32) (S : Sx) (rv : Int32) (S' : Sx) (ho : o_X7_read_100 v3 S) (he : b_X7_read_100 v3 S = (rv, S')) : Jg p l e rm_X7_read s m args below meth c 0 0 (MQ below (Qi D q ad d rv S' s.heap.size) args s 0 0 (AU ad s.heap.size)) D q ad d 4 100 [(0, .ref (ad 5)), (3, .int v3)] [] S := by
  unfold b_X7_read_100 at he
  unfold o_X7_read_100 at ho
  refine j_aload_n X 0 dX7_read_100 rfl ?_
  refine j_iconst (v := 0) X dX7_read_101 (by decide) ?_
  refine pf_25_7 X bz_0 m_fl_X7_48 kc25 dX7_read_102 ?_
  refine j_aload_n X 0 dX7_read_105 rfl ?_
  refine gf_25_8 X m_fl_X7_35 kc25 dX7_read_106 ?_
  refine j_if_le X 151 dX7_read_109 (by decide) (fun h2 => ?_) (fun h2 => ?_)
  · rw [if_pos h2] at he
    have ho := ho.1 h2
    refine j_aload_n X 0 dX7_read_151 rfl ?_
    refine j_aload_n X 0 dX7_read_152 rfl ?_
    refine gf_25_3 X m_fl_X7_19 kc25 dX7_read_153 ?_
    have h3 := ho.1
    have ho := ho.2
    refine j_callVv (rest := []) X (c_X7_keeps (cx_inj X) 9 (isA_of29 kc29) (up2 S 5 7 0) h3) cw_X7_62 kc25.1 (cl_25 kc25) rfl ⟨rfl, rfl, Nat.le_of_ble_eq_true rfl, Nat.le_of_ble_eq_true rfl⟩ rfl rfl (Nat.le_of_ble_eq_true rfl) ⟨Nat.le_of_ble_eq_true rfl, Nat.le_of_ble_eq_true rfl⟩ dX7_read_156 ?_
    refine j_aload_n X 0 dX7_read_159 rfl ?_
    refine gf_25_17 X m_fl_X7_176 kc25 dX7_read_160 ?_
    exact j_iret X hr hlocks dX7_read_163 (congrArg Prod.fst he) (congrArg Prod.snd he)
  · rw [if_neg h2] at he
    have ho := ho.2 h2
    refine j_aload_n X 0 dX7_read_112 rfl ?_
    refine gf_25_3 X m_fl_X7_19 kc25 dX7_read_113 ?_
    refine j_iconst (v := 0) X dX7_read_116 (by decide) ?_
    refine j_aload_n X 0 dX7_read_117 rfl ?_
    refine gf_25_0 X m_fl_X7_7 kc25 dX7_read_118 ?_
    refine j_iconst (v := 0) X dX7_read_121 (by decide) ?_
    have h4 := ho.1
    have ho := ho.2
    refine j_callSv (rest := []) X (c_X7_copies (cx_inj X) 9 (isA_of29 kc29) 0 6 (isA_of26 kc26) 0 (up2 S 5 7 0) h4) cw_X7_54 ⟨rfl, rfl, Nat.le_of_ble_eq_true rfl, Nat.le_of_ble_eq_true rfl⟩ rfl rfl (Nat.le_of_ble_eq_true rfl) ⟨Nat.le_of_ble_eq_true rfl, Nat.le_of_ble_eq_true rfl⟩ dX7_read_122 ?_
    refine j_aload_n X 0 dX7_read_125 rfl ?_
    refine j_aload_n X 0 dX7_read_126 rfl ?_
    refine gf_25_9 X m_fl_X7_38 kc25 dX7_read_127 ?_
    refine j_if_eq X 137 dX7_read_130 (by decide) (fun h5 => ?_) (fun h5 => ?_)
    · rw [if_pos h5] at he
      refine j_iconst (v := 1) X dX7_read_137 (by decide) ?_
      refine j_lv [1] [(3, .int v3)] rfl ?_
      exact t_X7_read_138 X hr hlocks v3 1 (b_X7_copies_0 9 0 6 0 (up2 S 5 7 0)) _ _ he
    · rw [if_neg h5] at he
      refine j_iconst (v := 2) X dX7_read_133 (by decide) ?_
      refine j_goto X 138 dX7_read_134 (by decide) ?_
      refine j_lv [1] [(3, .int v3)] rfl ?_
      exact t_X7_read_138 X hr hlocks v3 2 (b_X7_copies_0 9 0 6 0 (up2 S 5 7 0)) _ _ he
def b_X7_read_71 : Nat → Int32 → Int32 → Sx → Int32 × Sx
  | 0, _, _, S => (0, S)
  | n + 1, v2, v3, S => if (S 5 17) ≤ v2 then b_X7_read_100 v3 S else if (S 5 8) = 0 then b_X7_read_71 n (v2 + 1) ((b_X7_carries_0 (4 * v2) S).1) ((b_X7_carries_0 (4 * v2) S).2) else b_X7_read_100 v3 S
def o_X7_read_71 : Nat → Int32 → Int32 → Sx → Prop
  | 0, _, _, _ => False
  | n + 1, v2, v3, S => ((S 5 17) ≤ v2 → (o_X7_read_100 v3 S)) ∧ (¬ (S 5 17) ≤ v2 → (((S 5 8) = 0 → (o_X7_carries_0 (4 * v2) S ∧ (o_X7_read_71 n (v2 + 1) ((b_X7_carries_0 (4 * v2) S).1) ((b_X7_carries_0 (4 * v2) S).2)))) ∧ (¬ (S 5 8) = 0 → (o_X7_read_100 v3 S))))
set_option maxRecDepth 20000 in
theorem t_X7_read_71 (X : Cx p m c cX7_read 4 s args RX7 D q ad) (hr : meth.sig.returnType = some .int) (hlocks : meth.locks = false) : ∀ (n : Nat) (v2 : Int32) (v3 : Int32) (S : Sx) (rv : Int32) (S' : Sx) (ho : o_X7_read_71 n v2 v3 S) (he : b_X7_read_71 n v2 v3 S = (rv, S')), Jg p l e rm_X7_read s m args below meth c 0 0 (MQ below (Qi D q ad d rv S' s.heap.size) args s 0 0 (AU ad s.heap.size)) D q ad d 4 71 [(0, .ref (ad 5)), (2, .int v2), (3, .int v3)] [] S := by
  intro n
  induction n with
  | zero =>
    intro v2 v3 S rv S' ho he
    unfold o_X7_read_71 at ho
    exact ho.elim
  | succ n ih =>
    intro v2 v3 S rv S' ho he
    unfold b_X7_read_71 at he
    unfold o_X7_read_71 at ho
    refine j_iload_n X 1 dX7_read_71 rfl ?_
    refine j_aload_n X 0 dX7_read_72 rfl ?_
    refine gf_25_17 X m_fl_X7_176 kc25 dX7_read_73 ?_
    refine j_icmp_ge X 100 dX7_read_76 (by decide) (fun h2 => ?_) (fun h2 => ?_)
    · rw [if_pos h2] at he
      have ho := ho.1 h2
      refine j_lv [0, 2] [(0, .ref (ad 5)), (3, .int v3)] rfl ?_
      exact t_X7_read_100 X hr hlocks v3 S _ _ ho he
    · rw [if_neg h2] at he
      have ho := ho.2 h2
      refine j_aload_n X 0 dX7_read_79 rfl ?_
      refine gf_25_8 X m_fl_X7_35 kc25 dX7_read_80 ?_
      refine j_if_ne X 100 dX7_read_83 (by decide) (fun h3 => ?_) (fun h3 => ?_)
      · rw [if_neg h3] at he
        have ho := ho.2 h3
        refine j_lv [0, 2] [(0, .ref (ad 5)), (3, .int v3)] rfl ?_
        exact t_X7_read_100 X hr hlocks v3 S _ _ ho he
      · rw [if_pos h3] at he
        have ho := ho.1 h3
        refine j_aload_n X 0 dX7_read_86 rfl ?_
        refine j_iconst (v := 4) X dX7_read_87 (by decide) ?_
        refine j_iload_n X 1 dX7_read_88 rfl ?_
        refine j_imul X dX7_read_89 ?_
        have h4 := ho.1
        have ho := ho.2
        refine j_callVi (rest := []) X (c_X7_carries (cx_inj X) (4 * v2) S h4) cw_X7_208 kc25.1 (cl_25 kc25) rfl ⟨rfl, rfl, Nat.le_of_ble_eq_true rfl, Nat.le_of_ble_eq_true rfl⟩ rfl rfl (Nat.le_of_ble_eq_true rfl) ⟨Nat.le_of_ble_eq_true rfl, Nat.le_of_ble_eq_true rfl⟩ dX7_read_90 ?_
        refine j_istore_n X [(3, .int ((b_X7_carries_0 (4 * v2) S).1)), (0, .ref (ad 5)), (2, .int v2)] dX7_read_93 (by decide) rfl ?_
        refine j_iinc X 2 (v2 + 1) [(2, .int (v2 + 1)), (3, .int ((b_X7_carries_0 (4 * v2) S).1)), (0, .ref (ad 5))] dX7_read_94 rfl rfl (by decide) rfl ?_
        refine j_goto X 71 dX7_read_97 (by decide) ?_
        refine j_lv [2, 0, 1] [(0, .ref (ad 5)), (2, .int (v2 + 1)), (3, .int ((b_X7_carries_0 (4 * v2) S).1))] rfl ?_
        exact ih (v2 + 1) ((b_X7_carries_0 (4 * v2) S).1) ((b_X7_carries_0 (4 * v2) S).2) _ _ ho he
def b_X7_read_57  (S : Sx) : Int32 × Sx := b_X7_read_71 100 0 0 (up2 (up2 S 5 7 1) 5 9 0)
def o_X7_read_57  (S : Sx) : Prop := o_X7_read_71 100 0 0 (up2 (up2 S 5 7 1) 5 9 0)
set_option maxRecDepth 20000 in
theorem t_X7_read_57 (X : Cx p m c cX7_read 4 s args RX7 D q ad) (hr : meth.sig.returnType = some .int) (hlocks : meth.locks = false) (S : Sx) (rv : Int32) (S' : Sx) (ho : o_X7_read_57 S) (he : b_X7_read_57 S = (rv, S')) : Jg p l e rm_X7_read s m args below meth c 0 0 (MQ below (Qi D q ad d rv S' s.heap.size) args s 0 0 (AU ad s.heap.size)) D q ad d 4 57 [(0, .ref (ad 5))] [] S := by
  unfold b_X7_read_57 at he
  unfold o_X7_read_57 at ho
  refine j_aload_n X 0 dX7_read_57 rfl ?_
  refine j_iconst (v := 1) X dX7_read_58 (by decide) ?_
  refine pf_25_7 X bz_1 m_fl_X7_48 kc25 dX7_read_59 ?_
  refine j_aload_n X 0 dX7_read_62 rfl ?_
  refine j_iconst (v := 0) X dX7_read_63 (by decide) ?_
  refine pf_25_9 X bz_0 m_fl_X7_38 kc25 dX7_read_64 ?_
  refine j_iconst (v := 0) X dX7_read_67 (by decide) ?_
  refine j_istore_n X [(2, .int 0), (0, .ref (ad 5))] dX7_read_68 (by decide) rfl ?_
  refine j_iconst (v := 0) X dX7_read_69 (by decide) ?_
  refine j_istore_n X [(3, .int 0), (2, .int 0), (0, .ref (ad 5))] dX7_read_70 (by decide) rfl ?_
  refine j_lv [2, 1, 0] [(0, .ref (ad 5)), (2, .int 0), (3, .int 0)] rfl ?_
  exact t_X7_read_71 X hr hlocks 100 0 0 (up2 (up2 S 5 7 1) 5 9 0) _ _ ho he
def b_X7_read_36 (w0 : Int32) (S : Sx) : Int32 × Sx := if ((b_X7_fails_0 w0 S).1) = 0 then b_X7_read_57 (b_X7_copies_0 6 0 9 0 ((b_X7_fails_0 w0 S).2)) else (0, (b_X7_fails_0 w0 S).2)
def o_X7_read_36 (w0 : Int32) (S : Sx) : Prop := o_X7_fails_0 w0 S ∧ ((((b_X7_fails_0 w0 S).1) = 0 → (o_X7_copies_0 6 0 9 0 ((b_X7_fails_0 w0 S).2) ∧ (o_X7_read_57 (b_X7_copies_0 6 0 9 0 ((b_X7_fails_0 w0 S).2))))) ∧ (¬ ((b_X7_fails_0 w0 S).1) = 0 → True))
set_option maxRecDepth 20000 in
theorem t_X7_read_36 (X : Cx p m c cX7_read 4 s args RX7 D q ad) (hr : meth.sig.returnType = some .int) (hlocks : meth.locks = false) (w0 : Int32) (S : Sx) (rv : Int32) (S' : Sx) (ho : o_X7_read_36 w0 S) (he : b_X7_read_36 w0 S = (rv, S')) : Jg p l e rm_X7_read s m args below meth c 0 0 (MQ below (Qi D q ad d rv S' s.heap.size) args s 0 0 (AU ad s.heap.size)) D q ad d 4 36 [(0, .ref (ad 5))] [.int w0, .ref (ad 5)] S := by
  unfold b_X7_read_36 at he
  unfold o_X7_read_36 at ho
  have h2 := ho.1
  have ho := ho.2
  refine j_callVi (rest := []) X (c_X7_fails (cx_inj X) w0 S h2) cw_X7_70 kc25.1 (cl_25 kc25) rfl ⟨rfl, rfl, Nat.le_of_ble_eq_true rfl, Nat.le_of_ble_eq_true rfl⟩ rfl rfl (Nat.le_of_ble_eq_true rfl) ⟨Nat.le_of_ble_eq_true rfl, Nat.le_of_ble_eq_true rfl⟩ dX7_read_36 ?_
  refine j_if_eq X 44 dX7_read_39 (by decide) (fun h3 => ?_) (fun h3 => ?_)
  · rw [if_pos h3] at he
    have ho := ho.1 h3
    refine j_aload_n X 0 dX7_read_44 rfl ?_
    refine gf_25_0 X m_fl_X7_7 kc25 dX7_read_45 ?_
    refine j_iconst (v := 0) X dX7_read_48 (by decide) ?_
    refine j_aload_n X 0 dX7_read_49 rfl ?_
    refine gf_25_3 X m_fl_X7_19 kc25 dX7_read_50 ?_
    refine j_iconst (v := 0) X dX7_read_53 (by decide) ?_
    have h4 := ho.1
    have ho := ho.2
    refine j_callSv (rest := []) X (c_X7_copies (cx_inj X) 6 (isA_of26 kc26) 0 9 (isA_of29 kc29) 0 ((b_X7_fails_0 w0 S).2) h4) cw_X7_54 ⟨rfl, rfl, Nat.le_of_ble_eq_true rfl, Nat.le_of_ble_eq_true rfl⟩ rfl rfl (Nat.le_of_ble_eq_true rfl) ⟨Nat.le_of_ble_eq_true rfl, Nat.le_of_ble_eq_true rfl⟩ dX7_read_54 ?_
    exact t_X7_read_57 X hr hlocks (b_X7_copies_0 6 0 9 0 ((b_X7_fails_0 w0 S).2)) _ _ ho he
  · rw [if_neg h3] at he
    have ho := ho.2 h3
    refine j_iconst (v := 0) X dX7_read_42 (by decide) ?_
    exact j_iret X hr hlocks dX7_read_43 (congrArg Prod.fst he) (congrArg Prod.snd he)
def b_X7_read_18 (v1 : Int32) (w0 : Int32) (S : Sx) : Int32 × Sx := if v1 = 0 then b_X7_read_36 1 (up2 (up2 S 5 14 w0) 5 13 0) else b_X7_read_36 0 (up2 (up2 S 5 14 w0) 5 13 0)
def o_X7_read_18 (v1 : Int32) (w0 : Int32) (S : Sx) : Prop := (v1 = 0 → (o_X7_read_36 1 (up2 (up2 S 5 14 w0) 5 13 0))) ∧ (¬ v1 = 0 → (o_X7_read_36 0 (up2 (up2 S 5 14 w0) 5 13 0)))
set_option maxRecDepth 20000 in
theorem t_X7_read_18 (X : Cx p m c cX7_read 4 s args RX7 D q ad) (hr : meth.sig.returnType = some .int) (hlocks : meth.locks = false) (v1 : Int32) (w0 : Int32) (S : Sx) (rv : Int32) (S' : Sx) (ho : o_X7_read_18 v1 w0 S) (he : b_X7_read_18 v1 w0 S = (rv, S')) : Jg p l e rm_X7_read s m args below meth c 0 0 (MQ below (Qi D q ad d rv S' s.heap.size) args s 0 0 (AU ad s.heap.size)) D q ad d 4 18 [(0, .ref (ad 5)), (1, .int v1)] [.int w0, .ref (ad 5)] S := by
  unfold b_X7_read_18 at he
  unfold o_X7_read_18 at ho
  refine pf_25_14 X m_fl_X7_28 kc25 dX7_read_18 ?_
  refine j_aload_n X 0 dX7_read_21 rfl ?_
  refine j_iconst (v := 0) X dX7_read_22 (by decide) ?_
  refine pf_25_13 X m_fl_X7_167 kc25 dX7_read_23 ?_
  refine j_aload_n X 0 dX7_read_26 rfl ?_
  refine j_iload_n X 1 dX7_read_27 rfl ?_
  refine j_if_eq X 35 dX7_read_28 (by decide) (fun h2 => ?_) (fun h2 => ?_)
  · rw [if_pos h2] at he
    have ho := ho.1 h2
    refine j_iconst (v := 1) X dX7_read_35 (by decide) ?_
    refine j_lv [0] [(0, .ref (ad 5))] rfl ?_
    exact t_X7_read_36 X hr hlocks 1 (up2 (up2 S 5 14 w0) 5 13 0) _ _ ho he
  · rw [if_neg h2] at he
    have ho := ho.2 h2
    refine j_iconst (v := 0) X dX7_read_31 (by decide) ?_
    refine j_goto X 36 dX7_read_32 (by decide) ?_
    refine j_lv [0] [(0, .ref (ad 5))] rfl ?_
    exact t_X7_read_36 X hr hlocks 0 (up2 (up2 S 5 14 w0) 5 13 0) _ _ ho he
def b_X7_read_0  (S : Sx) : Int32 × Sx := if ((b_X7_isText_0 S).1) = 0 then b_X7_read_18 ((b_X7_isText_0 S).1) (((b_X7_isText_0 S).2) 5 15) ((b_X7_isText_0 S).2) else b_X7_read_18 ((b_X7_isText_0 S).1) (-1) ((b_X7_isText_0 S).2)
def o_X7_read_0  (S : Sx) : Prop := o_X7_isText_0 S ∧ ((((b_X7_isText_0 S).1) = 0 → (o_X7_read_18 ((b_X7_isText_0 S).1) (((b_X7_isText_0 S).2) 5 15) ((b_X7_isText_0 S).2))) ∧ (¬ ((b_X7_isText_0 S).1) = 0 → (o_X7_read_18 ((b_X7_isText_0 S).1) (-1) ((b_X7_isText_0 S).2))))
set_option maxRecDepth 20000 in
theorem t_X7_read_0 (X : Cx p m c cX7_read 4 s args RX7 D q ad) (hr : meth.sig.returnType = some .int) (hlocks : meth.locks = false) (S : Sx) (rv : Int32) (S' : Sx) (ho : o_X7_read_0 S) (he : b_X7_read_0 S = (rv, S')) : Jg p l e rm_X7_read s m args below meth c 0 0 (MQ below (Qi D q ad d rv S' s.heap.size) args s 0 0 (AU ad s.heap.size)) D q ad d 4 0 [(0, .ref (ad 5))] [] S := by
  unfold b_X7_read_0 at he
  unfold o_X7_read_0 at ho
  refine j_aload_n X 0 dX7_read_0 rfl ?_
  have h2 := ho.1
  have ho := ho.2
  refine j_callVi (rest := []) X (c_X7_isText (cx_inj X) S h2) cw_X7_205 kc25.1 (cl_25 kc25) rfl ⟨rfl, rfl, Nat.le_of_ble_eq_true rfl, Nat.le_of_ble_eq_true rfl⟩ rfl rfl (Nat.le_of_ble_eq_true rfl) ⟨Nat.le_of_ble_eq_true rfl, Nat.le_of_ble_eq_true rfl⟩ dX7_read_1 ?_
  refine j_istore_n X [(1, .int ((b_X7_isText_0 S).1)), (0, .ref (ad 5))] dX7_read_4 (by decide) rfl ?_
  refine j_aload_n X 1 dX7_read_5 rfl ?_
  refine j_iload_n X 0 dX7_read_6 rfl ?_
  refine j_if_eq X 14 dX7_read_7 (by decide) (fun h3 => ?_) (fun h3 => ?_)
  · rw [if_pos h3] at he
    have ho := ho.1 h3
    refine j_aload_n X 1 dX7_read_14 rfl ?_
    refine gf_25_15 X m_fl_X7_170 kc25 dX7_read_15 ?_
    refine j_lv [1, 0] [(0, .ref (ad 5)), (1, .int ((b_X7_isText_0 S).1))] rfl ?_
    exact t_X7_read_18 X hr hlocks ((b_X7_isText_0 S).1) (((b_X7_isText_0 S).2) 5 15) ((b_X7_isText_0 S).2) _ _ ho he
  · rw [if_neg h3] at he
    have ho := ho.2 h3
    refine j_iconst (v := (-1)) X dX7_read_10 (by decide) ?_
    refine j_goto X 18 dX7_read_11 (by decide) ?_
    refine j_lv [1, 0] [(0, .ref (ad 5)), (1, .int ((b_X7_isText_0 S).1))] rfl ?_
    exact t_X7_read_18 X hr hlocks ((b_X7_isText_0 S).1) (-1) ((b_X7_isText_0 S).2) _ _ ho he
theorem c_X7_read {l : Launch} {D : va_G} {q : Nat → ClassId} {ad : Nat → Nat} {d : UInt64} (hI : inj4 ad) (S : Sx) (ho : o_X7_read_0 S) : CI l yX7_read cX7_read 4 .int rm_X7_read D q ad d [.ref (ad 5)] S (b_X7_read_0 S).1 (b_X7_read_0 S).2 := ci_of hI (by decide +kernel) (Nat.le_of_ble_eq_true rfl) rfl (fun p e s m args below meth c X hr hlocks => t_X7_read_0 X hr hlocks S _ _ ho (pe _))
end
/-! RX7.errorPosition -/
abbrev rm_X7_errorPosition : Room := { frames := 0, cells := 0, slots := 0, locals := 0 }
section
variable {p : Program} {l : Launch} {e : Env} {s : State} {m : MethodId} {args : Array Value} {below : List Frame} {meth : Method} {c : Code} {D : va_G} {q : Nat → ClassId} {ad : Nat → Nat} {d : UInt64}
def b_X7_errorPosition_0  (S : Sx) : Int32 × Sx := ((up2 S 5 8 0) 5 14, up2 S 5 8 0)
set_option maxRecDepth 20000 in
theorem t_X7_errorPosition_0 (X : Cx p m c cX7_errorPosition 1 s args RX7 D q ad) (hr : meth.sig.returnType = some .int) (hlocks : meth.locks = false) (S : Sx) (rv : Int32) (S' : Sx) (he : b_X7_errorPosition_0 S = (rv, S')) : Jg p l e rm_X7_errorPosition s m args below meth c 0 0 (MQ below (Qi D q ad d rv S' s.heap.size) args s 0 0 (AU ad s.heap.size)) D q ad d 1 0 [(0, .ref (ad 5))] [] S := by
  unfold b_X7_errorPosition_0 at he
  refine j_aload_n X 0 dX7_errorPosition_0 rfl ?_
  refine j_iconst (v := 0) X dX7_errorPosition_1 (by decide) ?_
  refine pf_25_8 X m_fl_X7_35 kc25 dX7_errorPosition_2 ?_
  refine j_aload_n X 0 dX7_errorPosition_5 rfl ?_
  refine gf_25_14 X m_fl_X7_28 kc25 dX7_errorPosition_6 ?_
  exact j_iret X hr hlocks dX7_errorPosition_9 (congrArg Prod.fst he) (congrArg Prod.snd he)
theorem c_X7_errorPosition {l : Launch} {D : va_G} {q : Nat → ClassId} {ad : Nat → Nat} {d : UInt64} (hI : inj4 ad) (S : Sx) : CI l yX7_errorPosition cX7_errorPosition 1 .int rm_X7_errorPosition D q ad d [.ref (ad 5)] S (b_X7_errorPosition_0 S).1 (b_X7_errorPosition_0 S).2 := ci_of hI (by decide +kernel) (Nat.le_of_ble_eq_true rfl) rfl (fun p e s m args below meth c X hr hlocks => t_X7_errorPosition_0 X hr hlocks S _ _ (pe _))
end
/-! RX7.refusal -/
abbrev rm_X7_refusal : Room := { frames := 1, cells := 0, slots := 0, locals := 21 }
section
variable {p : Program} {l : Launch} {e : Env} {s : State} {m : MethodId} {args : Array Value} {below : List Frame} {meth : Method} {c : Code} {D : va_G} {q : Nat → ClassId} {ad : Nat → Nat} {d : UInt64}
def b_X7_refusal_38 (w0 : Int32) (S : Sx) : Int32 × Sx := (w0, S)
set_option maxRecDepth 20000 in
theorem t_X7_refusal_38 (X : Cx p m c cX7_refusal 2 s args RX7 D q ad) (hr : meth.sig.returnType = some .int) (hlocks : meth.locks = false) (w0 : Int32) (S : Sx) (rv : Int32) (S' : Sx) (he : b_X7_refusal_38 w0 S = (rv, S')) : Jg p l e rm_X7_refusal s m args below meth c 0 0 (MQ below (Qi D q ad d rv S' s.heap.size) args s 0 0 (AU ad s.heap.size)) D q ad d 2 38 [] [.int w0] S := by
  unfold b_X7_refusal_38 at he
  exact j_iret X hr hlocks dX7_refusal_38 (congrArg Prod.fst he) (congrArg Prod.snd he)
def b_X7_refusal_13 (v1 : Int32) (w0 : Int32) (S : Sx) : Int32 × Sx := if ((b_X7_fails_0 w0 S).1) = 0 then if v1 = 0 then b_X7_refusal_38 (((b_X7_fails_0 w0 S).2) 5 10) ((b_X7_fails_0 w0 S).2) else b_X7_refusal_38 (((b_X7_fails_0 w0 S).2) 5 11) ((b_X7_fails_0 w0 S).2) else b_X7_refusal_38 0 ((b_X7_fails_0 w0 S).2)
def o_X7_refusal_13 (v1 : Int32) (w0 : Int32) (S : Sx) : Prop := o_X7_fails_0 w0 S ∧ True
set_option maxRecDepth 20000 in
theorem t_X7_refusal_13 (X : Cx p m c cX7_refusal 2 s args RX7 D q ad) (hr : meth.sig.returnType = some .int) (hlocks : meth.locks = false) (v1 : Int32) (w0 : Int32) (S : Sx) (rv : Int32) (S' : Sx) (ho : o_X7_refusal_13 v1 w0 S) (he : b_X7_refusal_13 v1 w0 S = (rv, S')) : Jg p l e rm_X7_refusal s m args below meth c 0 0 (MQ below (Qi D q ad d rv S' s.heap.size) args s 0 0 (AU ad s.heap.size)) D q ad d 2 13 [(0, .ref (ad 5)), (1, .int v1)] [.int w0, .ref (ad 5)] S := by
  unfold b_X7_refusal_13 at he
  unfold o_X7_refusal_13 at ho
  have h2 := ho.1
  have ho := ho.2
  refine j_callVi (rest := []) X (c_X7_fails (cx_inj X) w0 S h2) cw_X7_70 kc25.1 (cl_25 kc25) rfl ⟨rfl, rfl, Nat.le_of_ble_eq_true rfl, Nat.le_of_ble_eq_true rfl⟩ rfl rfl (Nat.le_of_ble_eq_true rfl) ⟨Nat.le_of_ble_eq_true rfl, Nat.le_of_ble_eq_true rfl⟩ dX7_refusal_13 ?_
  refine j_if_eq X 23 dX7_refusal_16 (by decide) (fun h3 => ?_) (fun h3 => ?_)
  · rw [if_pos h3] at he
    refine j_iload_n X 1 dX7_refusal_23 rfl ?_
    refine j_if_eq X 34 dX7_refusal_24 (by decide) (fun h4 => ?_) (fun h4 => ?_)
    · rw [if_pos h4] at he
      refine j_aload_n X 0 dX7_refusal_34 rfl ?_
      refine gf_25_10 X m_fl_X7_42 kc25 dX7_refusal_35 ?_
      refine j_lv [] [] rfl ?_
      exact t_X7_refusal_38 X hr hlocks (((b_X7_fails_0 w0 S).2) 5 10) ((b_X7_fails_0 w0 S).2) _ _ he
    · rw [if_neg h4] at he
      refine j_aload_n X 0 dX7_refusal_27 rfl ?_
      refine gf_25_11 X m_fl_X7_45 kc25 dX7_refusal_28 ?_
      refine j_goto X 38 dX7_refusal_31 (by decide) ?_
      refine j_lv [] [] rfl ?_
      exact t_X7_refusal_38 X hr hlocks (((b_X7_fails_0 w0 S).2) 5 11) ((b_X7_fails_0 w0 S).2) _ _ he
  · rw [if_neg h3] at he
    refine j_iconst (v := 0) X dX7_refusal_19 (by decide) ?_
    refine j_goto X 38 dX7_refusal_20 (by decide) ?_
    refine j_lv [] [] rfl ?_
    exact t_X7_refusal_38 X hr hlocks 0 ((b_X7_fails_0 w0 S).2) _ _ he
def b_X7_refusal_0 (x1 : Int32) (S : Sx) : Int32 × Sx := if (S 5 10) = 0 then b_X7_refusal_13 x1 1 S else b_X7_refusal_13 x1 0 S
def o_X7_refusal_0 (x1 : Int32) (S : Sx) : Prop := ((S 5 10) = 0 → (o_X7_refusal_13 x1 1 S)) ∧ (¬ (S 5 10) = 0 → (o_X7_refusal_13 x1 0 S))
set_option maxRecDepth 20000 in
theorem t_X7_refusal_0 (X : Cx p m c cX7_refusal 2 s args RX7 D q ad) (hr : meth.sig.returnType = some .int) (hlocks : meth.locks = false) (x1 : Int32) (S : Sx) (rv : Int32) (S' : Sx) (ho : o_X7_refusal_0 x1 S) (he : b_X7_refusal_0 x1 S = (rv, S')) : Jg p l e rm_X7_refusal s m args below meth c 0 0 (MQ below (Qi D q ad d rv S' s.heap.size) args s 0 0 (AU ad s.heap.size)) D q ad d 2 0 [(0, .ref (ad 5)), (1, .int x1)] [] S := by
  unfold b_X7_refusal_0 at he
  unfold o_X7_refusal_0 at ho
  refine j_aload_n X 0 dX7_refusal_0 rfl ?_
  refine j_aload_n X 0 dX7_refusal_1 rfl ?_
  refine gf_25_10 X m_fl_X7_42 kc25 dX7_refusal_2 ?_
  refine j_if_ne X 12 dX7_refusal_5 (by decide) (fun h2 => ?_) (fun h2 => ?_)
  · rw [if_neg h2] at he
    have ho := ho.2 h2
    refine j_iconst (v := 0) X dX7_refusal_12 (by decide) ?_
    exact t_X7_refusal_13 X hr hlocks x1 0 S _ _ ho he
  · rw [if_pos h2] at he
    have ho := ho.1 h2
    refine j_iconst (v := 1) X dX7_refusal_8 (by decide) ?_
    refine j_goto X 13 dX7_refusal_9 (by decide) ?_
    exact t_X7_refusal_13 X hr hlocks x1 1 S _ _ ho he
theorem c_X7_refusal {l : Launch} {D : va_G} {q : Nat → ClassId} {ad : Nat → Nat} {d : UInt64} (hI : inj4 ad) (x1 : Int32) (S : Sx) (ho : o_X7_refusal_0 x1 S) : CI l yX7_refusal cX7_refusal 2 .int rm_X7_refusal D q ad d [.ref (ad 5), .int x1] S (b_X7_refusal_0 x1 S).1 (b_X7_refusal_0 x1 S).2 := ci_of hI (by decide +kernel) (Nat.le_of_ble_eq_true rfl) rfl (fun p e s m args below meth c X hr hlocks => t_X7_refusal_0 X hr hlocks x1 S _ _ ho (pe _))
end
/-! RX7.sumOfInnings -/
abbrev rm_X7_sumOfInnings : Room := { frames := 1, cells := 0, slots := 0, locals := 22 }
section
variable {p : Program} {l : Launch} {e : Env} {s : State} {m : MethodId} {args : Array Value} {below : List Frame} {meth : Method} {c : Code} {D : va_G} {q : Nat → ClassId} {ad : Nat → Nat} {d : UInt64}
def b_X7_sumOfInnings_4 : Nat → Int32 → Int32 → Int32 → Sx → Int32
  | 0, _, _, _, S => 0
  | n + 1, v1, v2, v3, S => if (S 6 ((106 : Int32).toNatClampNeg)) ≤ v3 then v2 else b_X7_sumOfInnings_4 n v1 (v2 + (b_X7_ofInnings_0 v3 v1 S)) (v3 + 1) S
def o_X7_sumOfInnings_4 : Nat → Int32 → Int32 → Int32 → Sx → Prop
  | 0, _, _, _, _ => False
  | n + 1, v1, v2, v3, S => ((S 6 ((106 : Int32).toNatClampNeg)) ≤ v3 → True) ∧ (¬ (S 6 ((106 : Int32).toNatClampNeg)) ≤ v3 → (o_X7_ofInnings_0 v3 v1 S ∧ (o_X7_sumOfInnings_4 n v1 (v2 + (b_X7_ofInnings_0 v3 v1 S)) (v3 + 1) S)))
set_option maxRecDepth 20000 in
theorem t_X7_sumOfInnings_4 (X : Cx p m c cX7_sumOfInnings 4 s args RX7 D q ad) (hr : meth.sig.returnType = some .int) (hlocks : meth.locks = false) : ∀ (n : Nat) (v1 : Int32) (v2 : Int32) (v3 : Int32) (S : Sx) (rv : Int32) (ho : o_X7_sumOfInnings_4 n v1 v2 v3 S) (he : b_X7_sumOfInnings_4 n v1 v2 v3 S = rv), Jg p l e rm_X7_sumOfInnings s m args below meth c 0 0 (MQ below (Qi D q ad d rv S s.heap.size) args s 0 0 (AU ad s.heap.size)) D q ad d 4 4 [(0, .ref (ad 5)), (1, .int v1), (2, .int v2), (3, .int v3)] [] S := by
  intro n
  induction n with
  | zero =>
    intro v1 v2 v3 S rv ho he
    unfold o_X7_sumOfInnings_4 at ho
    exact ho.elim
  | succ n ih =>
    intro v1 v2 v3 S rv ho he
    unfold b_X7_sumOfInnings_4 at he
    unfold o_X7_sumOfInnings_4 at ho
    refine j_iload_n X 3 dX7_sumOfInnings_4 rfl ?_
    refine j_aload_n X 0 dX7_sumOfInnings_5 rfl ?_
    refine gf_25_0 X m_fl_X7_7 kc25 dX7_sumOfInnings_6 ?_
    refine j_bipush (v := 106) X dX7_sumOfInnings_9 (by decide) ?_
    refine j_iald X kc26.1 (cl_26 kc26) (by unfold vp_in; decide) dX7_sumOfInnings_11 ?_
    refine j_icmp_ge X 30 dX7_sumOfInnings_12 (by decide) (fun h2 => ?_) (fun h2 => ?_)
    · rw [if_pos h2] at he
      have ho := ho.1 h2
      refine j_iload_n X 2 dX7_sumOfInnings_30 rfl ?_
      exact j_iret X hr hlocks dX7_sumOfInnings_31 he rfl
    · rw [if_neg h2] at he
      have ho := ho.2 h2
      refine j_iload_n X 2 dX7_sumOfInnings_15 rfl ?_
      refine j_aload_n X 0 dX7_sumOfInnings_16 rfl ?_
      refine j_iload_n X 3 dX7_sumOfInnings_17 rfl ?_
      refine j_iload_n X 1 dX7_sumOfInnings_18 rfl ?_
      have h3 := ho.1
      have ho := ho.2
      refine j_callVi (rest := [.int v2]) X (c_X7_ofInnings (cx_inj X) v3 v1 S h3) cw_X7_88 kc25.1 (cl_25 kc25) rfl ⟨rfl, rfl, Nat.le_of_ble_eq_true rfl, Nat.le_of_ble_eq_true rfl⟩ rfl rfl (Nat.le_of_ble_eq_true rfl) ⟨Nat.le_of_ble_eq_true rfl, Nat.le_of_ble_eq_true rfl⟩ dX7_sumOfInnings_19 ?_
      refine j_iadd X dX7_sumOfInnings_22 ?_
      refine j_istore_n X [(2, .int (v2 + (b_X7_ofInnings_0 v3 v1 S))), (0, .ref (ad 5)), (1, .int v1), (3, .int v3)] dX7_sumOfInnings_23 (by decide) rfl ?_
      refine j_iinc X 3 (v3 + 1) [(3, .int (v3 + 1)), (2, .int (v2 + (b_X7_ofInnings_0 v3 v1 S))), (0, .ref (ad 5)), (1, .int v1)] dX7_sumOfInnings_24 rfl rfl (by decide) rfl ?_
      refine j_goto X 4 dX7_sumOfInnings_27 (by decide) ?_
      refine j_lv [2, 3, 1, 0] [(0, .ref (ad 5)), (1, .int v1), (2, .int (v2 + (b_X7_ofInnings_0 v3 v1 S))), (3, .int (v3 + 1))] rfl ?_
      exact ih v1 (v2 + (b_X7_ofInnings_0 v3 v1 S)) (v3 + 1) S _ ho he
def b_X7_sumOfInnings_0 (x1 : Int32) (S : Sx) : Int32 := b_X7_sumOfInnings_4 100 x1 0 0 S
def o_X7_sumOfInnings_0 (x1 : Int32) (S : Sx) : Prop := o_X7_sumOfInnings_4 100 x1 0 0 S
set_option maxRecDepth 20000 in
theorem t_X7_sumOfInnings_0 (X : Cx p m c cX7_sumOfInnings 4 s args RX7 D q ad) (hr : meth.sig.returnType = some .int) (hlocks : meth.locks = false) (x1 : Int32) (S : Sx) (rv : Int32) (ho : o_X7_sumOfInnings_0 x1 S) (he : b_X7_sumOfInnings_0 x1 S = rv) : Jg p l e rm_X7_sumOfInnings s m args below meth c 0 0 (MQ below (Qi D q ad d rv S s.heap.size) args s 0 0 (AU ad s.heap.size)) D q ad d 4 0 [(0, .ref (ad 5)), (1, .int x1)] [] S := by
  unfold b_X7_sumOfInnings_0 at he
  unfold o_X7_sumOfInnings_0 at ho
  refine j_iconst (v := 0) X dX7_sumOfInnings_0 (by decide) ?_
  refine j_istore_n X [(2, .int 0), (0, .ref (ad 5)), (1, .int x1)] dX7_sumOfInnings_1 (by decide) rfl ?_
  refine j_iconst (v := 0) X dX7_sumOfInnings_2 (by decide) ?_
  refine j_istore_n X [(3, .int 0), (2, .int 0), (0, .ref (ad 5)), (1, .int x1)] dX7_sumOfInnings_3 (by decide) rfl ?_
  refine j_lv [2, 3, 1, 0] [(0, .ref (ad 5)), (1, .int x1), (2, .int 0), (3, .int 0)] rfl ?_
  exact t_X7_sumOfInnings_4 X hr hlocks 100 x1 0 0 S _ ho he
theorem c_X7_sumOfInnings {l : Launch} {D : va_G} {q : Nat → ClassId} {ad : Nat → Nat} {d : UInt64} (hI : inj4 ad) (x1 : Int32) (S : Sx) (ho : o_X7_sumOfInnings_0 x1 S) : CI l yX7_sumOfInnings cX7_sumOfInnings 4 .int rm_X7_sumOfInnings D q ad d [.ref (ad 5), .int x1] S (b_X7_sumOfInnings_0 x1 S) S := ci_of hI (by decide +kernel) (Nat.le_of_ble_eq_true rfl) rfl (fun p e s m args below meth c X hr hlocks => t_X7_sumOfInnings_0 X hr hlocks x1 S _ ho rfl)
end
/-! RX7.sumOfPitches -/
abbrev rm_X7_sumOfPitches : Room := { frames := 1, cells := 0, slots := 0, locals := 22 }
section
variable {p : Program} {l : Launch} {e : Env} {s : State} {m : MethodId} {args : Array Value} {below : List Frame} {meth : Method} {c : Code} {D : va_G} {q : Nat → ClassId} {ad : Nat → Nat} {d : UInt64}
def b_X7_sumOfPitches_4 : Nat → Int32 → Int32 → Int32 → Sx → Int32
  | 0, _, _, _, S => 0
  | n + 1, v1, v2, v3, S => if (S 6 ((50 : Int32).toNatClampNeg)) ≤ v3 then v2 else b_X7_sumOfPitches_4 n v1 (v2 + (b_X7_of_0 v3 v1 S)) (v3 + 1) S
def o_X7_sumOfPitches_4 : Nat → Int32 → Int32 → Int32 → Sx → Prop
  | 0, _, _, _, _ => False
  | n + 1, v1, v2, v3, S => ((S 6 ((50 : Int32).toNatClampNeg)) ≤ v3 → True) ∧ (¬ (S 6 ((50 : Int32).toNatClampNeg)) ≤ v3 → (o_X7_of_0 v3 v1 S ∧ (o_X7_sumOfPitches_4 n v1 (v2 + (b_X7_of_0 v3 v1 S)) (v3 + 1) S)))
set_option maxRecDepth 20000 in
theorem t_X7_sumOfPitches_4 (X : Cx p m c cX7_sumOfPitches 4 s args RX7 D q ad) (hr : meth.sig.returnType = some .int) (hlocks : meth.locks = false) : ∀ (n : Nat) (v1 : Int32) (v2 : Int32) (v3 : Int32) (S : Sx) (rv : Int32) (ho : o_X7_sumOfPitches_4 n v1 v2 v3 S) (he : b_X7_sumOfPitches_4 n v1 v2 v3 S = rv), Jg p l e rm_X7_sumOfPitches s m args below meth c 0 0 (MQ below (Qi D q ad d rv S s.heap.size) args s 0 0 (AU ad s.heap.size)) D q ad d 4 4 [(0, .ref (ad 5)), (1, .int v1), (2, .int v2), (3, .int v3)] [] S := by
  intro n
  induction n with
  | zero =>
    intro v1 v2 v3 S rv ho he
    unfold o_X7_sumOfPitches_4 at ho
    exact ho.elim
  | succ n ih =>
    intro v1 v2 v3 S rv ho he
    unfold b_X7_sumOfPitches_4 at he
    unfold o_X7_sumOfPitches_4 at ho
    refine j_iload_n X 3 dX7_sumOfPitches_4 rfl ?_
    refine j_aload_n X 0 dX7_sumOfPitches_5 rfl ?_
    refine gf_25_0 X m_fl_X7_7 kc25 dX7_sumOfPitches_6 ?_
    refine j_bipush (v := 50) X dX7_sumOfPitches_9 (by decide) ?_
    refine j_iald X kc26.1 (cl_26 kc26) (by unfold vp_in; decide) dX7_sumOfPitches_11 ?_
    refine j_icmp_ge X 30 dX7_sumOfPitches_12 (by decide) (fun h2 => ?_) (fun h2 => ?_)
    · rw [if_pos h2] at he
      have ho := ho.1 h2
      refine j_iload_n X 2 dX7_sumOfPitches_30 rfl ?_
      exact j_iret X hr hlocks dX7_sumOfPitches_31 he rfl
    · rw [if_neg h2] at he
      have ho := ho.2 h2
      refine j_iload_n X 2 dX7_sumOfPitches_15 rfl ?_
      refine j_aload_n X 0 dX7_sumOfPitches_16 rfl ?_
      refine j_iload_n X 3 dX7_sumOfPitches_17 rfl ?_
      refine j_iload_n X 1 dX7_sumOfPitches_18 rfl ?_
      have h3 := ho.1
      have ho := ho.2
      refine j_callVi (rest := [.int v2]) X (c_X7_of (cx_inj X) v3 v1 S h3) cw_X7_98 kc25.1 (cl_25 kc25) rfl ⟨rfl, rfl, Nat.le_of_ble_eq_true rfl, Nat.le_of_ble_eq_true rfl⟩ rfl rfl (Nat.le_of_ble_eq_true rfl) ⟨Nat.le_of_ble_eq_true rfl, Nat.le_of_ble_eq_true rfl⟩ dX7_sumOfPitches_19 ?_
      refine j_iadd X dX7_sumOfPitches_22 ?_
      refine j_istore_n X [(2, .int (v2 + (b_X7_of_0 v3 v1 S))), (0, .ref (ad 5)), (1, .int v1), (3, .int v3)] dX7_sumOfPitches_23 (by decide) rfl ?_
      refine j_iinc X 3 (v3 + 1) [(3, .int (v3 + 1)), (2, .int (v2 + (b_X7_of_0 v3 v1 S))), (0, .ref (ad 5)), (1, .int v1)] dX7_sumOfPitches_24 rfl rfl (by decide) rfl ?_
      refine j_goto X 4 dX7_sumOfPitches_27 (by decide) ?_
      refine j_lv [2, 3, 1, 0] [(0, .ref (ad 5)), (1, .int v1), (2, .int (v2 + (b_X7_of_0 v3 v1 S))), (3, .int (v3 + 1))] rfl ?_
      exact ih v1 (v2 + (b_X7_of_0 v3 v1 S)) (v3 + 1) S _ ho he
def b_X7_sumOfPitches_0 (x1 : Int32) (S : Sx) : Int32 := b_X7_sumOfPitches_4 100 x1 0 0 S
def o_X7_sumOfPitches_0 (x1 : Int32) (S : Sx) : Prop := o_X7_sumOfPitches_4 100 x1 0 0 S
set_option maxRecDepth 20000 in
theorem t_X7_sumOfPitches_0 (X : Cx p m c cX7_sumOfPitches 4 s args RX7 D q ad) (hr : meth.sig.returnType = some .int) (hlocks : meth.locks = false) (x1 : Int32) (S : Sx) (rv : Int32) (ho : o_X7_sumOfPitches_0 x1 S) (he : b_X7_sumOfPitches_0 x1 S = rv) : Jg p l e rm_X7_sumOfPitches s m args below meth c 0 0 (MQ below (Qi D q ad d rv S s.heap.size) args s 0 0 (AU ad s.heap.size)) D q ad d 4 0 [(0, .ref (ad 5)), (1, .int x1)] [] S := by
  unfold b_X7_sumOfPitches_0 at he
  unfold o_X7_sumOfPitches_0 at ho
  refine j_iconst (v := 0) X dX7_sumOfPitches_0 (by decide) ?_
  refine j_istore_n X [(2, .int 0), (0, .ref (ad 5)), (1, .int x1)] dX7_sumOfPitches_1 (by decide) rfl ?_
  refine j_iconst (v := 0) X dX7_sumOfPitches_2 (by decide) ?_
  refine j_istore_n X [(3, .int 0), (2, .int 0), (0, .ref (ad 5)), (1, .int x1)] dX7_sumOfPitches_3 (by decide) rfl ?_
  refine j_lv [2, 3, 1, 0] [(0, .ref (ad 5)), (1, .int x1), (2, .int 0), (3, .int 0)] rfl ?_
  exact t_X7_sumOfPitches_4 X hr hlocks 100 x1 0 0 S _ ho he
theorem c_X7_sumOfPitches {l : Launch} {D : va_G} {q : Nat → ClassId} {ad : Nat → Nat} {d : UInt64} (hI : inj4 ad) (x1 : Int32) (S : Sx) (ho : o_X7_sumOfPitches_0 x1 S) : CI l yX7_sumOfPitches cX7_sumOfPitches 4 .int rm_X7_sumOfPitches D q ad d [.ref (ad 5), .int x1] S (b_X7_sumOfPitches_0 x1 S) S := ci_of hI (by decide +kernel) (Nat.le_of_ble_eq_true rfl) rfl (fun p e s m args below meth c X hr hlocks => t_X7_sumOfPitches_0 X hr hlocks x1 S _ ho rfl)
end
/-! RX7.ofHorses -/
abbrev rm_X7_ofHorses : Room := { frames := 1, cells := 0, slots := 0, locals := 22 }
section
variable {p : Program} {l : Launch} {e : Env} {s : State} {m : MethodId} {args : Array Value} {below : List Frame} {meth : Method} {c : Code} {D : va_G} {q : Nat → ClassId} {ad : Nat → Nat} {d : UInt64}
def b_X7_ofHorses_43 (kk : Int32 → Int32 → Int32 → Sx → Int32) (v1 : Int32) (v3 : Int32) (w0 : Int32) (w1 : Int32) (S : Sx) : Int32 := kk v1 (w1 + w0) (v3 + 1) S
def o_X7_ofHorses_43 (ok : Int32 → Int32 → Int32 → Sx → Prop) (v1 : Int32) (v3 : Int32) (w0 : Int32) (w1 : Int32) (S : Sx) : Prop := ok v1 (w1 + w0) (v3 + 1) S
set_option maxRecDepth 20000 in
theorem t_X7_ofHorses_43 (X : Cx p m c cX7_ofHorses 4 s args RX7 D q ad) (hr : meth.sig.returnType = some .int) (hlocks : meth.locks = false) (kk : Int32 → Int32 → Int32 → Sx → Int32) (ok : Int32 → Int32 → Int32 → Sx → Prop) (hkk : ∀ (v1 : Int32) (v2 : Int32) (v3 : Int32) (S : Sx) (rv : Int32) (ho : ok v1 v2 v3 S) (he : kk v1 v2 v3 S = rv), Jg p l e rm_X7_ofHorses s m args below meth c 0 0 (MQ below (Qi D q ad d rv S s.heap.size) args s 0 0 (AU ad s.heap.size)) D q ad d 4 4 [(0, .ref (ad 5)), (1, .int v1), (2, .int v2), (3, .int v3)] [] S) (v1 : Int32) (v3 : Int32) (w0 : Int32) (w1 : Int32) (S : Sx) (rv : Int32) (ho : o_X7_ofHorses_43 ok v1 v3 w0 w1 S) (he : b_X7_ofHorses_43 kk v1 v3 w0 w1 S = rv) : Jg p l e rm_X7_ofHorses s m args below meth c 0 0 (MQ below (Qi D q ad d rv S s.heap.size) args s 0 0 (AU ad s.heap.size)) D q ad d 4 43 [(0, .ref (ad 5)), (1, .int v1), (3, .int v3)] [.int w0, .int w1] S := by
  unfold b_X7_ofHorses_43 at he
  unfold o_X7_ofHorses_43 at ho
  refine j_iadd X dX7_ofHorses_43 ?_
  refine j_istore_n X [(2, .int (w1 + w0)), (0, .ref (ad 5)), (1, .int v1), (3, .int v3)] dX7_ofHorses_44 (by decide) rfl ?_
  refine j_iinc X 3 (v3 + 1) [(3, .int (v3 + 1)), (2, .int (w1 + w0)), (0, .ref (ad 5)), (1, .int v1)] dX7_ofHorses_45 rfl rfl (by decide) rfl ?_
  refine j_goto X 4 dX7_ofHorses_48 (by decide) ?_
  refine j_lv [2, 3, 1, 0] [(0, .ref (ad 5)), (1, .int v1), (2, .int (w1 + w0)), (3, .int (v3 + 1))] rfl ?_
  exact hkk v1 (w1 + w0) (v3 + 1) S _ ho he
def b_X7_ofHorses_4 : Nat → Int32 → Int32 → Int32 → Sx → Int32
  | 0, _, _, _, S => 0
  | n + 1, v1, v2, v3, S => if (S 6 ((71 : Int32).toNatClampNeg)) ≤ v3 then v2 else if v1 = 0 then b_X7_ofHorses_43 (b_X7_ofHorses_4 n) v1 v3 (b_X7_ofHorse_0 v3 5 S) v2 S else if (b_X7_ofHorse_0 v3 3 S) ≤ 0 then b_X7_ofHorses_43 (b_X7_ofHorses_4 n) v1 v3 0 v2 S else b_X7_ofHorses_43 (b_X7_ofHorses_4 n) v1 v3 1 v2 S
def o_X7_ofHorses_4 : Nat → Int32 → Int32 → Int32 → Sx → Prop
  | 0, _, _, _, _ => False
  | n + 1, v1, v2, v3, S => ((S 6 ((71 : Int32).toNatClampNeg)) ≤ v3 → True) ∧ (¬ (S 6 ((71 : Int32).toNatClampNeg)) ≤ v3 → ((v1 = 0 → (o_X7_ofHorse_0 v3 5 S ∧ (o_X7_ofHorses_43 (o_X7_ofHorses_4 n) v1 v3 (b_X7_ofHorse_0 v3 5 S) v2 S))) ∧ (¬ v1 = 0 → (o_X7_ofHorse_0 v3 3 S ∧ (((b_X7_ofHorse_0 v3 3 S) ≤ 0 → (o_X7_ofHorses_43 (o_X7_ofHorses_4 n) v1 v3 0 v2 S)) ∧ (¬ (b_X7_ofHorse_0 v3 3 S) ≤ 0 → (o_X7_ofHorses_43 (o_X7_ofHorses_4 n) v1 v3 1 v2 S)))))))
set_option maxRecDepth 20000 in
theorem t_X7_ofHorses_4 (X : Cx p m c cX7_ofHorses 4 s args RX7 D q ad) (hr : meth.sig.returnType = some .int) (hlocks : meth.locks = false) : ∀ (n : Nat) (v1 : Int32) (v2 : Int32) (v3 : Int32) (S : Sx) (rv : Int32) (ho : o_X7_ofHorses_4 n v1 v2 v3 S) (he : b_X7_ofHorses_4 n v1 v2 v3 S = rv), Jg p l e rm_X7_ofHorses s m args below meth c 0 0 (MQ below (Qi D q ad d rv S s.heap.size) args s 0 0 (AU ad s.heap.size)) D q ad d 4 4 [(0, .ref (ad 5)), (1, .int v1), (2, .int v2), (3, .int v3)] [] S := by
  intro n
  induction n with
  | zero =>
    intro v1 v2 v3 S rv ho he
    unfold o_X7_ofHorses_4 at ho
    exact ho.elim
  | succ n ih =>
    intro v1 v2 v3 S rv ho he
    unfold b_X7_ofHorses_4 at he
    unfold o_X7_ofHorses_4 at ho
    refine j_iload_n X 3 dX7_ofHorses_4 rfl ?_
    refine j_aload_n X 0 dX7_ofHorses_5 rfl ?_
    refine gf_25_0 X m_fl_X7_7 kc25 dX7_ofHorses_6 ?_
    refine j_bipush (v := 71) X dX7_ofHorses_9 (by decide) ?_
    refine j_iald X kc26.1 (cl_26 kc26) (by unfold vp_in; decide) dX7_ofHorses_11 ?_
    refine j_icmp_ge X 51 dX7_ofHorses_12 (by decide) (fun h2 => ?_) (fun h2 => ?_)
    · rw [if_pos h2] at he
      have ho := ho.1 h2
      refine j_iload_n X 2 dX7_ofHorses_51 rfl ?_
      exact j_iret X hr hlocks dX7_ofHorses_52 he rfl
    · rw [if_neg h2] at he
      have ho := ho.2 h2
      refine j_iload_n X 2 dX7_ofHorses_15 rfl ?_
      refine j_iload_n X 1 dX7_ofHorses_16 rfl ?_
      refine j_if_ne X 29 dX7_ofHorses_17 (by decide) (fun h3 => ?_) (fun h3 => ?_)
      · rw [if_neg h3] at he
        have ho := ho.2 h3
        refine j_aload_n X 0 dX7_ofHorses_29 rfl ?_
        refine j_iload_n X 3 dX7_ofHorses_30 rfl ?_
        refine j_iconst (v := 3) X dX7_ofHorses_31 (by decide) ?_
        have h4 := ho.1
        have ho := ho.2
        refine j_callVi (rest := [.int v2]) X (c_X7_ofHorse (cx_inj X) v3 3 S h4) cw_X7_85 kc25.1 (cl_25 kc25) rfl ⟨rfl, rfl, Nat.le_of_ble_eq_true rfl, Nat.le_of_ble_eq_true rfl⟩ rfl rfl (Nat.le_of_ble_eq_true rfl) ⟨Nat.le_of_ble_eq_true rfl, Nat.le_of_ble_eq_true rfl⟩ dX7_ofHorses_32 ?_
        refine j_if_le X 42 dX7_ofHorses_35 (by decide) (fun h5 => ?_) (fun h5 => ?_)
        · rw [if_pos h5] at he
          have ho := ho.1 h5
          refine j_iconst (v := 0) X dX7_ofHorses_42 (by decide) ?_
          refine j_lv [0, 1, 3] [(0, .ref (ad 5)), (1, .int v1), (3, .int v3)] rfl ?_
          exact t_X7_ofHorses_43 X hr hlocks (b_X7_ofHorses_4 n) (o_X7_ofHorses_4 n) ih v1 v3 0 v2 S _ ho he
        · rw [if_neg h5] at he
          have ho := ho.2 h5
          refine j_iconst (v := 1) X dX7_ofHorses_38 (by decide) ?_
          refine j_goto X 43 dX7_ofHorses_39 (by decide) ?_
          refine j_lv [0, 1, 3] [(0, .ref (ad 5)), (1, .int v1), (3, .int v3)] rfl ?_
          exact t_X7_ofHorses_43 X hr hlocks (b_X7_ofHorses_4 n) (o_X7_ofHorses_4 n) ih v1 v3 1 v2 S _ ho he
      · rw [if_pos h3] at he
        have ho := ho.1 h3
        refine j_aload_n X 0 dX7_ofHorses_20 rfl ?_
        refine j_iload_n X 3 dX7_ofHorses_21 rfl ?_
        refine j_iconst (v := 5) X dX7_ofHorses_22 (by decide) ?_
        have h6 := ho.1
        have ho := ho.2
        refine j_callVi (rest := [.int v2]) X (c_X7_ofHorse (cx_inj X) v3 5 S h6) cw_X7_85 kc25.1 (cl_25 kc25) rfl ⟨rfl, rfl, Nat.le_of_ble_eq_true rfl, Nat.le_of_ble_eq_true rfl⟩ rfl rfl (Nat.le_of_ble_eq_true rfl) ⟨Nat.le_of_ble_eq_true rfl, Nat.le_of_ble_eq_true rfl⟩ dX7_ofHorses_23 ?_
        refine j_goto X 43 dX7_ofHorses_26 (by decide) ?_
        refine j_lv [0, 1, 3] [(0, .ref (ad 5)), (1, .int v1), (3, .int v3)] rfl ?_
        exact t_X7_ofHorses_43 X hr hlocks (b_X7_ofHorses_4 n) (o_X7_ofHorses_4 n) ih v1 v3 (b_X7_ofHorse_0 v3 5 S) v2 S _ ho he
def b_X7_ofHorses_0 (x1 : Int32) (S : Sx) : Int32 := b_X7_ofHorses_4 100 x1 0 0 S
def o_X7_ofHorses_0 (x1 : Int32) (S : Sx) : Prop := o_X7_ofHorses_4 100 x1 0 0 S
set_option maxRecDepth 20000 in
theorem t_X7_ofHorses_0 (X : Cx p m c cX7_ofHorses 4 s args RX7 D q ad) (hr : meth.sig.returnType = some .int) (hlocks : meth.locks = false) (x1 : Int32) (S : Sx) (rv : Int32) (ho : o_X7_ofHorses_0 x1 S) (he : b_X7_ofHorses_0 x1 S = rv) : Jg p l e rm_X7_ofHorses s m args below meth c 0 0 (MQ below (Qi D q ad d rv S s.heap.size) args s 0 0 (AU ad s.heap.size)) D q ad d 4 0 [(0, .ref (ad 5)), (1, .int x1)] [] S := by
  unfold b_X7_ofHorses_0 at he
  unfold o_X7_ofHorses_0 at ho
  refine j_iconst (v := 0) X dX7_ofHorses_0 (by decide) ?_
  refine j_istore_n X [(2, .int 0), (0, .ref (ad 5)), (1, .int x1)] dX7_ofHorses_1 (by decide) rfl ?_
  refine j_iconst (v := 0) X dX7_ofHorses_2 (by decide) ?_
  refine j_istore_n X [(3, .int 0), (2, .int 0), (0, .ref (ad 5)), (1, .int x1)] dX7_ofHorses_3 (by decide) rfl ?_
  refine j_lv [2, 3, 1, 0] [(0, .ref (ad 5)), (1, .int x1), (2, .int 0), (3, .int 0)] rfl ?_
  exact t_X7_ofHorses_4 X hr hlocks 100 x1 0 0 S _ ho he
theorem c_X7_ofHorses {l : Launch} {D : va_G} {q : Nat → ClassId} {ad : Nat → Nat} {d : UInt64} (hI : inj4 ad) (x1 : Int32) (S : Sx) (ho : o_X7_ofHorses_0 x1 S) : CI l yX7_ofHorses cX7_ofHorses 4 .int rm_X7_ofHorses D q ad d [.ref (ad 5), .int x1] S (b_X7_ofHorses_0 x1 S) S := ci_of hI (by decide +kernel) (Nat.le_of_ble_eq_true rfl) rfl (fun p e s m args below meth c X hr hlocks => t_X7_ofHorses_0 X hr hlocks x1 S _ ho rfl)
end
/-! RX7.account -/
abbrev rm_X7_account : Room := { frames := 2, cells := 0, slots := 0, locals := 45 }
section
variable {p : Program} {l : Launch} {e : Env} {s : State} {m : MethodId} {args : Array Value} {below : List Frame} {meth : Method} {c : Code} {D : va_G} {q : Nat → ClassId} {ad : Nat → Nat} {d : UInt64}
def b_X7_account_16 (v1 : Int32) (w0 : Int32) (S : Sx) : Int32 × Sx := if ((b_X7_fails_0 w0 S).1) = 0 then if v1 = 0 then (((b_X7_fails_0 w0 S).2) 6 ((0 : Int32).toNatClampNeg), (b_X7_fails_0 w0 S).2) else (if v1 = 1 then (((b_X7_fails_0 w0 S).2) 6 ((1 : Int32).toNatClampNeg), (b_X7_fails_0 w0 S).2) else (if v1 = 2 then (((b_X7_fails_0 w0 S).2) 6 ((50 : Int32).toNatClampNeg), (b_X7_fails_0 w0 S).2) else (if v1 = 3 then (b_X7_sumOfPitches_0 3 ((b_X7_fails_0 w0 S).2), (b_X7_fails_0 w0 S).2) else (if v1 = 4 then (((b_X7_fails_0 w0 S).2) 6 ((71 : Int32).toNatClampNeg), (b_X7_fails_0 w0 S).2) else (if v1 = 5 then (b_X7_ofHorses_0 1 ((b_X7_fails_0 w0 S).2), (b_X7_fails_0 w0 S).2) else (if v1 = 6 then (b_X7_booted_0 ((b_X7_fails_0 w0 S).2), (b_X7_fails_0 w0 S).2) else (if v1 = 7 then (((b_X7_fails_0 w0 S).2) 6 ((102 : Int32).toNatClampNeg), (b_X7_fails_0 w0 S).2) else (if v1 = 8 then (((b_X7_fails_0 w0 S).2) 6 ((106 : Int32).toNatClampNeg), (b_X7_fails_0 w0 S).2) else (if v1 = 9 then (b_X7_sumOfInnings_0 6 ((b_X7_fails_0 w0 S).2), (b_X7_fails_0 w0 S).2) else (if v1 = 10 then (b_X7_sumOfInnings_0 3 ((b_X7_fails_0 w0 S).2), (b_X7_fails_0 w0 S).2) else (if v1 = 11 then (b_X7_sumOfInnings_0 4 ((b_X7_fails_0 w0 S).2), (b_X7_fails_0 w0 S).2) else (if v1 = 12 then (b_X7_sumOfInnings_0 5 ((b_X7_fails_0 w0 S).2), (b_X7_fails_0 w0 S).2) else (if v1 = 13 then (b_X7_ofHorses_0 0 ((b_X7_fails_0 w0 S).2), (b_X7_fails_0 w0 S).2) else (if v1 = 14 then (b_X7_sumOfPitches_0 0 ((b_X7_fails_0 w0 S).2), (b_X7_fails_0 w0 S).2) else (if v1 = 15 then (((b_X7_fails_0 w0 S).2) 5 13, (b_X7_fails_0 w0 S).2) else (((b_X7_fails_0 w0 S).2) 5 6, (b_X7_fails_0 w0 S).2)))))))))))))))) else (0, (b_X7_fails_0 w0 S).2)
def o_X7_account_16 (v1 : Int32) (w0 : Int32) (S : Sx) : Prop := o_X7_fails_0 w0 S ∧ ((((b_X7_fails_0 w0 S).1) = 0 → ((v1 = 0 → True) ∧ (¬ v1 = 0 → ((v1 = 1 → True) ∧ (¬ v1 = 1 → ((v1 = 2 → True) ∧ (¬ v1 = 2 → ((v1 = 3 → (o_X7_sumOfPitches_0 3 ((b_X7_fails_0 w0 S).2) ∧ True)) ∧ (¬ v1 = 3 → ((v1 = 4 → True) ∧ (¬ v1 = 4 → ((v1 = 5 → (o_X7_ofHorses_0 1 ((b_X7_fails_0 w0 S).2) ∧ True)) ∧ (¬ v1 = 5 → ((v1 = 6 → (o_X7_booted_0 ((b_X7_fails_0 w0 S).2) ∧ True)) ∧ (¬ v1 = 6 → ((v1 = 7 → True) ∧ (¬ v1 = 7 → ((v1 = 8 → True) ∧ (¬ v1 = 8 → ((v1 = 9 → (o_X7_sumOfInnings_0 6 ((b_X7_fails_0 w0 S).2) ∧ True)) ∧ (¬ v1 = 9 → ((v1 = 10 → (o_X7_sumOfInnings_0 3 ((b_X7_fails_0 w0 S).2) ∧ True)) ∧ (¬ v1 = 10 → ((v1 = 11 → (o_X7_sumOfInnings_0 4 ((b_X7_fails_0 w0 S).2) ∧ True)) ∧ (¬ v1 = 11 → ((v1 = 12 → (o_X7_sumOfInnings_0 5 ((b_X7_fails_0 w0 S).2) ∧ True)) ∧ (¬ v1 = 12 → ((v1 = 13 → (o_X7_ofHorses_0 0 ((b_X7_fails_0 w0 S).2) ∧ True)) ∧ (¬ v1 = 13 → ((v1 = 14 → (o_X7_sumOfPitches_0 0 ((b_X7_fails_0 w0 S).2) ∧ True)) ∧ (¬ v1 = 14 → ((v1 = 15 → True) ∧ (¬ v1 = 15 → True))))))))))))))))))))))))))))))))) ∧ (¬ ((b_X7_fails_0 w0 S).1) = 0 → True))
set_option maxRecDepth 20000 in
theorem t_X7_account_16 (X : Cx p m c cX7_account 2 s args RX7 D q ad) (hr : meth.sig.returnType = some .int) (hlocks : meth.locks = false) (v1 : Int32) (w0 : Int32) (S : Sx) (rv : Int32) (S' : Sx) (ho : o_X7_account_16 v1 w0 S) (he : b_X7_account_16 v1 w0 S = (rv, S')) : Jg p l e rm_X7_account s m args below meth c 0 0 (MQ below (Qi D q ad d rv S' s.heap.size) args s 0 0 (AU ad s.heap.size)) D q ad d 2 16 [(0, .ref (ad 5)), (1, .int v1)] [.int w0, .ref (ad 5)] S := by
  unfold b_X7_account_16 at he
  unfold o_X7_account_16 at ho
  have h2 := ho.1
  have ho := ho.2
  refine j_callVi (rest := []) X (c_X7_fails (cx_inj X) w0 S h2) cw_X7_70 kc25.1 (cl_25 kc25) rfl ⟨rfl, rfl, Nat.le_of_ble_eq_true rfl, Nat.le_of_ble_eq_true rfl⟩ rfl rfl (Nat.le_of_ble_eq_true rfl) ⟨Nat.le_of_ble_eq_true rfl, Nat.le_of_ble_eq_true rfl⟩ dX7_account_16 ?_
  refine j_if_eq X 24 dX7_account_19 (by decide) (fun h3 => ?_) (fun h3 => ?_)
  · rw [if_pos h3] at he
    have ho := ho.1 h3
    refine j_iload_n X 1 dX7_account_24 rfl ?_
    by_cases h13 : v1 = 0
    · rw [if_pos h13] at he
      have ho := ho.1 h13
      refine j_tableIn X 0 79 104 dX7_account_25 (by rw [h13]; rfl) (by decide) (by decide) rfl (by decide) ?_
      refine j_aload_n X 0 dX7_account_104 rfl ?_
      refine gf_25_0 X m_fl_X7_7 kc25 dX7_account_105 ?_
      refine j_iconst (v := 0) X dX7_account_108 (by decide) ?_
      refine j_iald X kc26.1 (cl_26 kc26) (by unfold vp_in; decide) dX7_account_109 ?_
      exact j_iret X hr hlocks dX7_account_110 (congrArg Prod.fst he) (congrArg Prod.snd he)
    rw [if_neg h13] at he
    have ho := ho.2 h13
    by_cases h14 : v1 = 1
    · rw [if_pos h14] at he
      have ho := ho.1 h14
      refine j_tableIn X 1 86 111 dX7_account_25 (by rw [h14]; rfl) (by decide) (by decide) rfl (by decide) ?_
      refine j_aload_n X 0 dX7_account_111 rfl ?_
      refine gf_25_0 X m_fl_X7_7 kc25 dX7_account_112 ?_
      refine j_iconst (v := 1) X dX7_account_115 (by decide) ?_
      refine j_iald X kc26.1 (cl_26 kc26) (by unfold vp_in; decide) dX7_account_116 ?_
      exact j_iret X hr hlocks dX7_account_117 (congrArg Prod.fst he) (congrArg Prod.snd he)
    rw [if_neg h14] at he
    have ho := ho.2 h14
    by_cases h15 : v1 = 2
    · rw [if_pos h15] at he
      have ho := ho.1 h15
      refine j_tableIn X 2 93 118 dX7_account_25 (by rw [h15]; rfl) (by decide) (by decide) rfl (by decide) ?_
      refine j_aload_n X 0 dX7_account_118 rfl ?_
      refine gf_25_0 X m_fl_X7_7 kc25 dX7_account_119 ?_
      refine j_bipush (v := 50) X dX7_account_122 (by decide) ?_
      refine j_iald X kc26.1 (cl_26 kc26) (by unfold vp_in; decide) dX7_account_124 ?_
      exact j_iret X hr hlocks dX7_account_125 (congrArg Prod.fst he) (congrArg Prod.snd he)
    rw [if_neg h15] at he
    have ho := ho.2 h15
    by_cases h16 : v1 = 3
    · rw [if_pos h16] at he
      have ho := ho.1 h16
      refine j_tableIn X 3 101 126 dX7_account_25 (by rw [h16]; rfl) (by decide) (by decide) rfl (by decide) ?_
      refine j_aload_n X 0 dX7_account_126 rfl ?_
      refine j_iconst (v := 3) X dX7_account_127 (by decide) ?_
      have h4 := ho.1
      have ho := ho.2
      refine j_callVi (rest := []) X (c_X7_sumOfPitches (cx_inj X) 3 ((b_X7_fails_0 w0 S).2) h4) cw_X7_211 kc25.1 (cl_25 kc25) rfl ⟨rfl, rfl, Nat.le_of_ble_eq_true rfl, Nat.le_of_ble_eq_true rfl⟩ rfl rfl (Nat.le_of_ble_eq_true rfl) ⟨Nat.le_of_ble_eq_true rfl, Nat.le_of_ble_eq_true rfl⟩ dX7_account_128 ?_
      exact j_iret X hr hlocks dX7_account_131 (congrArg Prod.fst he) (congrArg Prod.snd he)
    rw [if_neg h16] at he
    have ho := ho.2 h16
    by_cases h17 : v1 = 4
    · rw [if_pos h17] at he
      have ho := ho.1 h17
      refine j_tableIn X 4 107 132 dX7_account_25 (by rw [h17]; rfl) (by decide) (by decide) rfl (by decide) ?_
      refine j_aload_n X 0 dX7_account_132 rfl ?_
      refine gf_25_0 X m_fl_X7_7 kc25 dX7_account_133 ?_
      refine j_bipush (v := 71) X dX7_account_136 (by decide) ?_
      refine j_iald X kc26.1 (cl_26 kc26) (by unfold vp_in; decide) dX7_account_138 ?_
      exact j_iret X hr hlocks dX7_account_139 (congrArg Prod.fst he) (congrArg Prod.snd he)
    rw [if_neg h17] at he
    have ho := ho.2 h17
    by_cases h18 : v1 = 5
    · rw [if_pos h18] at he
      have ho := ho.1 h18
      refine j_tableIn X 5 115 140 dX7_account_25 (by rw [h18]; rfl) (by decide) (by decide) rfl (by decide) ?_
      refine j_aload_n X 0 dX7_account_140 rfl ?_
      refine j_iconst (v := 1) X dX7_account_141 (by decide) ?_
      have h5 := ho.1
      have ho := ho.2
      refine j_callVi (rest := []) X (c_X7_ofHorses (cx_inj X) 1 ((b_X7_fails_0 w0 S).2) h5) cw_X7_214 kc25.1 (cl_25 kc25) rfl ⟨rfl, rfl, Nat.le_of_ble_eq_true rfl, Nat.le_of_ble_eq_true rfl⟩ rfl rfl (Nat.le_of_ble_eq_true rfl) ⟨Nat.le_of_ble_eq_true rfl, Nat.le_of_ble_eq_true rfl⟩ dX7_account_142 ?_
      exact j_iret X hr hlocks dX7_account_145 (congrArg Prod.fst he) (congrArg Prod.snd he)
    rw [if_neg h18] at he
    have ho := ho.2 h18
    by_cases h19 : v1 = 6
    · rw [if_pos h19] at he
      have ho := ho.1 h19
      refine j_tableIn X 6 121 146 dX7_account_25 (by rw [h19]; rfl) (by decide) (by decide) rfl (by decide) ?_
      refine j_aload_n X 0 dX7_account_146 rfl ?_
      have h6 := ho.1
      have ho := ho.2
      refine j_callVi (rest := []) X (c_X7_booted (cx_inj X) ((b_X7_fails_0 w0 S).2) h6) cw_X7_110 kc25.1 (cl_25 kc25) rfl ⟨rfl, rfl, Nat.le_of_ble_eq_true rfl, Nat.le_of_ble_eq_true rfl⟩ rfl rfl (Nat.le_of_ble_eq_true rfl) ⟨Nat.le_of_ble_eq_true rfl, Nat.le_of_ble_eq_true rfl⟩ dX7_account_147 ?_
      exact j_iret X hr hlocks dX7_account_150 (congrArg Prod.fst he) (congrArg Prod.snd he)
    rw [if_neg h19] at he
    have ho := ho.2 h19
    by_cases h20 : v1 = 7
    · rw [if_pos h20] at he
      have ho := ho.1 h20
      refine j_tableIn X 7 126 151 dX7_account_25 (by rw [h20]; rfl) (by decide) (by decide) rfl (by decide) ?_
      refine j_aload_n X 0 dX7_account_151 rfl ?_
      refine gf_25_0 X m_fl_X7_7 kc25 dX7_account_152 ?_
      refine j_bipush (v := 102) X dX7_account_155 (by decide) ?_
      refine j_iald X kc26.1 (cl_26 kc26) (by unfold vp_in; decide) dX7_account_157 ?_
      exact j_iret X hr hlocks dX7_account_158 (congrArg Prod.fst he) (congrArg Prod.snd he)
    rw [if_neg h20] at he
    have ho := ho.2 h20
    by_cases h21 : v1 = 8
    · rw [if_pos h21] at he
      have ho := ho.1 h21
      refine j_tableIn X 8 134 159 dX7_account_25 (by rw [h21]; rfl) (by decide) (by decide) rfl (by decide) ?_
      refine j_aload_n X 0 dX7_account_159 rfl ?_
      refine gf_25_0 X m_fl_X7_7 kc25 dX7_account_160 ?_
      refine j_bipush (v := 106) X dX7_account_163 (by decide) ?_
      refine j_iald X kc26.1 (cl_26 kc26) (by unfold vp_in; decide) dX7_account_165 ?_
      exact j_iret X hr hlocks dX7_account_166 (congrArg Prod.fst he) (congrArg Prod.snd he)
    rw [if_neg h21] at he
    have ho := ho.2 h21
    by_cases h22 : v1 = 9
    · rw [if_pos h22] at he
      have ho := ho.1 h22
      refine j_tableIn X 9 142 167 dX7_account_25 (by rw [h22]; rfl) (by decide) (by decide) rfl (by decide) ?_
      refine j_aload_n X 0 dX7_account_167 rfl ?_
      refine j_bipush (v := 6) X dX7_account_168 (by decide) ?_
      have h7 := ho.1
      have ho := ho.2
      refine j_callVi (rest := []) X (c_X7_sumOfInnings (cx_inj X) 6 ((b_X7_fails_0 w0 S).2) h7) cw_X7_218 kc25.1 (cl_25 kc25) rfl ⟨rfl, rfl, Nat.le_of_ble_eq_true rfl, Nat.le_of_ble_eq_true rfl⟩ rfl rfl (Nat.le_of_ble_eq_true rfl) ⟨Nat.le_of_ble_eq_true rfl, Nat.le_of_ble_eq_true rfl⟩ dX7_account_170 ?_
      exact j_iret X hr hlocks dX7_account_173 (congrArg Prod.fst he) (congrArg Prod.snd he)
    rw [if_neg h22] at he
    have ho := ho.2 h22
    by_cases h23 : v1 = 10
    · rw [if_pos h23] at he
      have ho := ho.1 h23
      refine j_tableIn X 10 149 174 dX7_account_25 (by rw [h23]; rfl) (by decide) (by decide) rfl (by decide) ?_
      refine j_aload_n X 0 dX7_account_174 rfl ?_
      refine j_iconst (v := 3) X dX7_account_175 (by decide) ?_
      have h8 := ho.1
      have ho := ho.2
      refine j_callVi (rest := []) X (c_X7_sumOfInnings (cx_inj X) 3 ((b_X7_fails_0 w0 S).2) h8) cw_X7_218 kc25.1 (cl_25 kc25) rfl ⟨rfl, rfl, Nat.le_of_ble_eq_true rfl, Nat.le_of_ble_eq_true rfl⟩ rfl rfl (Nat.le_of_ble_eq_true rfl) ⟨Nat.le_of_ble_eq_true rfl, Nat.le_of_ble_eq_true rfl⟩ dX7_account_176 ?_
      exact j_iret X hr hlocks dX7_account_179 (congrArg Prod.fst he) (congrArg Prod.snd he)
    rw [if_neg h23] at he
    have ho := ho.2 h23
    by_cases h24 : v1 = 11
    · rw [if_pos h24] at he
      have ho := ho.1 h24
      refine j_tableIn X 11 155 180 dX7_account_25 (by rw [h24]; rfl) (by decide) (by decide) rfl (by decide) ?_
      refine j_aload_n X 0 dX7_account_180 rfl ?_
      refine j_iconst (v := 4) X dX7_account_181 (by decide) ?_
      have h9 := ho.1
      have ho := ho.2
      refine j_callVi (rest := []) X (c_X7_sumOfInnings (cx_inj X) 4 ((b_X7_fails_0 w0 S).2) h9) cw_X7_218 kc25.1 (cl_25 kc25) rfl ⟨rfl, rfl, Nat.le_of_ble_eq_true rfl, Nat.le_of_ble_eq_true rfl⟩ rfl rfl (Nat.le_of_ble_eq_true rfl) ⟨Nat.le_of_ble_eq_true rfl, Nat.le_of_ble_eq_true rfl⟩ dX7_account_182 ?_
      exact j_iret X hr hlocks dX7_account_185 (congrArg Prod.fst he) (congrArg Prod.snd he)
    rw [if_neg h24] at he
    have ho := ho.2 h24
    by_cases h25 : v1 = 12
    · rw [if_pos h25] at he
      have ho := ho.1 h25
      refine j_tableIn X 12 161 186 dX7_account_25 (by rw [h25]; rfl) (by decide) (by decide) rfl (by decide) ?_
      refine j_aload_n X 0 dX7_account_186 rfl ?_
      refine j_iconst (v := 5) X dX7_account_187 (by decide) ?_
      have h10 := ho.1
      have ho := ho.2
      refine j_callVi (rest := []) X (c_X7_sumOfInnings (cx_inj X) 5 ((b_X7_fails_0 w0 S).2) h10) cw_X7_218 kc25.1 (cl_25 kc25) rfl ⟨rfl, rfl, Nat.le_of_ble_eq_true rfl, Nat.le_of_ble_eq_true rfl⟩ rfl rfl (Nat.le_of_ble_eq_true rfl) ⟨Nat.le_of_ble_eq_true rfl, Nat.le_of_ble_eq_true rfl⟩ dX7_account_188 ?_
      exact j_iret X hr hlocks dX7_account_191 (congrArg Prod.fst he) (congrArg Prod.snd he)
    rw [if_neg h25] at he
    have ho := ho.2 h25
    by_cases h26 : v1 = 13
    · rw [if_pos h26] at he
      have ho := ho.1 h26
      refine j_tableIn X 13 167 192 dX7_account_25 (by rw [h26]; rfl) (by decide) (by decide) rfl (by decide) ?_
      refine j_aload_n X 0 dX7_account_192 rfl ?_
      refine j_iconst (v := 0) X dX7_account_193 (by decide) ?_
      have h11 := ho.1
      have ho := ho.2
      refine j_callVi (rest := []) X (c_X7_ofHorses (cx_inj X) 0 ((b_X7_fails_0 w0 S).2) h11) cw_X7_214 kc25.1 (cl_25 kc25) rfl ⟨rfl, rfl, Nat.le_of_ble_eq_true rfl, Nat.le_of_ble_eq_true rfl⟩ rfl rfl (Nat.le_of_ble_eq_true rfl) ⟨Nat.le_of_ble_eq_true rfl, Nat.le_of_ble_eq_true rfl⟩ dX7_account_194 ?_
      exact j_iret X hr hlocks dX7_account_197 (congrArg Prod.fst he) (congrArg Prod.snd he)
    rw [if_neg h26] at he
    have ho := ho.2 h26
    by_cases h27 : v1 = 14
    · rw [if_pos h27] at he
      have ho := ho.1 h27
      refine j_tableIn X 14 173 198 dX7_account_25 (by rw [h27]; rfl) (by decide) (by decide) rfl (by decide) ?_
      refine j_aload_n X 0 dX7_account_198 rfl ?_
      refine j_iconst (v := 0) X dX7_account_199 (by decide) ?_
      have h12 := ho.1
      have ho := ho.2
      refine j_callVi (rest := []) X (c_X7_sumOfPitches (cx_inj X) 0 ((b_X7_fails_0 w0 S).2) h12) cw_X7_211 kc25.1 (cl_25 kc25) rfl ⟨rfl, rfl, Nat.le_of_ble_eq_true rfl, Nat.le_of_ble_eq_true rfl⟩ rfl rfl (Nat.le_of_ble_eq_true rfl) ⟨Nat.le_of_ble_eq_true rfl, Nat.le_of_ble_eq_true rfl⟩ dX7_account_200 ?_
      exact j_iret X hr hlocks dX7_account_203 (congrArg Prod.fst he) (congrArg Prod.snd he)
    rw [if_neg h27] at he
    have ho := ho.2 h27
    by_cases h28 : v1 = 15
    · rw [if_pos h28] at he
      have ho := ho.1 h28
      refine j_tableIn X 15 179 204 dX7_account_25 (by rw [h28]; rfl) (by decide) (by decide) rfl (by decide) ?_
      refine j_aload_n X 0 dX7_account_204 rfl ?_
      refine gf_25_13 X m_fl_X7_167 kc25 dX7_account_205 ?_
      exact j_iret X hr hlocks dX7_account_208 (congrArg Prod.fst he) (congrArg Prod.snd he)
    rw [if_neg h28] at he
    have ho := ho.2 h28
    have e29 := lv_neT (a := 0) h13 rfl
    have e30 := lv_neT (a := 1) h14 rfl
    have e31 := lv_neT (a := 2) h15 rfl
    have e32 := lv_neT (a := 3) h16 rfl
    have e33 := lv_neT (a := 4) h17 rfl
    have e34 := lv_neT (a := 5) h18 rfl
    have e35 := lv_neT (a := 6) h19 rfl
    have e36 := lv_neT (a := 7) h20 rfl
    have e37 := lv_neT (a := 8) h21 rfl
    have e38 := lv_neT (a := 9) h22 rfl
    have e39 := lv_neT (a := 10) h23 rfl
    have e40 := lv_neT (a := 11) h24 rfl
    have e41 := lv_neT (a := 12) h25 rfl
    have e42 := lv_neT (a := 13) h26 rfl
    have e43 := lv_neT (a := 14) h27 rfl
    have e44 := lv_neT (a := 15) h28 rfl
    refine j_tableOut X 209 dX7_account_25 (by omega) (by decide) ?_
    refine j_aload_n X 0 dX7_account_209 rfl ?_
    refine gf_25_6 X m_fl_X7_51 kc25 dX7_account_210 ?_
    exact j_iret X hr hlocks dX7_account_213 (congrArg Prod.fst he) (congrArg Prod.snd he)
  · rw [if_neg h3] at he
    have ho := ho.2 h3
    refine j_iconst (v := 0) X dX7_account_22 (by decide) ?_
    exact j_iret X hr hlocks dX7_account_23 (congrArg Prod.fst he) (congrArg Prod.snd he)
def b_X7_account_0 (x1 : Int32) (S : Sx) : Int32 × Sx := if (b_X7_in_0 x1 0 16 S) = 0 then b_X7_account_16 x1 1 S else b_X7_account_16 x1 0 S
def o_X7_account_0 (x1 : Int32) (S : Sx) : Prop := o_X7_in_0 x1 0 16 S ∧ (((b_X7_in_0 x1 0 16 S) = 0 → (o_X7_account_16 x1 1 S)) ∧ (¬ (b_X7_in_0 x1 0 16 S) = 0 → (o_X7_account_16 x1 0 S)))
set_option maxRecDepth 20000 in
theorem t_X7_account_0 (X : Cx p m c cX7_account 2 s args RX7 D q ad) (hr : meth.sig.returnType = some .int) (hlocks : meth.locks = false) (x1 : Int32) (S : Sx) (rv : Int32) (S' : Sx) (ho : o_X7_account_0 x1 S) (he : b_X7_account_0 x1 S = (rv, S')) : Jg p l e rm_X7_account s m args below meth c 0 0 (MQ below (Qi D q ad d rv S' s.heap.size) args s 0 0 (AU ad s.heap.size)) D q ad d 2 0 [(0, .ref (ad 5)), (1, .int x1)] [] S := by
  unfold b_X7_account_0 at he
  unfold o_X7_account_0 at ho
  refine j_aload_n X 0 dX7_account_0 rfl ?_
  refine j_iload_n X 1 dX7_account_1 rfl ?_
  refine j_iconst (v := 0) X dX7_account_2 (by decide) ?_
  refine j_bipush (v := 16) X dX7_account_3 (by decide) ?_
  have h2 := ho.1
  have ho := ho.2
  refine j_callSi (rest := [.ref (ad 5)]) X (c_X7_in (cx_inj X) x1 0 16 S h2) cw_X7_58 ⟨rfl, rfl, Nat.le_of_ble_eq_true rfl, Nat.le_of_ble_eq_true rfl⟩ rfl rfl (Nat.le_of_ble_eq_true rfl) ⟨Nat.le_of_ble_eq_true rfl, Nat.le_of_ble_eq_true rfl⟩ dX7_account_5 ?_
  refine j_if_eq X 15 dX7_account_8 (by decide) (fun h3 => ?_) (fun h3 => ?_)
  · rw [if_pos h3] at he
    have ho := ho.1 h3
    refine j_iconst (v := 1) X dX7_account_15 (by decide) ?_
    exact t_X7_account_16 X hr hlocks x1 1 S _ _ ho he
  · rw [if_neg h3] at he
    have ho := ho.2 h3
    refine j_iconst (v := 0) X dX7_account_11 (by decide) ?_
    refine j_goto X 16 dX7_account_12 (by decide) ?_
    exact t_X7_account_16 X hr hlocks x1 0 S _ _ ho he
theorem c_X7_account {l : Launch} {D : va_G} {q : Nat → ClassId} {ad : Nat → Nat} {d : UInt64} (hI : inj4 ad) (x1 : Int32) (S : Sx) (ho : o_X7_account_0 x1 S) : CI l yX7_account cX7_account 2 .int rm_X7_account D q ad d [.ref (ad 5), .int x1] S (b_X7_account_0 x1 S).1 (b_X7_account_0 x1 S).2 := ci_of hI (by decide +kernel) (Nat.le_of_ble_eq_true rfl) rfl (fun p e s m args below meth c X hr hlocks => t_X7_account_0 X hr hlocks x1 S _ _ ho (pe _))
end
/-! RX7.isWell -/
abbrev rm_X7_isWell : Room := { frames := 2, cells := 0, slots := 0, locals := 45 }
section
variable {p : Program} {l : Launch} {e : Env} {s : State} {m : MethodId} {args : Array Value} {below : List Frame} {meth : Method} {c : Code} {D : va_G} {q : Nat → ClassId} {ad : Nat → Nat} {d : UInt64}
def b_X7_isWell_116 (kk : Int32 → Int32 → Sx → Int32 × Sx) (v2 : Int32) (w0 : Int32) (w1 : Int32) (S : Sx) : Int32 × Sx := kk (w1 &&& w0) (v2 + 1) S
def o_X7_isWell_116 (ok : Int32 → Int32 → Sx → Prop) (v2 : Int32) (w0 : Int32) (w1 : Int32) (S : Sx) : Prop := ok (w1 &&& w0) (v2 + 1) S
set_option maxRecDepth 20000 in
theorem t_X7_isWell_116 (X : Cx p m c cX7_isWell 3 s args RX7 D q ad) (hr : meth.sig.returnType = some .boolean) (hlocks : meth.locks = false) (kk : Int32 → Int32 → Sx → Int32 × Sx) (ok : Int32 → Int32 → Sx → Prop) (hkk : ∀ (v1 : Int32) (v2 : Int32) (S : Sx) (rv : Int32) (S' : Sx) (ho : ok v1 v2 S) (he : kk v1 v2 S = (rv, S')), Jg p l e rm_X7_isWell s m args below meth c 0 0 (MQ below (Qi D q ad d rv S' s.heap.size) args s 0 0 (AU ad s.heap.size)) D q ad d 3 83 [(0, .ref (ad 5)), (1, .int v1), (2, .int v2)] [] S) (v2 : Int32) (w0 : Int32) (w1 : Int32) (S : Sx) (rv : Int32) (S' : Sx) (ho : o_X7_isWell_116 ok v2 w0 w1 S) (he : b_X7_isWell_116 kk v2 w0 w1 S = (rv, S')) : Jg p l e rm_X7_isWell s m args below meth c 0 0 (MQ below (Qi D q ad d rv S' s.heap.size) args s 0 0 (AU ad s.heap.size)) D q ad d 3 116 [(0, .ref (ad 5)), (2, .int v2)] [.int w0, .int w1] S := by
  unfold b_X7_isWell_116 at he
  unfold o_X7_isWell_116 at ho
  refine j_iand X dX7_isWell_116 ?_
  refine j_istore_n X [(1, .int (w1 &&& w0)), (0, .ref (ad 5)), (2, .int v2)] dX7_isWell_117 (by decide) rfl ?_
  refine j_iinc X 2 (v2 + 1) [(2, .int (v2 + 1)), (1, .int (w1 &&& w0)), (0, .ref (ad 5))] dX7_isWell_118 rfl rfl (by decide) rfl ?_
  refine j_goto X 83 dX7_isWell_121 (by decide) ?_
  refine j_lv [2, 1, 0] [(0, .ref (ad 5)), (1, .int (w1 &&& w0)), (2, .int (v2 + 1))] rfl ?_
  exact hkk (w1 &&& w0) (v2 + 1) S _ _ ho he
def b_X7_isWell_111 (kk : Int32 → Int32 → Sx → Int32 × Sx) (v2 : Int32) (w0 : Int32) (S : Sx) : Int32 × Sx := b_X7_isWell_116 kk v2 1 w0 S
def o_X7_isWell_111 (ok : Int32 → Int32 → Sx → Prop) (v2 : Int32) (w0 : Int32) (S : Sx) : Prop := o_X7_isWell_116 ok v2 1 w0 S
set_option maxRecDepth 20000 in
theorem t_X7_isWell_111 (X : Cx p m c cX7_isWell 3 s args RX7 D q ad) (hr : meth.sig.returnType = some .boolean) (hlocks : meth.locks = false) (kk : Int32 → Int32 → Sx → Int32 × Sx) (ok : Int32 → Int32 → Sx → Prop) (hkk : ∀ (v1 : Int32) (v2 : Int32) (S : Sx) (rv : Int32) (S' : Sx) (ho : ok v1 v2 S) (he : kk v1 v2 S = (rv, S')), Jg p l e rm_X7_isWell s m args below meth c 0 0 (MQ below (Qi D q ad d rv S' s.heap.size) args s 0 0 (AU ad s.heap.size)) D q ad d 3 83 [(0, .ref (ad 5)), (1, .int v1), (2, .int v2)] [] S) (v2 : Int32) (w0 : Int32) (S : Sx) (rv : Int32) (S' : Sx) (ho : o_X7_isWell_111 ok v2 w0 S) (he : b_X7_isWell_111 kk v2 w0 S = (rv, S')) : Jg p l e rm_X7_isWell s m args below meth c 0 0 (MQ below (Qi D q ad d rv S' s.heap.size) args s 0 0 (AU ad s.heap.size)) D q ad d 3 111 [(0, .ref (ad 5)), (2, .int v2)] [.int w0] S := by
  unfold b_X7_isWell_111 at he
  unfold o_X7_isWell_111 at ho
  refine j_iconst (v := 1) X dX7_isWell_111 (by decide) ?_
  refine j_goto X 116 dX7_isWell_112 (by decide) ?_
  exact t_X7_isWell_116 X hr hlocks kk ok hkk v2 1 w0 S _ _ ho he
def b_X7_isWell_83 : Nat → Int32 → Int32 → Sx → Int32 × Sx
  | 0, _, _, S => (0, S)
  | n + 1, v1, v2, S => if (S 6 ((50 : Int32).toNatClampNeg)) ≤ v2 then (v1, S) else if (b_X7_rollerOf_0 v2 S) < 0 then b_X7_isWell_111 (b_X7_isWell_83 n) v2 v1 S else if 0 ≤ (b_X7_openOn_0 v2 S) then b_X7_isWell_116 (b_X7_isWell_83 n) v2 0 v1 S else b_X7_isWell_111 (b_X7_isWell_83 n) v2 v1 S
def o_X7_isWell_83 : Nat → Int32 → Int32 → Sx → Prop
  | 0, _, _, _ => False
  | n + 1, v1, v2, S => ((S 6 ((50 : Int32).toNatClampNeg)) ≤ v2 → (bz v1 ∧ True)) ∧ (¬ (S 6 ((50 : Int32).toNatClampNeg)) ≤ v2 → (o_X7_rollerOf_0 v2 S ∧ (((b_X7_rollerOf_0 v2 S) < 0 → (o_X7_isWell_111 (o_X7_isWell_83 n) v2 v1 S)) ∧ (¬ (b_X7_rollerOf_0 v2 S) < 0 → (o_X7_openOn_0 v2 S ∧ ((0 ≤ (b_X7_openOn_0 v2 S) → (o_X7_isWell_116 (o_X7_isWell_83 n) v2 0 v1 S)) ∧ (¬ 0 ≤ (b_X7_openOn_0 v2 S) → (o_X7_isWell_111 (o_X7_isWell_83 n) v2 v1 S))))))))
set_option maxRecDepth 20000 in
theorem t_X7_isWell_83 (X : Cx p m c cX7_isWell 3 s args RX7 D q ad) (hr : meth.sig.returnType = some .boolean) (hlocks : meth.locks = false) : ∀ (n : Nat) (v1 : Int32) (v2 : Int32) (S : Sx) (rv : Int32) (S' : Sx) (ho : o_X7_isWell_83 n v1 v2 S) (he : b_X7_isWell_83 n v1 v2 S = (rv, S')), Jg p l e rm_X7_isWell s m args below meth c 0 0 (MQ below (Qi D q ad d rv S' s.heap.size) args s 0 0 (AU ad s.heap.size)) D q ad d 3 83 [(0, .ref (ad 5)), (1, .int v1), (2, .int v2)] [] S := by
  intro n
  induction n with
  | zero =>
    intro v1 v2 S rv S' ho he
    unfold o_X7_isWell_83 at ho
    exact ho.elim
  | succ n ih =>
    intro v1 v2 S rv S' ho he
    unfold b_X7_isWell_83 at he
    unfold o_X7_isWell_83 at ho
    refine j_iload_n X 2 dX7_isWell_83 rfl ?_
    refine j_aload_n X 0 dX7_isWell_84 rfl ?_
    refine gf_25_0 X m_fl_X7_7 kc25 dX7_isWell_85 ?_
    refine j_bipush (v := 50) X dX7_isWell_88 (by decide) ?_
    refine j_iald X kc26.1 (cl_26 kc26) (by unfold vp_in; decide) dX7_isWell_90 ?_
    refine j_icmp_ge X 124 dX7_isWell_91 (by decide) (fun h2 => ?_) (fun h2 => ?_)
    · rw [if_pos h2] at he
      have ho := ho.1 h2
      refine j_iload_n X 1 dX7_isWell_124 rfl ?_
      have h3 := ho.1
      have ho := ho.2
      exact j_zret X hr hlocks (bz_narrow h3) dX7_isWell_125 (congrArg Prod.fst he) (congrArg Prod.snd he)
    · rw [if_neg h2] at he
      have ho := ho.2 h2
      refine j_iload_n X 1 dX7_isWell_94 rfl ?_
      refine j_aload_n X 0 dX7_isWell_95 rfl ?_
      refine j_iload_n X 2 dX7_isWell_96 rfl ?_
      have h4 := ho.1
      have ho := ho.2
      refine j_callVi (rest := [.int v1]) X (c_X7_rollerOf (cx_inj X) v2 S h4) cw_X7_94 kc25.1 (cl_25 kc25) rfl ⟨rfl, rfl, Nat.le_of_ble_eq_true rfl, Nat.le_of_ble_eq_true rfl⟩ rfl rfl (Nat.le_of_ble_eq_true rfl) ⟨Nat.le_of_ble_eq_true rfl, Nat.le_of_ble_eq_true rfl⟩ dX7_isWell_97 ?_
      refine j_if_lt X 111 dX7_isWell_100 (by decide) (fun h5 => ?_) (fun h5 => ?_)
      · rw [if_pos h5] at he
        have ho := ho.1 h5
        refine j_lv [0, 2] [(0, .ref (ad 5)), (2, .int v2)] rfl ?_
        exact t_X7_isWell_111 X hr hlocks (b_X7_isWell_83 n) (o_X7_isWell_83 n) ih v2 v1 S _ _ ho he
      · rw [if_neg h5] at he
        have ho := ho.2 h5
        refine j_aload_n X 0 dX7_isWell_103 rfl ?_
        refine j_iload_n X 2 dX7_isWell_104 rfl ?_
        have h6 := ho.1
        have ho := ho.2
        refine j_callVi (rest := [.int v1]) X (c_X7_openOn (cx_inj X) v2 S h6) cw_X7_101 kc25.1 (cl_25 kc25) rfl ⟨rfl, rfl, Nat.le_of_ble_eq_true rfl, Nat.le_of_ble_eq_true rfl⟩ rfl rfl (Nat.le_of_ble_eq_true rfl) ⟨Nat.le_of_ble_eq_true rfl, Nat.le_of_ble_eq_true rfl⟩ dX7_isWell_105 ?_
        refine j_if_ge X 115 dX7_isWell_108 (by decide) (fun h7 => ?_) (fun h7 => ?_)
        · rw [if_pos h7] at he
          have ho := ho.1 h7
          refine j_iconst (v := 0) X dX7_isWell_115 (by decide) ?_
          refine j_lv [0, 2] [(0, .ref (ad 5)), (2, .int v2)] rfl ?_
          exact t_X7_isWell_116 X hr hlocks (b_X7_isWell_83 n) (o_X7_isWell_83 n) ih v2 0 v1 S _ _ ho he
        · rw [if_neg h7] at he
          have ho := ho.2 h7
          refine j_lv [0, 2] [(0, .ref (ad 5)), (2, .int v2)] rfl ?_
          exact t_X7_isWell_111 X hr hlocks (b_X7_isWell_83 n) (o_X7_isWell_83 n) ih v2 v1 S _ _ ho he
def b_X7_isWell_73 (kk : Int32 → Int32 → Sx → Int32 × Sx) (v2 : Int32) (w0 : Int32) (w1 : Int32) (S : Sx) : Int32 × Sx := kk (w1 &&& w0) (v2 + 1) S
def o_X7_isWell_73 (ok : Int32 → Int32 → Sx → Prop) (v2 : Int32) (w0 : Int32) (w1 : Int32) (S : Sx) : Prop := ok (w1 &&& w0) (v2 + 1) S
set_option maxRecDepth 20000 in
theorem t_X7_isWell_73 (X : Cx p m c cX7_isWell 3 s args RX7 D q ad) (hr : meth.sig.returnType = some .boolean) (hlocks : meth.locks = false) (kk : Int32 → Int32 → Sx → Int32 × Sx) (ok : Int32 → Int32 → Sx → Prop) (hkk : ∀ (v1 : Int32) (v2 : Int32) (S : Sx) (rv : Int32) (S' : Sx) (ho : ok v1 v2 S) (he : kk v1 v2 S = (rv, S')), Jg p l e rm_X7_isWell s m args below meth c 0 0 (MQ below (Qi D q ad d rv S' s.heap.size) args s 0 0 (AU ad s.heap.size)) D q ad d 3 26 [(0, .ref (ad 5)), (1, .int v1), (2, .int v2)] [] S) (v2 : Int32) (w0 : Int32) (w1 : Int32) (S : Sx) (rv : Int32) (S' : Sx) (ho : o_X7_isWell_73 ok v2 w0 w1 S) (he : b_X7_isWell_73 kk v2 w0 w1 S = (rv, S')) : Jg p l e rm_X7_isWell s m args below meth c 0 0 (MQ below (Qi D q ad d rv S' s.heap.size) args s 0 0 (AU ad s.heap.size)) D q ad d 3 73 [(0, .ref (ad 5)), (2, .int v2)] [.int w0, .int w1] S := by
  unfold b_X7_isWell_73 at he
  unfold o_X7_isWell_73 at ho
  refine j_iand X dX7_isWell_73 ?_
  refine j_istore_n X [(1, .int (w1 &&& w0)), (0, .ref (ad 5)), (2, .int v2)] dX7_isWell_74 (by decide) rfl ?_
  refine j_iinc X 2 (v2 + 1) [(2, .int (v2 + 1)), (1, .int (w1 &&& w0)), (0, .ref (ad 5))] dX7_isWell_75 rfl rfl (by decide) rfl ?_
  refine j_goto X 26 dX7_isWell_78 (by decide) ?_
  refine j_lv [2, 1, 0] [(0, .ref (ad 5)), (1, .int (w1 &&& w0)), (2, .int (v2 + 1))] rfl ?_
  exact hkk (w1 &&& w0) (v2 + 1) S _ _ ho he
def b_X7_isWell_72 (kk : Int32 → Int32 → Sx → Int32 × Sx) (v2 : Int32) (w0 : Int32) (S : Sx) : Int32 × Sx := b_X7_isWell_73 kk v2 0 w0 S
def o_X7_isWell_72 (ok : Int32 → Int32 → Sx → Prop) (v2 : Int32) (w0 : Int32) (S : Sx) : Prop := o_X7_isWell_73 ok v2 0 w0 S
set_option maxRecDepth 20000 in
theorem t_X7_isWell_72 (X : Cx p m c cX7_isWell 3 s args RX7 D q ad) (hr : meth.sig.returnType = some .boolean) (hlocks : meth.locks = false) (kk : Int32 → Int32 → Sx → Int32 × Sx) (ok : Int32 → Int32 → Sx → Prop) (hkk : ∀ (v1 : Int32) (v2 : Int32) (S : Sx) (rv : Int32) (S' : Sx) (ho : ok v1 v2 S) (he : kk v1 v2 S = (rv, S')), Jg p l e rm_X7_isWell s m args below meth c 0 0 (MQ below (Qi D q ad d rv S' s.heap.size) args s 0 0 (AU ad s.heap.size)) D q ad d 3 26 [(0, .ref (ad 5)), (1, .int v1), (2, .int v2)] [] S) (v2 : Int32) (w0 : Int32) (S : Sx) (rv : Int32) (S' : Sx) (ho : o_X7_isWell_72 ok v2 w0 S) (he : b_X7_isWell_72 kk v2 w0 S = (rv, S')) : Jg p l e rm_X7_isWell s m args below meth c 0 0 (MQ below (Qi D q ad d rv S' s.heap.size) args s 0 0 (AU ad s.heap.size)) D q ad d 3 72 [(0, .ref (ad 5)), (2, .int v2)] [.int w0] S := by
  unfold b_X7_isWell_72 at he
  unfold o_X7_isWell_72 at ho
  refine j_iconst (v := 0) X dX7_isWell_72 (by decide) ?_
  exact t_X7_isWell_73 X hr hlocks kk ok hkk v2 0 w0 S _ _ ho he
def b_X7_isWell_26 : Nat → Int32 → Int32 → Sx → Int32 × Sx
  | 0, _, _, S => (0, S)
  | n + 1, v1, v2, S => if (S 6 ((106 : Int32).toNatClampNeg)) ≤ v2 then b_X7_isWell_83 100 v1 0 S else if (b_X7_ofInnings_0 v2 4 S) = (b_X7_runsBy_0 v2 S) then if (b_X7_ofInnings_0 v2 5 S) = (b_X7_ofInnings_0 v2 12 S) then b_X7_isWell_73 (b_X7_isWell_26 n) v2 1 v1 S else b_X7_isWell_72 (b_X7_isWell_26 n) v2 v1 S else b_X7_isWell_72 (b_X7_isWell_26 n) v2 v1 S
def o_X7_isWell_26 : Nat → Int32 → Int32 → Sx → Prop
  | 0, _, _, _ => False
  | n + 1, v1, v2, S => ((S 6 ((106 : Int32).toNatClampNeg)) ≤ v2 → (o_X7_isWell_83 100 v1 0 S)) ∧ (¬ (S 6 ((106 : Int32).toNatClampNeg)) ≤ v2 → (o_X7_ofInnings_0 v2 4 S ∧ (o_X7_runsBy_0 v2 S ∧ (((b_X7_ofInnings_0 v2 4 S) = (b_X7_runsBy_0 v2 S) → (o_X7_ofInnings_0 v2 5 S ∧ (o_X7_ofInnings_0 v2 12 S ∧ (((b_X7_ofInnings_0 v2 5 S) = (b_X7_ofInnings_0 v2 12 S) → (o_X7_isWell_73 (o_X7_isWell_26 n) v2 1 v1 S)) ∧ (¬ (b_X7_ofInnings_0 v2 5 S) = (b_X7_ofInnings_0 v2 12 S) → (o_X7_isWell_72 (o_X7_isWell_26 n) v2 v1 S)))))) ∧ (¬ (b_X7_ofInnings_0 v2 4 S) = (b_X7_runsBy_0 v2 S) → (o_X7_isWell_72 (o_X7_isWell_26 n) v2 v1 S))))))
set_option maxRecDepth 20000 in
theorem t_X7_isWell_26 (X : Cx p m c cX7_isWell 3 s args RX7 D q ad) (hr : meth.sig.returnType = some .boolean) (hlocks : meth.locks = false) : ∀ (n : Nat) (v1 : Int32) (v2 : Int32) (S : Sx) (rv : Int32) (S' : Sx) (ho : o_X7_isWell_26 n v1 v2 S) (he : b_X7_isWell_26 n v1 v2 S = (rv, S')), Jg p l e rm_X7_isWell s m args below meth c 0 0 (MQ below (Qi D q ad d rv S' s.heap.size) args s 0 0 (AU ad s.heap.size)) D q ad d 3 26 [(0, .ref (ad 5)), (1, .int v1), (2, .int v2)] [] S := by
  intro n
  induction n with
  | zero =>
    intro v1 v2 S rv S' ho he
    unfold o_X7_isWell_26 at ho
    exact ho.elim
  | succ n ih =>
    intro v1 v2 S rv S' ho he
    unfold b_X7_isWell_26 at he
    unfold o_X7_isWell_26 at ho
    refine j_iload_n X 2 dX7_isWell_26 rfl ?_
    refine j_aload_n X 0 dX7_isWell_27 rfl ?_
    refine gf_25_0 X m_fl_X7_7 kc25 dX7_isWell_28 ?_
    refine j_bipush (v := 106) X dX7_isWell_31 (by decide) ?_
    refine j_iald X kc26.1 (cl_26 kc26) (by unfold vp_in; decide) dX7_isWell_33 ?_
    refine j_icmp_ge X 81 dX7_isWell_34 (by decide) (fun h2 => ?_) (fun h2 => ?_)
    · rw [if_pos h2] at he
      have ho := ho.1 h2
      refine j_iconst (v := 0) X dX7_isWell_81 (by decide) ?_
      refine j_istore_n X [(2, .int 0), (0, .ref (ad 5)), (1, .int v1)] dX7_isWell_82 (by decide) rfl ?_
      refine j_lv [1, 2, 0] [(0, .ref (ad 5)), (1, .int v1), (2, .int 0)] rfl ?_
      exact t_X7_isWell_83 X hr hlocks 100 v1 0 S _ _ ho he
    · rw [if_neg h2] at he
      have ho := ho.2 h2
      refine j_iload_n X 1 dX7_isWell_37 rfl ?_
      refine j_aload_n X 0 dX7_isWell_38 rfl ?_
      refine j_iload_n X 2 dX7_isWell_39 rfl ?_
      refine j_iconst (v := 4) X dX7_isWell_40 (by decide) ?_
      have h3 := ho.1
      have ho := ho.2
      refine j_callVi (rest := [.int v1]) X (c_X7_ofInnings (cx_inj X) v2 4 S h3) cw_X7_88 kc25.1 (cl_25 kc25) rfl ⟨rfl, rfl, Nat.le_of_ble_eq_true rfl, Nat.le_of_ble_eq_true rfl⟩ rfl rfl (Nat.le_of_ble_eq_true rfl) ⟨Nat.le_of_ble_eq_true rfl, Nat.le_of_ble_eq_true rfl⟩ dX7_isWell_41 ?_
      refine j_aload_n X 0 dX7_isWell_44 rfl ?_
      refine j_iload_n X 2 dX7_isWell_45 rfl ?_
      have h4 := ho.1
      have ho := ho.2
      refine j_callVi (rest := [.int (b_X7_ofInnings_0 v2 4 S), .int v1]) X (c_X7_runsBy (cx_inj X) v2 S h4) cw_X7_153 kc25.1 (cl_25 kc25) rfl ⟨rfl, rfl, Nat.le_of_ble_eq_true rfl, Nat.le_of_ble_eq_true rfl⟩ rfl rfl (Nat.le_of_ble_eq_true rfl) ⟨Nat.le_of_ble_eq_true rfl, Nat.le_of_ble_eq_true rfl⟩ dX7_isWell_46 ?_
      refine j_icmp_ne X 72 dX7_isWell_49 (by decide) (fun h5 => ?_) (fun h5 => ?_)
      · rw [if_neg h5] at he
        have ho := ho.2 h5
        refine j_lv [0, 2] [(0, .ref (ad 5)), (2, .int v2)] rfl ?_
        exact t_X7_isWell_72 X hr hlocks (b_X7_isWell_26 n) (o_X7_isWell_26 n) ih v2 v1 S _ _ ho he
      · rw [if_pos h5] at he
        have ho := ho.1 h5
        refine j_aload_n X 0 dX7_isWell_52 rfl ?_
        refine j_iload_n X 2 dX7_isWell_53 rfl ?_
        refine j_iconst (v := 5) X dX7_isWell_54 (by decide) ?_
        have h6 := ho.1
        have ho := ho.2
        refine j_callVi (rest := [.int v1]) X (c_X7_ofInnings (cx_inj X) v2 5 S h6) cw_X7_88 kc25.1 (cl_25 kc25) rfl ⟨rfl, rfl, Nat.le_of_ble_eq_true rfl, Nat.le_of_ble_eq_true rfl⟩ rfl rfl (Nat.le_of_ble_eq_true rfl) ⟨Nat.le_of_ble_eq_true rfl, Nat.le_of_ble_eq_true rfl⟩ dX7_isWell_55 ?_
        refine j_aload_n X 0 dX7_isWell_58 rfl ?_
        refine j_iload_n X 2 dX7_isWell_59 rfl ?_
        refine j_bipush (v := 12) X dX7_isWell_60 (by decide) ?_
        have h7 := ho.1
        have ho := ho.2
        refine j_callVi (rest := [.int (b_X7_ofInnings_0 v2 5 S), .int v1]) X (c_X7_ofInnings (cx_inj X) v2 12 S h7) cw_X7_88 kc25.1 (cl_25 kc25) rfl ⟨rfl, rfl, Nat.le_of_ble_eq_true rfl, Nat.le_of_ble_eq_true rfl⟩ rfl rfl (Nat.le_of_ble_eq_true rfl) ⟨Nat.le_of_ble_eq_true rfl, Nat.le_of_ble_eq_true rfl⟩ dX7_isWell_62 ?_
        refine j_icmp_ne X 72 dX7_isWell_65 (by decide) (fun h8 => ?_) (fun h8 => ?_)
        · rw [if_neg h8] at he
          have ho := ho.2 h8
          refine j_lv [0, 2] [(0, .ref (ad 5)), (2, .int v2)] rfl ?_
          exact t_X7_isWell_72 X hr hlocks (b_X7_isWell_26 n) (o_X7_isWell_26 n) ih v2 v1 S _ _ ho he
        · rw [if_pos h8] at he
          have ho := ho.1 h8
          refine j_iconst (v := 1) X dX7_isWell_68 (by decide) ?_
          refine j_goto X 73 dX7_isWell_69 (by decide) ?_
          refine j_lv [0, 2] [(0, .ref (ad 5)), (2, .int v2)] rfl ?_
          exact t_X7_isWell_73 X hr hlocks (b_X7_isWell_26 n) (o_X7_isWell_26 n) ih v2 1 v1 S _ _ ho he
def b_X7_isWell_23 (w0 : Int32) (S : Sx) : Int32 × Sx := b_X7_isWell_26 100 w0 0 S
def o_X7_isWell_23 (w0 : Int32) (S : Sx) : Prop := o_X7_isWell_26 100 w0 0 S
set_option maxRecDepth 20000 in
theorem t_X7_isWell_23 (X : Cx p m c cX7_isWell 3 s args RX7 D q ad) (hr : meth.sig.returnType = some .boolean) (hlocks : meth.locks = false) (w0 : Int32) (S : Sx) (rv : Int32) (S' : Sx) (ho : o_X7_isWell_23 w0 S) (he : b_X7_isWell_23 w0 S = (rv, S')) : Jg p l e rm_X7_isWell s m args below meth c 0 0 (MQ below (Qi D q ad d rv S' s.heap.size) args s 0 0 (AU ad s.heap.size)) D q ad d 3 23 [(0, .ref (ad 5))] [.int w0] S := by
  unfold b_X7_isWell_23 at he
  unfold o_X7_isWell_23 at ho
  refine j_istore_n X [(1, .int w0), (0, .ref (ad 5))] dX7_isWell_23 (by decide) rfl ?_
  refine j_iconst (v := 0) X dX7_isWell_24 (by decide) ?_
  refine j_istore_n X [(2, .int 0), (1, .int w0), (0, .ref (ad 5))] dX7_isWell_25 (by decide) rfl ?_
  refine j_lv [2, 1, 0] [(0, .ref (ad 5)), (1, .int w0), (2, .int 0)] rfl ?_
  exact t_X7_isWell_26 X hr hlocks 100 w0 0 S _ _ ho he
def b_X7_isWell_0  (S : Sx) : Int32 × Sx := if (b_X7_sumOfInnings_0 3 (up2 S 5 8 0)) = (b_X7_sumOfPitches_0 4 (up2 S 5 8 0)) then b_X7_isWell_23 1 (up2 S 5 8 0) else b_X7_isWell_23 0 (up2 S 5 8 0)
def o_X7_isWell_0  (S : Sx) : Prop := o_X7_sumOfInnings_0 3 (up2 S 5 8 0) ∧ (o_X7_sumOfPitches_0 4 (up2 S 5 8 0) ∧ (((b_X7_sumOfInnings_0 3 (up2 S 5 8 0)) = (b_X7_sumOfPitches_0 4 (up2 S 5 8 0)) → (o_X7_isWell_23 1 (up2 S 5 8 0))) ∧ (¬ (b_X7_sumOfInnings_0 3 (up2 S 5 8 0)) = (b_X7_sumOfPitches_0 4 (up2 S 5 8 0)) → (o_X7_isWell_23 0 (up2 S 5 8 0)))))
set_option maxRecDepth 20000 in
theorem t_X7_isWell_0 (X : Cx p m c cX7_isWell 3 s args RX7 D q ad) (hr : meth.sig.returnType = some .boolean) (hlocks : meth.locks = false) (S : Sx) (rv : Int32) (S' : Sx) (ho : o_X7_isWell_0 S) (he : b_X7_isWell_0 S = (rv, S')) : Jg p l e rm_X7_isWell s m args below meth c 0 0 (MQ below (Qi D q ad d rv S' s.heap.size) args s 0 0 (AU ad s.heap.size)) D q ad d 3 0 [(0, .ref (ad 5))] [] S := by
  unfold b_X7_isWell_0 at he
  unfold o_X7_isWell_0 at ho
  refine j_aload_n X 0 dX7_isWell_0 rfl ?_
  refine j_iconst (v := 0) X dX7_isWell_1 (by decide) ?_
  refine pf_25_8 X m_fl_X7_35 kc25 dX7_isWell_2 ?_
  refine j_aload_n X 0 dX7_isWell_5 rfl ?_
  refine j_iconst (v := 3) X dX7_isWell_6 (by decide) ?_
  have h2 := ho.1
  have ho := ho.2
  refine j_callVi (rest := []) X (c_X7_sumOfInnings (cx_inj X) 3 (up2 S 5 8 0) h2) cw_X7_218 kc25.1 (cl_25 kc25) rfl ⟨rfl, rfl, Nat.le_of_ble_eq_true rfl, Nat.le_of_ble_eq_true rfl⟩ rfl rfl (Nat.le_of_ble_eq_true rfl) ⟨Nat.le_of_ble_eq_true rfl, Nat.le_of_ble_eq_true rfl⟩ dX7_isWell_7 ?_
  refine j_aload_n X 0 dX7_isWell_10 rfl ?_
  refine j_iconst (v := 4) X dX7_isWell_11 (by decide) ?_
  have h3 := ho.1
  have ho := ho.2
  refine j_callVi (rest := [.int (b_X7_sumOfInnings_0 3 (up2 S 5 8 0))]) X (c_X7_sumOfPitches (cx_inj X) 4 (up2 S 5 8 0) h3) cw_X7_211 kc25.1 (cl_25 kc25) rfl ⟨rfl, rfl, Nat.le_of_ble_eq_true rfl, Nat.le_of_ble_eq_true rfl⟩ rfl rfl (Nat.le_of_ble_eq_true rfl) ⟨Nat.le_of_ble_eq_true rfl, Nat.le_of_ble_eq_true rfl⟩ dX7_isWell_12 ?_
  refine j_icmp_ne X 22 dX7_isWell_15 (by decide) (fun h4 => ?_) (fun h4 => ?_)
  · rw [if_neg h4] at he
    have ho := ho.2 h4
    refine j_iconst (v := 0) X dX7_isWell_22 (by decide) ?_
    exact t_X7_isWell_23 X hr hlocks 0 (up2 S 5 8 0) _ _ ho he
  · rw [if_pos h4] at he
    have ho := ho.1 h4
    refine j_iconst (v := 1) X dX7_isWell_18 (by decide) ?_
    refine j_goto X 23 dX7_isWell_19 (by decide) ?_
    exact t_X7_isWell_23 X hr hlocks 1 (up2 S 5 8 0) _ _ ho he
theorem c_X7_isWell {l : Launch} {D : va_G} {q : Nat → ClassId} {ad : Nat → Nat} {d : UInt64} (hI : inj4 ad) (S : Sx) (ho : o_X7_isWell_0 S) : CI l yX7_isWell cX7_isWell 3 .boolean rm_X7_isWell D q ad d [.ref (ad 5)] S (b_X7_isWell_0 S).1 (b_X7_isWell_0 S).2 := ci_of hI (by decide +kernel) (Nat.le_of_ble_eq_true rfl) rfl (fun p e s m args below meth c X hr hlocks => t_X7_isWell_0 X hr hlocks S _ _ ho (pe _))
end
/-! RX7.undo -/
abbrev rm_X7_undo : Room := { frames := 1, cells := 0, slots := 0, locals := 24 }
section
variable {p : Program} {l : Launch} {e : Env} {s : State} {m : MethodId} {args : Array Value} {below : List Frame} {meth : Method} {c : Code} {D : va_G} {q : Nat → ClassId} {ad : Nat → Nat} {d : UInt64}
def b_X7_undo_31  (S : Sx) : Int32 × Sx := ((b_X7_copies_0 7 (275 * (S 5 6)) 6 0 S) 5 6, b_X7_copies_0 7 (275 * (S 5 6)) 6 0 S)
def o_X7_undo_31  (S : Sx) : Prop := o_X7_copies_0 7 (275 * (S 5 6)) 6 0 S ∧ True
set_option maxRecDepth 20000 in
theorem t_X7_undo_31 (X : Cx p m c cX7_undo 1 s args RX7 D q ad) (hr : meth.sig.returnType = some .int) (hlocks : meth.locks = false) (S : Sx) (rv : Int32) (S' : Sx) (ho : o_X7_undo_31 S) (he : b_X7_undo_31 S = (rv, S')) : Jg p l e rm_X7_undo s m args below meth c 0 0 (MQ below (Qi D q ad d rv S' s.heap.size) args s 0 0 (AU ad s.heap.size)) D q ad d 1 31 [(0, .ref (ad 5))] [] S := by
  unfold b_X7_undo_31 at he
  unfold o_X7_undo_31 at ho
  refine j_aload_n X 0 dX7_undo_31 rfl ?_
  refine gf_25_1 X m_fl_X7_13 kc25 dX7_undo_32 ?_
  refine j_sipush (v := 275) X dX7_undo_35 (by decide) ?_
  refine j_aload_n X 0 dX7_undo_38 rfl ?_
  refine gf_25_6 X m_fl_X7_51 kc25 dX7_undo_39 ?_
  refine j_imul X dX7_undo_42 ?_
  refine j_aload_n X 0 dX7_undo_43 rfl ?_
  refine gf_25_0 X m_fl_X7_7 kc25 dX7_undo_44 ?_
  refine j_iconst (v := 0) X dX7_undo_47 (by decide) ?_
  have h2 := ho.1
  have ho := ho.2
  refine j_callSv (rest := []) X (c_X7_copies (cx_inj X) 7 (isA_of27 kc27) (275 * (S 5 6)) 6 (isA_of26 kc26) 0 S h2) cw_X7_54 ⟨rfl, rfl, Nat.le_of_ble_eq_true rfl, Nat.le_of_ble_eq_true rfl⟩ rfl rfl (Nat.le_of_ble_eq_true rfl) ⟨Nat.le_of_ble_eq_true rfl, Nat.le_of_ble_eq_true rfl⟩ dX7_undo_48 ?_
  refine j_aload_n X 0 dX7_undo_51 rfl ?_
  refine gf_25_6 X m_fl_X7_51 kc25 dX7_undo_52 ?_
  exact j_iret X hr hlocks dX7_undo_55 (congrArg Prod.fst he) (congrArg Prod.snd he)
def b_X7_undo_13 (w0 : Int32) (S : Sx) : Int32 × Sx := if ((b_X7_fails_0 w0 S).1) = 0 then b_X7_undo_31 (up2 ((b_X7_fails_0 w0 S).2) 5 6 ((((b_X7_fails_0 w0 S).2) 5 6) - 1)) else (0, (b_X7_fails_0 w0 S).2)
def o_X7_undo_13 (w0 : Int32) (S : Sx) : Prop := o_X7_fails_0 w0 S ∧ ((((b_X7_fails_0 w0 S).1) = 0 → (o_X7_undo_31 (up2 ((b_X7_fails_0 w0 S).2) 5 6 ((((b_X7_fails_0 w0 S).2) 5 6) - 1)))) ∧ (¬ ((b_X7_fails_0 w0 S).1) = 0 → True))
set_option maxRecDepth 20000 in
theorem t_X7_undo_13 (X : Cx p m c cX7_undo 1 s args RX7 D q ad) (hr : meth.sig.returnType = some .int) (hlocks : meth.locks = false) (w0 : Int32) (S : Sx) (rv : Int32) (S' : Sx) (ho : o_X7_undo_13 w0 S) (he : b_X7_undo_13 w0 S = (rv, S')) : Jg p l e rm_X7_undo s m args below meth c 0 0 (MQ below (Qi D q ad d rv S' s.heap.size) args s 0 0 (AU ad s.heap.size)) D q ad d 1 13 [(0, .ref (ad 5))] [.int w0, .ref (ad 5)] S := by
  unfold b_X7_undo_13 at he
  unfold o_X7_undo_13 at ho
  have h2 := ho.1
  have ho := ho.2
  refine j_callVi (rest := []) X (c_X7_fails (cx_inj X) w0 S h2) cw_X7_70 kc25.1 (cl_25 kc25) rfl ⟨rfl, rfl, Nat.le_of_ble_eq_true rfl, Nat.le_of_ble_eq_true rfl⟩ rfl rfl (Nat.le_of_ble_eq_true rfl) ⟨Nat.le_of_ble_eq_true rfl, Nat.le_of_ble_eq_true rfl⟩ dX7_undo_13 ?_
  refine j_if_eq X 21 dX7_undo_16 (by decide) (fun h3 => ?_) (fun h3 => ?_)
  · rw [if_pos h3] at he
    have ho := ho.1 h3
    refine j_aload_n X 0 dX7_undo_21 rfl ?_
    refine j_dup X dX7_undo_22 rfl ?_
    refine gf_25_6 X m_fl_X7_51 kc25 dX7_undo_23 ?_
    refine j_iconst (v := 1) X dX7_undo_26 (by decide) ?_
    refine j_isub X dX7_undo_27 ?_
    refine pf_25_6 X m_fl_X7_51 kc25 dX7_undo_28 ?_
    exact t_X7_undo_31 X hr hlocks (up2 ((b_X7_fails_0 w0 S).2) 5 6 ((((b_X7_fails_0 w0 S).2) 5 6) - 1)) _ _ ho he
  · rw [if_neg h3] at he
    have ho := ho.2 h3
    refine j_iconst (v := 0) X dX7_undo_19 (by decide) ?_
    exact j_iret X hr hlocks dX7_undo_20 (congrArg Prod.fst he) (congrArg Prod.snd he)
def b_X7_undo_0  (S : Sx) : Int32 × Sx := if (S 5 6) = 0 then b_X7_undo_13 1 S else b_X7_undo_13 0 S
def o_X7_undo_0  (S : Sx) : Prop := ((S 5 6) = 0 → (o_X7_undo_13 1 S)) ∧ (¬ (S 5 6) = 0 → (o_X7_undo_13 0 S))
set_option maxRecDepth 20000 in
theorem t_X7_undo_0 (X : Cx p m c cX7_undo 1 s args RX7 D q ad) (hr : meth.sig.returnType = some .int) (hlocks : meth.locks = false) (S : Sx) (rv : Int32) (S' : Sx) (ho : o_X7_undo_0 S) (he : b_X7_undo_0 S = (rv, S')) : Jg p l e rm_X7_undo s m args below meth c 0 0 (MQ below (Qi D q ad d rv S' s.heap.size) args s 0 0 (AU ad s.heap.size)) D q ad d 1 0 [(0, .ref (ad 5))] [] S := by
  unfold b_X7_undo_0 at he
  unfold o_X7_undo_0 at ho
  refine j_aload_n X 0 dX7_undo_0 rfl ?_
  refine j_aload_n X 0 dX7_undo_1 rfl ?_
  refine gf_25_6 X m_fl_X7_51 kc25 dX7_undo_2 ?_
  refine j_if_ne X 12 dX7_undo_5 (by decide) (fun h2 => ?_) (fun h2 => ?_)
  · rw [if_neg h2] at he
    have ho := ho.2 h2
    refine j_iconst (v := 0) X dX7_undo_12 (by decide) ?_
    exact t_X7_undo_13 X hr hlocks 0 S _ _ ho he
  · rw [if_pos h2] at he
    have ho := ho.1 h2
    refine j_iconst (v := 1) X dX7_undo_8 (by decide) ?_
    refine j_goto X 13 dX7_undo_9 (by decide) ?_
    exact t_X7_undo_13 X hr hlocks 1 S _ _ ho he
theorem c_X7_undo {l : Launch} {D : va_G} {q : Nat → ClassId} {ad : Nat → Nat} {d : UInt64} (hI : inj4 ad) (S : Sx) (ho : o_X7_undo_0 S) : CI l yX7_undo cX7_undo 1 .int rm_X7_undo D q ad d [.ref (ad 5)] S (b_X7_undo_0 S).1 (b_X7_undo_0 S).2 := ci_of hI (by decide +kernel) (Nat.le_of_ble_eq_true rfl) rfl (fun p e s m args below meth c X hr hlocks => t_X7_undo_0 X hr hlocks S _ _ ho (pe _))
end
/-! RX7.save -/
abbrev rm_X7_save : Room := { frames := 1, cells := 0, slots := 0, locals := 24 }
section
variable {p : Program} {l : Launch} {e : Env} {s : State} {m : MethodId} {args : Array Value} {below : List Frame} {meth : Method} {c : Code} {D : va_G} {q : Nat → ClassId} {ad : Nat → Nat} {d : UInt64}
def b_X7_save_23  (S : Sx) : Int32 × Sx := (S 6 ((0 : Int32).toNatClampNeg), S)
set_option maxRecDepth 20000 in
theorem t_X7_save_23 (X : Cx p m c cX7_save 1 s args RX7 D q ad) (hr : meth.sig.returnType = some .int) (hlocks : meth.locks = false) (S : Sx) (rv : Int32) (S' : Sx) (he : b_X7_save_23 S = (rv, S')) : Jg p l e rm_X7_save s m args below meth c 0 0 (MQ below (Qi D q ad d rv S' s.heap.size) args s 0 0 (AU ad s.heap.size)) D q ad d 1 23 [(0, .ref (ad 5))] [] S := by
  unfold b_X7_save_23 at he
  refine j_aload_n X 0 dX7_save_23 rfl ?_
  refine gf_25_0 X m_fl_X7_7 kc25 dX7_save_24 ?_
  refine j_iconst (v := 0) X dX7_save_27 (by decide) ?_
  refine j_iald X kc26.1 (cl_26 kc26) (by unfold vp_in; decide) dX7_save_28 ?_
  exact j_iret X hr hlocks dX7_save_29 (congrArg Prod.fst he) (congrArg Prod.snd he)
def b_X7_save_0  (S : Sx) : Int32 × Sx := b_X7_save_23 (b_X7_copies_0 6 0 8 0 (up2 (up2 S 5 8 0) 5 5 1))
def o_X7_save_0  (S : Sx) : Prop := o_X7_copies_0 6 0 8 0 (up2 (up2 S 5 8 0) 5 5 1) ∧ True
set_option maxRecDepth 20000 in
theorem t_X7_save_0 (X : Cx p m c cX7_save 1 s args RX7 D q ad) (hr : meth.sig.returnType = some .int) (hlocks : meth.locks = false) (S : Sx) (rv : Int32) (S' : Sx) (ho : o_X7_save_0 S) (he : b_X7_save_0 S = (rv, S')) : Jg p l e rm_X7_save s m args below meth c 0 0 (MQ below (Qi D q ad d rv S' s.heap.size) args s 0 0 (AU ad s.heap.size)) D q ad d 1 0 [(0, .ref (ad 5))] [] S := by
  unfold b_X7_save_0 at he
  unfold o_X7_save_0 at ho
  refine j_aload_n X 0 dX7_save_0 rfl ?_
  refine j_iconst (v := 0) X dX7_save_1 (by decide) ?_
  refine pf_25_8 X m_fl_X7_35 kc25 dX7_save_2 ?_
  refine j_aload_n X 0 dX7_save_5 rfl ?_
  refine j_iconst (v := 1) X dX7_save_6 (by decide) ?_
  refine pf_25_5 X bz_1 m_fl_X7_221 kc25 dX7_save_7 ?_
  refine j_aload_n X 0 dX7_save_10 rfl ?_
  refine gf_25_0 X m_fl_X7_7 kc25 dX7_save_11 ?_
  refine j_iconst (v := 0) X dX7_save_14 (by decide) ?_
  refine j_aload_n X 0 dX7_save_15 rfl ?_
  refine gf_25_2 X m_fl_X7_16 kc25 dX7_save_16 ?_
  refine j_iconst (v := 0) X dX7_save_19 (by decide) ?_
  have h2 := ho.1
  have ho := ho.2
  refine j_callSv (rest := []) X (c_X7_copies (cx_inj X) 6 (isA_of26 kc26) 0 8 (isA_of28 kc28) 0 (up2 (up2 S 5 8 0) 5 5 1) h2) cw_X7_54 ⟨rfl, rfl, Nat.le_of_ble_eq_true rfl, Nat.le_of_ble_eq_true rfl⟩ rfl rfl (Nat.le_of_ble_eq_true rfl) ⟨Nat.le_of_ble_eq_true rfl, Nat.le_of_ble_eq_true rfl⟩ dX7_save_20 ?_
  exact t_X7_save_23 X hr hlocks (b_X7_copies_0 6 0 8 0 (up2 (up2 S 5 8 0) 5 5 1)) _ _ he
theorem c_X7_save {l : Launch} {D : va_G} {q : Nat → ClassId} {ad : Nat → Nat} {d : UInt64} (hI : inj4 ad) (S : Sx) (ho : o_X7_save_0 S) : CI l yX7_save cX7_save 1 .int rm_X7_save D q ad d [.ref (ad 5)] S (b_X7_save_0 S).1 (b_X7_save_0 S).2 := ci_of hI (by decide +kernel) (Nat.le_of_ble_eq_true rfl) rfl (fun p e s m args below meth c X hr hlocks => t_X7_save_0 X hr hlocks S _ _ ho (pe _))
end
/-! RX7.restore -/
abbrev rm_X7_restore : Room := { frames := 1, cells := 0, slots := 0, locals := 24 }
section
variable {p : Program} {l : Launch} {e : Env} {s : State} {m : MethodId} {args : Array Value} {below : List Frame} {meth : Method} {c : Code} {D : va_G} {q : Nat → ClassId} {ad : Nat → Nat} {d : UInt64}
def b_X7_restore_34  (S : Sx) : Int32 × Sx := ((up2 S 5 6 0) 6 ((0 : Int32).toNatClampNeg), up2 S 5 6 0)
set_option maxRecDepth 20000 in
theorem t_X7_restore_34 (X : Cx p m c cX7_restore 1 s args RX7 D q ad) (hr : meth.sig.returnType = some .int) (hlocks : meth.locks = false) (S : Sx) (rv : Int32) (S' : Sx) (he : b_X7_restore_34 S = (rv, S')) : Jg p l e rm_X7_restore s m args below meth c 0 0 (MQ below (Qi D q ad d rv S' s.heap.size) args s 0 0 (AU ad s.heap.size)) D q ad d 1 34 [(0, .ref (ad 5))] [] S := by
  unfold b_X7_restore_34 at he
  refine j_aload_n X 0 dX7_restore_34 rfl ?_
  refine j_iconst (v := 0) X dX7_restore_35 (by decide) ?_
  refine pf_25_6 X m_fl_X7_51 kc25 dX7_restore_36 ?_
  refine j_aload_n X 0 dX7_restore_39 rfl ?_
  refine gf_25_0 X m_fl_X7_7 kc25 dX7_restore_40 ?_
  refine j_iconst (v := 0) X dX7_restore_43 (by decide) ?_
  refine j_iald X kc26.1 (cl_26 kc26) (by unfold vp_in; decide) dX7_restore_44 ?_
  exact j_iret X hr hlocks dX7_restore_45 (congrArg Prod.fst he) (congrArg Prod.snd he)
def b_X7_restore_13 (w0 : Int32) (S : Sx) : Int32 × Sx := if ((b_X7_fails_0 w0 S).1) = 0 then b_X7_restore_34 (b_X7_copies_0 8 0 6 0 ((b_X7_fails_0 w0 S).2)) else (0, (b_X7_fails_0 w0 S).2)
def o_X7_restore_13 (w0 : Int32) (S : Sx) : Prop := o_X7_fails_0 w0 S ∧ ((((b_X7_fails_0 w0 S).1) = 0 → (o_X7_copies_0 8 0 6 0 ((b_X7_fails_0 w0 S).2) ∧ True)) ∧ (¬ ((b_X7_fails_0 w0 S).1) = 0 → True))
set_option maxRecDepth 20000 in
theorem t_X7_restore_13 (X : Cx p m c cX7_restore 1 s args RX7 D q ad) (hr : meth.sig.returnType = some .int) (hlocks : meth.locks = false) (w0 : Int32) (S : Sx) (rv : Int32) (S' : Sx) (ho : o_X7_restore_13 w0 S) (he : b_X7_restore_13 w0 S = (rv, S')) : Jg p l e rm_X7_restore s m args below meth c 0 0 (MQ below (Qi D q ad d rv S' s.heap.size) args s 0 0 (AU ad s.heap.size)) D q ad d 1 13 [(0, .ref (ad 5))] [.int w0, .ref (ad 5)] S := by
  unfold b_X7_restore_13 at he
  unfold o_X7_restore_13 at ho
  have h2 := ho.1
  have ho := ho.2
  refine j_callVi (rest := []) X (c_X7_fails (cx_inj X) w0 S h2) cw_X7_70 kc25.1 (cl_25 kc25) rfl ⟨rfl, rfl, Nat.le_of_ble_eq_true rfl, Nat.le_of_ble_eq_true rfl⟩ rfl rfl (Nat.le_of_ble_eq_true rfl) ⟨Nat.le_of_ble_eq_true rfl, Nat.le_of_ble_eq_true rfl⟩ dX7_restore_13 ?_
  refine j_if_eq X 21 dX7_restore_16 (by decide) (fun h3 => ?_) (fun h3 => ?_)
  · rw [if_pos h3] at he
    have ho := ho.1 h3
    refine j_aload_n X 0 dX7_restore_21 rfl ?_
    refine gf_25_2 X m_fl_X7_16 kc25 dX7_restore_22 ?_
    refine j_iconst (v := 0) X dX7_restore_25 (by decide) ?_
    refine j_aload_n X 0 dX7_restore_26 rfl ?_
    refine gf_25_0 X m_fl_X7_7 kc25 dX7_restore_27 ?_
    refine j_iconst (v := 0) X dX7_restore_30 (by decide) ?_
    have h4 := ho.1
    have ho := ho.2
    refine j_callSv (rest := []) X (c_X7_copies (cx_inj X) 8 (isA_of28 kc28) 0 6 (isA_of26 kc26) 0 ((b_X7_fails_0 w0 S).2) h4) cw_X7_54 ⟨rfl, rfl, Nat.le_of_ble_eq_true rfl, Nat.le_of_ble_eq_true rfl⟩ rfl rfl (Nat.le_of_ble_eq_true rfl) ⟨Nat.le_of_ble_eq_true rfl, Nat.le_of_ble_eq_true rfl⟩ dX7_restore_31 ?_
    exact t_X7_restore_34 X hr hlocks (b_X7_copies_0 8 0 6 0 ((b_X7_fails_0 w0 S).2)) _ _ he
  · rw [if_neg h3] at he
    have ho := ho.2 h3
    refine j_iconst (v := 0) X dX7_restore_19 (by decide) ?_
    exact j_iret X hr hlocks dX7_restore_20 (congrArg Prod.fst he) (congrArg Prod.snd he)
def b_X7_restore_0  (S : Sx) : Int32 × Sx := if (nb (S 5 5)) = 0 then b_X7_restore_13 1 S else b_X7_restore_13 0 S
def o_X7_restore_0  (S : Sx) : Prop := ((nb (S 5 5)) = 0 → (o_X7_restore_13 1 S)) ∧ (¬ (nb (S 5 5)) = 0 → (o_X7_restore_13 0 S))
set_option maxRecDepth 20000 in
theorem t_X7_restore_0 (X : Cx p m c cX7_restore 1 s args RX7 D q ad) (hr : meth.sig.returnType = some .int) (hlocks : meth.locks = false) (S : Sx) (rv : Int32) (S' : Sx) (ho : o_X7_restore_0 S) (he : b_X7_restore_0 S = (rv, S')) : Jg p l e rm_X7_restore s m args below meth c 0 0 (MQ below (Qi D q ad d rv S' s.heap.size) args s 0 0 (AU ad s.heap.size)) D q ad d 1 0 [(0, .ref (ad 5))] [] S := by
  unfold b_X7_restore_0 at he
  unfold o_X7_restore_0 at ho
  refine j_aload_n X 0 dX7_restore_0 rfl ?_
  refine j_aload_n X 0 dX7_restore_1 rfl ?_
  refine gf_25_5 X m_fl_X7_221 kc25 dX7_restore_2 ?_
  refine j_if_eq X 12 dX7_restore_5 (by decide) (fun h2 => ?_) (fun h2 => ?_)
  · rw [if_pos h2] at he
    have ho := ho.1 h2
    refine j_iconst (v := 1) X dX7_restore_12 (by decide) ?_
    exact t_X7_restore_13 X hr hlocks 1 S _ _ ho he
  · rw [if_neg h2] at he
    have ho := ho.2 h2
    refine j_iconst (v := 0) X dX7_restore_8 (by decide) ?_
    refine j_goto X 13 dX7_restore_9 (by decide) ?_
    exact t_X7_restore_13 X hr hlocks 0 S _ _ ho he
theorem c_X7_restore {l : Launch} {D : va_G} {q : Nat → ClassId} {ad : Nat → Nat} {d : UInt64} (hI : inj4 ad) (S : Sx) (ho : o_X7_restore_0 S) : CI l yX7_restore cX7_restore 1 .int rm_X7_restore D q ad d [.ref (ad 5)] S (b_X7_restore_0 S).1 (b_X7_restore_0 S).2 := ci_of hI (by decide +kernel) (Nat.le_of_ble_eq_true rfl) rfl (fun p e s m args below meth c X hr hlocks => t_X7_restore_0 X hr hlocks S _ _ ho (pe _))
end

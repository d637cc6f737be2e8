/-! RX3.verdictOn -/
abbrev rm_X3_verdictOn : Room := { frames := 4, cells := 0, slots := 0, locals := 93 }
section
variable {p : Program} {l : Launch} {e : Env} {s : State} {m : MethodId} {args : Array Value} {below : List Frame} {meth : Method} {c : Code} {D : va_G} {q : Nat → ClassId} {ad : Nat → Nat} {d : UInt64}
def b_X3_verdictOn_0 (r1 : Nat) (S : Sx) : Int32 := if (S 3 5) = 98 then b_X0_bowlVerdict_0 r1 (S 3 6) (S 3 7) S else (if (S 3 5) = 99 then b_X0_coverVerdict_0 r1 (S 3 6) 1 S else (if (S 3 5) = 101 then b_X0_endVerdict_0 r1 (S 3 6) S else (if (S 3 5) = 114 then b_X0_rollVerdict_0 r1 (S 3 6) (S 3 7) (S 3 8) S else (if (S 3 5) = 117 then b_X0_coverVerdict_0 r1 (S 3 6) 0 S else b_X6_rangeVerdict_0 (S 3 6) 1 72 S))))
def o_X3_verdictOn_0 (r1 : Nat) (S : Sx) : Prop := ((S 3 5) = 98 → (o_X0_bowlVerdict_0 r1 (S 3 6) (S 3 7) S ∧ True)) ∧ (¬ (S 3 5) = 98 → (((S 3 5) = 99 → (o_X0_coverVerdict_0 r1 (S 3 6) 1 S ∧ True)) ∧ (¬ (S 3 5) = 99 → (((S 3 5) = 101 → (o_X0_endVerdict_0 r1 (S 3 6) S ∧ True)) ∧ (¬ (S 3 5) = 101 → (((S 3 5) = 114 → (o_X0_rollVerdict_0 r1 (S 3 6) (S 3 7) (S 3 8) S ∧ True)) ∧ (¬ (S 3 5) = 114 → (((S 3 5) = 117 → (o_X0_coverVerdict_0 r1 (S 3 6) 0 S ∧ True)) ∧ (¬ (S 3 5) = 117 → True)))))))))
set_option maxRecDepth 20000 in
theorem t_X3_verdictOn_0 (X : Cx p m c cX3_verdictOn 2 s args RX3 D q ad) (hr : meth.sig.returnType = some .int) (hlocks : meth.locks = false) (r1 : Nat) (hr1 : isK 0 r1) (S : Sx) (rv : Int32) (ho : o_X3_verdictOn_0 r1 S) (he : b_X3_verdictOn_0 r1 S = rv) : Jg p l e rm_X3_verdictOn s m args below meth c 0 0 (MQ below (Qi D q ad d rv S s.heap.size) args s 0 0 (AU ad s.heap.size)) D q ad d 2 0 [(0, .ref (ad 3)), (1, .ref (ad r1))] [] S := by
  unfold b_X3_verdictOn_0 at he
  unfold o_X3_verdictOn_0 at ho
  refine j_aload_n X 0 dX3_verdictOn_0 rfl ?_
  refine gf_23_5 X m_fl_X3_48 kc23 dX3_verdictOn_1 ?_
  by_cases h7 : (S 3 5) = 98
  · rw [if_pos h7] at he
    have ho := ho.1 h7
    refine j_lookup X 69 73 dX3_verdictOn_4 (by decide) (by rw [h7]; rfl) (by decide) ?_
    refine j_aload_n X 1 dX3_verdictOn_73 rfl ?_
    refine j_aload_n X 0 dX3_verdictOn_74 rfl ?_
    refine gf_23_6 X m_fl_X3_60 kc23 dX3_verdictOn_75 ?_
    refine j_aload_n X 0 dX3_verdictOn_78 rfl ?_
    refine gf_23_7 X m_fl_X3_66 kc23 dX3_verdictOn_79 ?_
    have h2 := ho.1
    have ho := ho.2
    refine j_callVi (rest := []) X (c_X0_bowlVerdict (cx_inj X) r1 hr1 (S 3 6) (S 3 7) S h2) cw_X3_78 hr1.1 (cl_0 hr1) rfl ⟨rfl, rfl, Nat.le_of_ble_eq_true rfl, Nat.le_of_ble_eq_true rfl⟩ rfl rfl (Nat.le_of_ble_eq_true rfl) ⟨Nat.le_of_ble_eq_true rfl, Nat.le_of_ble_eq_true rfl⟩ dX3_verdictOn_82 ?_
    exact j_iret X hr hlocks dX3_verdictOn_85 he rfl
  rw [if_neg h7] at he
  have ho := ho.2 h7
  by_cases h8 : (S 3 5) = 99
  · rw [if_pos h8] at he
    have ho := ho.1 h8
    refine j_lookup X 82 86 dX3_verdictOn_4 (by decide) (by rw [h8]; rfl) (by decide) ?_
    refine j_aload_n X 1 dX3_verdictOn_86 rfl ?_
    refine j_aload_n X 0 dX3_verdictOn_87 rfl ?_
    refine gf_23_6 X m_fl_X3_60 kc23 dX3_verdictOn_88 ?_
    refine j_iconst (v := 1) X dX3_verdictOn_91 (by decide) ?_
    have h3 := ho.1
    have ho := ho.2
    refine j_callVi (rest := []) X (c_X0_coverVerdict (cx_inj X) r1 hr1 (S 3 6) 1 S h3) cw_X3_82 hr1.1 (cl_0 hr1) rfl ⟨rfl, rfl, Nat.le_of_ble_eq_true rfl, Nat.le_of_ble_eq_true rfl⟩ rfl rfl (Nat.le_of_ble_eq_true rfl) ⟨Nat.le_of_ble_eq_true rfl, Nat.le_of_ble_eq_true rfl⟩ dX3_verdictOn_92 ?_
    exact j_iret X hr hlocks dX3_verdictOn_95 he rfl
  rw [if_neg h8] at he
  have ho := ho.2 h8
  by_cases h9 : (S 3 5) = 101
  · rw [if_pos h9] at he
    have ho := ho.1 h9
    refine j_lookup X 102 106 dX3_verdictOn_4 (by decide) (by rw [h9]; rfl) (by decide) ?_
    refine j_aload_n X 1 dX3_verdictOn_106 rfl ?_
    refine j_aload_n X 0 dX3_verdictOn_107 rfl ?_
    refine gf_23_6 X m_fl_X3_60 kc23 dX3_verdictOn_108 ?_
    have h4 := ho.1
    have ho := ho.2
    refine j_callVi (rest := []) X (c_X0_endVerdict (cx_inj X) r1 hr1 (S 3 6) S h4) cw_X3_86 hr1.1 (cl_0 hr1) rfl ⟨rfl, rfl, Nat.le_of_ble_eq_true rfl, Nat.le_of_ble_eq_true rfl⟩ rfl rfl (Nat.le_of_ble_eq_true rfl) ⟨Nat.le_of_ble_eq_true rfl, Nat.le_of_ble_eq_true rfl⟩ dX3_verdictOn_111 ?_
    exact j_iret X hr hlocks dX3_verdictOn_114 he rfl
  rw [if_neg h9] at he
  have ho := ho.2 h9
  by_cases h10 : (S 3 5) = 114
  · rw [if_pos h10] at he
    have ho := ho.1 h10
    refine j_lookup X 52 56 dX3_verdictOn_4 (by decide) (by rw [h10]; rfl) (by decide) ?_
    refine j_aload_n X 1 dX3_verdictOn_56 rfl ?_
    refine j_aload_n X 0 dX3_verdictOn_57 rfl ?_
    refine gf_23_6 X m_fl_X3_60 kc23 dX3_verdictOn_58 ?_
    refine j_aload_n X 0 dX3_verdictOn_61 rfl ?_
    refine gf_23_7 X m_fl_X3_66 kc23 dX3_verdictOn_62 ?_
    refine j_aload_n X 0 dX3_verdictOn_65 rfl ?_
    refine gf_23_8 X m_fl_X3_69 kc23 dX3_verdictOn_66 ?_
    have h5 := ho.1
    have ho := ho.2
    refine j_callVi (rest := []) X (c_X0_rollVerdict (cx_inj X) r1 hr1 (S 3 6) (S 3 7) (S 3 8) S h5) cw_X3_72 hr1.1 (cl_0 hr1) rfl ⟨rfl, rfl, Nat.le_of_ble_eq_true rfl, Nat.le_of_ble_eq_true rfl⟩ rfl rfl (Nat.le_of_ble_eq_true rfl) ⟨Nat.le_of_ble_eq_true rfl, Nat.le_of_ble_eq_true rfl⟩ dX3_verdictOn_69 ?_
    exact j_iret X hr hlocks dX3_verdictOn_72 he rfl
  rw [if_neg h10] at he
  have ho := ho.2 h10
  by_cases h11 : (S 3 5) = 117
  · rw [if_pos h11] at he
    have ho := ho.1 h11
    refine j_lookup X 92 96 dX3_verdictOn_4 (by decide) (by rw [h11]; rfl) (by decide) ?_
    refine j_aload_n X 1 dX3_verdictOn_96 rfl ?_
    refine j_aload_n X 0 dX3_verdictOn_97 rfl ?_
    refine gf_23_6 X m_fl_X3_60 kc23 dX3_verdictOn_98 ?_
    refine j_iconst (v := 0) X dX3_verdictOn_101 (by decide) ?_
    have h6 := ho.1
    have ho := ho.2
    refine j_callVi (rest := []) X (c_X0_coverVerdict (cx_inj X) r1 hr1 (S 3 6) 0 S h6) cw_X3_82 hr1.1 (cl_0 hr1) rfl ⟨rfl, rfl, Nat.le_of_ble_eq_true rfl, Nat.le_of_ble_eq_true rfl⟩ rfl rfl (Nat.le_of_ble_eq_true rfl) ⟨Nat.le_of_ble_eq_true rfl, Nat.le_of_ble_eq_true rfl⟩ dX3_verdictOn_102 ?_
    exact j_iret X hr hlocks dX3_verdictOn_105 he rfl
  rw [if_neg h11] at he
  have ho := ho.2 h11
  refine j_lookup X 111 115 dX3_verdictOn_4 (by decide) (by show Op.lookupswitch.offset [(98, 69), (99, 82), (101, 102), (114, 52), (117, 92)] _ _ = _; rw [lv_osw (a := 98) h7 rfl, lv_osw (a := 99) h8 rfl, lv_osw (a := 101) h9 rfl, lv_osw (a := 114) h10 rfl, lv_osw (a := 117) h11 rfl]; rfl) (by decide) ?_
  refine j_aload_n X 0 dX3_verdictOn_115 rfl ?_
  refine gf_23_6 X m_fl_X3_60 kc23 dX3_verdictOn_116 ?_
  refine j_iconst (v := 1) X dX3_verdictOn_119 (by decide) ?_
  refine j_bipush (v := 72) X dX3_verdictOn_120 (by decide) ?_
  refine j_callNi (rest := []) X (c_X6_rangeVerdict (cx_inj X) (S 3 6) 1 72 S) cw_X3_90 ⟨rfl, rfl, Nat.le_of_ble_eq_true rfl, Nat.le_of_ble_eq_true rfl⟩ rfl rfl (Nat.le_of_ble_eq_true rfl) ⟨Nat.le_of_ble_eq_true rfl, Nat.le_of_ble_eq_true rfl⟩ dX3_verdictOn_122 ?_
  exact j_iret X hr hlocks dX3_verdictOn_125 he rfl
theorem c_X3_verdictOn {l : Launch} {D : va_G} {q : Nat → ClassId} {ad : Nat → Nat} {d : UInt64} (hI : inj4 ad) (r1 : Nat) (hr1 : isK 0 r1) (S : Sx) (ho : o_X3_verdictOn_0 r1 S) : CI l yX3_verdictOn cX3_verdictOn 2 .int rm_X3_verdictOn D q ad d [.ref (ad 3), .ref (ad r1)] S (b_X3_verdictOn_0 r1 S) S := ci_of hI (by decide +kernel) (Nat.le_of_ble_eq_true rfl) rfl (fun p e s m args below meth c X hr hlocks => t_X3_verdictOn_0 X hr hlocks r1 hr1 S _ ho rfl)
end
/-! RX3.carryOut -/
abbrev rm_X3_carryOut : Room := { frames := 4, cells := 0, slots := 0, locals := 90 }
section
variable {p : Program} {l : Launch} {e : Env} {s : State} {m : MethodId} {args : Array Value} {below : List Frame} {meth : Method} {c : Code} {D : va_G} {q : Nat → ClassId} {ad : Nat → Nat} {d : UInt64}
def b_X3_carryOut_148  (S : Sx) : Sx := S
set_option maxRecDepth 20000 in
theorem t_X3_carryOut_148 (X : Cx p m c cX3_carryOut 2 s args RX3 D q ad) (hr : meth.sig.returnType = none) (hlocks : meth.locks = false) (S : Sx) (S' : Sx) (he : b_X3_carryOut_148 S = S') : Jg p l e rm_X3_carryOut s m args below meth c 0 0 (MQ below (Qv D q ad d S' s.heap.size) args s 0 0 (AU ad s.heap.size)) D q ad d 2 148 [] [] S := by
  unfold b_X3_carryOut_148 at he
  exact j_vret X hr hlocks dX3_carryOut_148 he
def b_X3_carryOut_87 (w0 : Int32) (S : Sx) : Sx := b_X3_carryOut_148 S
set_option maxRecDepth 20000 in
theorem t_X3_carryOut_87 (X : Cx p m c cX3_carryOut 2 s args RX3 D q ad) (hr : meth.sig.returnType = none) (hlocks : meth.locks = false) (w0 : Int32) (S : Sx) (S' : Sx) (he : b_X3_carryOut_87 w0 S = S') : Jg p l e rm_X3_carryOut s m args below meth c 0 0 (MQ below (Qv D q ad d S' s.heap.size) args s 0 0 (AU ad s.heap.size)) D q ad d 2 87 [] [.int w0] S := by
  unfold b_X3_carryOut_87 at he
  refine j_pop X dX3_carryOut_87 rfl ?_
  refine j_goto X 148 dX3_carryOut_88 (by decide) ?_
  exact t_X3_carryOut_148 X hr hlocks S _ he
def b_X3_carryOut_0 (r1 : Nat) (S : Sx) : Sx := if (S 3 5) = 98 then b_X3_carryOut_87 ((b_X0_bowlBalls_0 r1 (S 3 6) (S 3 7) S).1) ((b_X0_bowlBalls_0 r1 (S 3 6) (S 3 7) S).2) else (if (S 3 5) = 99 then b_X3_carryOut_148 (up2 S (r1 + 7 + (S 3 6).toNatClampNeg) 3 1) else (if (S 3 5) = 101 then b_X3_carryOut_148 (up2 S (r1 + 16 + (S 3 6).toNatClampNeg) 6 1) else (if (S 3 5) = 114 then b_X3_carryOut_148 (b_X0_beginRolling_0 r1 (S 3 6) (S 3 7) (S 3 8) S) else (if (S 3 5) = 117 then b_X3_carryOut_148 (up2 S (r1 + 7 + (S 3 6).toNatClampNeg) 3 0) else b_X3_carryOut_148 ((b_X0_letHoursGoBy_0 r1 (S 3 6) S).2)))))
def o_X3_carryOut_0 (r1 : Nat) (S : Sx) : Prop := ((S 3 5) = 98 → (o_X0_bowlBalls_0 r1 (S 3 6) (S 3 7) S ∧ True)) ∧ (¬ (S 3 5) = 98 → (((S 3 5) = 99 → (vp_in (S 3 6) 4 ∧ True)) ∧ (¬ (S 3 5) = 99 → (((S 3 5) = 101 → (vp_in (S 3 6) 12 ∧ True)) ∧ (¬ (S 3 5) = 101 → (((S 3 5) = 114 → (o_X0_beginRolling_0 r1 (S 3 6) (S 3 7) (S 3 8) S ∧ True)) ∧ (¬ (S 3 5) = 114 → (((S 3 5) = 117 → (vp_in (S 3 6) 4 ∧ True)) ∧ (¬ (S 3 5) = 117 → (o_X0_letHoursGoBy_0 r1 (S 3 6) S ∧ True))))))))))
set_option maxRecDepth 20000 in
theorem t_X3_carryOut_0 (X : Cx p m c cX3_carryOut 2 s args RX3 D q ad) (hr : meth.sig.returnType = none) (hlocks : meth.locks = false) (r1 : Nat) (hr1 : isK 0 r1) (S : Sx) (S' : Sx) (ho : o_X3_carryOut_0 r1 S) (he : b_X3_carryOut_0 r1 S = S') : Jg p l e rm_X3_carryOut s m args below meth c 0 0 (MQ below (Qv D q ad d S' s.heap.size) args s 0 0 (AU ad s.heap.size)) D q ad d 2 0 [(0, .ref (ad 3)), (1, .ref (ad r1))] [] S := by
  unfold b_X3_carryOut_0 at he
  unfold o_X3_carryOut_0 at ho
  refine j_aload_n X 0 dX3_carryOut_0 rfl ?_
  refine gf_23_5 X m_fl_X3_48 kc23 dX3_carryOut_1 ?_
  by_cases h11 : (S 3 5) = 98
  · rw [if_pos h11] at he
    have ho := ho.1 h11
    refine j_lookup X 71 75 dX3_carryOut_4 (by decide) (by rw [h11]; rfl) (by decide) ?_
    refine j_aload_n X 1 dX3_carryOut_75 rfl ?_
    refine j_aload_n X 0 dX3_carryOut_76 rfl ?_
    refine gf_23_6 X m_fl_X3_60 kc23 dX3_carryOut_77 ?_
    refine j_aload_n X 0 dX3_carryOut_80 rfl ?_
    refine gf_23_7 X m_fl_X3_66 kc23 dX3_carryOut_81 ?_
    have h2 := ho.1
    have ho := ho.2
    refine j_callVi (rest := []) X (c_X0_bowlBalls (cx_inj X) r1 hr1 (S 3 6) (S 3 7) S h2) cw_X3_97 hr1.1 (cl_0 hr1) rfl ⟨rfl, rfl, Nat.le_of_ble_eq_true rfl, Nat.le_of_ble_eq_true rfl⟩ rfl rfl (Nat.le_of_ble_eq_true rfl) ⟨Nat.le_of_ble_eq_true rfl, Nat.le_of_ble_eq_true rfl⟩ dX3_carryOut_84 ?_
    refine j_lv [] [] rfl ?_
    exact t_X3_carryOut_87 X hr hlocks ((b_X0_bowlBalls_0 r1 (S 3 6) (S 3 7) S).1) ((b_X0_bowlBalls_0 r1 (S 3 6) (S 3 7) S).2) _ he
  rw [if_neg h11] at he
  have ho := ho.2 h11
  by_cases h12 : (S 3 5) = 99
  · rw [if_pos h12] at he
    have ho := ho.1 h12
    refine j_lookup X 87 91 dX3_carryOut_4 (by decide) (by rw [h12]; rfl) (by decide) ?_
    refine j_aload_n X 1 dX3_carryOut_91 rfl ?_
    refine gf_0_5 X m_fl_X3_100 hr1 dX3_carryOut_92 ?_
    refine j_aload_n X 0 dX3_carryOut_95 rfl ?_
    refine gf_23_6 X m_fl_X3_60 kc23 dX3_carryOut_96 ?_
    have h3 := ho.1
    have ho := ho.2
    refine j_aald (a := ad (r1 + 7 + (S 3 6).toNatClampNeg)) X 1 (k0_4 hr1).1 (cl_4 (k0_4 hr1)) rfl h3 rfl dX3_carryOut_99 ?_
    have hk4 : isK 7 (r1 + 7 + (S 3 6).toNatClampNeg) := k0_7 hr1 (vlt h3)
    refine j_iconst (v := 1) X dX3_carryOut_100 (by decide) ?_
    refine pf_7_3 X bz_1 m_fl_X3_104 hk4 dX3_carryOut_101 ?_
    refine j_goto X 148 dX3_carryOut_104 (by decide) ?_
    refine j_lv [] [] rfl ?_
    exact t_X3_carryOut_148 X hr hlocks (up2 S (r1 + 7 + (S 3 6).toNatClampNeg) 3 1) _ he
  rw [if_neg h12] at he
  have ho := ho.2 h12
  by_cases h13 : (S 3 5) = 101
  · rw [if_pos h13] at he
    have ho := ho.1 h13
    refine j_lookup X 119 123 dX3_carryOut_4 (by decide) (by rw [h13]; rfl) (by decide) ?_
    refine j_aload_n X 1 dX3_carryOut_123 rfl ?_
    refine gf_0_11 X m_fl_X3_110 hr1 dX3_carryOut_124 ?_
    refine j_aload_n X 0 dX3_carryOut_127 rfl ?_
    refine gf_23_6 X m_fl_X3_60 kc23 dX3_carryOut_128 ?_
    have h5 := ho.1
    have ho := ho.2
    refine j_aald (a := ad (r1 + 16 + (S 3 6).toNatClampNeg)) X 3 (k0_6 hr1).1 (cl_6 (k0_6 hr1)) rfl h5 rfl dX3_carryOut_131 ?_
    have hk6 : isK 9 (r1 + 16 + (S 3 6).toNatClampNeg) := k0_9 hr1 (vlt h5)
    refine j_iconst (v := 1) X dX3_carryOut_132 (by decide) ?_
    refine pf_9_6 X bz_1 m_fl_X3_114 hk6 dX3_carryOut_133 ?_
    refine j_goto X 148 dX3_carryOut_136 (by decide) ?_
    refine j_lv [] [] rfl ?_
    exact t_X3_carryOut_148 X hr hlocks (up2 S (r1 + 16 + (S 3 6).toNatClampNeg) 6 1) _ he
  rw [if_neg h13] at he
  have ho := ho.2 h13
  by_cases h14 : (S 3 5) = 114
  · rw [if_pos h14] at he
    have ho := ho.1 h14
    refine j_lookup X 52 56 dX3_carryOut_4 (by decide) (by rw [h14]; rfl) (by decide) ?_
    refine j_aload_n X 1 dX3_carryOut_56 rfl ?_
    refine j_aload_n X 0 dX3_carryOut_57 rfl ?_
    refine gf_23_6 X m_fl_X3_60 kc23 dX3_carryOut_58 ?_
    refine j_aload_n X 0 dX3_carryOut_61 rfl ?_
    refine gf_23_7 X m_fl_X3_66 kc23 dX3_carryOut_62 ?_
    refine j_aload_n X 0 dX3_carryOut_65 rfl ?_
    refine gf_23_8 X m_fl_X3_69 kc23 dX3_carryOut_66 ?_
    have h7 := ho.1
    have ho := ho.2
    refine j_callVv (rest := []) X (c_X0_beginRolling (cx_inj X) r1 hr1 (S 3 6) (S 3 7) (S 3 8) S h7) cw_X3_93 hr1.1 (cl_0 hr1) rfl ⟨rfl, rfl, Nat.le_of_ble_eq_true rfl, Nat.le_of_ble_eq_true rfl⟩ rfl rfl (Nat.le_of_ble_eq_true rfl) ⟨Nat.le_of_ble_eq_true rfl, Nat.le_of_ble_eq_true rfl⟩ dX3_carryOut_69 ?_
    refine j_goto X 148 dX3_carryOut_72 (by decide) ?_
    refine j_lv [] [] rfl ?_
    exact t_X3_carryOut_148 X hr hlocks (b_X0_beginRolling_0 r1 (S 3 6) (S 3 7) (S 3 8) S) _ he
  rw [if_neg h14] at he
  have ho := ho.2 h14
  by_cases h15 : (S 3 5) = 117
  · rw [if_pos h15] at he
    have ho := ho.1 h15
    refine j_lookup X 103 107 dX3_carryOut_4 (by decide) (by rw [h15]; rfl) (by decide) ?_
    refine j_aload_n X 1 dX3_carryOut_107 rfl ?_
    refine gf_0_5 X m_fl_X3_100 hr1 dX3_carryOut_108 ?_
    refine j_aload_n X 0 dX3_carryOut_111 rfl ?_
    refine gf_23_6 X m_fl_X3_60 kc23 dX3_carryOut_112 ?_
    have h8 := ho.1
    have ho := ho.2
    refine j_aald (a := ad (r1 + 7 + (S 3 6).toNatClampNeg)) X 1 (k0_4 hr1).1 (cl_4 (k0_4 hr1)) rfl h8 rfl dX3_carryOut_115 ?_
    have hk9 : isK 7 (r1 + 7 + (S 3 6).toNatClampNeg) := k0_7 hr1 (vlt h8)
    refine j_iconst (v := 0) X dX3_carryOut_116 (by decide) ?_
    refine pf_7_3 X bz_0 m_fl_X3_104 hk9 dX3_carryOut_117 ?_
    refine j_goto X 148 dX3_carryOut_120 (by decide) ?_
    refine j_lv [] [] rfl ?_
    exact t_X3_carryOut_148 X hr hlocks (up2 S (r1 + 7 + (S 3 6).toNatClampNeg) 3 0) _ he
  rw [if_neg h15] at he
  have ho := ho.2 h15
  refine j_lookup X 135 139 dX3_carryOut_4 (by decide) (by show Op.lookupswitch.offset [(98, 71), (99, 87), (101, 119), (114, 52), (117, 103)] _ _ = _; rw [lv_osw (a := 98) h11 rfl, lv_osw (a := 99) h12 rfl, lv_osw (a := 101) h13 rfl, lv_osw (a := 114) h14 rfl, lv_osw (a := 117) h15 rfl]; rfl) (by decide) ?_
  refine j_aload_n X 1 dX3_carryOut_139 rfl ?_
  refine j_aload_n X 0 dX3_carryOut_140 rfl ?_
  refine gf_23_6 X m_fl_X3_60 kc23 dX3_carryOut_141 ?_
  have h10 := ho.1
  have ho := ho.2
  refine j_callVi (rest := []) X (c_X0_letHoursGoBy (cx_inj X) r1 hr1 (S 3 6) S h10) cw_X3_119 hr1.1 (cl_0 hr1) rfl ⟨rfl, rfl, Nat.le_of_ble_eq_true rfl, Nat.le_of_ble_eq_true rfl⟩ rfl rfl (Nat.le_of_ble_eq_true rfl) ⟨Nat.le_of_ble_eq_true rfl, Nat.le_of_ble_eq_true rfl⟩ dX3_carryOut_144 ?_
  refine j_pop X dX3_carryOut_147 rfl ?_
  refine j_lv [] [] rfl ?_
  exact t_X3_carryOut_148 X hr hlocks ((b_X0_letHoursGoBy_0 r1 (S 3 6) S).2) _ he
theorem c_X3_carryOut {l : Launch} {D : va_G} {q : Nat → ClassId} {ad : Nat → Nat} {d : UInt64} (hI : inj4 ad) (r1 : Nat) (hr1 : isK 0 r1) (S : Sx) (ho : o_X3_carryOut_0 r1 S) : CV l yX3_carryOut cX3_carryOut 2 rm_X3_carryOut D q ad d [.ref (ad 3), .ref (ad r1)] S (b_X3_carryOut_0 r1 S) := cv_of hI (by decide +kernel) (Nat.le_of_ble_eq_true rfl) rfl (fun p e s m args below meth c X hr hlocks => t_X3_carryOut_0 X hr hlocks r1 hr1 S _ ho rfl)
end
/-! RX3.carryOutAll -/
abbrev rm_X3_carryOutAll : Room := { frames := 5, cells := 0, slots := 0, locals := 114 }
section
variable {p : Program} {l : Launch} {e : Env} {s : State} {m : MethodId} {args : Array Value} {below : List Frame} {meth : Method} {c : Code} {D : va_G} {q : Nat → ClassId} {ad : Nat → Nat} {d : UInt64}
def b_X3_carryOutAll_124 (w0 : Int32) (S : Sx) : Int32 × Sx := (w0, S)
set_option maxRecDepth 20000 in
theorem t_X3_carryOutAll_124 (X : Cx p m c cX3_carryOutAll 5 s args RX3 D q ad) (hr : meth.sig.returnType = some .int) (hlocks : meth.locks = false) (w0 : Int32) (S : Sx) (rv : Int32) (S' : Sx) (he : b_X3_carryOutAll_124 w0 S = (rv, S')) : Jg p l e rm_X3_carryOutAll s m args below meth c 0 0 (MQ below (Qi D q ad d rv S' s.heap.size) args s 0 0 (AU ad s.heap.size)) D q ad d 5 124 [] [.int w0] S := by
  unfold b_X3_carryOutAll_124 at he
  exact j_iret X hr hlocks dX3_carryOutAll_124 (congrArg Prod.fst he) (congrArg Prod.snd he)
def b_X3_carryOutAll_107 (v2 : Int32) (w0 : Int32) (S : Sx) : Int32 × Sx := if ((up2 S 3 2 w0) 3 2) = (-1) then b_X3_carryOutAll_124 v2 (up2 S 3 2 w0) else b_X3_carryOutAll_124 (-2) (up2 S 3 2 w0)
set_option maxRecDepth 20000 in
theorem t_X3_carryOutAll_107 (X : Cx p m c cX3_carryOutAll 5 s args RX3 D q ad) (hr : meth.sig.returnType = some .int) (hlocks : meth.locks = false) (v2 : Int32) (w0 : Int32) (S : Sx) (rv : Int32) (S' : Sx) (he : b_X3_carryOutAll_107 v2 w0 S = (rv, S')) : Jg p l e rm_X3_carryOutAll s m args below meth c 0 0 (MQ below (Qi D q ad d rv S' s.heap.size) args s 0 0 (AU ad s.heap.size)) D q ad d 5 107 [(0, .ref (ad 3)), (2, .int v2)] [.int w0, .ref (ad 3)] S := by
  unfold b_X3_carryOutAll_107 at he
  refine pf_23_2 X m_fl_X3_15 kc23 dX3_carryOutAll_107 ?_
  refine j_aload_n X 0 dX3_carryOutAll_110 rfl ?_
  refine gf_23_2 X m_fl_X3_15 kc23 dX3_carryOutAll_111 ?_
  refine j_iconst (v := (-1)) X dX3_carryOutAll_114 (by decide) ?_
  refine j_icmp_ne X 122 dX3_carryOutAll_115 (by decide) (fun h2 => ?_) (fun h2 => ?_)
  · rw [if_neg h2] at he
    refine j_bipush (v := (-2)) X dX3_carryOutAll_122 (by decide) ?_
    refine j_lv [] [] rfl ?_
    exact t_X3_carryOutAll_124 X hr hlocks (-2) (up2 S 3 2 w0) _ _ he
  · rw [if_pos h2] at he
    refine j_iload_n X 1 dX3_carryOutAll_118 rfl ?_
    refine j_goto X 124 dX3_carryOutAll_119 (by decide) ?_
    refine j_lv [] [] rfl ?_
    exact t_X3_carryOutAll_124 X hr hlocks v2 (up2 S 3 2 w0) _ _ he
def b_X3_carryOutAll_87 (v2 : Int32) (S : Sx) : Int32 × Sx := if (S 3 1) ≤ (S 3 4) then b_X3_carryOutAll_107 v2 (-1) S else b_X3_carryOutAll_107 v2 (S 3 4) S
set_option maxRecDepth 20000 in
theorem t_X3_carryOutAll_87 (X : Cx p m c cX3_carryOutAll 5 s args RX3 D q ad) (hr : meth.sig.returnType = some .int) (hlocks : meth.locks = false) (v2 : Int32) (S : Sx) (rv : Int32) (S' : Sx) (he : b_X3_carryOutAll_87 v2 S = (rv, S')) : Jg p l e rm_X3_carryOutAll s m args below meth c 0 0 (MQ below (Qi D q ad d rv S' s.heap.size) args s 0 0 (AU ad s.heap.size)) D q ad d 5 87 [(0, .ref (ad 3)), (2, .int v2)] [] S := by
  unfold b_X3_carryOutAll_87 at he
  refine j_aload_n X 0 dX3_carryOutAll_87 rfl ?_
  refine j_aload_n X 0 dX3_carryOutAll_88 rfl ?_
  refine gf_23_4 X m_fl_X3_19 kc23 dX3_carryOutAll_89 ?_
  refine j_aload_n X 0 dX3_carryOutAll_92 rfl ?_
  refine gf_23_1 X m_fl_X3_41 kc23 dX3_carryOutAll_93 ?_
  refine j_icmp_ge X 106 dX3_carryOutAll_96 (by decide) (fun h2 => ?_) (fun h2 => ?_)
  · rw [if_pos h2] at he
    refine j_iconst (v := (-1)) X dX3_carryOutAll_106 (by decide) ?_
    exact t_X3_carryOutAll_107 X hr hlocks v2 (-1) S _ _ he
  · rw [if_neg h2] at he
    refine j_aload_n X 0 dX3_carryOutAll_99 rfl ?_
    refine gf_23_4 X m_fl_X3_19 kc23 dX3_carryOutAll_100 ?_
    refine j_goto X 107 dX3_carryOutAll_103 (by decide) ?_
    exact t_X3_carryOutAll_107 X hr hlocks v2 (S 3 4) S _ _ he
def b_X3_carryOutAll_80 (kk : Nat → Int32 → Int32 → Int32 → Sx → Int32 × Sx) (j1 : Nat) (v2 : Int32) (v4 : Int32) (w0 : Int32) (S : Sx) : Int32 × Sx := kk j1 v2 w0 (v4 + (-1)) S
def o_X3_carryOutAll_80 (ok : Nat → Int32 → Int32 → Int32 → Sx → Prop) (j1 : Nat) (v2 : Int32) (v4 : Int32) (w0 : Int32) (S : Sx) : Prop := ok j1 v2 w0 (v4 + (-1)) S
set_option maxRecDepth 20000 in
theorem t_X3_carryOutAll_80 (X : Cx p m c cX3_carryOutAll 5 s args RX3 D q ad) (hr : meth.sig.returnType = some .int) (hlocks : meth.locks = false) (kk : Nat → Int32 → Int32 → Int32 → Sx → Int32 × Sx) (ok : Nat → Int32 → Int32 → Int32 → Sx → Prop) (hkk : ∀ (j1 : Nat) (hj1 : isK 0 j1) (v2 : Int32) (v3 : Int32) (v4 : Int32) (S : Sx) (rv : Int32) (S' : Sx) (ho : ok j1 v2 v3 v4 S) (he : kk j1 v2 v3 v4 S = (rv, S')), Jg p l e rm_X3_carryOutAll s m args below meth c 0 0 (MQ below (Qi D q ad d rv S' s.heap.size) args s 0 0 (AU ad s.heap.size)) D q ad d 5 18 [(0, .ref (ad 3)), (1, .ref (ad j1)), (2, .int v2), (3, .int v3), (4, .int v4)] [] S) (j1 : Nat) (hj1 : isK 0 j1) (v2 : Int32) (v4 : Int32) (w0 : Int32) (S : Sx) (rv : Int32) (S' : Sx) (ho : o_X3_carryOutAll_80 ok j1 v2 v4 w0 S) (he : b_X3_carryOutAll_80 kk j1 v2 v4 w0 S = (rv, S')) : Jg p l e rm_X3_carryOutAll s m args below meth c 0 0 (MQ below (Qi D q ad d rv S' s.heap.size) args s 0 0 (AU ad s.heap.size)) D q ad d 5 80 [(0, .ref (ad 3)), (1, .ref (ad j1)), (2, .int v2), (4, .int v4)] [.int w0] S := by
  unfold b_X3_carryOutAll_80 at he
  unfold o_X3_carryOutAll_80 at ho
  refine j_istore_n X [(3, .int w0), (0, .ref (ad 3)), (1, .ref (ad j1)), (2, .int v2), (4, .int v4)] dX3_carryOutAll_80 (by decide) rfl ?_
  refine j_iinc X 4 (v4 + (-1)) [(4, .int (v4 + (-1))), (3, .int w0), (0, .ref (ad 3)), (1, .ref (ad j1)), (2, .int v2)] dX3_carryOutAll_81 rfl rfl (by decide) rfl ?_
  refine j_goto X 18 dX3_carryOutAll_84 (by decide) ?_
  refine j_lv [2, 3, 4, 1, 0] [(0, .ref (ad 3)), (1, .ref (ad j1)), (2, .int v2), (3, .int w0), (4, .int (v4 + (-1)))] rfl ?_
  exact hkk j1 hj1 v2 w0 (v4 + (-1)) S _ _ ho he
def b_X3_carryOutAll_64 (kk : Nat → Int32 → Int32 → Int32 → Sx → Int32 × Sx) (j1 : Nat) (v2 : Int32) (v4 : Int32) (S : Sx) : Int32 × Sx := b_X3_carryOutAll_80 kk j1 v2 v4 ((b_X3_skip_0 59 (up2 S 3 3 ((S 3 3) + 1))).1) ((b_X3_skip_0 59 (up2 S 3 3 ((S 3 3) + 1))).2)
def o_X3_carryOutAll_64 (ok : Nat → Int32 → Int32 → Int32 → Sx → Prop) (j1 : Nat) (v2 : Int32) (v4 : Int32) (S : Sx) : Prop := o_X3_skip_0 59 (up2 S 3 3 ((S 3 3) + 1)) ∧ (o_X3_carryOutAll_80 ok j1 v2 v4 ((b_X3_skip_0 59 (up2 S 3 3 ((S 3 3) + 1))).1) ((b_X3_skip_0 59 (up2 S 3 3 ((S 3 3) + 1))).2))
set_option maxRecDepth 20000 in
theorem t_X3_carryOutAll_64 (X : Cx p m c cX3_carryOutAll 5 s args RX3 D q ad) (hr : meth.sig.returnType = some .int) (hlocks : meth.locks = false) (kk : Nat → Int32 → Int32 → Int32 → Sx → Int32 × Sx) (ok : Nat → Int32 → Int32 → Int32 → Sx → Prop) (hkk : ∀ (j1 : Nat) (hj1 : isK 0 j1) (v2 : Int32) (v3 : Int32) (v4 : Int32) (S : Sx) (rv : Int32) (S' : Sx) (ho : ok j1 v2 v3 v4 S) (he : kk j1 v2 v3 v4 S = (rv, S')), Jg p l e rm_X3_carryOutAll s m args below meth c 0 0 (MQ below (Qi D q ad d rv S' s.heap.size) args s 0 0 (AU ad s.heap.size)) D q ad d 5 18 [(0, .ref (ad 3)), (1, .ref (ad j1)), (2, .int v2), (3, .int v3), (4, .int v4)] [] S) (j1 : Nat) (hj1 : isK 0 j1) (v2 : Int32) (v4 : Int32) (S : Sx) (rv : Int32) (S' : Sx) (ho : o_X3_carryOutAll_64 ok j1 v2 v4 S) (he : b_X3_carryOutAll_64 kk j1 v2 v4 S = (rv, S')) : Jg p l e rm_X3_carryOutAll s m args below meth c 0 0 (MQ below (Qi D q ad d rv S' s.heap.size) args s 0 0 (AU ad s.heap.size)) D q ad d 5 64 [(0, .ref (ad 3)), (1, .ref (ad j1)), (2, .int v2), (4, .int v4)] [] S := by
  unfold b_X3_carryOutAll_64 at he
  unfold o_X3_carryOutAll_64 at ho
  refine j_aload_n X 0 dX3_carryOutAll_64 rfl ?_
  refine j_dup X dX3_carryOutAll_65 rfl ?_
  refine gf_23_3 X m_fl_X3_22 kc23 dX3_carryOutAll_66 ?_
  refine j_iconst (v := 1) X dX3_carryOutAll_69 (by decide) ?_
  refine j_iadd X dX3_carryOutAll_70 ?_
  refine pf_23_3 X m_fl_X3_22 kc23 dX3_carryOutAll_71 ?_
  refine j_aload_n X 0 dX3_carryOutAll_74 rfl ?_
  refine j_bipush (v := 59) X dX3_carryOutAll_75 (by decide) ?_
  have h2 := ho.1
  have ho := ho.2
  refine j_callVi (rest := []) X (c_X3_skip (cx_inj X) 59 (up2 S 3 3 ((S 3 3) + 1)) h2) cw_X3_37 kc23.1 (cl_23 kc23) rfl ⟨rfl, rfl, Nat.le_of_ble_eq_true rfl, Nat.le_of_ble_eq_true rfl⟩ rfl rfl (Nat.le_of_ble_eq_true rfl) ⟨Nat.le_of_ble_eq_true rfl, Nat.le_of_ble_eq_true rfl⟩ dX3_carryOutAll_77 ?_
  exact t_X3_carryOutAll_80 X hr hlocks kk ok hkk j1 hj1 v2 v4 ((b_X3_skip_0 59 (up2 S 3 3 ((S 3 3) + 1))).1) ((b_X3_skip_0 59 (up2 S 3 3 ((S 3 3) + 1))).2) _ _ ho he
def b_X3_carryOutAll_42  (S : Sx) : Int32 × Sx := ((-2), S)
set_option maxRecDepth 20000 in
theorem t_X3_carryOutAll_42 (X : Cx p m c cX3_carryOutAll 5 s args RX3 D q ad) (hr : meth.sig.returnType = some .int) (hlocks : meth.locks = false) (S : Sx) (rv : Int32) (S' : Sx) (he : b_X3_carryOutAll_42 S = (rv, S')) : Jg p l e rm_X3_carryOutAll s m args below meth c 0 0 (MQ below (Qi D q ad d rv S' s.heap.size) args s 0 0 (AU ad s.heap.size)) D q ad d 5 42 [] [] S := by
  unfold b_X3_carryOutAll_42 at he
  refine j_bipush (v := (-2)) X dX3_carryOutAll_42 (by decide) ?_
  exact j_iret X hr hlocks dX3_carryOutAll_44 (congrArg Prod.fst he) (congrArg Prod.snd he)
def b_X3_carryOutAll_18 : Nat → Nat → Int32 → Int32 → Int32 → Sx → Int32 × Sx
  | 0, _, _, _, _, S => (0, S)
  | n + 1, j1, v2, v3, v4, S => if v3 = 0 then b_X3_carryOutAll_87 v2 S else if v4 ≤ 0 then b_X3_carryOutAll_87 v2 S else if ((b_X3_findOrder_0 S).1) = 0 then b_X3_carryOutAll_42 (up2 ((b_X3_findOrder_0 S).2) 3 2 (((b_X3_findOrder_0 S).2) 3 4)) else if v2 = 0 then if (b_X3_verdictOn_0 j1 ((b_X3_findOrder_0 S).2)) = 0 then b_X3_carryOutAll_64 (b_X3_carryOutAll_18 n) j1 (b_X3_verdictOn_0 j1 ((b_X3_findOrder_0 S).2)) v4 (b_X3_carryOut_0 j1 ((b_X3_findOrder_0 S).2)) else b_X3_carryOutAll_64 (b_X3_carryOutAll_18 n) j1 (b_X3_verdictOn_0 j1 ((b_X3_findOrder_0 S).2)) v4 ((b_X3_findOrder_0 S).2) else b_X3_carryOutAll_64 (b_X3_carryOutAll_18 n) j1 v2 v4 ((b_X3_findOrder_0 S).2)
def o_X3_carryOutAll_18 : Nat → Nat → Int32 → Int32 → Int32 → Sx → Prop
  | 0, _, _, _, _, _ => False
  | n + 1, j1, v2, v3, v4, S => (v3 = 0 → True) ∧ (¬ v3 = 0 → ((v4 ≤ 0 → True) ∧ (¬ v4 ≤ 0 → (o_X3_findOrder_0 S ∧ ((((b_X3_findOrder_0 S).1) = 0 → True) ∧ (¬ ((b_X3_findOrder_0 S).1) = 0 → ((v2 = 0 → (o_X3_verdictOn_0 j1 ((b_X3_findOrder_0 S).2) ∧ (((b_X3_verdictOn_0 j1 ((b_X3_findOrder_0 S).2)) = 0 → (o_X3_carryOut_0 j1 ((b_X3_findOrder_0 S).2) ∧ (o_X3_carryOutAll_64 (o_X3_carryOutAll_18 n) j1 (b_X3_verdictOn_0 j1 ((b_X3_findOrder_0 S).2)) v4 (b_X3_carryOut_0 j1 ((b_X3_findOrder_0 S).2))))) ∧ (¬ (b_X3_verdictOn_0 j1 ((b_X3_findOrder_0 S).2)) = 0 → (o_X3_carryOutAll_64 (o_X3_carryOutAll_18 n) j1 (b_X3_verdictOn_0 j1 ((b_X3_findOrder_0 S).2)) v4 ((b_X3_findOrder_0 S).2)))))) ∧ (¬ v2 = 0 → (o_X3_carryOutAll_64 (o_X3_carryOutAll_18 n) j1 v2 v4 ((b_X3_findOrder_0 S).2))))))))))
set_option maxRecDepth 20000 in
theorem t_X3_carryOutAll_18 (X : Cx p m c cX3_carryOutAll 5 s args RX3 D q ad) (hr : meth.sig.returnType = some .int) (hlocks : meth.locks = false) : ∀ (n : Nat) (j1 : Nat) (hj1 : isK 0 j1) (v2 : Int32) (v3 : Int32) (v4 : Int32) (S : Sx) (rv : Int32) (S' : Sx) (ho : o_X3_carryOutAll_18 n j1 v2 v3 v4 S) (he : b_X3_carryOutAll_18 n j1 v2 v3 v4 S = (rv, S')), Jg p l e rm_X3_carryOutAll s m args below meth c 0 0 (MQ below (Qi D q ad d rv S' s.heap.size) args s 0 0 (AU ad s.heap.size)) D q ad d 5 18 [(0, .ref (ad 3)), (1, .ref (ad j1)), (2, .int v2), (3, .int v3), (4, .int v4)] [] S := by
  intro n
  induction n with
  | zero =>
    intro j1 hj1 v2 v3 v4 S rv S' ho he
    unfold o_X3_carryOutAll_18 at ho
    exact ho.elim
  | succ n ih =>
    intro j1 hj1 v2 v3 v4 S rv S' ho he
    unfold b_X3_carryOutAll_18 at he
    unfold o_X3_carryOutAll_18 at ho
    refine j_iload_n X 3 dX3_carryOutAll_18 rfl ?_
    refine j_if_eq X 87 dX3_carryOutAll_19 (by decide) (fun h2 => ?_) (fun h2 => ?_)
    · rw [if_pos h2] at he
      have ho := ho.1 h2
      refine j_lv [0, 2] [(0, .ref (ad 3)), (2, .int v2)] rfl ?_
      exact t_X3_carryOutAll_87 X hr hlocks v2 S _ _ he
    · rw [if_neg h2] at he
      have ho := ho.2 h2
      refine j_iload X 4 dX3_carryOutAll_22 rfl ?_
      refine j_if_le X 87 dX3_carryOutAll_24 (by decide) (fun h3 => ?_) (fun h3 => ?_)
      · rw [if_pos h3] at he
        have ho := ho.1 h3
        refine j_lv [0, 2] [(0, .ref (ad 3)), (2, .int v2)] rfl ?_
        exact t_X3_carryOutAll_87 X hr hlocks v2 S _ _ he
      · rw [if_neg h3] at he
        have ho := ho.2 h3
        refine j_aload_n X 0 dX3_carryOutAll_27 rfl ?_
        have h4 := ho.1
        have ho := ho.2
        refine j_callVi (rest := []) X (c_X3_findOrder (cx_inj X) S h4) cw_X3_25 kc23.1 (cl_23 kc23) rfl ⟨rfl, rfl, Nat.le_of_ble_eq_true rfl, Nat.le_of_ble_eq_true rfl⟩ rfl rfl (Nat.le_of_ble_eq_true rfl) ⟨Nat.le_of_ble_eq_true rfl, Nat.le_of_ble_eq_true rfl⟩ dX3_carryOutAll_28 ?_
        refine j_if_ne X 45 dX3_carryOutAll_31 (by decide) (fun h5 => ?_) (fun h5 => ?_)
        · rw [if_neg h5] at he
          have ho := ho.2 h5
          refine j_iload_n X 2 dX3_carryOutAll_45 rfl ?_
          refine j_if_ne X 64 dX3_carryOutAll_46 (by decide) (fun h6 => ?_) (fun h6 => ?_)
          · rw [if_neg h6] at he
            have ho := ho.2 h6
            refine j_lv [0, 1, 2, 4] [(0, .ref (ad 3)), (1, .ref (ad j1)), (2, .int v2), (4, .int v4)] rfl ?_
            exact t_X3_carryOutAll_64 X hr hlocks (b_X3_carryOutAll_18 n) (o_X3_carryOutAll_18 n) ih j1 hj1 v2 v4 ((b_X3_findOrder_0 S).2) _ _ ho he
          · rw [if_pos h6] at he
            have ho := ho.1 h6
            refine j_aload_n X 0 dX3_carryOutAll_49 rfl ?_
            refine j_aload_n X 1 dX3_carryOutAll_50 rfl ?_
            have h7 := ho.1
            have ho := ho.2
            refine j_callVi (rest := []) X (c_X3_verdictOn (cx_inj X) j1 hj1 ((b_X3_findOrder_0 S).2) h7) cw_X3_29 kc23.1 (cl_23 kc23) rfl ⟨rfl, rfl, Nat.le_of_ble_eq_true rfl, Nat.le_of_ble_eq_true rfl⟩ rfl rfl (Nat.le_of_ble_eq_true rfl) ⟨Nat.le_of_ble_eq_true rfl, Nat.le_of_ble_eq_true rfl⟩ dX3_carryOutAll_51 ?_
            refine j_istore_n X [(2, .int (b_X3_verdictOn_0 j1 ((b_X3_findOrder_0 S).2))), (0, .ref (ad 3)), (1, .ref (ad j1)), (3, .int v3), (4, .int v4)] dX3_carryOutAll_54 (by decide) rfl ?_
            refine j_iload_n X 0 dX3_carryOutAll_55 rfl ?_
            refine j_if_ne X 64 dX3_carryOutAll_56 (by decide) (fun h8 => ?_) (fun h8 => ?_)
            · rw [if_neg h8] at he
              have ho := ho.2 h8
              refine j_lv [1, 2, 0, 4] [(0, .ref (ad 3)), (1, .ref (ad j1)), (2, .int (b_X3_verdictOn_0 j1 ((b_X3_findOrder_0 S).2))), (4, .int v4)] rfl ?_
              exact t_X3_carryOutAll_64 X hr hlocks (b_X3_carryOutAll_18 n) (o_X3_carryOutAll_18 n) ih j1 hj1 (b_X3_verdictOn_0 j1 ((b_X3_findOrder_0 S).2)) v4 ((b_X3_findOrder_0 S).2) _ _ ho he
            · rw [if_pos h8] at he
              have ho := ho.1 h8
              refine j_aload_n X 1 dX3_carryOutAll_59 rfl ?_
              refine j_aload_n X 2 dX3_carryOutAll_60 rfl ?_
              have h9 := ho.1
              have ho := ho.2
              refine j_callVv (rest := []) X (c_X3_carryOut (cx_inj X) j1 hj1 ((b_X3_findOrder_0 S).2) h9) cw_X3_33 kc23.1 (cl_23 kc23) rfl ⟨rfl, rfl, Nat.le_of_ble_eq_true rfl, Nat.le_of_ble_eq_true rfl⟩ rfl rfl (Nat.le_of_ble_eq_true rfl) ⟨Nat.le_of_ble_eq_true rfl, Nat.le_of_ble_eq_true rfl⟩ dX3_carryOutAll_61 ?_
              refine j_lv [1, 2, 0, 4] [(0, .ref (ad 3)), (1, .ref (ad j1)), (2, .int (b_X3_verdictOn_0 j1 ((b_X3_findOrder_0 S).2))), (4, .int v4)] rfl ?_
              exact t_X3_carryOutAll_64 X hr hlocks (b_X3_carryOutAll_18 n) (o_X3_carryOutAll_18 n) ih j1 hj1 (b_X3_verdictOn_0 j1 ((b_X3_findOrder_0 S).2)) v4 (b_X3_carryOut_0 j1 ((b_X3_findOrder_0 S).2)) _ _ ho he
        · rw [if_pos h5] at he
          have ho := ho.1 h5
          refine j_aload_n X 0 dX3_carryOutAll_34 rfl ?_
          refine j_aload_n X 0 dX3_carryOutAll_35 rfl ?_
          refine gf_23_4 X m_fl_X3_19 kc23 dX3_carryOutAll_36 ?_
          refine pf_23_2 X m_fl_X3_15 kc23 dX3_carryOutAll_39 ?_
          refine j_lv [] [] rfl ?_
          exact t_X3_carryOutAll_42 X hr hlocks (up2 ((b_X3_findOrder_0 S).2) 3 2 (((b_X3_findOrder_0 S).2) 3 4)) _ _ he
def b_X3_carryOutAll_0 (r1 : Nat) (S : Sx) : Int32 × Sx := b_X3_carryOutAll_18 100 r1 0 1 60 (up2 (up2 S 3 4 0) 3 3 0)
def o_X3_carryOutAll_0 (r1 : Nat) (S : Sx) : Prop := o_X3_carryOutAll_18 100 r1 0 1 60 (up2 (up2 S 3 4 0) 3 3 0)
set_option maxRecDepth 20000 in
theorem t_X3_carryOutAll_0 (X : Cx p m c cX3_carryOutAll 5 s args RX3 D q ad) (hr : meth.sig.returnType = some .int) (hlocks : meth.locks = false) (r1 : Nat) (hr1 : isK 0 r1) (S : Sx) (rv : Int32) (S' : Sx) (ho : o_X3_carryOutAll_0 r1 S) (he : b_X3_carryOutAll_0 r1 S = (rv, S')) : Jg p l e rm_X3_carryOutAll s m args below meth c 0 0 (MQ below (Qi D q ad d rv S' s.heap.size) args s 0 0 (AU ad s.heap.size)) D q ad d 5 0 [(0, .ref (ad 3)), (1, .ref (ad r1))] [] S := by
  unfold b_X3_carryOutAll_0 at he
  unfold o_X3_carryOutAll_0 at ho
  refine j_iconst (v := 0) X dX3_carryOutAll_0 (by decide) ?_
  refine j_istore_n X [(2, .int 0), (0, .ref (ad 3)), (1, .ref (ad r1))] dX3_carryOutAll_1 (by decide) rfl ?_
  refine j_iconst (v := 1) X dX3_carryOutAll_2 (by decide) ?_
  refine j_istore_n X [(3, .int 1), (2, .int 0), (0, .ref (ad 3)), (1, .ref (ad r1))] dX3_carryOutAll_3 (by decide) rfl ?_
  refine j_aload_n X 2 dX3_carryOutAll_4 rfl ?_
  refine j_iconst (v := 0) X dX3_carryOutAll_5 (by decide) ?_
  refine pf_23_4 X m_fl_X3_19 kc23 dX3_carryOutAll_6 ?_
  refine j_aload_n X 2 dX3_carryOutAll_9 rfl ?_
  refine j_iconst (v := 0) X dX3_carryOutAll_10 (by decide) ?_
  refine pf_23_3 X m_fl_X3_22 kc23 dX3_carryOutAll_11 ?_
  refine j_bipush (v := 60) X dX3_carryOutAll_14 (by decide) ?_
  refine j_istore X [(4, .int 60), (3, .int 1), (2, .int 0), (0, .ref (ad 3)), (1, .ref (ad r1))] dX3_carryOutAll_16 (by decide) rfl ?_
  refine j_lv [3, 4, 2, 1, 0] [(0, .ref (ad 3)), (1, .ref (ad r1)), (2, .int 0), (3, .int 1), (4, .int 60)] rfl ?_
  exact t_X3_carryOutAll_18 X hr hlocks 100 r1 hr1 0 1 60 (up2 (up2 S 3 4 0) 3 3 0) _ _ ho he
theorem c_X3_carryOutAll {l : Launch} {D : va_G} {q : Nat → ClassId} {ad : Nat → Nat} {d : UInt64} (hI : inj4 ad) (r1 : Nat) (hr1 : isK 0 r1) (S : Sx) (ho : o_X3_carryOutAll_0 r1 S) : CI l yX3_carryOutAll cX3_carryOutAll 5 .int rm_X3_carryOutAll D q ad d [.ref (ad 3), .ref (ad r1)] S (b_X3_carryOutAll_0 r1 S).1 (b_X3_carryOutAll_0 r1 S).2 := ci_of hI (by decide +kernel) (Nat.le_of_ble_eq_true rfl) rfl (fun p e s m args below meth c X hr hlocks => t_X3_carryOutAll_0 X hr hlocks r1 hr1 S _ _ ho (pe _))
end
/-! RX4.keep -/
abbrev rm_X4_keep : Room := { frames := 3, cells := 0, slots := 0, locals := 81 }
section
variable {p : Program} {l : Launch} {e : Env} {s : State} {m : MethodId} {args : Array Value} {below : List Frame} {meth : Method} {c : Code} {D : va_G} {q : Nat → ClassId} {ad : Nat → Nat} {d : UInt64}
def b_X4_keep_35 (w0 : Int32) (S : Sx) : Sx := up2 (up2 S 1 1 w0) 1 2 (if (((up2 S 1 1 w0) 1 2) + 1) < 8 then (((up2 S 1 1 w0) 1 2) + 1) else 8)
set_option maxRecDepth 20000 in
theorem t_X4_keep_35 (X : Cx p m c cX4_keep 2 s args RX4 D q ad) (hr : meth.sig.returnType = none) (hlocks : meth.locks = false) (w0 : Int32) (S : Sx) (S' : Sx) (he : b_X4_keep_35 w0 S = S') : Jg p l e rm_X4_keep s m args below meth c 0 0 (MQ below (Qv D q ad d S' s.heap.size) args s 0 0 (AU ad s.heap.size)) D q ad d 2 35 [(0, .ref (ad 1))] [.int w0, .ref (ad 1)] S := by
  unfold b_X4_keep_35 at he
  refine pf_21_1 X m_fl_X4_18 kc21 dX4_keep_35 ?_
  refine j_aload_n X 0 dX4_keep_38 rfl ?_
  refine j_bipush (v := 8) X dX4_keep_39 (by decide) ?_
  refine j_aload_n X 0 dX4_keep_41 rfl ?_
  refine gf_21_2 X m_fl_X4_26 kc21 dX4_keep_42 ?_
  refine j_iconst (v := 1) X dX4_keep_45 (by decide) ?_
  refine j_iadd X dX4_keep_46 ?_
  refine j_min X m_ml_X4_29 m_st_Math_min m_in_J9 m_co_Math_min (Nat.le_of_ble_eq_true rfl) (Nat.le_of_ble_eq_true rfl) ⟨Nat.le_of_ble_eq_true rfl, Nat.le_of_ble_eq_true rfl⟩ dX4_keep_47 ?_
  refine pf_21_2 X m_fl_X4_26 kc21 dX4_keep_50 ?_
  exact j_vret X hr hlocks dX4_keep_53 he
def b_X4_keep_13  (S : Sx) : Sx := if 8 ≤ ((S 1 1) + 1) then b_X4_keep_35 0 S else b_X4_keep_35 ((S 1 1) + 1) S
set_option maxRecDepth 20000 in
theorem t_X4_keep_13 (X : Cx p m c cX4_keep 2 s args RX4 D q ad) (hr : meth.sig.returnType = none) (hlocks : meth.locks = false) (S : Sx) (S' : Sx) (he : b_X4_keep_13 S = S') : Jg p l e rm_X4_keep s m args below meth c 0 0 (MQ below (Qv D q ad d S' s.heap.size) args s 0 0 (AU ad s.heap.size)) D q ad d 2 13 [(0, .ref (ad 1))] [] S := by
  unfold b_X4_keep_13 at he
  refine j_aload_n X 0 dX4_keep_13 rfl ?_
  refine j_aload_n X 0 dX4_keep_14 rfl ?_
  refine gf_21_1 X m_fl_X4_18 kc21 dX4_keep_15 ?_
  refine j_iconst (v := 1) X dX4_keep_18 (by decide) ?_
  refine j_iadd X dX4_keep_19 ?_
  refine j_bipush (v := 8) X dX4_keep_20 (by decide) ?_
  refine j_icmp_ge X 34 dX4_keep_22 (by decide) (fun h2 => ?_) (fun h2 => ?_)
  · rw [if_pos h2] at he
    refine j_iconst (v := 0) X dX4_keep_34 (by decide) ?_
    exact t_X4_keep_35 X hr hlocks 0 S _ he
  · rw [if_neg h2] at he
    refine j_aload_n X 0 dX4_keep_25 rfl ?_
    refine gf_21_1 X m_fl_X4_18 kc21 dX4_keep_26 ?_
    refine j_iconst (v := 1) X dX4_keep_29 (by decide) ?_
    refine j_iadd X dX4_keep_30 ?_
    refine j_goto X 35 dX4_keep_31 (by decide) ?_
    exact t_X4_keep_35 X hr hlocks ((S 1 1) + 1) S _ he
def b_X4_keep_0 (r1 : Nat) (S : Sx) : Sx := b_X4_keep_13 (b_X0_become_0 (135 + 40 * (S 1 1).toNatClampNeg) r1 S)
def o_X4_keep_0 (r1 : Nat) (S : Sx) : Prop := vp_in (S 1 1) 8 ∧ (o_X0_become_0 (135 + 40 * (S 1 1).toNatClampNeg) r1 S ∧ True)
set_option maxRecDepth 20000 in
theorem t_X4_keep_0 (X : Cx p m c cX4_keep 2 s args RX4 D q ad) (hr : meth.sig.returnType = none) (hlocks : meth.locks = false) (r1 : Nat) (hr1 : isK 0 r1) (S : Sx) (S' : Sx) (ho : o_X4_keep_0 r1 S) (he : b_X4_keep_0 r1 S = S') : Jg p l e rm_X4_keep s m args below meth c 0 0 (MQ below (Qv D q ad d S' s.heap.size) args s 0 0 (AU ad s.heap.size)) D q ad d 2 0 [(0, .ref (ad 1)), (1, .ref (ad r1))] [] S := by
  unfold b_X4_keep_0 at he
  unfold o_X4_keep_0 at ho
  refine j_aload_n X 0 dX4_keep_0 rfl ?_
  refine gf_21_0 X m_fl_X4_11 kc21 dX4_keep_1 ?_
  refine j_aload_n X 0 dX4_keep_4 rfl ?_
  refine gf_21_1 X m_fl_X4_18 kc21 dX4_keep_5 ?_
  have h2 := ho.1
  have ho := ho.2
  refine j_aald (a := ad (135 + 40 * (S 1 1).toNatClampNeg)) X 4 kc22.1 (cl_22 kc22) rfl h2 rfl dX4_keep_8 ?_
  have hk3 : isK 0 (135 + 40 * (S 1 1).toNatClampNeg) := kg (vlt h2)
  refine j_aload_n X 1 dX4_keep_9 rfl ?_
  have h4 := ho.1
  have ho := ho.2
  refine j_callVv (rest := []) X (c_X0_become (cx_inj X) (135 + 40 * (S 1 1).toNatClampNeg) hk3 r1 hr1 S h4) cw_X4_22 hk3.1 (cl_0 hk3) rfl ⟨rfl, rfl, Nat.le_of_ble_eq_true rfl, Nat.le_of_ble_eq_true rfl⟩ rfl rfl (Nat.le_of_ble_eq_true rfl) ⟨Nat.le_of_ble_eq_true rfl, Nat.le_of_ble_eq_true rfl⟩ dX4_keep_10 ?_
  refine j_lv [0] [(0, .ref (ad 1))] rfl ?_
  exact t_X4_keep_13 X hr hlocks (b_X0_become_0 (135 + 40 * (S 1 1).toNatClampNeg) r1 S) _ he
theorem c_X4_keep {l : Launch} {D : va_G} {q : Nat → ClassId} {ad : Nat → Nat} {d : UInt64} (hI : inj4 ad) (r1 : Nat) (hr1 : isK 0 r1) (S : Sx) (ho : o_X4_keep_0 r1 S) : CV l yX4_keep cX4_keep 2 rm_X4_keep D q ad d [.ref (ad 1), .ref (ad r1)] S (b_X4_keep_0 r1 S) := cv_of hI (by decide +kernel) (Nat.le_of_ble_eq_true rfl) rfl (fun p e s m args below meth c X hr hlocks => t_X4_keep_0 X hr hlocks r1 hr1 S _ ho rfl)
end
/-! RX4.giveBack -/
abbrev rm_X4_giveBack : Room := { frames := 3, cells := 0, slots := 0, locals := 81 }
section
variable {p : Program} {l : Launch} {e : Env} {s : State} {m : MethodId} {args : Array Value} {below : List Frame} {meth : Method} {c : Code} {D : va_G} {q : Nat → ClassId} {ad : Nat → Nat} {d : UInt64}
def b_X4_giveBack_35  (S : Sx) : Sx := up2 S 1 2 ((S 1 2) - 1)
set_option maxRecDepth 20000 in
theorem t_X4_giveBack_35 (X : Cx p m c cX4_giveBack 2 s args RX4 D q ad) (hr : meth.sig.returnType = none) (hlocks : meth.locks = false) (S : Sx) (S' : Sx) (he : b_X4_giveBack_35 S = S') : Jg p l e rm_X4_giveBack s m args below meth c 0 0 (MQ below (Qv D q ad d S' s.heap.size) args s 0 0 (AU ad s.heap.size)) D q ad d 2 35 [(0, .ref (ad 1))] [] S := by
  unfold b_X4_giveBack_35 at he
  refine j_aload_n X 0 dX4_giveBack_35 rfl ?_
  refine j_dup X dX4_giveBack_36 rfl ?_
  refine gf_21_2 X m_fl_X4_26 kc21 dX4_giveBack_37 ?_
  refine j_iconst (v := 1) X dX4_giveBack_40 (by decide) ?_
  refine j_isub X dX4_giveBack_41 ?_
  refine pf_21_2 X m_fl_X4_26 kc21 dX4_giveBack_42 ?_
  exact j_vret X hr hlocks dX4_giveBack_45 he
def b_X4_giveBack_19 (j1 : Nat) (w0 : Int32) (S : Sx) : Sx := b_X4_giveBack_35 (b_X0_become_0 j1 (135 + 40 * ((up2 S 1 1 w0) 1 1).toNatClampNeg) (up2 S 1 1 w0))
def o_X4_giveBack_19 (j1 : Nat) (w0 : Int32) (S : Sx) : Prop := vp_in ((up2 S 1 1 w0) 1 1) 8 ∧ (o_X0_become_0 j1 (135 + 40 * ((up2 S 1 1 w0) 1 1).toNatClampNeg) (up2 S 1 1 w0) ∧ True)
set_option maxRecDepth 20000 in
theorem t_X4_giveBack_19 (X : Cx p m c cX4_giveBack 2 s args RX4 D q ad) (hr : meth.sig.returnType = none) (hlocks : meth.locks = false) (j1 : Nat) (hj1 : isK 0 j1) (w0 : Int32) (S : Sx) (S' : Sx) (ho : o_X4_giveBack_19 j1 w0 S) (he : b_X4_giveBack_19 j1 w0 S = S') : Jg p l e rm_X4_giveBack s m args below meth c 0 0 (MQ below (Qv D q ad d S' s.heap.size) args s 0 0 (AU ad s.heap.size)) D q ad d 2 19 [(0, .ref (ad 1)), (1, .ref (ad j1))] [.int w0, .ref (ad 1)] S := by
  unfold b_X4_giveBack_19 at he
  unfold o_X4_giveBack_19 at ho
  refine pf_21_1 X m_fl_X4_18 kc21 dX4_giveBack_19 ?_
  refine j_aload_n X 1 dX4_giveBack_22 rfl ?_
  refine j_aload_n X 0 dX4_giveBack_23 rfl ?_
  refine gf_21_0 X m_fl_X4_11 kc21 dX4_giveBack_24 ?_
  refine j_aload_n X 0 dX4_giveBack_27 rfl ?_
  refine gf_21_1 X m_fl_X4_18 kc21 dX4_giveBack_28 ?_
  have h2 := ho.1
  have ho := ho.2
  refine j_aald (a := ad (135 + 40 * ((up2 S 1 1 w0) 1 1).toNatClampNeg)) X 4 kc22.1 (cl_22 kc22) rfl h2 rfl dX4_giveBack_31 ?_
  have hk3 : isK 0 (135 + 40 * ((up2 S 1 1 w0) 1 1).toNatClampNeg) := kg (vlt h2)
  have h4 := ho.1
  have ho := ho.2
  refine j_callVv (rest := []) X (c_X0_become (cx_inj X) j1 hj1 (135 + 40 * ((up2 S 1 1 w0) 1 1).toNatClampNeg) hk3 (up2 S 1 1 w0) h4) cw_X4_22 hj1.1 (cl_0 hj1) rfl ⟨rfl, rfl, Nat.le_of_ble_eq_true rfl, Nat.le_of_ble_eq_true rfl⟩ rfl rfl (Nat.le_of_ble_eq_true rfl) ⟨Nat.le_of_ble_eq_true rfl, Nat.le_of_ble_eq_true rfl⟩ dX4_giveBack_32 ?_
  refine j_lv [0] [(0, .ref (ad 1))] rfl ?_
  exact t_X4_giveBack_35 X hr hlocks (b_X0_become_0 j1 (135 + 40 * ((up2 S 1 1 w0) 1 1).toNatClampNeg) (up2 S 1 1 w0)) _ he
def b_X4_giveBack_0 (r1 : Nat) (S : Sx) : Sx := if (S 1 1) ≤ 0 then b_X4_giveBack_19 r1 7 S else b_X4_giveBack_19 r1 ((S 1 1) - 1) S
def o_X4_giveBack_0 (r1 : Nat) (S : Sx) : Prop := ((S 1 1) ≤ 0 → (o_X4_giveBack_19 r1 7 S)) ∧ (¬ (S 1 1) ≤ 0 → (o_X4_giveBack_19 r1 ((S 1 1) - 1) S))
set_option maxRecDepth 20000 in
theorem t_X4_giveBack_0 (X : Cx p m c cX4_giveBack 2 s args RX4 D q ad) (hr : meth.sig.returnType = none) (hlocks : meth.locks = false) (r1 : Nat) (hr1 : isK 0 r1) (S : Sx) (S' : Sx) (ho : o_X4_giveBack_0 r1 S) (he : b_X4_giveBack_0 r1 S = S') : Jg p l e rm_X4_giveBack s m args below meth c 0 0 (MQ below (Qv D q ad d S' s.heap.size) args s 0 0 (AU ad s.heap.size)) D q ad d 2 0 [(0, .ref (ad 1)), (1, .ref (ad r1))] [] S := by
  unfold b_X4_giveBack_0 at he
  unfold o_X4_giveBack_0 at ho
  refine j_aload_n X 0 dX4_giveBack_0 rfl ?_
  refine j_aload_n X 0 dX4_giveBack_1 rfl ?_
  refine gf_21_1 X m_fl_X4_18 kc21 dX4_giveBack_2 ?_
  refine j_if_le X 17 dX4_giveBack_5 (by decide) (fun h2 => ?_) (fun h2 => ?_)
  · rw [if_pos h2] at he
    have ho := ho.1 h2
    refine j_bipush (v := 7) X dX4_giveBack_17 (by decide) ?_
    exact t_X4_giveBack_19 X hr hlocks r1 hr1 7 S _ ho he
  · rw [if_neg h2] at he
    have ho := ho.2 h2
    refine j_aload_n X 0 dX4_giveBack_8 rfl ?_
    refine gf_21_1 X m_fl_X4_18 kc21 dX4_giveBack_9 ?_
    refine j_iconst (v := 1) X dX4_giveBack_12 (by decide) ?_
    refine j_isub X dX4_giveBack_13 ?_
    refine j_goto X 19 dX4_giveBack_14 (by decide) ?_
    exact t_X4_giveBack_19 X hr hlocks r1 hr1 ((S 1 1) - 1) S _ ho he
theorem c_X4_giveBack {l : Launch} {D : va_G} {q : Nat → ClassId} {ad : Nat → Nat} {d : UInt64} (hI : inj4 ad) (r1 : Nat) (hr1 : isK 0 r1) (S : Sx) (ho : o_X4_giveBack_0 r1 S) : CV l yX4_giveBack cX4_giveBack 2 rm_X4_giveBack D q ad d [.ref (ad 1), .ref (ad r1)] S (b_X4_giveBack_0 r1 S) := cv_of hI (by decide +kernel) (Nat.le_of_ble_eq_true rfl) rfl (fun p e s m args below meth c X hr hlocks => t_X4_giveBack_0 X hr hlocks r1 hr1 S _ ho rfl)
end
/-! RX6.hourVerdict -/
abbrev rm_X6_hourVerdict : Room := { frames := 1, cells := 0, slots := 0, locals := 21 }
section
variable {p : Program} {l : Launch} {e : Env} {s : State} {m : MethodId} {args : Array Value} {below : List Frame} {meth : Method} {c : Code} {D : va_G} {q : Nat → ClassId} {ad : Nat → Nat} {d : UInt64}
def b_X6_hourVerdict_0 (x0 : Int32) (S : Sx) : Int32 := b_X6_numberVerdict_0 x0 24 S
set_option maxRecDepth 20000 in
theorem t_X6_hourVerdict_0 (X : Cx p m c cX6_hourVerdict 1 s args RX6 D q ad) (hr : meth.sig.returnType = some .int) (hlocks : meth.locks = false) (x0 : Int32) (S : Sx) (rv : Int32) (he : b_X6_hourVerdict_0 x0 S = rv) : Jg p l e rm_X6_hourVerdict s m args below meth c 0 0 (MQ below (Qi D q ad d rv S s.heap.size) args s 0 0 (AU ad s.heap.size)) D q ad d 1 0 [(0, .int x0)] [] S := by
  unfold b_X6_hourVerdict_0 at he
  refine j_iload_n X 0 dX6_hourVerdict_0 rfl ?_
  refine j_bipush (v := 24) X dX6_hourVerdict_1 (by decide) ?_
  refine j_callSi (rest := []) X (c_X6_numberVerdict (cx_inj X) x0 24 S) cw_X6_371 ⟨rfl, rfl, Nat.le_of_ble_eq_true rfl, Nat.le_of_ble_eq_true rfl⟩ rfl rfl (Nat.le_of_ble_eq_true rfl) ⟨Nat.le_of_ble_eq_true rfl, Nat.le_of_ble_eq_true rfl⟩ dX6_hourVerdict_3 ?_
  exact j_iret X hr hlocks dX6_hourVerdict_6 he rfl
theorem c_X6_hourVerdict {l : Launch} {D : va_G} {q : Nat → ClassId} {ad : Nat → Nat} {d : UInt64} (hI : inj4 ad) (x0 : Int32) (S : Sx) : CI l yX6_hourVerdict cX6_hourVerdict 1 .int rm_X6_hourVerdict D q ad d [.int x0] S (b_X6_hourVerdict_0 x0 S) S := ci_of hI (by decide +kernel) (Nat.le_of_ble_eq_true rfl) rfl (fun p e s m args below meth c X hr hlocks => t_X6_hourVerdict_0 X hr hlocks x0 S _ rfl)
end
/-! RX6.weatherVerdict -/
abbrev rm_X6_weatherVerdict : Room := { frames := 2, cells := 0, slots := 0, locals := 41 }
section
variable {p : Program} {l : Launch} {e : Env} {s : State} {m : MethodId} {args : Array Value} {below : List Frame} {meth : Method} {c : Code} {D : va_G} {q : Nat → ClassId} {ad : Nat → Nat} {d : UInt64}
def b_X6_weatherVerdict_20 (w0 : Int32) (S : Sx) : Int32 := w0
set_option maxRecDepth 20000 in
theorem t_X6_weatherVerdict_20 (X : Cx p m c cX6_weatherVerdict 3 s args RX6 D q ad) (hr : meth.sig.returnType = some .int) (hlocks : meth.locks = false) (w0 : Int32) (S : Sx) (rv : Int32) (he : b_X6_weatherVerdict_20 w0 S = rv) : Jg p l e rm_X6_weatherVerdict s m args below meth c 0 0 (MQ below (Qi D q ad d rv S s.heap.size) args s 0 0 (AU ad s.heap.size)) D q ad d 3 20 [] [.int w0] S := by
  unfold b_X6_weatherVerdict_20 at he
  exact j_iret X hr hlocks dX6_weatherVerdict_20 he rfl
def b_X6_weatherVerdict_0 (x0 : Int32) (x1 : Int32) (S : Sx) : Int32 := if (b_X6_hourVerdict_0 x0 S) = 0 then b_X6_weatherVerdict_20 (b_X6_rangeVerdict_0 x1 0 9 S) S else b_X6_weatherVerdict_20 (b_X6_hourVerdict_0 x0 S) S
set_option maxRecDepth 20000 in
theorem t_X6_weatherVerdict_0 (X : Cx p m c cX6_weatherVerdict 3 s args RX6 D q ad) (hr : meth.sig.returnType = some .int) (hlocks : meth.locks = false) (x0 : Int32) (x1 : Int32) (S : Sx) (rv : Int32) (he : b_X6_weatherVerdict_0 x0 x1 S = rv) : Jg p l e rm_X6_weatherVerdict s m args below meth c 0 0 (MQ below (Qi D q ad d rv S s.heap.size) args s 0 0 (AU ad s.heap.size)) D q ad d 3 0 [(0, .int x0), (1, .int x1)] [] S := by
  unfold b_X6_weatherVerdict_0 at he
  refine j_iload_n X 0 dX6_weatherVerdict_0 rfl ?_
  refine j_callSi (rest := []) X (c_X6_hourVerdict (cx_inj X) x0 S) cw_X6_62 ⟨rfl, rfl, Nat.le_of_ble_eq_true rfl, Nat.le_of_ble_eq_true rfl⟩ rfl rfl (Nat.le_of_ble_eq_true rfl) ⟨Nat.le_of_ble_eq_true rfl, Nat.le_of_ble_eq_true rfl⟩ dX6_weatherVerdict_1 ?_
  refine j_istore_n X [(2, .int (b_X6_hourVerdict_0 x0 S)), (0, .int x0), (1, .int x1)] dX6_weatherVerdict_4 (by decide) rfl ?_
  refine j_iload_n X 0 dX6_weatherVerdict_5 rfl ?_
  refine j_if_ne X 19 dX6_weatherVerdict_6 (by decide) (fun h2 => ?_) (fun h2 => ?_)
  · rw [if_neg h2] at he
    refine j_iload_n X 0 dX6_weatherVerdict_19 rfl ?_
    refine j_lv [] [] rfl ?_
    exact t_X6_weatherVerdict_20 X hr hlocks (b_X6_hourVerdict_0 x0 S) S _ he
  · rw [if_pos h2] at he
    refine j_iload_n X 2 dX6_weatherVerdict_9 rfl ?_
    refine j_iconst (v := 0) X dX6_weatherVerdict_10 (by decide) ?_
    refine j_bipush (v := 9) X dX6_weatherVerdict_11 (by decide) ?_
    refine j_callSi (rest := []) X (c_X6_rangeVerdict (cx_inj X) x1 0 9 S) cw_X6_120 ⟨rfl, rfl, Nat.le_of_ble_eq_true rfl, Nat.le_of_ble_eq_true rfl⟩ rfl rfl (Nat.le_of_ble_eq_true rfl) ⟨Nat.le_of_ble_eq_true rfl, Nat.le_of_ble_eq_true rfl⟩ dX6_weatherVerdict_13 ?_
    refine j_goto X 20 dX6_weatherVerdict_16 (by decide) ?_
    refine j_lv [] [] rfl ?_
    exact t_X6_weatherVerdict_20 X hr hlocks (b_X6_rangeVerdict_0 x1 0 9 S) S _ he
theorem c_X6_weatherVerdict {l : Launch} {D : va_G} {q : Nat → ClassId} {ad : Nat → Nat} {d : UInt64} (hI : inj4 ad) (x0 : Int32) (x1 : Int32) (S : Sx) : CI l yX6_weatherVerdict cX6_weatherVerdict 3 .int rm_X6_weatherVerdict D q ad d [.int x0, .int x1] S (b_X6_weatherVerdict_0 x0 x1 S) S := ci_of hI (by decide +kernel) (Nat.le_of_ble_eq_true rfl) rfl (fun p e s m args below meth c X hr hlocks => t_X6_weatherVerdict_0 X hr hlocks x0 x1 S _ rfl)
end
/-! RX6.exchange -/
abbrev rm_X6_exchange : Room := { frames := 0, cells := 0, slots := 0, locals := 0 }
section
variable {p : Program} {l : Launch} {e : Env} {s : State} {m : MethodId} {args : Array Value} {below : List Frame} {meth : Method} {c : Code} {D : va_G} {q : Nat → ClassId} {ad : Nat → Nat} {d : UInt64}
def b_X6_exchange_0 (r0 : Nat) (x1 : Int32) (x2 : Int32) (S : Sx) : Int32 × Sx := (S r0 x1.toNatClampNeg, up2 S r0 x1.toNatClampNeg x2)
def o_X6_exchange_0 (r0 : Nat) (x1 : Int32) (x2 : Int32) (S : Sx) : Prop := vp_in x1 (alen r0) ∧ (vp_in x1 (alen r0) ∧ True)
set_option maxRecDepth 20000 in
theorem t_X6_exchange_0 (X : Cx p m c cX6_exchange 4 s args RX6 D q ad) (hr : meth.sig.returnType = some .int) (hlocks : meth.locks = false) (r0 : Nat) (hr0 : isA r0) (x1 : Int32) (x2 : Int32) (S : Sx) (rv : Int32) (S' : Sx) (ho : o_X6_exchange_0 r0 x1 x2 S) (he : b_X6_exchange_0 r0 x1 x2 S = (rv, S')) : Jg p l e rm_X6_exchange s m args below meth c 0 0 (MQ below (Qi D q ad d rv S' s.heap.size) args s 0 0 (AU ad s.heap.size)) D q ad d 4 0 [(0, .ref (ad r0)), (1, .int x1), (2, .int x2)] [] S := by
  unfold b_X6_exchange_0 at he
  unfold o_X6_exchange_0 at ho
  refine j_aload_n X 0 dX6_exchange_0 rfl ?_
  refine j_iload_n X 1 dX6_exchange_1 rfl ?_
  have h2 := ho.1
  have ho := ho.2
  refine j_iald X hr0.1 (ca hr0 _) h2 dX6_exchange_2 ?_
  refine j_istore_n X [(3, .int (S r0 x1.toNatClampNeg)), (0, .ref (ad r0)), (1, .int x1), (2, .int x2)] dX6_exchange_3 (by decide) rfl ?_
  refine j_aload_n X 1 dX6_exchange_4 rfl ?_
  refine j_iload_n X 2 dX6_exchange_5 rfl ?_
  refine j_iload_n X 3 dX6_exchange_6 rfl ?_
  have h3 := ho.1
  have ho := ho.2
  refine j_iast X hr0.1 (fun T => ca hr0 _) h3 dX6_exchange_7 ?_
  refine j_iload_n X 0 dX6_exchange_8 rfl ?_
  exact j_iret X hr hlocks dX6_exchange_9 (congrArg Prod.fst he) (congrArg Prod.snd he)
theorem c_X6_exchange {l : Launch} {D : va_G} {q : Nat → ClassId} {ad : Nat → Nat} {d : UInt64} (hI : inj4 ad) (r0 : Nat) (hr0 : isA r0) (x1 : Int32) (x2 : Int32) (S : Sx) (ho : o_X6_exchange_0 r0 x1 x2 S) : CI l yX6_exchange cX6_exchange 4 .int rm_X6_exchange D q ad d [.ref (ad r0), .int x1, .int x2] S (b_X6_exchange_0 r0 x1 x2 S).1 (b_X6_exchange_0 r0 x1 x2 S).2 := ci_of hI (by decide +kernel) (Nat.le_of_ble_eq_true rfl) rfl (fun p e s m args below meth c X hr hlocks => t_X6_exchange_0 X hr hlocks r0 hr0 x1 x2 S _ _ ho (pe _))
end
/-! RX6.errorPosition -/
abbrev rm_X6_errorPosition : Room := { frames := 0, cells := 0, slots := 0, locals := 0 }
section
variable {p : Program} {l : Launch} {e : Env} {s : State} {m : MethodId} {args : Array Value} {below : List Frame} {meth : Method} {c : Code} {D : va_G} {q : Nat → ClassId} {ad : Nat → Nat} {d : UInt64}
def b_X6_errorPosition_0  (S : Sx) : Int32 := S 3 2
set_option maxRecDepth 20000 in
theorem t_X6_errorPosition_0 (X : Cx p m c cX6_errorPosition 1 s args RX6 D q ad) (hr : meth.sig.returnType = some .int) (hlocks : meth.locks = false) (S : Sx) (rv : Int32) (he : b_X6_errorPosition_0 S = rv) : Jg p l e rm_X6_errorPosition s m args below meth c 0 0 (MQ below (Qi D q ad d rv S s.heap.size) args s 0 0 (AU ad s.heap.size)) D q ad d 1 0 [(0, .ref (ad 0))] [] S := by
  unfold b_X6_errorPosition_0 at he
  refine j_aload_n X 0 dX6_errorPosition_0 rfl ?_
  refine gf_20_5 X m_fl_X6_32 kc20 dX6_errorPosition_1 ?_
  refine gf_23_2 X m_fl_X6_298 kc23 dX6_errorPosition_4 ?_
  exact j_iret X hr hlocks dX6_errorPosition_7 he rfl
theorem c_X6_errorPosition {l : Launch} {D : va_G} {q : Nat → ClassId} {ad : Nat → Nat} {d : UInt64} (hI : inj4 ad) (S : Sx) : CI l yX6_errorPosition cX6_errorPosition 1 .int rm_X6_errorPosition D q ad d [.ref (ad 0)] S (b_X6_errorPosition_0 S) S := ci_of hI (by decide +kernel) (Nat.le_of_ble_eq_true rfl) rfl (fun p e s m args below meth c X hr hlocks => t_X6_errorPosition_0 X hr hlocks S _ rfl)
end
/-! RX6.isWell -/
abbrev rm_X6_isWell : Room := { frames := 3, cells := 0, slots := 0, locals := 64 }
section
variable {p : Program} {l : Launch} {e : Env} {s : State} {m : MethodId} {args : Array Value} {below : List Frame} {meth : Method} {c : Code} {D : va_G} {q : Nat → ClassId} {ad : Nat → Nat} {d : UInt64}
def b_X6_isWell_25 (w0 : Int32) (S : Sx) : Int32 := w0
def o_X6_isWell_25 (w0 : Int32) (S : Sx) : Prop := bz w0 ∧ True
set_option maxRecDepth 20000 in
theorem t_X6_isWell_25 (X : Cx p m c cX6_isWell 1 s args RX6 D q ad) (hr : meth.sig.returnType = some .boolean) (hlocks : meth.locks = false) (w0 : Int32) (S : Sx) (rv : Int32) (ho : o_X6_isWell_25 w0 S) (he : b_X6_isWell_25 w0 S = rv) : Jg p l e rm_X6_isWell s m args below meth c 0 0 (MQ below (Qi D q ad d rv S s.heap.size) args s 0 0 (AU ad s.heap.size)) D q ad d 1 25 [] [.int w0] S := by
  unfold b_X6_isWell_25 at he
  unfold o_X6_isWell_25 at ho
  have h2 := ho.1
  have ho := ho.2
  exact j_zret X hr hlocks (bz_narrow h2) dX6_isWell_25 he rfl
def b_X6_isWell_24  (S : Sx) : Int32 := b_X6_isWell_25 0 S
def o_X6_isWell_24  (S : Sx) : Prop := o_X6_isWell_25 0 S
set_option maxRecDepth 20000 in
theorem t_X6_isWell_24 (X : Cx p m c cX6_isWell 1 s args RX6 D q ad) (hr : meth.sig.returnType = some .boolean) (hlocks : meth.locks = false) (S : Sx) (rv : Int32) (ho : o_X6_isWell_24 S) (he : b_X6_isWell_24 S = rv) : Jg p l e rm_X6_isWell s m args below meth c 0 0 (MQ below (Qi D q ad d rv S s.heap.size) args s 0 0 (AU ad s.heap.size)) D q ad d 1 24 [] [] S := by
  unfold b_X6_isWell_24 at he
  unfold o_X6_isWell_24 at ho
  refine j_iconst (v := 0) X dX6_isWell_24 (by decide) ?_
  exact t_X6_isWell_25 X hr hlocks 0 S _ ho he
def b_X6_isWell_0  (S : Sx) : Int32 := if (b_X0_areInningsWell_0 15 S) = 0 then b_X6_isWell_24 S else if (b_X0_arePitchesWell_0 15 S) = 0 then b_X6_isWell_24 S else b_X6_isWell_25 1 S
def o_X6_isWell_0  (S : Sx) : Prop := o_X0_areInningsWell_0 15 S ∧ (((b_X0_areInningsWell_0 15 S) = 0 → (o_X6_isWell_24 S)) ∧ (¬ (b_X0_areInningsWell_0 15 S) = 0 → (o_X0_arePitchesWell_0 15 S ∧ (((b_X0_arePitchesWell_0 15 S) = 0 → (o_X6_isWell_24 S)) ∧ (¬ (b_X0_arePitchesWell_0 15 S) = 0 → (o_X6_isWell_25 1 S))))))
set_option maxRecDepth 20000 in
theorem t_X6_isWell_0 (X : Cx p m c cX6_isWell 1 s args RX6 D q ad) (hr : meth.sig.returnType = some .boolean) (hlocks : meth.locks = false) (S : Sx) (rv : Int32) (ho : o_X6_isWell_0 S) (he : b_X6_isWell_0 S = rv) : Jg p l e rm_X6_isWell s m args below meth c 0 0 (MQ below (Qi D q ad d rv S s.heap.size) args s 0 0 (AU ad s.heap.size)) D q ad d 1 0 [(0, .ref (ad 0))] [] S := by
  unfold b_X6_isWell_0 at he
  unfold o_X6_isWell_0 at ho
  refine j_aload_n X 0 dX6_isWell_0 rfl ?_
  refine gf_20_0 X m_fl_X6_10 kc20 dX6_isWell_1 ?_
  have h2 := ho.1
  have ho := ho.2
  refine j_callVi (rest := []) X (c_X0_areInningsWell (cx_inj X) 15 kg0 S h2) cw_X6_333 kg0.1 (cl_0 kg0) rfl ⟨rfl, rfl, Nat.le_of_ble_eq_true rfl, Nat.le_of_ble_eq_true rfl⟩ rfl rfl (Nat.le_of_ble_eq_true rfl) ⟨Nat.le_of_ble_eq_true rfl, Nat.le_of_ble_eq_true rfl⟩ dX6_isWell_4 ?_
  refine j_if_eq X 24 dX6_isWell_7 (by decide) (fun h3 => ?_) (fun h3 => ?_)
  · rw [if_pos h3] at he
    have ho := ho.1 h3
    refine j_lv [] [] rfl ?_
    exact t_X6_isWell_24 X hr hlocks S _ ho he
  · rw [if_neg h3] at he
    have ho := ho.2 h3
    refine j_aload_n X 0 dX6_isWell_10 rfl ?_
    refine gf_20_0 X m_fl_X6_10 kc20 dX6_isWell_11 ?_
    have h4 := ho.1
    have ho := ho.2
    refine j_callVi (rest := []) X (c_X0_arePitchesWell (cx_inj X) 15 kg0 S h4) cw_X6_336 kg0.1 (cl_0 kg0) rfl ⟨rfl, rfl, Nat.le_of_ble_eq_true rfl, Nat.le_of_ble_eq_true rfl⟩ rfl rfl (Nat.le_of_ble_eq_true rfl) ⟨Nat.le_of_ble_eq_true rfl, Nat.le_of_ble_eq_true rfl⟩ dX6_isWell_14 ?_
    refine j_if_eq X 24 dX6_isWell_17 (by decide) (fun h5 => ?_) (fun h5 => ?_)
    · rw [if_pos h5] at he
      have ho := ho.1 h5
      refine j_lv [] [] rfl ?_
      exact t_X6_isWell_24 X hr hlocks S _ ho he
    · rw [if_neg h5] at he
      have ho := ho.2 h5
      refine j_iconst (v := 1) X dX6_isWell_20 (by decide) ?_
      refine j_goto X 25 dX6_isWell_21 (by decide) ?_
      refine j_lv [] [] rfl ?_
      exact t_X6_isWell_25 X hr hlocks 1 S _ ho he
theorem c_X6_isWell {l : Launch} {D : va_G} {q : Nat → ClassId} {ad : Nat → Nat} {d : UInt64} (hI : inj4 ad) (S : Sx) (ho : o_X6_isWell_0 S) : CI l yX6_isWell cX6_isWell 1 .boolean rm_X6_isWell D q ad d [.ref (ad 0)] S (b_X6_isWell_0 S) S := ci_of hI (by decide +kernel) (Nat.le_of_ble_eq_true rfl) rfl (fun p e s m args below meth c X hr hlocks => t_X6_isWell_0 X hr hlocks S _ ho rfl)
end
/-! RX6.save -/
abbrev rm_X6_save : Room := { frames := 3, cells := 0, slots := 0, locals := 81 }
section
variable {p : Program} {l : Launch} {e : Env} {s : State} {m : MethodId} {args : Array Value} {below : List Frame} {meth : Method} {c : Code} {D : va_G} {q : Nat → ClassId} {ad : Nat → Nat} {d : UInt64}
def b_X6_save_0  (S : Sx) : Int32 × Sx := ((up2 (b_X0_become_0 95 15 S) 0 3 1) 15 0, up2 (b_X0_become_0 95 15 S) 0 3 1)
def o_X6_save_0  (S : Sx) : Prop := o_X0_become_0 95 15 S ∧ True
set_option maxRecDepth 20000 in
theorem t_X6_save_0 (X : Cx p m c cX6_save 1 s args RX6 D q ad) (hr : meth.sig.returnType = some .int) (hlocks : meth.locks = false) (S : Sx) (rv : Int32) (S' : Sx) (ho : o_X6_save_0 S) (he : b_X6_save_0 S = (rv, S')) : Jg p l e rm_X6_save s m args below meth c 0 0 (MQ below (Qi D q ad d rv S' s.heap.size) args s 0 0 (AU ad s.heap.size)) D q ad d 1 0 [(0, .ref (ad 0))] [] S := by
  unfold b_X6_save_0 at he
  unfold o_X6_save_0 at ho
  refine j_aload_n X 0 dX6_save_0 rfl ?_
  refine gf_20_2 X m_fl_X6_19 kc20 dX6_save_1 ?_
  refine j_aload_n X 0 dX6_save_4 rfl ?_
  refine gf_20_0 X m_fl_X6_10 kc20 dX6_save_5 ?_
  have h2 := ho.1
  have ho := ho.2
  refine j_callVv (rest := []) X (c_X0_become (cx_inj X) 95 kg2 15 kg0 S h2) cw_X6_199 kg2.1 (cl_0 kg2) rfl ⟨rfl, rfl, Nat.le_of_ble_eq_true rfl, Nat.le_of_ble_eq_true rfl⟩ rfl rfl (Nat.le_of_ble_eq_true rfl) ⟨Nat.le_of_ble_eq_true rfl, Nat.le_of_ble_eq_true rfl⟩ dX6_save_8 ?_
  refine j_aload_n X 0 dX6_save_11 rfl ?_
  refine j_iconst (v := 1) X dX6_save_12 (by decide) ?_
  refine pf_20_3 X bz_1 m_fl_X6_351 kc20 dX6_save_13 ?_
  refine j_aload_n X 0 dX6_save_16 rfl ?_
  refine gf_20_0 X m_fl_X6_10 kc20 dX6_save_17 ?_
  refine gf_0_0 X m_fl_X6_303 kg0 dX6_save_20 ?_
  exact j_iret X hr hlocks dX6_save_23 (congrArg Prod.fst he) (congrArg Prod.snd he)
theorem c_X6_save {l : Launch} {D : va_G} {q : Nat → ClassId} {ad : Nat → Nat} {d : UInt64} (hI : inj4 ad) (S : Sx) (ho : o_X6_save_0 S) : CI l yX6_save cX6_save 1 .int rm_X6_save D q ad d [.ref (ad 0)] S (b_X6_save_0 S).1 (b_X6_save_0 S).2 := ci_of hI (by decide +kernel) (Nat.le_of_ble_eq_true rfl) rfl (fun p e s m args below meth c X hr hlocks => t_X6_save_0 X hr hlocks S _ _ ho (pe _))
end
/-! RX7.thrown -/
abbrev rm_X7_thrown : Room := { frames := 0, cells := 0, slots := 0, locals := 0 }
section
variable {p : Program} {l : Launch} {e : Env} {s : State} {m : MethodId} {args : Array Value} {below : List Frame} {meth : Method} {c : Code} {D : va_G} {q : Nat → ClassId} {ad : Nat → Nat} {d : UInt64}
def b_X7_thrown_0  (S : Sx) : Int32 := S 5 8
set_option maxRecDepth 20000 in
theorem t_X7_thrown_0 (X : Cx p m c cX7_thrown 1 s args RX7 D q ad) (hr : meth.sig.returnType = some .int) (hlocks : meth.locks = false) (S : Sx) (rv : Int32) (he : b_X7_thrown_0 S = rv) : Jg p l e rm_X7_thrown s m args below meth c 0 0 (MQ below (Qi D q ad d rv S s.heap.size) args s 0 0 (AU ad s.heap.size)) D q ad d 1 0 [(0, .ref (ad 5))] [] S := by
  unfold b_X7_thrown_0 at he
  refine j_aload_n X 0 dX7_thrown_0 rfl ?_
  refine gf_25_8 X m_fl_X7_35 kc25 dX7_thrown_1 ?_
  exact j_iret X hr hlocks dX7_thrown_4 he rfl
theorem c_X7_thrown {l : Launch} {D : va_G} {q : Nat → ClassId} {ad : Nat → Nat} {d : UInt64} (hI : inj4 ad) (S : Sx) : CI l yX7_thrown cX7_thrown 1 .int rm_X7_thrown D q ad d [.ref (ad 5)] S (b_X7_thrown_0 S) S := ci_of hI (by decide +kernel) (Nat.le_of_ble_eq_true rfl) rfl (fun p e s m args below meth c X hr hlocks => t_X7_thrown_0 X hr hlocks S _ rfl)
end
/-! RX7.fails -/
abbrev rm_X7_fails : Room := { frames := 0, cells := 0, slots := 0, locals := 0 }
section
variable {p : Program} {l : Launch} {e : Env} {s : State} {m : MethodId} {args : Array Value} {below : List Frame} {meth : Method} {c : Code} {D : va_G} {q : Nat → ClassId} {ad : Nat → Nat} {d : UInt64}
def b_X7_fails_14 (w0 : Int32) (S : Sx) : Int32 × Sx := (w0, S)
def o_X7_fails_14 (w0 : Int32) (S : Sx) : Prop := bz w0 ∧ True
set_option maxRecDepth 20000 in
theorem t_X7_fails_14 (X : Cx p m c cX7_fails 2 s args RX7 D q ad) (hr : meth.sig.returnType = some .boolean) (hlocks : meth.locks = false) (w0 : Int32) (S : Sx) (rv : Int32) (S' : Sx) (ho : o_X7_fails_14 w0 S) (he : b_X7_fails_14 w0 S = (rv, S')) : Jg p l e rm_X7_fails s m args below meth c 0 0 (MQ below (Qi D q ad d rv S' s.heap.size) args s 0 0 (AU ad s.heap.size)) D q ad d 2 14 [] [.int w0] S := by
  unfold b_X7_fails_14 at he
  unfold o_X7_fails_14 at ho
  have h2 := ho.1
  have ho := ho.2
  exact j_zret X hr hlocks (bz_narrow h2) dX7_fails_14 (congrArg Prod.fst he) (congrArg Prod.snd he)
def b_X7_fails_0 (x1 : Int32) (S : Sx) : Int32 × Sx := if x1 ≤ 0 then b_X7_fails_14 0 (up2 S 5 8 x1) else b_X7_fails_14 1 (up2 S 5 8 x1)
def o_X7_fails_0 (x1 : Int32) (S : Sx) : Prop := (x1 ≤ 0 → (o_X7_fails_14 0 (up2 S 5 8 x1))) ∧ (¬ x1 ≤ 0 → (o_X7_fails_14 1 (up2 S 5 8 x1)))
set_option maxRecDepth 20000 in
theorem t_X7_fails_0 (X : Cx p m c cX7_fails 2 s args RX7 D q ad) (hr : meth.sig.returnType = some .boolean) (hlocks : meth.locks = false) (x1 : Int32) (S : Sx) (rv : Int32) (S' : Sx) (ho : o_X7_fails_0 x1 S) (he : b_X7_fails_0 x1 S = (rv, S')) : Jg p l e rm_X7_fails s m args below meth c 0 0 (MQ below (Qi D q ad d rv S' s.heap.size) args s 0 0 (AU ad s.heap.size)) D q ad d 2 0 [(0, .ref (ad 5)), (1, .int x1)] [] S := by
  unfold b_X7_fails_0 at he
  unfold o_X7_fails_0 at ho
  refine j_aload_n X 0 dX7_fails_0 rfl ?_
  refine j_iload_n X 1 dX7_fails_1 rfl ?_
  refine pf_25_8 X m_fl_X7_35 kc25 dX7_fails_2 ?_
  refine j_iload_n X 1 dX7_fails_5 rfl ?_
  refine j_if_le X 13 dX7_fails_6 (by decide) (fun h2 => ?_) (fun h2 => ?_)
  · rw [if_pos h2] at he
    have ho := ho.1 h2
    refine j_iconst (v := 0) X dX7_fails_13 (by decide) ?_
    refine j_lv [] [] rfl ?_
    exact t_X7_fails_14 X hr hlocks 0 (up2 S 5 8 x1) _ _ ho he
  · rw [if_neg h2] at he
    have ho := ho.2 h2
    refine j_iconst (v := 1) X dX7_fails_9 (by decide) ?_
    refine j_goto X 14 dX7_fails_10 (by decide) ?_
    refine j_lv [] [] rfl ?_
    exact t_X7_fails_14 X hr hlocks 1 (up2 S 5 8 x1) _ _ ho he
theorem c_X7_fails {l : Launch} {D : va_G} {q : Nat → ClassId} {ad : Nat → Nat} {d : UInt64} (hI : inj4 ad) (x1 : Int32) (S : Sx) (ho : o_X7_fails_0 x1 S) : CI l yX7_fails cX7_fails 2 .boolean rm_X7_fails D q ad d [.ref (ad 5), .int x1] S (b_X7_fails_0 x1 S).1 (b_X7_fails_0 x1 S).2 := ci_of hI (by decide +kernel) (Nat.le_of_ble_eq_true rfl) rfl (fun p e s m args below meth c X hr hlocks => t_X7_fails_0 X hr hlocks x1 S _ _ ho (pe _))
end
/-! RX7.refuses -/
abbrev rm_X7_refuses : Room := { frames := 0, cells := 0, slots := 0, locals := 0 }
section
variable {p : Program} {l : Launch} {e : Env} {s : State} {m : MethodId} {args : Array Value} {below : List Frame} {meth : Method} {c : Code} {D : va_G} {q : Nat → ClassId} {ad : Nat → Nat} {d : UInt64}
def b_X7_refuses_20  (S : Sx) : Int32 × Sx := (0, S)
set_option maxRecDepth 20000 in
theorem t_X7_refuses_20 (X : Cx p m c cX7_refuses 4 s args RX7 D q ad) (hr : meth.sig.returnType = some .int) (hlocks : meth.locks = false) (S : Sx) (rv : Int32) (S' : Sx) (he : b_X7_refuses_20 S = (rv, S')) : Jg p l e rm_X7_refuses s m args below meth c 0 0 (MQ below (Qi D q ad d rv S' s.heap.size) args s 0 0 (AU ad s.heap.size)) D q ad d 4 20 [] [] S := by
  unfold b_X7_refuses_20 at he
  refine j_iconst (v := 0) X dX7_refuses_20 (by decide) ?_
  exact j_iret X hr hlocks dX7_refuses_21 (congrArg Prod.fst he) (congrArg Prod.snd he)
def b_X7_refuses_0 (x1 : Int32) (x2 : Int32) (x3 : Int32) (S : Sx) : Int32 × Sx := b_X7_refuses_20 (up2 (up2 (up2 (up2 S 5 8 x1) 5 9 1) 5 10 x2) 5 11 x3)
set_option maxRecDepth 20000 in
theorem t_X7_refuses_0 (X : Cx p m c cX7_refuses 4 s args RX7 D q ad) (hr : meth.sig.returnType = some .int) (hlocks : meth.locks = false) (x1 : Int32) (x2 : Int32) (x3 : Int32) (S : Sx) (rv : Int32) (S' : Sx) (he : b_X7_refuses_0 x1 x2 x3 S = (rv, S')) : Jg p l e rm_X7_refuses s m args below meth c 0 0 (MQ below (Qi D q ad d rv S' s.heap.size) args s 0 0 (AU ad s.heap.size)) D q ad d 4 0 [(0, .ref (ad 5)), (1, .int x1), (2, .int x2), (3, .int x3)] [] S := by
  unfold b_X7_refuses_0 at he
  refine j_aload_n X 0 dX7_refuses_0 rfl ?_
  refine j_iload_n X 1 dX7_refuses_1 rfl ?_
  refine pf_25_8 X m_fl_X7_35 kc25 dX7_refuses_2 ?_
  refine j_aload_n X 0 dX7_refuses_5 rfl ?_
  refine j_iconst (v := 1) X dX7_refuses_6 (by decide) ?_
  refine pf_25_9 X bz_1 m_fl_X7_38 kc25 dX7_refuses_7 ?_
  refine j_aload_n X 0 dX7_refuses_10 rfl ?_
  refine j_iload_n X 2 dX7_refuses_11 rfl ?_
  refine pf_25_10 X m_fl_X7_42 kc25 dX7_refuses_12 ?_
  refine j_aload_n X 0 dX7_refuses_15 rfl ?_
  refine j_iload_n X 3 dX7_refuses_16 rfl ?_
  refine pf_25_11 X m_fl_X7_45 kc25 dX7_refuses_17 ?_
  refine j_lv [] [] rfl ?_
  exact t_X7_refuses_20 X hr hlocks (up2 (up2 (up2 (up2 S 5 8 x1) 5 9 1) 5 10 x2) 5 11 x3) _ _ he
theorem c_X7_refuses {l : Launch} {D : va_G} {q : Nat → ClassId} {ad : Nat → Nat} {d : UInt64} (hI : inj4 ad) (x1 : Int32) (x2 : Int32) (x3 : Int32) (S : Sx) : CI l yX7_refuses cX7_refuses 4 .int rm_X7_refuses D q ad d [.ref (ad 5), .int x1, .int x2, .int x3] S (b_X7_refuses_0 x1 x2 x3 S).1 (b_X7_refuses_0 x1 x2 x3 S).2 := ci_of hI (by decide +kernel) (Nat.le_of_ble_eq_true rfl) rfl (fun p e s m args below meth c X hr hlocks => t_X7_refuses_0 X hr hlocks x1 x2 x3 S _ _ (pe _))
end
/-! RX7.in -/
abbrev rm_X7_in : Room := { frames := 0, cells := 0, slots := 0, locals := 0 }
section
variable {p : Program} {l : Launch} {e : Env} {s : State} {m : MethodId} {args : Array Value} {below : List Frame} {meth : Method} {c : Code} {D : va_G} {q : Nat → ClassId} {ad : Nat → Nat} {d : UInt64}
def b_X7_in_15 (w0 : Int32) (S : Sx) : Int32 := w0
def o_X7_in_15 (w0 : Int32) (S : Sx) : Prop := bz w0 ∧ True
set_option maxRecDepth 20000 in
theorem t_X7_in_15 (X : Cx p m c cX7_in 3 s args RX7 D q ad) (hr : meth.sig.returnType = some .boolean) (hlocks : meth.locks = false) (w0 : Int32) (S : Sx) (rv : Int32) (ho : o_X7_in_15 w0 S) (he : b_X7_in_15 w0 S = rv) : Jg p l e rm_X7_in s m args below meth c 0 0 (MQ below (Qi D q ad d rv S s.heap.size) args s 0 0 (AU ad s.heap.size)) D q ad d 3 15 [] [.int w0] S := by
  unfold b_X7_in_15 at he
  unfold o_X7_in_15 at ho
  have h2 := ho.1
  have ho := ho.2
  exact j_zret X hr hlocks (bz_narrow h2) dX7_in_15 he rfl
def b_X7_in_14  (S : Sx) : Int32 := b_X7_in_15 0 S
def o_X7_in_14  (S : Sx) : Prop := o_X7_in_15 0 S
set_option maxRecDepth 20000 in
theorem t_X7_in_14 (X : Cx p m c cX7_in 3 s args RX7 D q ad) (hr : meth.sig.returnType = some .boolean) (hlocks : meth.locks = false) (S : Sx) (rv : Int32) (ho : o_X7_in_14 S) (he : b_X7_in_14 S = rv) : Jg p l e rm_X7_in s m args below meth c 0 0 (MQ below (Qi D q ad d rv S s.heap.size) args s 0 0 (AU ad s.heap.size)) D q ad d 3 14 [] [] S := by
  unfold b_X7_in_14 at he
  unfold o_X7_in_14 at ho
  refine j_iconst (v := 0) X dX7_in_14 (by decide) ?_
  exact t_X7_in_15 X hr hlocks 0 S _ ho he
def b_X7_in_0 (x0 : Int32) (x1 : Int32) (x2 : Int32) (S : Sx) : Int32 := if x0 < x1 then b_X7_in_14 S else if x2 < x0 then b_X7_in_14 S else b_X7_in_15 1 S
def o_X7_in_0 (x0 : Int32) (x1 : Int32) (x2 : Int32) (S : Sx) : Prop := (x0 < x1 → (o_X7_in_14 S)) ∧ (¬ x0 < x1 → ((x2 < x0 → (o_X7_in_14 S)) ∧ (¬ x2 < x0 → (o_X7_in_15 1 S))))
set_option maxRecDepth 20000 in
theorem t_X7_in_0 (X : Cx p m c cX7_in 3 s args RX7 D q ad) (hr : meth.sig.returnType = some .boolean) (hlocks : meth.locks = false) (x0 : Int32) (x1 : Int32) (x2 : Int32) (S : Sx) (rv : Int32) (ho : o_X7_in_0 x0 x1 x2 S) (he : b_X7_in_0 x0 x1 x2 S = rv) : Jg p l e rm_X7_in s m args below meth c 0 0 (MQ below (Qi D q ad d rv S s.heap.size) args s 0 0 (AU ad s.heap.size)) D q ad d 3 0 [(0, .int x0), (1, .int x1), (2, .int x2)] [] S := by
  unfold b_X7_in_0 at he
  unfold o_X7_in_0 at ho
  refine j_iload_n X 0 dX7_in_0 rfl ?_
  refine j_iload_n X 1 dX7_in_1 rfl ?_
  refine j_icmp_lt X 14 dX7_in_2 (by decide) (fun h2 => ?_) (fun h2 => ?_)
  · rw [if_pos h2] at he
    have ho := ho.1 h2
    refine j_lv [] [] rfl ?_
    exact t_X7_in_14 X hr hlocks S _ ho he
  · rw [if_neg h2] at he
    have ho := ho.2 h2
    refine j_iload_n X 0 dX7_in_5 rfl ?_
    refine j_iload_n X 2 dX7_in_6 rfl ?_
    refine j_icmp_gt X 14 dX7_in_7 (by decide) (fun h3 => ?_) (fun h3 => ?_)
    · rw [if_pos h3] at he
      have ho := ho.1 h3
      refine j_lv [] [] rfl ?_
      exact t_X7_in_14 X hr hlocks S _ ho he
    · rw [if_neg h3] at he
      have ho := ho.2 h3
      refine j_iconst (v := 1) X dX7_in_10 (by decide) ?_
      refine j_goto X 15 dX7_in_11 (by decide) ?_
      refine j_lv [] [] rfl ?_
      exact t_X7_in_15 X hr hlocks 1 S _ ho he
theorem c_X7_in {l : Launch} {D : va_G} {q : Nat → ClassId} {ad : Nat → Nat} {d : UInt64} (hI : inj4 ad) (x0 : Int32) (x1 : Int32) (x2 : Int32) (S : Sx) (ho : o_X7_in_0 x0 x1 x2 S) : CI l yX7_in cX7_in 3 .boolean rm_X7_in D q ad d [.int x0, .int x1, .int x2] S (b_X7_in_0 x0 x1 x2 S) S := ci_of hI (by decide +kernel) (Nat.le_of_ble_eq_true rfl) rfl (fun p e s m args below meth c X hr hlocks => t_X7_in_0 X hr hlocks x0 x1 x2 S _ ho rfl)
end
/-! RX7.less -/
abbrev rm_X7_less : Room := { frames := 0, cells := 0, slots := 0, locals := 0 }
section
variable {p : Program} {l : Launch} {e : Env} {s : State} {m : MethodId} {args : Array Value} {below : List Frame} {meth : Method} {c : Code} {D : va_G} {q : Nat → ClassId} {ad : Nat → Nat} {d : UInt64}
def b_X7_less_10 (w0 : Int32) (S : Sx) : Int32 := w0
set_option maxRecDepth 20000 in
theorem t_X7_less_10 (X : Cx p m c cX7_less 2 s args RX7 D q ad) (hr : meth.sig.returnType = some .int) (hlocks : meth.locks = false) (w0 : Int32) (S : Sx) (rv : Int32) (he : b_X7_less_10 w0 S = rv) : Jg p l e rm_X7_less s m args below meth c 0 0 (MQ below (Qi D q ad d rv S s.heap.size) args s 0 0 (AU ad s.heap.size)) D q ad d 2 10 [] [.int w0] S := by
  unfold b_X7_less_10 at he
  exact j_iret X hr hlocks dX7_less_10 he rfl
def b_X7_less_0 (x0 : Int32) (x1 : Int32) (S : Sx) : Int32 := if x1 ≤ x0 then b_X7_less_10 x1 S else b_X7_less_10 x0 S
set_option maxRecDepth 20000 in
theorem t_X7_less_0 (X : Cx p m c cX7_less 2 s args RX7 D q ad) (hr : meth.sig.returnType = some .int) (hlocks : meth.locks = false) (x0 : Int32) (x1 : Int32) (S : Sx) (rv : Int32) (he : b_X7_less_0 x0 x1 S = rv) : Jg p l e rm_X7_less s m args below meth c 0 0 (MQ below (Qi D q ad d rv S s.heap.size) args s 0 0 (AU ad s.heap.size)) D q ad d 2 0 [(0, .int x0), (1, .int x1)] [] S := by
  unfold b_X7_less_0 at he
  refine j_iload_n X 0 dX7_less_0 rfl ?_
  refine j_iload_n X 1 dX7_less_1 rfl ?_
  refine j_icmp_ge X 9 dX7_less_2 (by decide) (fun h2 => ?_) (fun h2 => ?_)
  · rw [if_pos h2] at he
    refine j_iload_n X 1 dX7_less_9 rfl ?_
    refine j_lv [] [] rfl ?_
    exact t_X7_less_10 X hr hlocks x1 S _ he
  · rw [if_neg h2] at he
    refine j_iload_n X 0 dX7_less_5 rfl ?_
    refine j_goto X 10 dX7_less_6 (by decide) ?_
    refine j_lv [] [] rfl ?_
    exact t_X7_less_10 X hr hlocks x0 S _ he
theorem c_X7_less {l : Launch} {D : va_G} {q : Nat → ClassId} {ad : Nat → Nat} {d : UInt64} (hI : inj4 ad) (x0 : Int32) (x1 : Int32) (S : Sx) : CI l yX7_less cX7_less 2 .int rm_X7_less D q ad d [.int x0, .int x1] S (b_X7_less_0 x0 x1 S) S := ci_of hI (by decide +kernel) (Nat.le_of_ble_eq_true rfl) rfl (fun p e s m args below meth c X hr hlocks => t_X7_less_0 X hr hlocks x0 x1 S _ rfl)
end
/-! RX7.more -/
abbrev rm_X7_more : Room := { frames := 0, cells := 0, slots := 0, locals := 0 }
section
variable {p : Program} {l : Launch} {e : Env} {s : State} {m : MethodId} {args : Array Value} {below : List Frame} {meth : Method} {c : Code} {D : va_G} {q : Nat → ClassId} {ad : Nat → Nat} {d : UInt64}
def b_X7_more_10 (w0 : Int32) (S : Sx) : Int32 := w0
set_option maxRecDepth 20000 in
theorem t_X7_more_10 (X : Cx p m c cX7_more 2 s args RX7 D q ad) (hr : meth.sig.returnType = some .int) (hlocks : meth.locks = false) (w0 : Int32) (S : Sx) (rv : Int32) (he : b_X7_more_10 w0 S = rv) : Jg p l e rm_X7_more s m args below meth c 0 0 (MQ below (Qi D q ad d rv S s.heap.size) args s 0 0 (AU ad s.heap.size)) D q ad d 2 10 [] [.int w0] S := by
  unfold b_X7_more_10 at he
  exact j_iret X hr hlocks dX7_more_10 he rfl
def b_X7_more_0 (x0 : Int32) (x1 : Int32) (S : Sx) : Int32 := if x0 ≤ x1 then b_X7_more_10 x1 S else b_X7_more_10 x0 S
set_option maxRecDepth 20000 in
theorem t_X7_more_0 (X : Cx p m c cX7_more 2 s args RX7 D q ad) (hr : meth.sig.returnType = some .int) (hlocks : meth.locks = false) (x0 : Int32) (x1 : Int32) (S : Sx) (rv : Int32) (he : b_X7_more_0 x0 x1 S = rv) : Jg p l e rm_X7_more s m args below meth c 0 0 (MQ below (Qi D q ad d rv S s.heap.size) args s 0 0 (AU ad s.heap.size)) D q ad d 2 0 [(0, .int x0), (1, .int x1)] [] S := by
  unfold b_X7_more_0 at he
  refine j_iload_n X 0 dX7_more_0 rfl ?_
  refine j_iload_n X 1 dX7_more_1 rfl ?_
  refine j_icmp_le X 9 dX7_more_2 (by decide) (fun h2 => ?_) (fun h2 => ?_)
  · rw [if_pos h2] at he
    refine j_iload_n X 1 dX7_more_9 rfl ?_
    refine j_lv [] [] rfl ?_
    exact t_X7_more_10 X hr hlocks x1 S _ he
  · rw [if_neg h2] at he
    refine j_iload_n X 0 dX7_more_5 rfl ?_
    refine j_goto X 10 dX7_more_6 (by decide) ?_
    refine j_lv [] [] rfl ?_
    exact t_X7_more_10 X hr hlocks x0 S _ he
theorem c_X7_more {l : Launch} {D : va_G} {q : Nat → ClassId} {ad : Nat → Nat} {d : UInt64} (hI : inj4 ad) (x0 : Int32) (x1 : Int32) (S : Sx) : CI l yX7_more cX7_more 2 .int rm_X7_more D q ad d [.int x0, .int x1] S (b_X7_more_0 x0 x1 S) S := ci_of hI (by decide +kernel) (Nat.le_of_ble_eq_true rfl) rfl (fun p e s m args below meth c X hr hlocks => t_X7_more_0 X hr hlocks x0 x1 S _ rfl)
end
/-! RX7.copies -/
abbrev rm_X7_copies : Room := { frames := 0, cells := 0, slots := 0, locals := 0 }
section
variable {p : Program} {l : Launch} {e : Env} {s : State} {m : MethodId} {args : Array Value} {below : List Frame} {meth : Method} {c : Code} {D : va_G} {q : Nat → ClassId} {ad : Nat → Nat} {d : UInt64}
def b_X7_copies_23 (kk : Nat → Int32 → Nat → Int32 → Int32 → Sx → Sx) (j0 : Nat) (v1 : Int32) (j2 : Nat) (v3 : Int32) (v4 : Int32) (S : Sx) : Sx := kk j0 v1 j2 v3 (v4 + 1) S
def o_X7_copies_23 (ok : Nat → Int32 → Nat → Int32 → Int32 → Sx → Prop) (j0 : Nat) (v1 : Int32) (j2 : Nat) (v3 : Int32) (v4 : Int32) (S : Sx) : Prop := ok j0 v1 j2 v3 (v4 + 1) S
set_option maxRecDepth 20000 in
theorem t_X7_copies_23 (X : Cx p m c cX7_copies 5 s args RX7 D q ad) (hr : meth.sig.returnType = none) (hlocks : meth.locks = false) (kk : Nat → Int32 → Nat → Int32 → Int32 → Sx → Sx) (ok : Nat → Int32 → Nat → Int32 → Int32 → Sx → Prop) (hkk : ∀ (j0 : Nat) (hj0 : isA j0) (v1 : Int32) (j2 : Nat) (hj2 : isA j2) (v3 : Int32) (v4 : Int32) (S : Sx) (S' : Sx) (ho : ok j0 v1 j2 v3 v4 S) (he : kk j0 v1 j2 v3 v4 S = S'), Jg p l e rm_X7_copies s m args below meth c 0 0 (MQ below (Qv D q ad d S' s.heap.size) args s 0 0 (AU ad s.heap.size)) D q ad d 5 3 [(0, .ref (ad j0)), (1, .int v1), (2, .ref (ad j2)), (3, .int v3), (4, .int v4)] [] S) (j0 : Nat) (hj0 : isA j0) (v1 : Int32) (j2 : Nat) (hj2 : isA j2) (v3 : Int32) (v4 : Int32) (S : Sx) (S' : Sx) (ho : o_X7_copies_23 ok j0 v1 j2 v3 v4 S) (he : b_X7_copies_23 kk j0 v1 j2 v3 v4 S = S') : Jg p l e rm_X7_copies s m args below meth c 0 0 (MQ below (Qv D q ad d S' s.heap.size) args s 0 0 (AU ad s.heap.size)) D q ad d 5 23 [(0, .ref (ad j0)), (1, .int v1), (2, .ref (ad j2)), (3, .int v3), (4, .int v4)] [] S := by
  unfold b_X7_copies_23 at he
  unfold o_X7_copies_23 at ho
  refine j_iinc X 4 (v4 + 1) [(4, .int (v4 + 1)), (0, .ref (ad j0)), (1, .int v1), (2, .ref (ad j2)), (3, .int v3)] dX7_copies_23 rfl rfl (by decide) rfl ?_
  refine j_goto X 3 dX7_copies_26 (by decide) ?_
  refine j_lv [1, 2, 3, 4, 0] [(0, .ref (ad j0)), (1, .int v1), (2, .ref (ad j2)), (3, .int v3), (4, .int (v4 + 1))] rfl ?_
  exact hkk j0 hj0 v1 j2 hj2 v3 (v4 + 1) S _ ho he
def b_X7_copies_3 : Nat → Nat → Int32 → Nat → Int32 → Int32 → Sx → Sx
  | 0, _, _, _, _, _, S => S
  | n + 1, j0, v1, j2, v3, v4, S => if 275 ≤ v4 then S else b_X7_copies_23 (b_X7_copies_3 n) j0 v1 j2 v3 v4 (up2 S j2 ((v3 + v4).toNatClampNeg) (S j0 ((v1 + v4).toNatClampNeg)))
def o_X7_copies_3 : Nat → Nat → Int32 → Nat → Int32 → Int32 → Sx → Prop
  | 0, _, _, _, _, _, _ => False
  | n + 1, j0, v1, j2, v3, v4, S => (275 ≤ v4 → True) ∧ (¬ 275 ≤ v4 → (vp_in (v1 + v4) (alen j0) ∧ (vp_in (v3 + v4) (alen j2) ∧ (o_X7_copies_23 (o_X7_copies_3 n) j0 v1 j2 v3 v4 (up2 S j2 ((v3 + v4).toNatClampNeg) (S j0 ((v1 + v4).toNatClampNeg)))))))
set_option maxRecDepth 20000 in
theorem t_X7_copies_3 (X : Cx p m c cX7_copies 5 s args RX7 D q ad) (hr : meth.sig.returnType = none) (hlocks : meth.locks = false) : ∀ (n : Nat) (j0 : Nat) (hj0 : isA j0) (v1 : Int32) (j2 : Nat) (hj2 : isA j2) (v3 : Int32) (v4 : Int32) (S : Sx) (S' : Sx) (ho : o_X7_copies_3 n j0 v1 j2 v3 v4 S) (he : b_X7_copies_3 n j0 v1 j2 v3 v4 S = S'), Jg p l e rm_X7_copies s m args below meth c 0 0 (MQ below (Qv D q ad d S' s.heap.size) args s 0 0 (AU ad s.heap.size)) D q ad d 5 3 [(0, .ref (ad j0)), (1, .int v1), (2, .ref (ad j2)), (3, .int v3), (4, .int v4)] [] S := by
  intro n
  induction n with
  | zero =>
    intro j0 hj0 v1 j2 hj2 v3 v4 S S' ho he
    unfold o_X7_copies_3 at ho
    exact ho.elim
  | succ n ih =>
    intro j0 hj0 v1 j2 hj2 v3 v4 S S' ho he
    unfold b_X7_copies_3 at he
    unfold o_X7_copies_3 at ho
    refine j_iload X 4 dX7_copies_3 rfl ?_
    refine j_sipush (v := 275) X dX7_copies_5 (by decide) ?_
    refine j_icmp_ge X 29 dX7_copies_8 (by decide) (fun h2 => ?_) (fun h2 => ?_)
    · rw [if_pos h2] at he
      have ho := ho.1 h2
      exact j_vret X hr hlocks dX7_copies_29 he
    · rw [if_neg h2] at he
      have ho := ho.2 h2
      refine j_aload_n X 2 dX7_copies_11 rfl ?_
      refine j_iload_n X 3 dX7_copies_12 rfl ?_
      refine j_iload X 4 dX7_copies_13 rfl ?_
      refine j_iadd X dX7_copies_15 ?_
      refine j_aload_n X 0 dX7_copies_16 rfl ?_
      refine j_iload_n X 1 dX7_copies_17 rfl ?_
      refine j_iload X 4 dX7_copies_18 rfl ?_
      refine j_iadd X dX7_copies_20 ?_
      have h3 := ho.1
      have ho := ho.2
      refine j_iald X hj0.1 (ca hj0 _) h3 dX7_copies_21 ?_
      have h4 := ho.1
      have ho := ho.2
      refine j_iast X hj2.1 (fun T => ca hj2 _) h4 dX7_copies_22 ?_
      exact t_X7_copies_23 X hr hlocks (b_X7_copies_3 n) (o_X7_copies_3 n) ih j0 hj0 v1 j2 hj2 v3 v4 (up2 S j2 ((v3 + v4).toNatClampNeg) (S j0 ((v1 + v4).toNatClampNeg))) _ ho he
def b_X7_copies_0 (r0 : Nat) (x1 : Int32) (r2 : Nat) (x3 : Int32) (S : Sx) : Sx := b_X7_copies_3 300 r0 x1 r2 x3 0 S
def o_X7_copies_0 (r0 : Nat) (x1 : Int32) (r2 : Nat) (x3 : Int32) (S : Sx) : Prop := o_X7_copies_3 300 r0 x1 r2 x3 0 S
set_option maxRecDepth 20000 in
theorem t_X7_copies_0 (X : Cx p m c cX7_copies 5 s args RX7 D q ad) (hr : meth.sig.returnType = none) (hlocks : meth.locks = false) (r0 : Nat) (hr0 : isA r0) (x1 : Int32) (r2 : Nat) (hr2 : isA r2) (x3 : Int32) (S : Sx) (S' : Sx) (ho : o_X7_copies_0 r0 x1 r2 x3 S) (he : b_X7_copies_0 r0 x1 r2 x3 S = S') : Jg p l e rm_X7_copies s m args below meth c 0 0 (MQ below (Qv D q ad d S' s.heap.size) args s 0 0 (AU ad s.heap.size)) D q ad d 5 0 [(0, .ref (ad r0)), (1, .int x1), (2, .ref (ad r2)), (3, .int x3)] [] S := by
  unfold b_X7_copies_0 at he
  unfold o_X7_copies_0 at ho
  refine j_iconst (v := 0) X dX7_copies_0 (by decide) ?_
  refine j_istore X [(4, .int 0), (0, .ref (ad r0)), (1, .int x1), (2, .ref (ad r2)), (3, .int x3)] dX7_copies_1 (by decide) rfl ?_
  refine j_lv [1, 2, 3, 4, 0] [(0, .ref (ad r0)), (1, .int x1), (2, .ref (ad r2)), (3, .int x3), (4, .int 0)] rfl ?_
  exact t_X7_copies_3 X hr hlocks 300 r0 hr0 x1 r2 hr2 x3 0 S _ ho he
theorem c_X7_copies {l : Launch} {D : va_G} {q : Nat → ClassId} {ad : Nat → Nat} {d : UInt64} (hI : inj4 ad) (r0 : Nat) (hr0 : isA r0) (x1 : Int32) (r2 : Nat) (hr2 : isA r2) (x3 : Int32) (S : Sx) (ho : o_X7_copies_0 r0 x1 r2 x3 S) : CV l yX7_copies cX7_copies 5 rm_X7_copies D q ad d [.ref (ad r0), .int x1, .ref (ad r2), .int x3] S (b_X7_copies_0 r0 x1 r2 x3 S) := cv_of hI (by decide +kernel) (Nat.le_of_ble_eq_true rfl) rfl (fun p e s m args below meth c X hr hlocks => t_X7_copies_0 X hr hlocks r0 hr0 x1 r2 hr2 x3 S _ ho rfl)
end
/-! RX7.keeps -/
abbrev rm_X7_keeps : Room := { frames := 1, cells := 0, slots := 0, locals := 24 }
section
variable {p : Program} {l : Launch} {e : Env} {s : State} {m : MethodId} {args : Array Value} {below : List Frame} {meth : Method} {c : Code} {D : va_G} {q : Nat → ClassId} {ad : Nat → Nat} {d : UInt64}
def b_X7_keeps_58 (j1 : Nat) (S : Sx) : Sx := up2 (b_X7_copies_0 j1 0 7 (275 * (S 5 6)) S) 5 6 (((b_X7_copies_0 j1 0 7 (275 * (S 5 6)) S) 5 6) + 1)
def o_X7_keeps_58 (j1 : Nat) (S : Sx) : Prop := o_X7_copies_0 j1 0 7 (275 * (S 5 6)) S ∧ True
set_option maxRecDepth 20000 in
theorem t_X7_keeps_58 (X : Cx p m c cX7_keeps 3 s args RX7 D q ad) (hr : meth.sig.returnType = none) (hlocks : meth.locks = false) (j1 : Nat) (hj1 : isA j1) (S : Sx) (S' : Sx) (ho : o_X7_keeps_58 j1 S) (he : b_X7_keeps_58 j1 S = S') : Jg p l e rm_X7_keeps s m args below meth c 0 0 (MQ below (Qv D q ad d S' s.heap.size) args s 0 0 (AU ad s.heap.size)) D q ad d 3 58 [(0, .ref (ad 5)), (1, .ref (ad j1))] [] S := by
  unfold b_X7_keeps_58 at he
  unfold o_X7_keeps_58 at ho
  refine j_aload_n X 1 dX7_keeps_58 rfl ?_
  refine j_iconst (v := 0) X dX7_keeps_59 (by decide) ?_
  refine j_aload_n X 0 dX7_keeps_60 rfl ?_
  refine gf_25_1 X m_fl_X7_13 kc25 dX7_keeps_61 ?_
  refine j_sipush (v := 275) X dX7_keeps_64 (by decide) ?_
  refine j_aload_n X 0 dX7_keeps_67 rfl ?_
  refine gf_25_6 X m_fl_X7_51 kc25 dX7_keeps_68 ?_
  refine j_imul X dX7_keeps_71 ?_
  have h2 := ho.1
  have ho := ho.2
  refine j_callSv (rest := []) X (c_X7_copies (cx_inj X) j1 hj1 0 7 (isA_of27 kc27) (275 * (S 5 6)) S h2) cw_X7_54 ⟨rfl, rfl, Nat.le_of_ble_eq_true rfl, Nat.le_of_ble_eq_true rfl⟩ rfl rfl (Nat.le_of_ble_eq_true rfl) ⟨Nat.le_of_ble_eq_true rfl, Nat.le_of_ble_eq_true rfl⟩ dX7_keeps_72 ?_
  refine j_aload_n X 0 dX7_keeps_75 rfl ?_
  refine j_dup X dX7_keeps_76 rfl ?_
  refine gf_25_6 X m_fl_X7_51 kc25 dX7_keeps_77 ?_
  refine j_iconst (v := 1) X dX7_keeps_80 (by decide) ?_
  refine j_iadd X dX7_keeps_81 ?_
  refine pf_25_6 X m_fl_X7_51 kc25 dX7_keeps_82 ?_
  exact j_vret X hr hlocks dX7_keeps_85 he
def b_X7_keeps_42 (kk : Nat → Int32 → Sx → Sx) (j1 : Nat) (v2 : Int32) (S : Sx) : Sx := kk j1 (v2 + 1) S
def o_X7_keeps_42 (ok : Nat → Int32 → Sx → Prop) (j1 : Nat) (v2 : Int32) (S : Sx) : Prop := ok j1 (v2 + 1) S
set_option maxRecDepth 20000 in
theorem t_X7_keeps_42 (X : Cx p m c cX7_keeps 3 s args RX7 D q ad) (hr : meth.sig.returnType = none) (hlocks : meth.locks = false) (kk : Nat → Int32 → Sx → Sx) (ok : Nat → Int32 → Sx → Prop) (hkk : ∀ (j1 : Nat) (hj1 : isA j1) (v2 : Int32) (S : Sx) (S' : Sx) (ho : ok j1 v2 S) (he : kk j1 v2 S = S'), Jg p l e rm_X7_keeps s m args below meth c 0 0 (MQ below (Qv D q ad d S' s.heap.size) args s 0 0 (AU ad s.heap.size)) D q ad d 3 19 [(0, .ref (ad 5)), (1, .ref (ad j1)), (2, .int v2)] [] S) (j1 : Nat) (hj1 : isA j1) (v2 : Int32) (S : Sx) (S' : Sx) (ho : o_X7_keeps_42 ok j1 v2 S) (he : b_X7_keeps_42 kk j1 v2 S = S') : Jg p l e rm_X7_keeps s m args below meth c 0 0 (MQ below (Qv D q ad d S' s.heap.size) args s 0 0 (AU ad s.heap.size)) D q ad d 3 42 [(0, .ref (ad 5)), (1, .ref (ad j1)), (2, .int v2)] [] S := by
  unfold b_X7_keeps_42 at he
  unfold o_X7_keeps_42 at ho
  refine j_iinc X 2 (v2 + 1) [(2, .int (v2 + 1)), (0, .ref (ad 5)), (1, .ref (ad j1))] dX7_keeps_42 rfl rfl (by decide) rfl ?_
  refine j_goto X 19 dX7_keeps_45 (by decide) ?_
  refine j_lv [1, 2, 0] [(0, .ref (ad 5)), (1, .ref (ad j1)), (2, .int (v2 + 1))] rfl ?_
  exact hkk j1 hj1 (v2 + 1) S _ ho he
def b_X7_keeps_19 : Nat → Nat → Int32 → Sx → Sx
  | 0, _, _, S => S
  | n + 1, j1, v2, S => if 1925 ≤ v2 then b_X7_keeps_58 j1 (up2 S 5 6 ((S 5 6) - 1)) else b_X7_keeps_42 (b_X7_keeps_19 n) j1 v2 (up2 S 7 v2.toNatClampNeg (S 7 ((v2 + 275).toNatClampNeg)))
def o_X7_keeps_19 : Nat → Nat → Int32 → Sx → Prop
  | 0, _, _, _ => False
  | n + 1, j1, v2, S => (1925 ≤ v2 → (o_X7_keeps_58 j1 (up2 S 5 6 ((S 5 6) - 1)))) ∧ (¬ 1925 ≤ v2 → (vp_in (v2 + 275) 2200 ∧ (vp_in v2 2200 ∧ (o_X7_keeps_42 (o_X7_keeps_19 n) j1 v2 (up2 S 7 v2.toNatClampNeg (S 7 ((v2 + 275).toNatClampNeg)))))))
set_option maxRecDepth 20000 in
theorem t_X7_keeps_19 (X : Cx p m c cX7_keeps 3 s args RX7 D q ad) (hr : meth.sig.returnType = none) (hlocks : meth.locks = false) : ∀ (n : Nat) (j1 : Nat) (hj1 : isA j1) (v2 : Int32) (S : Sx) (S' : Sx) (ho : o_X7_keeps_19 n j1 v2 S) (he : b_X7_keeps_19 n j1 v2 S = S'), Jg p l e rm_X7_keeps s m args below meth c 0 0 (MQ below (Qv D q ad d S' s.heap.size) args s 0 0 (AU ad s.heap.size)) D q ad d 3 19 [(0, .ref (ad 5)), (1, .ref (ad j1)), (2, .int v2)] [] S := by
  intro n
  induction n with
  | zero =>
    intro j1 hj1 v2 S S' ho he
    unfold o_X7_keeps_19 at ho
    exact ho.elim
  | succ n ih =>
    intro j1 hj1 v2 S S' ho he
    unfold b_X7_keeps_19 at he
    unfold o_X7_keeps_19 at ho
    refine j_iload_n X 2 dX7_keeps_19 rfl ?_
    refine j_sipush (v := 1925) X dX7_keeps_20 (by decide) ?_
    refine j_icmp_ge X 48 dX7_keeps_23 (by decide) (fun h2 => ?_) (fun h2 => ?_)
    · rw [if_pos h2] at he
      have ho := ho.1 h2
      refine j_aload_n X 0 dX7_keeps_48 rfl ?_
      refine j_dup X dX7_keeps_49 rfl ?_
      refine gf_25_6 X m_fl_X7_51 kc25 dX7_keeps_50 ?_
      refine j_iconst (v := 1) X dX7_keeps_53 (by decide) ?_
      refine j_isub X dX7_keeps_54 ?_
      refine pf_25_6 X m_fl_X7_51 kc25 dX7_keeps_55 ?_
      refine j_lv [0, 1] [(0, .ref (ad 5)), (1, .ref (ad j1))] rfl ?_
      exact t_X7_keeps_58 X hr hlocks j1 hj1 (up2 S 5 6 ((S 5 6) - 1)) _ ho he
    · rw [if_neg h2] at he
      have ho := ho.2 h2
      refine j_aload_n X 0 dX7_keeps_26 rfl ?_
      refine gf_25_1 X m_fl_X7_13 kc25 dX7_keeps_27 ?_
      refine j_iload_n X 2 dX7_keeps_30 rfl ?_
      refine j_aload_n X 0 dX7_keeps_31 rfl ?_
      refine gf_25_1 X m_fl_X7_13 kc25 dX7_keeps_32 ?_
      refine j_iload_n X 2 dX7_keeps_35 rfl ?_
      refine j_sipush (v := 275) X dX7_keeps_36 (by decide) ?_
      refine j_iadd X dX7_keeps_39 ?_
      have h3 := ho.1
      have ho := ho.2
      refine j_iald X kc27.1 (cl_27 kc27) h3 dX7_keeps_40 ?_
      have h4 := ho.1
      have ho := ho.2
      refine j_iast X kc27.1 (fun T => cl_27 kc27) h4 dX7_keeps_41 ?_
      exact t_X7_keeps_42 X hr hlocks (b_X7_keeps_19 n) (o_X7_keeps_19 n) ih j1 hj1 v2 (up2 S 7 v2.toNatClampNeg (S 7 ((v2 + 275).toNatClampNeg))) _ ho he
def b_X7_keeps_0 (r1 : Nat) (S : Sx) : Sx := if (nb (S 5 7)) = 0 then if (S 5 6) = 8 then b_X7_keeps_19 2000 r1 0 S else b_X7_keeps_58 r1 S else S
def o_X7_keeps_0 (r1 : Nat) (S : Sx) : Prop := ((nb (S 5 7)) = 0 → (((S 5 6) = 8 → (o_X7_keeps_19 2000 r1 0 S)) ∧ (¬ (S 5 6) = 8 → (o_X7_keeps_58 r1 S)))) ∧ (¬ (nb (S 5 7)) = 0 → True)
set_option maxRecDepth 20000 in
theorem t_X7_keeps_0 (X : Cx p m c cX7_keeps 3 s args RX7 D q ad) (hr : meth.sig.returnType = none) (hlocks : meth.locks = false) (r1 : Nat) (hr1 : isA r1) (S : Sx) (S' : Sx) (ho : o_X7_keeps_0 r1 S) (he : b_X7_keeps_0 r1 S = S') : Jg p l e rm_X7_keeps s m args below meth c 0 0 (MQ below (Qv D q ad d S' s.heap.size) args s 0 0 (AU ad s.heap.size)) D q ad d 3 0 [(0, .ref (ad 5)), (1, .ref (ad r1))] [] S := by
  unfold b_X7_keeps_0 at he
  unfold o_X7_keeps_0 at ho
  refine j_aload_n X 0 dX7_keeps_0 rfl ?_
  refine gf_25_7 X m_fl_X7_48 kc25 dX7_keeps_1 ?_
  refine j_if_eq X 8 dX7_keeps_4 (by decide) (fun h2 => ?_) (fun h2 => ?_)
  · rw [if_pos h2] at he
    have ho := ho.1 h2
    refine j_aload_n X 0 dX7_keeps_8 rfl ?_
    refine gf_25_6 X m_fl_X7_51 kc25 dX7_keeps_9 ?_
    refine j_bipush (v := 8) X dX7_keeps_12 (by decide) ?_
    refine j_icmp_ne X 58 dX7_keeps_14 (by decide) (fun h3 => ?_) (fun h3 => ?_)
    · rw [if_neg h3] at he
      have ho := ho.2 h3
      exact t_X7_keeps_58 X hr hlocks r1 hr1 S _ ho he
    · rw [if_pos h3] at he
      have ho := ho.1 h3
      refine j_iconst (v := 0) X dX7_keeps_17 (by decide) ?_
      refine j_istore_n X [(2, .int 0), (0, .ref (ad 5)), (1, .ref (ad r1))] dX7_keeps_18 (by decide) rfl ?_
      refine j_lv [1, 2, 0] [(0, .ref (ad 5)), (1, .ref (ad r1)), (2, .int 0)] rfl ?_
      exact t_X7_keeps_19 X hr hlocks 2000 r1 hr1 0 S _ ho he
  · rw [if_neg h2] at he
    have ho := ho.2 h2
    exact j_vret X hr hlocks dX7_keeps_7 he
theorem c_X7_keeps {l : Launch} {D : va_G} {q : Nat → ClassId} {ad : Nat → Nat} {d : UInt64} (hI : inj4 ad) (r1 : Nat) (hr1 : isA r1) (S : Sx) (ho : o_X7_keeps_0 r1 S) : CV l yX7_keeps cX7_keeps 3 rm_X7_keeps D q ad d [.ref (ad 5), .ref (ad r1)] S (b_X7_keeps_0 r1 S) := cv_of hI (by decide +kernel) (Nat.le_of_ble_eq_true rfl) rfl (fun p e s m args below meth c X hr hlocks => t_X7_keeps_0 X hr hlocks r1 hr1 S _ ho rfl)
end
/-! RX7.isHour -/
abbrev rm_X7_isHour : Room := { frames := 1, cells := 0, slots := 0, locals := 22 }
section
variable {p : Program} {l : Launch} {e : Env} {s : State} {m : MethodId} {args : Array Value} {below : List Frame} {meth : Method} {c : Code} {D : va_G} {q : Nat → ClassId} {ad : Nat → Nat} {d : UInt64}
def b_X7_isHour_0 (x0 : Int32) (S : Sx) : Int32 := b_X7_in_0 x0 0 23 S
def o_X7_isHour_0 (x0 : Int32) (S : Sx) : Prop := o_X7_in_0 x0 0 23 S ∧ (bz (b_X7_in_0 x0 0 23 S) ∧ True)
set_option maxRecDepth 20000 in
theorem t_X7_isHour_0 (X : Cx p m c cX7_isHour 1 s args RX7 D q ad) (hr : meth.sig.returnType = some .boolean) (hlocks : meth.locks = false) (x0 : Int32) (S : Sx) (rv : Int32) (ho : o_X7_isHour_0 x0 S) (he : b_X7_isHour_0 x0 S = rv) : Jg p l e rm_X7_isHour s m args below meth c 0 0 (MQ below (Qi D q ad d rv S s.heap.size) args s 0 0 (AU ad s.heap.size)) D q ad d 1 0 [(0, .int x0)] [] S := by
  unfold b_X7_isHour_0 at he
  unfold o_X7_isHour_0 at ho
  refine j_iload_n X 0 dX7_isHour_0 rfl ?_
  refine j_iconst (v := 0) X dX7_isHour_1 (by decide) ?_
  refine j_bipush (v := 23) X dX7_isHour_2 (by decide) ?_
  have h2 := ho.1
  have ho := ho.2
  refine j_callSi (rest := []) X (c_X7_in (cx_inj X) x0 0 23 S h2) cw_X7_58 ⟨rfl, rfl, Nat.le_of_ble_eq_true rfl, Nat.le_of_ble_eq_true rfl⟩ rfl rfl (Nat.le_of_ble_eq_true rfl) ⟨Nat.le_of_ble_eq_true rfl, Nat.le_of_ble_eq_true rfl⟩ dX7_isHour_4 ?_
  have h3 := ho.1
  have ho := ho.2
  exact j_zret X hr hlocks (bz_narrow h3) dX7_isHour_7 he rfl
theorem c_X7_isHour {l : Launch} {D : va_G} {q : Nat → ClassId} {ad : Nat → Nat} {d : UInt64} (hI : inj4 ad) (x0 : Int32) (S : Sx) (ho : o_X7_isHour_0 x0 S) : CI l yX7_isHour cX7_isHour 1 .boolean rm_X7_isHour D q ad d [.int x0] S (b_X7_isHour_0 x0 S) S := ci_of hI (by decide +kernel) (Nat.le_of_ble_eq_true rfl) rfl (fun p e s m args below meth c X hr hlocks => t_X7_isHour_0 X hr hlocks x0 S _ ho rfl)
end
/-! RX7.isPitch -/
abbrev rm_X7_isPitch : Room := { frames := 1, cells := 0, slots := 0, locals := 22 }
section
variable {p : Program} {l : Launch} {e : Env} {s : State} {m : MethodId} {args : Array Value} {below : List Frame} {meth : Method} {c : Code} {D : va_G} {q : Nat → ClassId} {ad : Nat → Nat} {d : UInt64}
def b_X7_isPitch_0 (x1 : Int32) (S : Sx) : Int32 := b_X7_in_0 x1 0 ((S 6 ((50 : Int32).toNatClampNeg)) - 1) S
def o_X7_isPitch_0 (x1 : Int32) (S : Sx) : Prop := o_X7_in_0 x1 0 ((S 6 ((50 : Int32).toNatClampNeg)) - 1) S ∧ (bz (b_X7_in_0 x1 0 ((S 6 ((50 : Int32).toNatClampNeg)) - 1) S) ∧ True)
set_option maxRecDepth 20000 in
theorem t_X7_isPitch_0 (X : Cx p m c cX7_isPitch 2 s args RX7 D q ad) (hr : meth.sig.returnType = some .boolean) (hlocks : meth.locks = false) (x1 : Int32) (S : Sx) (rv : Int32) (ho : o_X7_isPitch_0 x1 S) (he : b_X7_isPitch_0 x1 S = rv) : Jg p l e rm_X7_isPitch s m args below meth c 0 0 (MQ below (Qi D q ad d rv S s.heap.size) args s 0 0 (AU ad s.heap.size)) D q ad d 2 0 [(0, .ref (ad 5)), (1, .int x1)] [] S := by
  unfold b_X7_isPitch_0 at he
  unfold o_X7_isPitch_0 at ho
  refine j_iload_n X 1 dX7_isPitch_0 rfl ?_
  refine j_iconst (v := 0) X dX7_isPitch_1 (by decide) ?_
  refine j_aload_n X 0 dX7_isPitch_2 rfl ?_
  refine gf_25_0 X m_fl_X7_7 kc25 dX7_isPitch_3 ?_
  refine j_bipush (v := 50) X dX7_isPitch_6 (by decide) ?_
  refine j_iald X kc26.1 (cl_26 kc26) (by unfold vp_in; decide) dX7_isPitch_8 ?_
  refine j_iconst (v := 1) X dX7_isPitch_9 (by decide) ?_
  refine j_isub X dX7_isPitch_10 ?_
  have h2 := ho.1
  have ho := ho.2
  refine j_callSi (rest := []) X (c_X7_in (cx_inj X) x1 0 ((S 6 ((50 : Int32).toNatClampNeg)) - 1) S h2) cw_X7_58 ⟨rfl, rfl, Nat.le_of_ble_eq_true rfl, Nat.le_of_ble_eq_true rfl⟩ rfl rfl (Nat.le_of_ble_eq_true rfl) ⟨Nat.le_of_ble_eq_true rfl, Nat.le_of_ble_eq_true rfl⟩ dX7_isPitch_11 ?_
  have h3 := ho.1
  have ho := ho.2
  exact j_zret X hr hlocks (bz_narrow h3) dX7_isPitch_14 he rfl
theorem c_X7_isPitch {l : Launch} {D : va_G} {q : Nat → ClassId} {ad : Nat → Nat} {d : UInt64} (hI : inj4 ad) (x1 : Int32) (S : Sx) (ho : o_X7_isPitch_0 x1 S) : CI l yX7_isPitch cX7_isPitch 2 .boolean rm_X7_isPitch D q ad d [.ref (ad 5), .int x1] S (b_X7_isPitch_0 x1 S) S := ci_of hI (by decide +kernel) (Nat.le_of_ble_eq_true rfl) rfl (fun p e s m args below meth c X hr hlocks => t_X7_isPitch_0 X hr hlocks x1 S _ ho rfl)
end
/-! RX7.isHorse -/
abbrev rm_X7_isHorse : Room := { frames := 1, cells := 0, slots := 0, locals := 22 }
section
variable {p : Program} {l : Launch} {e : Env} {s : State} {m : MethodId} {args : Array Value} {below : List Frame} {meth : Method} {c : Code} {D : va_G} {q : Nat → ClassId} {ad : Nat → Nat} {d : UInt64}
def b_X7_isHorse_0 (x1 : Int32) (S : Sx) : Int32 := b_X7_in_0 x1 0 ((S 6 ((71 : Int32).toNatClampNeg)) - 1) S
def o_X7_isHorse_0 (x1 : Int32) (S : Sx) : Prop := o_X7_in_0 x1 0 ((S 6 ((71 : Int32).toNatClampNeg)) - 1) S ∧ (bz (b_X7_in_0 x1 0 ((S 6 ((71 : Int32).toNatClampNeg)) - 1) S) ∧ True)
set_option maxRecDepth 20000 in
theorem t_X7_isHorse_0 (X : Cx p m c cX7_isHorse 2 s args RX7 D q ad) (hr : meth.sig.returnType = some .boolean) (hlocks : meth.locks = false) (x1 : Int32) (S : Sx) (rv : Int32) (ho : o_X7_isHorse_0 x1 S) (he : b_X7_isHorse_0 x1 S = rv) : Jg p l e rm_X7_isHorse s m args below meth c 0 0 (MQ below (Qi D q ad d rv S s.heap.size) args s 0 0 (AU ad s.heap.size)) D q ad d 2 0 [(0, .ref (ad 5)), (1, .int x1)] [] S := by
  unfold b_X7_isHorse_0 at he
  unfold o_X7_isHorse_0 at ho
  refine j_iload_n X 1 dX7_isHorse_0 rfl ?_
  refine j_iconst (v := 0) X dX7_isHorse_1 (by decide) ?_
  refine j_aload_n X 0 dX7_isHorse_2 rfl ?_
  refine gf_25_0 X m_fl_X7_7 kc25 dX7_isHorse_3 ?_
  refine j_bipush (v := 71) X dX7_isHorse_6 (by decide) ?_
  refine j_iald X kc26.1 (cl_26 kc26) (by unfold vp_in; decide) dX7_isHorse_8 ?_
  refine j_iconst (v := 1) X dX7_isHorse_9 (by decide) ?_
  refine j_isub X dX7_isHorse_10 ?_
  have h2 := ho.1
  have ho := ho.2
  refine j_callSi (rest := []) X (c_X7_in (cx_inj X) x1 0 ((S 6 ((71 : Int32).toNatClampNeg)) - 1) S h2) cw_X7_58 ⟨rfl, rfl, Nat.le_of_ble_eq_true rfl, Nat.le_of_ble_eq_true rfl⟩ rfl rfl (Nat.le_of_ble_eq_true rfl) ⟨Nat.le_of_ble_eq_true rfl, Nat.le_of_ble_eq_true rfl⟩ dX7_isHorse_11 ?_
  have h3 := ho.1
  have ho := ho.2
  exact j_zret X hr hlocks (bz_narrow h3) dX7_isHorse_14 he rfl
theorem c_X7_isHorse {l : Launch} {D : va_G} {q : Nat → ClassId} {ad : Nat → Nat} {d : UInt64} (hI : inj4 ad) (x1 : Int32) (S : Sx) (ho : o_X7_isHorse_0 x1 S) : CI l yX7_isHorse cX7_isHorse 2 .boolean rm_X7_isHorse D q ad d [.ref (ad 5), .int x1] S (b_X7_isHorse_0 x1 S) S := ci_of hI (by decide +kernel) (Nat.le_of_ble_eq_true rfl) rfl (fun p e s m args below meth c X hr hlocks => t_X7_isHorse_0 X hr hlocks x1 S _ ho rfl)
end
/-! RX7.isUmpire -/
abbrev rm_X7_isUmpire : Room := { frames := 1, cells := 0, slots := 0, locals := 22 }
section
variable {p : Program} {l : Launch} {e : Env} {s : State} {m : MethodId} {args : Array Value} {below : List Frame} {meth : Method} {c : Code} {D : va_G} {q : Nat → ClassId} {ad : Nat → Nat} {d : UInt64}
def b_X7_isUmpire_0 (x1 : Int32) (S : Sx) : Int32 := b_X7_in_0 x1 0 ((S 6 ((102 : Int32).toNatClampNeg)) - 1) S
def o_X7_isUmpire_0 (x1 : Int32) (S : Sx) : Prop := o_X7_in_0 x1 0 ((S 6 ((102 : Int32).toNatClampNeg)) - 1) S ∧ (bz (b_X7_in_0 x1 0 ((S 6 ((102 : Int32).toNatClampNeg)) - 1) S) ∧ True)
set_option maxRecDepth 20000 in
theorem t_X7_isUmpire_0 (X : Cx p m c cX7_isUmpire 2 s args RX7 D q ad) (hr : meth.sig.returnType = some .boolean) (hlocks : meth.locks = false) (x1 : Int32) (S : Sx) (rv : Int32) (ho : o_X7_isUmpire_0 x1 S) (he : b_X7_isUmpire_0 x1 S = rv) : Jg p l e rm_X7_isUmpire s m args below meth c 0 0 (MQ below (Qi D q ad d rv S s.heap.size) args s 0 0 (AU ad s.heap.size)) D q ad d 2 0 [(0, .ref (ad 5)), (1, .int x1)] [] S := by
  unfold b_X7_isUmpire_0 at he
  unfold o_X7_isUmpire_0 at ho
  refine j_iload_n X 1 dX7_isUmpire_0 rfl ?_
  refine j_iconst (v := 0) X dX7_isUmpire_1 (by decide) ?_
  refine j_aload_n X 0 dX7_isUmpire_2 rfl ?_
  refine gf_25_0 X m_fl_X7_7 kc25 dX7_isUmpire_3 ?_
  refine j_bipush (v := 102) X dX7_isUmpire_6 (by decide) ?_
  refine j_iald X kc26.1 (cl_26 kc26) (by unfold vp_in; decide) dX7_isUmpire_8 ?_
  refine j_iconst (v := 1) X dX7_isUmpire_9 (by decide) ?_
  refine j_isub X dX7_isUmpire_10 ?_
  have h2 := ho.1
  have ho := ho.2
  refine j_callSi (rest := []) X (c_X7_in (cx_inj X) x1 0 ((S 6 ((102 : Int32).toNatClampNeg)) - 1) S h2) cw_X7_58 ⟨rfl, rfl, Nat.le_of_ble_eq_true rfl, Nat.le_of_ble_eq_true rfl⟩ rfl rfl (Nat.le_of_ble_eq_true rfl) ⟨Nat.le_of_ble_eq_true rfl, Nat.le_of_ble_eq_true rfl⟩ dX7_isUmpire_11 ?_
  have h3 := ho.1
  have ho := ho.2
  exact j_zret X hr hlocks (bz_narrow h3) dX7_isUmpire_14 he rfl
theorem c_X7_isUmpire {l : Launch} {D : va_G} {q : Nat → ClassId} {ad : Nat → Nat} {d : UInt64} (hI : inj4 ad) (x1 : Int32) (S : Sx) (ho : o_X7_isUmpire_0 x1 S) : CI l yX7_isUmpire cX7_isUmpire 2 .boolean rm_X7_isUmpire D q ad d [.ref (ad 5), .int x1] S (b_X7_isUmpire_0 x1 S) S := ci_of hI (by decide +kernel) (Nat.le_of_ble_eq_true rfl) rfl (fun p e s m args below meth c X hr hlocks => t_X7_isUmpire_0 X hr hlocks x1 S _ ho rfl)
end
/-! RX7.isInnings -/
abbrev rm_X7_isInnings : Room := { frames := 1, cells := 0, slots := 0, locals := 22 }
section
variable {p : Program} {l : Launch} {e : Env} {s : State} {m : MethodId} {args : Array Value} {below : List Frame} {meth : Method} {c : Code} {D : va_G} {q : Nat → ClassId} {ad : Nat → Nat} {d : UInt64}
def b_X7_isInnings_0 (x1 : Int32) (S : Sx) : Int32 := b_X7_in_0 x1 0 ((S 6 ((106 : Int32).toNatClampNeg)) - 1) S
def o_X7_isInnings_0 (x1 : Int32) (S : Sx) : Prop := o_X7_in_0 x1 0 ((S 6 ((106 : Int32).toNatClampNeg)) - 1) S ∧ (bz (b_X7_in_0 x1 0 ((S 6 ((106 : Int32).toNatClampNeg)) - 1) S) ∧ True)
set_option maxRecDepth 20000 in
theorem t_X7_isInnings_0 (X : Cx p m c cX7_isInnings 2 s args RX7 D q ad) (hr : meth.sig.returnType = some .boolean) (hlocks : meth.locks = false) (x1 : Int32) (S : Sx) (rv : Int32) (ho : o_X7_isInnings_0 x1 S) (he : b_X7_isInnings_0 x1 S = rv) : Jg p l e rm_X7_isInnings s m args below meth c 0 0 (MQ below (Qi D q ad d rv S s.heap.size) args s 0 0 (AU ad s.heap.size)) D q ad d 2 0 [(0, .ref (ad 5)), (1, .int x1)] [] S := by
  unfold b_X7_isInnings_0 at he
  unfold o_X7_isInnings_0 at ho
  refine j_iload_n X 1 dX7_isInnings_0 rfl ?_
  refine j_iconst (v := 0) X dX7_isInnings_1 (by decide) ?_
  refine j_aload_n X 0 dX7_isInnings_2 rfl ?_
  refine gf_25_0 X m_fl_X7_7 kc25 dX7_isInnings_3 ?_
  refine j_bipush (v := 106) X dX7_isInnings_6 (by decide) ?_
  refine j_iald X kc26.1 (cl_26 kc26) (by unfold vp_in; decide) dX7_isInnings_8 ?_
  refine j_iconst (v := 1) X dX7_isInnings_9 (by decide) ?_
  refine j_isub X dX7_isInnings_10 ?_
  have h2 := ho.1
  have ho := ho.2
  refine j_callSi (rest := []) X (c_X7_in (cx_inj X) x1 0 ((S 6 ((106 : Int32).toNatClampNeg)) - 1) S h2) cw_X7_58 ⟨rfl, rfl, Nat.le_of_ble_eq_true rfl, Nat.le_of_ble_eq_true rfl⟩ rfl rfl (Nat.le_of_ble_eq_true rfl) ⟨Nat.le_of_ble_eq_true rfl, Nat.le_of_ble_eq_true rfl⟩ dX7_isInnings_11 ?_
  have h3 := ho.1
  have ho := ho.2
  exact j_zret X hr hlocks (bz_narrow h3) dX7_isInnings_14 he rfl
theorem c_X7_isInnings {l : Launch} {D : va_G} {q : Nat → ClassId} {ad : Nat → Nat} {d : UInt64} (hI : inj4 ad) (x1 : Int32) (S : Sx) (ho : o_X7_isInnings_0 x1 S) : CI l yX7_isInnings cX7_isInnings 2 .boolean rm_X7_isInnings D q ad d [.ref (ad 5), .int x1] S (b_X7_isInnings_0 x1 S) S := ci_of hI (by decide +kernel) (Nat.le_of_ble_eq_true rfl) rfl (fun p e s m args below meth c X hr hlocks => t_X7_isInnings_0 X hr hlocks x1 S _ ho rfl)
end
/-! RX7.of -/
abbrev rm_X7_of : Room := { frames := 0, cells := 0, slots := 0, locals := 0 }
section
variable {p : Program} {l : Launch} {e : Env} {s : State} {m : MethodId} {args : Array Value} {below : List Frame} {meth : Method} {c : Code} {D : va_G} {q : Nat → ClassId} {ad : Nat → Nat} {d : UInt64}
def b_X7_of_0 (x1 : Int32) (x2 : Int32) (S : Sx) : Int32 := S 6 (((51 + (5 * x1)) + x2).toNatClampNeg)
def o_X7_of_0 (x1 : Int32) (x2 : Int32) (S : Sx) : Prop := vp_in ((51 + (5 * x1)) + x2) 275 ∧ True
set_option maxRecDepth 20000 in
theorem t_X7_of_0 (X : Cx p m c cX7_of 3 s args RX7 D q ad) (hr : meth.sig.returnType = some .int) (hlocks : meth.locks = false) (x1 : Int32) (x2 : Int32) (S : Sx) (rv : Int32) (ho : o_X7_of_0 x1 x2 S) (he : b_X7_of_0 x1 x2 S = rv) : Jg p l e rm_X7_of s m args below meth c 0 0 (MQ below (Qi D q ad d rv S s.heap.size) args s 0 0 (AU ad s.heap.size)) D q ad d 3 0 [(0, .ref (ad 5)), (1, .int x1), (2, .int x2)] [] S := by
  unfold b_X7_of_0 at he
  unfold o_X7_of_0 at ho
  refine j_aload_n X 0 dX7_of_0 rfl ?_
  refine gf_25_0 X m_fl_X7_7 kc25 dX7_of_1 ?_
  refine j_bipush (v := 51) X dX7_of_4 (by decide) ?_
  refine j_iconst (v := 5) X dX7_of_6 (by decide) ?_
  refine j_iload_n X 1 dX7_of_7 rfl ?_
  refine j_imul X dX7_of_8 ?_
  refine j_iadd X dX7_of_9 ?_
  refine j_iload_n X 2 dX7_of_10 rfl ?_
  refine j_iadd X dX7_of_11 ?_
  have h2 := ho.1
  have ho := ho.2
  refine j_iald X kc26.1 (cl_26 kc26) h2 dX7_of_12 ?_
  exact j_iret X hr hlocks dX7_of_13 he rfl
theorem c_X7_of {l : Launch} {D : va_G} {q : Nat → ClassId} {ad : Nat → Nat} {d : UInt64} (hI : inj4 ad) (x1 : Int32) (x2 : Int32) (S : Sx) (ho : o_X7_of_0 x1 x2 S) : CI l yX7_of cX7_of 3 .int rm_X7_of D q ad d [.ref (ad 5), .int x1, .int x2] S (b_X7_of_0 x1 x2 S) S := ci_of hI (by decide +kernel) (Nat.le_of_ble_eq_true rfl) rfl (fun p e s m args below meth c X hr hlocks => t_X7_of_0 X hr hlocks x1 x2 S _ ho rfl)
end
/-! RX7.lays -/
abbrev rm_X7_lays : Room := { frames := 0, cells := 0, slots := 0, locals := 0 }
section
variable {p : Program} {l : Launch} {e : Env} {s : State} {m : MethodId} {args : Array Value} {below : List Frame} {meth : Method} {c : Code} {D : va_G} {q : Nat → ClassId} {ad : Nat → Nat} {d : UInt64}
def b_X7_lays_0 (x1 : Int32) (x2 : Int32) (x3 : Int32) (S : Sx) : Sx := up2 S 6 (((51 + (5 * x1)) + x2).toNatClampNeg) x3
def o_X7_lays_0 (x1 : Int32) (x2 : Int32) (x3 : Int32) (S : Sx) : Prop := vp_in ((51 + (5 * x1)) + x2) 275 ∧ True
set_option maxRecDepth 20000 in
theorem t_X7_lays_0 (X : Cx p m c cX7_lays 4 s args RX7 D q ad) (hr : meth.sig.returnType = none) (hlocks : meth.locks = false) (x1 : Int32) (x2 : Int32) (x3 : Int32) (S : Sx) (S' : Sx) (ho : o_X7_lays_0 x1 x2 x3 S) (he : b_X7_lays_0 x1 x2 x3 S = S') : Jg p l e rm_X7_lays s m args below meth c 0 0 (MQ below (Qv D q ad d S' s.heap.size) args s 0 0 (AU ad s.heap.size)) D q ad d 4 0 [(0, .ref (ad 5)), (1, .int x1), (2, .int x2), (3, .int x3)] [] S := by
  unfold b_X7_lays_0 at he
  unfold o_X7_lays_0 at ho
  refine j_aload_n X 0 dX7_lays_0 rfl ?_
  refine gf_25_0 X m_fl_X7_7 kc25 dX7_lays_1 ?_
  refine j_bipush (v := 51) X dX7_lays_4 (by decide) ?_
  refine j_iconst (v := 5) X dX7_lays_6 (by decide) ?_
  refine j_iload_n X 1 dX7_lays_7 rfl ?_
  refine j_imul X dX7_lays_8 ?_
  refine j_iadd X dX7_lays_9 ?_
  refine j_iload_n X 2 dX7_lays_10 rfl ?_
  refine j_iadd X dX7_lays_11 ?_
  refine j_iload_n X 3 dX7_lays_12 rfl ?_
  have h2 := ho.1
  have ho := ho.2
  refine j_iast X kc26.1 (fun T => cl_26 kc26) h2 dX7_lays_13 ?_
  exact j_vret X hr hlocks dX7_lays_14 he
theorem c_X7_lays {l : Launch} {D : va_G} {q : Nat → ClassId} {ad : Nat → Nat} {d : UInt64} (hI : inj4 ad) (x1 : Int32) (x2 : Int32) (x3 : Int32) (S : Sx) (ho : o_X7_lays_0 x1 x2 x3 S) : CV l yX7_lays cX7_lays 4 rm_X7_lays D q ad d [.ref (ad 5), .int x1, .int x2, .int x3] S (b_X7_lays_0 x1 x2 x3 S) := cv_of hI (by decide +kernel) (Nat.le_of_ble_eq_true rfl) rfl (fun p e s m args below meth c X hr hlocks => t_X7_lays_0 X hr hlocks x1 x2 x3 S _ ho rfl)
end
/-! RX7.ofHorse -/
abbrev rm_X7_ofHorse : Room := { frames := 0, cells := 0, slots := 0, locals := 0 }
section
variable {p : Program} {l : Launch} {e : Env} {s : State} {m : MethodId} {args : Array Value} {below : List Frame} {meth : Method} {c : Code} {D : va_G} {q : Nat → ClassId} {ad : Nat → Nat} {d : UInt64}
def b_X7_ofHorse_0 (x1 : Int32) (x2 : Int32) (S : Sx) : Int32 := S 6 (((72 + (6 * x1)) + x2).toNatClampNeg)
def o_X7_ofHorse_0 (x1 : Int32) (x2 : Int32) (S : Sx) : Prop := vp_in ((72 + (6 * x1)) + x2) 275 ∧ True
set_option maxRecDepth 20000 in
theorem t_X7_ofHorse_0 (X : Cx p m c cX7_ofHorse 3 s args RX7 D q ad) (hr : meth.sig.returnType = some .int) (hlocks : meth.locks = false) (x1 : Int32) (x2 : Int32) (S : Sx) (rv : Int32) (ho : o_X7_ofHorse_0 x1 x2 S) (he : b_X7_ofHorse_0 x1 x2 S = rv) : Jg p l e rm_X7_ofHorse s m args below meth c 0 0 (MQ below (Qi D q ad d rv S s.heap.size) args s 0 0 (AU ad s.heap.size)) D q ad d 3 0 [(0, .ref (ad 5)), (1, .int x1), (2, .int x2)] [] S := by
  unfold b_X7_ofHorse_0 at he
  unfold o_X7_ofHorse_0 at ho
  refine j_aload_n X 0 dX7_ofHorse_0 rfl ?_
  refine gf_25_0 X m_fl_X7_7 kc25 dX7_ofHorse_1 ?_
  refine j_bipush (v := 72) X dX7_ofHorse_4 (by decide) ?_
  refine j_bipush (v := 6) X dX7_ofHorse_6 (by decide) ?_
  refine j_iload_n X 1 dX7_ofHorse_8 rfl ?_
  refine j_imul X dX7_ofHorse_9 ?_
  refine j_iadd X dX7_ofHorse_10 ?_
  refine j_iload_n X 2 dX7_ofHorse_11 rfl ?_
  refine j_iadd X dX7_ofHorse_12 ?_
  have h2 := ho.1
  have ho := ho.2
  refine j_iald X kc26.1 (cl_26 kc26) h2 dX7_ofHorse_13 ?_
  exact j_iret X hr hlocks dX7_ofHorse_14 he rfl
theorem c_X7_ofHorse {l : Launch} {D : va_G} {q : Nat → ClassId} {ad : Nat → Nat} {d : UInt64} (hI : inj4 ad) (x1 : Int32) (x2 : Int32) (S : Sx) (ho : o_X7_ofHorse_0 x1 x2 S) : CI l yX7_ofHorse cX7_ofHorse 3 .int rm_X7_ofHorse D q ad d [.ref (ad 5), .int x1, .int x2] S (b_X7_ofHorse_0 x1 x2 S) S := ci_of hI (by decide +kernel) (Nat.le_of_ble_eq_true rfl) rfl (fun p e s m args below meth c X hr hlocks => t_X7_ofHorse_0 X hr hlocks x1 x2 S _ ho rfl)
end
/-! RX7.laysHorse -/
abbrev rm_X7_laysHorse : Room := { frames := 0, cells := 0, slots := 0, locals := 0 }
section
variable {p : Program} {l : Launch} {e : Env} {s : State} {m : MethodId} {args : Array Value} {below : List Frame} {meth : Method} {c : Code} {D : va_G} {q : Nat → ClassId} {ad : Nat → Nat} {d : UInt64}
def b_X7_laysHorse_0 (x1 : Int32) (x2 : Int32) (x3 : Int32) (S : Sx) : Sx := up2 S 6 (((72 + (6 * x1)) + x2).toNatClampNeg) x3
def o_X7_laysHorse_0 (x1 : Int32) (x2 : Int32) (x3 : Int32) (S : Sx) : Prop := vp_in ((72 + (6 * x1)) + x2) 275 ∧ True
set_option maxRecDepth 20000 in
theorem t_X7_laysHorse_0 (X : Cx p m c cX7_laysHorse 4 s args RX7 D q ad) (hr : meth.sig.returnType = none) (hlocks : meth.locks = false) (x1 : Int32) (x2 : Int32) (x3 : Int32) (S : Sx) (S' : Sx) (ho : o_X7_laysHorse_0 x1 x2 x3 S) (he : b_X7_laysHorse_0 x1 x2 x3 S = S') : Jg p l e rm_X7_laysHorse s m args below meth c 0 0 (MQ below (Qv D q ad d S' s.heap.size) args s 0 0 (AU ad s.heap.size)) D q ad d 4 0 [(0, .ref (ad 5)), (1, .int x1), (2, .int x2), (3, .int x3)] [] S := by
  unfold b_X7_laysHorse_0 at he
  unfold o_X7_laysHorse_0 at ho
  refine j_aload_n X 0 dX7_laysHorse_0 rfl ?_
  refine gf_25_0 X m_fl_X7_7 kc25 dX7_laysHorse_1 ?_
  refine j_bipush (v := 72) X dX7_laysHorse_4 (by decide) ?_
  refine j_bipush (v := 6) X dX7_laysHorse_6 (by decide) ?_
  refine j_iload_n X 1 dX7_laysHorse_8 rfl ?_
  refine j_imul X dX7_laysHorse_9 ?_
  refine j_iadd X dX7_laysHorse_10 ?_
  refine j_iload_n X 2 dX7_laysHorse_11 rfl ?_
  refine j_iadd X dX7_laysHorse_12 ?_
  refine j_iload_n X 3 dX7_laysHorse_13 rfl ?_
  have h2 := ho.1
  have ho := ho.2
  refine j_iast X kc26.1 (fun T => cl_26 kc26) h2 dX7_laysHorse_14 ?_
  exact j_vret X hr hlocks dX7_laysHorse_15 he
theorem c_X7_laysHorse {l : Launch} {D : va_G} {q : Nat → ClassId} {ad : Nat → Nat} {d : UInt64} (hI : inj4 ad) (x1 : Int32) (x2 : Int32) (x3 : Int32) (S : Sx) (ho : o_X7_laysHorse_0 x1 x2 x3 S) : CV l yX7_laysHorse cX7_laysHorse 4 rm_X7_laysHorse D q ad d [.ref (ad 5), .int x1, .int x2, .int x3] S (b_X7_laysHorse_0 x1 x2 x3 S) := cv_of hI (by decide +kernel) (Nat.le_of_ble_eq_true rfl) rfl (fun p e s m args below meth c X hr hlocks => t_X7_laysHorse_0 X hr hlocks x1 x2 x3 S _ ho rfl)
end
/-! RX7.ofInnings -/
abbrev rm_X7_ofInnings : Room := { frames := 0, cells := 0, slots := 0, locals := 0 }
section
variable {p : Program} {l : Launch} {e : Env} {s : State} {m : MethodId} {args : Array Value} {below : List Frame} {meth : Method} {c : Code} {D : va_G} {q : Nat → ClassId} {ad : Nat → Nat} {d : UInt64}
def b_X7_ofInnings_0 (x1 : Int32) (x2 : Int32) (S : Sx) : Int32 := S 6 (((107 + (14 * x1)) + x2).toNatClampNeg)
def o_X7_ofInnings_0 (x1 : Int32) (x2 : Int32) (S : Sx) : Prop := vp_in ((107 + (14 * x1)) + x2) 275 ∧ True
set_option maxRecDepth 20000 in
theorem t_X7_ofInnings_0 (X : Cx p m c cX7_ofInnings 3 s args RX7 D q ad) (hr : meth.sig.returnType = some .int) (hlocks : meth.locks = false) (x1 : Int32) (x2 : Int32) (S : Sx) (rv : Int32) (ho : o_X7_ofInnings_0 x1 x2 S) (he : b_X7_ofInnings_0 x1 x2 S = rv) : Jg p l e rm_X7_ofInnings s m args below meth c 0 0 (MQ below (Qi D q ad d rv S s.heap.size) args s 0 0 (AU ad s.heap.size)) D q ad d 3 0 [(0, .ref (ad 5)), (1, .int x1), (2, .int x2)] [] S := by
  unfold b_X7_ofInnings_0 at he
  unfold o_X7_ofInnings_0 at ho
  refine j_aload_n X 0 dX7_ofInnings_0 rfl ?_
  refine gf_25_0 X m_fl_X7_7 kc25 dX7_ofInnings_1 ?_
  refine j_bipush (v := 107) X dX7_ofInnings_4 (by decide) ?_
  refine j_bipush (v := 14) X dX7_ofInnings_6 (by decide) ?_
  refine j_iload_n X 1 dX7_ofInnings_8 rfl ?_
  refine j_imul X dX7_ofInnings_9 ?_
  refine j_iadd X dX7_ofInnings_10 ?_
  refine j_iload_n X 2 dX7_ofInnings_11 rfl ?_
  refine j_iadd X dX7_ofInnings_12 ?_
  have h2 := ho.1
  have ho := ho.2
  refine j_iald X kc26.1 (cl_26 kc26) h2 dX7_ofInnings_13 ?_
  exact j_iret X hr hlocks dX7_ofInnings_14 he rfl
theorem c_X7_ofInnings {l : Launch} {D : va_G} {q : Nat → ClassId} {ad : Nat → Nat} {d : UInt64} (hI : inj4 ad) (x1 : Int32) (x2 : Int32) (S : Sx) (ho : o_X7_ofInnings_0 x1 x2 S) : CI l yX7_ofInnings cX7_ofInnings 3 .int rm_X7_ofInnings D q ad d [.ref (ad 5), .int x1, .int x2] S (b_X7_ofInnings_0 x1 x2 S) S := ci_of hI (by decide +kernel) (Nat.le_of_ble_eq_true rfl) rfl (fun p e s m args below meth c X hr hlocks => t_X7_ofInnings_0 X hr hlocks x1 x2 S _ ho rfl)
end
/-! RX7.laysInnings -/
abbrev rm_X7_laysInnings : Room := { frames := 0, cells := 0, slots := 0, locals := 0 }
section
variable {p : Program} {l : Launch} {e : Env} {s : State} {m : MethodId} {args : Array Value} {below : List Frame} {meth : Method} {c : Code} {D : va_G} {q : Nat → ClassId} {ad : Nat → Nat} {d : UInt64}
def b_X7_laysInnings_0 (x1 : Int32) (x2 : Int32) (x3 : Int32) (S : Sx) : Sx := up2 S 6 (((107 + (14 * x1)) + x2).toNatClampNeg) x3
def o_X7_laysInnings_0 (x1 : Int32) (x2 : Int32) (x3 : Int32) (S : Sx) : Prop := vp_in ((107 + (14 * x1)) + x2) 275 ∧ True
set_option maxRecDepth 20000 in
theorem t_X7_laysInnings_0 (X : Cx p m c cX7_laysInnings 4 s args RX7 D q ad) (hr : meth.sig.returnType = none) (hlocks : meth.locks = false) (x1 : Int32) (x2 : Int32) (x3 : Int32) (S : Sx) (S' : Sx) (ho : o_X7_laysInnings_0 x1 x2 x3 S) (he : b_X7_laysInnings_0 x1 x2 x3 S = S') : Jg p l e rm_X7_laysInnings s m args below meth c 0 0 (MQ below (Qv D q ad d S' s.heap.size) args s 0 0 (AU ad s.heap.size)) D q ad d 4 0 [(0, .ref (ad 5)), (1, .int x1), (2, .int x2), (3, .int x3)] [] S := by
  unfold b_X7_laysInnings_0 at he
  unfold o_X7_laysInnings_0 at ho
  refine j_aload_n X 0 dX7_laysInnings_0 rfl ?_
  refine gf_25_0 X m_fl_X7_7 kc25 dX7_laysInnings_1 ?_
  refine j_bipush (v := 107) X dX7_laysInnings_4 (by decide) ?_
  refine j_bipush (v := 14) X dX7_laysInnings_6 (by decide) ?_
  refine j_iload_n X 1 dX7_laysInnings_8 rfl ?_
  refine j_imul X dX7_laysInnings_9 ?_
  refine j_iadd X dX7_laysInnings_10 ?_
  refine j_iload_n X 2 dX7_laysInnings_11 rfl ?_
  refine j_iadd X dX7_laysInnings_12 ?_
  refine j_iload_n X 3 dX7_laysInnings_13 rfl ?_
  have h2 := ho.1
  have ho := ho.2
  refine j_iast X kc26.1 (fun T => cl_26 kc26) h2 dX7_laysInnings_14 ?_
  exact j_vret X hr hlocks dX7_laysInnings_15 he
theorem c_X7_laysInnings {l : Launch} {D : va_G} {q : Nat → ClassId} {ad : Nat → Nat} {d : UInt64} (hI : inj4 ad) (x1 : Int32) (x2 : Int32) (x3 : Int32) (S : Sx) (ho : o_X7_laysInnings_0 x1 x2 x3 S) : CV l yX7_laysInnings cX7_laysInnings 4 rm_X7_laysInnings D q ad d [.ref (ad 5), .int x1, .int x2, .int x3] S (b_X7_laysInnings_0 x1 x2 x3 S) := cv_of hI (by decide +kernel) (Nat.le_of_ble_eq_true rfl) rfl (fun p e s m args below meth c X hr hlocks => t_X7_laysInnings_0 X hr hlocks x1 x2 x3 S _ ho rfl)
end
/-! RX7.hourOfDay -/
abbrev rm_X7_hourOfDay : Room := { frames := 0, cells := 0, slots := 0, locals := 0 }
section
variable {p : Program} {l : Launch} {e : Env} {s : State} {m : MethodId} {args : Array Value} {below : List Frame} {meth : Method} {c : Code} {D : va_G} {q : Nat → ClassId} {ad : Nat → Nat} {d : UInt64}
def b_X7_hourOfDay_0  (S : Sx) : Int32 := i_rem (S 6 ((0 : Int32).toNatClampNeg)) 24
set_option maxRecDepth 20000 in
theorem t_X7_hourOfDay_0 (X : Cx p m c cX7_hourOfDay 1 s args RX7 D q ad) (hr : meth.sig.returnType = some .int) (hlocks : meth.locks = false) (S : Sx) (rv : Int32) (he : b_X7_hourOfDay_0 S = rv) : Jg p l e rm_X7_hourOfDay s m args below meth c 0 0 (MQ below (Qi D q ad d rv S s.heap.size) args s 0 0 (AU ad s.heap.size)) D q ad d 1 0 [(0, .ref (ad 5))] [] S := by
  unfold b_X7_hourOfDay_0 at he
  refine j_aload_n X 0 dX7_hourOfDay_0 rfl ?_
  refine gf_25_0 X m_fl_X7_7 kc25 dX7_hourOfDay_1 ?_
  refine j_iconst (v := 0) X dX7_hourOfDay_4 (by decide) ?_
  refine j_iald X kc26.1 (cl_26 kc26) (by unfold vp_in; decide) dX7_hourOfDay_5 ?_
  refine j_bipush (v := 24) X dX7_hourOfDay_6 (by decide) ?_
  refine j_irem X dX7_hourOfDay_8 (by decide) ?_
  exact j_iret X hr hlocks dX7_hourOfDay_9 he rfl
theorem c_X7_hourOfDay {l : Launch} {D : va_G} {q : Nat → ClassId} {ad : Nat → Nat} {d : UInt64} (hI : inj4 ad) (S : Sx) : CI l yX7_hourOfDay cX7_hourOfDay 1 .int rm_X7_hourOfDay D q ad d [.ref (ad 5)] S (b_X7_hourOfDay_0 S) S := ci_of hI (by decide +kernel) (Nat.le_of_ble_eq_true rfl) rfl (fun p e s m args below meth c X hr hlocks => t_X7_hourOfDay_0 X hr hlocks S _ rfl)
end
/-! RX7.sets -/
abbrev rm_X7_sets : Room := { frames := 2, cells := 0, slots := 0, locals := 46 }
section
variable {p : Program} {l : Launch} {e : Env} {s : State} {m : MethodId} {args : Array Value} {below : List Frame} {meth : Method} {c : Code} {D : va_G} {q : Nat → ClassId} {ad : Nat → Nat} {d : UInt64}
def b_X7_sets_22 (v3 : Int32) (S : Sx) : Int32 × Sx := (v3, S)
set_option maxRecDepth 20000 in
theorem t_X7_sets_22 (X : Cx p m c cX7_sets 4 s args RX7 D q ad) (hr : meth.sig.returnType = some .int) (hlocks : meth.locks = false) (v3 : Int32) (S : Sx) (rv : Int32) (S' : Sx) (he : b_X7_sets_22 v3 S = (rv, S')) : Jg p l e rm_X7_sets s m args below meth c 0 0 (MQ below (Qi D q ad d rv S' s.heap.size) args s 0 0 (AU ad s.heap.size)) D q ad d 4 22 [(3, .int v3)] [] S := by
  unfold b_X7_sets_22 at he
  refine j_iload_n X 0 dX7_sets_22 rfl ?_
  exact j_iret X hr hlocks dX7_sets_23 (congrArg Prod.fst he) (congrArg Prod.snd he)
def b_X7_sets_0 (x1 : Int32) (x2 : Int32) (S : Sx) : Int32 × Sx := b_X7_sets_22 ((b_X7_keeps_0 6 S) 6 x1.toNatClampNeg) (up2 (b_X7_keeps_0 6 S) 6 x1.toNatClampNeg x2)
def o_X7_sets_0 (x1 : Int32) (x2 : Int32) (S : Sx) : Prop := o_X7_keeps_0 6 S ∧ (vp_in x1 275 ∧ (vp_in x1 275 ∧ True))
set_option maxRecDepth 20000 in
theorem t_X7_sets_0 (X : Cx p m c cX7_sets 4 s args RX7 D q ad) (hr : meth.sig.returnType = some .int) (hlocks : meth.locks = false) (x1 : Int32) (x2 : Int32) (S : Sx) (rv : Int32) (S' : Sx) (ho : o_X7_sets_0 x1 x2 S) (he : b_X7_sets_0 x1 x2 S = (rv, S')) : Jg p l e rm_X7_sets s m args below meth c 0 0 (MQ below (Qi D q ad d rv S' s.heap.size) args s 0 0 (AU ad s.heap.size)) D q ad d 4 0 [(0, .ref (ad 5)), (1, .int x1), (2, .int x2)] [] S := by
  unfold b_X7_sets_0 at he
  unfold o_X7_sets_0 at ho
  refine j_aload_n X 0 dX7_sets_0 rfl ?_
  refine j_aload_n X 0 dX7_sets_1 rfl ?_
  refine gf_25_0 X m_fl_X7_7 kc25 dX7_sets_2 ?_
  have h2 := ho.1
  have ho := ho.2
  refine j_callVv (rest := []) X (c_X7_keeps (cx_inj X) 6 (isA_of26 kc26) S h2) cw_X7_62 kc25.1 (cl_25 kc25) rfl ⟨rfl, rfl, Nat.le_of_ble_eq_true rfl, Nat.le_of_ble_eq_true rfl⟩ rfl rfl (Nat.le_of_ble_eq_true rfl) ⟨Nat.le_of_ble_eq_true rfl, Nat.le_of_ble_eq_true rfl⟩ dX7_sets_5 ?_
  refine j_aload_n X 0 dX7_sets_8 rfl ?_
  refine gf_25_0 X m_fl_X7_7 kc25 dX7_sets_9 ?_
  refine j_iload_n X 1 dX7_sets_12 rfl ?_
  have h3 := ho.1
  have ho := ho.2
  refine j_iald X kc26.1 (cl_26 kc26) h3 dX7_sets_13 ?_
  refine j_istore_n X [(3, .int ((b_X7_keeps_0 6 S) 6 x1.toNatClampNeg)), (0, .ref (ad 5)), (1, .int x1), (2, .int x2)] dX7_sets_14 (by decide) rfl ?_
  refine j_aload_n X 1 dX7_sets_15 rfl ?_
  refine gf_25_0 X m_fl_X7_7 kc25 dX7_sets_16 ?_
  refine j_iload_n X 2 dX7_sets_19 rfl ?_
  refine j_iload_n X 3 dX7_sets_20 rfl ?_
  have h4 := ho.1
  have ho := ho.2
  refine j_iast X kc26.1 (fun T => cl_26 kc26) h4 dX7_sets_21 ?_
  refine j_lv [0] [(3, .int ((b_X7_keeps_0 6 S) 6 x1.toNatClampNeg))] rfl ?_
  exact t_X7_sets_22 X hr hlocks ((b_X7_keeps_0 6 S) 6 x1.toNatClampNeg) (up2 (b_X7_keeps_0 6 S) 6 x1.toNatClampNeg x2) _ _ he
theorem c_X7_sets {l : Launch} {D : va_G} {q : Nat → ClassId} {ad : Nat → Nat} {d : UInt64} (hI : inj4 ad) (x1 : Int32) (x2 : Int32) (S : Sx) (ho : o_X7_sets_0 x1 x2 S) : CI l yX7_sets cX7_sets 4 .int rm_X7_sets D q ad d [.ref (ad 5), .int x1, .int x2] S (b_X7_sets_0 x1 x2 S).1 (b_X7_sets_0 x1 x2 S).2 := ci_of hI (by decide +kernel) (Nat.le_of_ble_eq_true rfl) rfl (fun p e s m args below meth c X hr hlocks => t_X7_sets_0 X hr hlocks x1 x2 S _ _ ho (pe _))
end
/-! RX7.rain -/
abbrev rm_X7_rain : Room := { frames := 3, cells := 0, slots := 0, locals := 69 }
section
variable {p : Program} {l : Launch} {e : Env} {s : State} {m : MethodId} {args : Array Value} {below : List Frame} {meth : Method} {c : Code} {D : va_G} {q : Nat → ClassId} {ad : Nat → Nat} {d : UInt64}
def b_X7_rain_45 (w0 : Int32) (S : Sx) : Int32 × Sx := (w0, S)
set_option maxRecDepth 20000 in
theorem t_X7_rain_45 (X : Cx p m c cX7_rain 3 s args RX7 D q ad) (hr : meth.sig.returnType = some .int) (hlocks : meth.locks = false) (w0 : Int32) (S : Sx) (rv : Int32) (S' : Sx) (he : b_X7_rain_45 w0 S = (rv, S')) : Jg p l e rm_X7_rain s m args below meth c 0 0 (MQ below (Qi D q ad d rv S' s.heap.size) args s 0 0 (AU ad s.heap.size)) D q ad d 3 45 [] [.int w0] S := by
  unfold b_X7_rain_45 at he
  exact j_iret X hr hlocks dX7_rain_45 (congrArg Prod.fst he) (congrArg Prod.snd he)
def b_X7_rain_27 (v1 : Int32) (v2 : Int32) (w0 : Int32) (S : Sx) : Int32 × Sx := if ((b_X7_fails_0 w0 S).1) = 0 then b_X7_rain_45 ((b_X7_sets_0 (2 + v1) v2 ((b_X7_fails_0 w0 S).2)).1) ((b_X7_sets_0 (2 + v1) v2 ((b_X7_fails_0 w0 S).2)).2) else b_X7_rain_45 0 ((b_X7_fails_0 w0 S).2)
def o_X7_rain_27 (v1 : Int32) (v2 : Int32) (w0 : Int32) (S : Sx) : Prop := o_X7_fails_0 w0 S ∧ ((((b_X7_fails_0 w0 S).1) = 0 → (o_X7_sets_0 (2 + v1) v2 ((b_X7_fails_0 w0 S).2) ∧ True)) ∧ (¬ ((b_X7_fails_0 w0 S).1) = 0 → True))
set_option maxRecDepth 20000 in
theorem t_X7_rain_27 (X : Cx p m c cX7_rain 3 s args RX7 D q ad) (hr : meth.sig.returnType = some .int) (hlocks : meth.locks = false) (v1 : Int32) (v2 : Int32) (w0 : Int32) (S : Sx) (rv : Int32) (S' : Sx) (ho : o_X7_rain_27 v1 v2 w0 S) (he : b_X7_rain_27 v1 v2 w0 S = (rv, S')) : Jg p l e rm_X7_rain s m args below meth c 0 0 (MQ below (Qi D q ad d rv S' s.heap.size) args s 0 0 (AU ad s.heap.size)) D q ad d 3 27 [(0, .ref (ad 5)), (1, .int v1), (2, .int v2)] [.int w0, .ref (ad 5)] S := by
  unfold b_X7_rain_27 at he
  unfold o_X7_rain_27 at ho
  have h2 := ho.1
  have ho := ho.2
  refine j_callVi (rest := []) X (c_X7_fails (cx_inj X) w0 S h2) cw_X7_70 kc25.1 (cl_25 kc25) rfl ⟨rfl, rfl, Nat.le_of_ble_eq_true rfl, Nat.le_of_ble_eq_true rfl⟩ rfl rfl (Nat.le_of_ble_eq_true rfl) ⟨Nat.le_of_ble_eq_true rfl, Nat.le_of_ble_eq_true rfl⟩ dX7_rain_27 ?_
  refine j_if_eq X 37 dX7_rain_30 (by decide) (fun h3 => ?_) (fun h3 => ?_)
  · rw [if_pos h3] at he
    have ho := ho.1 h3
    refine j_aload_n X 0 dX7_rain_37 rfl ?_
    refine j_iconst (v := 2) X dX7_rain_38 (by decide) ?_
    refine j_iload_n X 1 dX7_rain_39 rfl ?_
    refine j_iadd X dX7_rain_40 ?_
    refine j_iload_n X 2 dX7_rain_41 rfl ?_
    have h4 := ho.1
    have ho := ho.2
    refine j_callVi (rest := []) X (c_X7_sets (cx_inj X) (2 + v1) v2 ((b_X7_fails_0 w0 S).2) h4) cw_X7_73 kc25.1 (cl_25 kc25) rfl ⟨rfl, rfl, Nat.le_of_ble_eq_true rfl, Nat.le_of_ble_eq_true rfl⟩ rfl rfl (Nat.le_of_ble_eq_true rfl) ⟨Nat.le_of_ble_eq_true rfl, Nat.le_of_ble_eq_true rfl⟩ dX7_rain_42 ?_
    refine j_lv [] [] rfl ?_
    exact t_X7_rain_45 X hr hlocks ((b_X7_sets_0 (2 + v1) v2 ((b_X7_fails_0 w0 S).2)).1) ((b_X7_sets_0 (2 + v1) v2 ((b_X7_fails_0 w0 S).2)).2) _ _ he
  · rw [if_neg h3] at he
    have ho := ho.2 h3
    refine j_iconst (v := 0) X dX7_rain_33 (by decide) ?_
    refine j_goto X 45 dX7_rain_34 (by decide) ?_
    refine j_lv [] [] rfl ?_
    exact t_X7_rain_45 X hr hlocks 0 ((b_X7_fails_0 w0 S).2) _ _ he
def b_X7_rain_0 (x1 : Int32) (x2 : Int32) (S : Sx) : Int32 × Sx := if (b_X7_isHour_0 x1 S) = 0 then b_X7_rain_27 x1 x2 1 S else if (b_X7_in_0 x2 0 9 S) = 0 then b_X7_rain_27 x1 x2 2 S else b_X7_rain_27 x1 x2 0 S
def o_X7_rain_0 (x1 : Int32) (x2 : Int32) (S : Sx) : Prop := o_X7_isHour_0 x1 S ∧ (((b_X7_isHour_0 x1 S) = 0 → (o_X7_rain_27 x1 x2 1 S)) ∧ (¬ (b_X7_isHour_0 x1 S) = 0 → (o_X7_in_0 x2 0 9 S ∧ (((b_X7_in_0 x2 0 9 S) = 0 → (o_X7_rain_27 x1 x2 2 S)) ∧ (¬ (b_X7_in_0 x2 0 9 S) = 0 → (o_X7_rain_27 x1 x2 0 S))))))
set_option maxRecDepth 20000 in
theorem t_X7_rain_0 (X : Cx p m c cX7_rain 3 s args RX7 D q ad) (hr : meth.sig.returnType = some .int) (hlocks : meth.locks = false) (x1 : Int32) (x2 : Int32) (S : Sx) (rv : Int32) (S' : Sx) (ho : o_X7_rain_0 x1 x2 S) (he : b_X7_rain_0 x1 x2 S = (rv, S')) : Jg p l e rm_X7_rain s m args below meth c 0 0 (MQ below (Qi D q ad d rv S' s.heap.size) args s 0 0 (AU ad s.heap.size)) D q ad d 3 0 [(0, .ref (ad 5)), (1, .int x1), (2, .int x2)] [] S := by
  unfold b_X7_rain_0 at he
  unfold o_X7_rain_0 at ho
  refine j_aload_n X 0 dX7_rain_0 rfl ?_
  refine j_iload_n X 1 dX7_rain_1 rfl ?_
  have h2 := ho.1
  have ho := ho.2
  refine j_callSi (rest := [.ref (ad 5)]) X (c_X7_isHour (cx_inj X) x1 S h2) cw_X7_66 ⟨rfl, rfl, Nat.le_of_ble_eq_true rfl, Nat.le_of_ble_eq_true rfl⟩ rfl rfl (Nat.le_of_ble_eq_true rfl) ⟨Nat.le_of_ble_eq_true rfl, Nat.le_of_ble_eq_true rfl⟩ dX7_rain_2 ?_
  refine j_if_ne X 12 dX7_rain_5 (by decide) (fun h3 => ?_) (fun h3 => ?_)
  · rw [if_neg h3] at he
    have ho := ho.2 h3
    refine j_iload_n X 2 dX7_rain_12 rfl ?_
    refine j_iconst (v := 0) X dX7_rain_13 (by decide) ?_
    refine j_bipush (v := 9) X dX7_rain_14 (by decide) ?_
    have h4 := ho.1
    have ho := ho.2
    refine j_callSi (rest := [.ref (ad 5)]) X (c_X7_in (cx_inj X) x2 0 9 S h4) cw_X7_58 ⟨rfl, rfl, Nat.le_of_ble_eq_true rfl, Nat.le_of_ble_eq_true rfl⟩ rfl rfl (Nat.le_of_ble_eq_true rfl) ⟨Nat.le_of_ble_eq_true rfl, Nat.le_of_ble_eq_true rfl⟩ dX7_rain_16 ?_
    refine j_if_eq X 26 dX7_rain_19 (by decide) (fun h5 => ?_) (fun h5 => ?_)
    · rw [if_pos h5] at he
      have ho := ho.1 h5
      refine j_iconst (v := 2) X dX7_rain_26 (by decide) ?_
      exact t_X7_rain_27 X hr hlocks x1 x2 2 S _ _ ho he
    · rw [if_neg h5] at he
      have ho := ho.2 h5
      refine j_iconst (v := 0) X dX7_rain_22 (by decide) ?_
      refine j_goto X 27 dX7_rain_23 (by decide) ?_
      exact t_X7_rain_27 X hr hlocks x1 x2 0 S _ _ ho he
  · rw [if_pos h3] at he
    have ho := ho.1 h3
    refine j_iconst (v := 1) X dX7_rain_8 (by decide) ?_
    refine j_goto X 27 dX7_rain_9 (by decide) ?_
    exact t_X7_rain_27 X hr hlocks x1 x2 1 S _ _ ho he
theorem c_X7_rain {l : Launch} {D : va_G} {q : Nat → ClassId} {ad : Nat → Nat} {d : UInt64} (hI : inj4 ad) (x1 : Int32) (x2 : Int32) (S : Sx) (ho : o_X7_rain_0 x1 x2 S) : CI l yX7_rain cX7_rain 3 .int rm_X7_rain D q ad d [.ref (ad 5), .int x1, .int x2] S (b_X7_rain_0 x1 x2 S).1 (b_X7_rain_0 x1 x2 S).2 := ci_of hI (by decide +kernel) (Nat.le_of_ble_eq_true rfl) rfl (fun p e s m args below meth c X hr hlocks => t_X7_rain_0 X hr hlocks x1 x2 S _ _ ho (pe _))
end
/-! RX7.light -/
abbrev rm_X7_light : Room := { frames := 3, cells := 0, slots := 0, locals := 69 }
section
variable {p : Program} {l : Launch} {e : Env} {s : State} {m : MethodId} {args : Array Value} {below : List Frame} {meth : Method} {c : Code} {D : va_G} {q : Nat → ClassId} {ad : Nat → Nat} {d : UInt64}
def b_X7_light_46 (w0 : Int32) (S : Sx) : Int32 × Sx := (w0, S)
set_option maxRecDepth 20000 in
theorem t_X7_light_46 (X : Cx p m c cX7_light 3 s args RX7 D q ad) (hr : meth.sig.returnType = some .int) (hlocks : meth.locks = false) (w0 : Int32) (S : Sx) (rv : Int32) (S' : Sx) (he : b_X7_light_46 w0 S = (rv, S')) : Jg p l e rm_X7_light s m args below meth c 0 0 (MQ below (Qi D q ad d rv S' s.heap.size) args s 0 0 (AU ad s.heap.size)) D q ad d 3 46 [] [.int w0] S := by
  unfold b_X7_light_46 at he
  exact j_iret X hr hlocks dX7_light_46 (congrArg Prod.fst he) (congrArg Prod.snd he)
def b_X7_light_27 (v1 : Int32) (v2 : Int32) (w0 : Int32) (S : Sx) : Int32 × Sx := if ((b_X7_fails_0 w0 S).1) = 0 then b_X7_light_46 ((b_X7_sets_0 (26 + v1) v2 ((b_X7_fails_0 w0 S).2)).1) ((b_X7_sets_0 (26 + v1) v2 ((b_X7_fails_0 w0 S).2)).2) else b_X7_light_46 0 ((b_X7_fails_0 w0 S).2)
def o_X7_light_27 (v1 : Int32) (v2 : Int32) (w0 : Int32) (S : Sx) : Prop := o_X7_fails_0 w0 S ∧ ((((b_X7_fails_0 w0 S).1) = 0 → (o_X7_sets_0 (26 + v1) v2 ((b_X7_fails_0 w0 S).2) ∧ True)) ∧ (¬ ((b_X7_fails_0 w0 S).1) = 0 → True))
set_option maxRecDepth 20000 in
theorem t_X7_light_27 (X : Cx p m c cX7_light 3 s args RX7 D q ad) (hr : meth.sig.returnType = some .int) (hlocks : meth.locks = false) (v1 : Int32) (v2 : Int32) (w0 : Int32) (S : Sx) (rv : Int32) (S' : Sx) (ho : o_X7_light_27 v1 v2 w0 S) (he : b_X7_light_27 v1 v2 w0 S = (rv, S')) : Jg p l e rm_X7_light s m args below meth c 0 0 (MQ below (Qi D q ad d rv S' s.heap.size) args s 0 0 (AU ad s.heap.size)) D q ad d 3 27 [(0, .ref (ad 5)), (1, .int v1), (2, .int v2)] [.int w0, .ref (ad 5)] S := by
  unfold b_X7_light_27 at he
  unfold o_X7_light_27 at ho
  have h2 := ho.1
  have ho := ho.2
  refine j_callVi (rest := []) X (c_X7_fails (cx_inj X) w0 S h2) cw_X7_70 kc25.1 (cl_25 kc25) rfl ⟨rfl, rfl, Nat.le_of_ble_eq_true rfl, Nat.le_of_ble_eq_true rfl⟩ rfl rfl (Nat.le_of_ble_eq_true rfl) ⟨Nat.le_of_ble_eq_true rfl, Nat.le_of_ble_eq_true rfl⟩ dX7_light_27 ?_
  refine j_if_eq X 37 dX7_light_30 (by decide) (fun h3 => ?_) (fun h3 => ?_)
  · rw [if_pos h3] at he
    have ho := ho.1 h3
    refine j_aload_n X 0 dX7_light_37 rfl ?_
    refine j_bipush (v := 26) X dX7_light_38 (by decide) ?_
    refine j_iload_n X 1 dX7_light_40 rfl ?_
    refine j_iadd X dX7_light_41 ?_
    refine j_iload_n X 2 dX7_light_42 rfl ?_
    have h4 := ho.1
    have ho := ho.2
    refine j_callVi (rest := []) X (c_X7_sets (cx_inj X) (26 + v1) v2 ((b_X7_fails_0 w0 S).2) h4) cw_X7_73 kc25.1 (cl_25 kc25) rfl ⟨rfl, rfl, Nat.le_of_ble_eq_true rfl, Nat.le_of_ble_eq_true rfl⟩ rfl rfl (Nat.le_of_ble_eq_true rfl) ⟨Nat.le_of_ble_eq_true rfl, Nat.le_of_ble_eq_true rfl⟩ dX7_light_43 ?_
    refine j_lv [] [] rfl ?_
    exact t_X7_light_46 X hr hlocks ((b_X7_sets_0 (26 + v1) v2 ((b_X7_fails_0 w0 S).2)).1) ((b_X7_sets_0 (26 + v1) v2 ((b_X7_fails_0 w0 S).2)).2) _ _ he
  · rw [if_neg h3] at he
    have ho := ho.2 h3
    refine j_iconst (v := 0) X dX7_light_33 (by decide) ?_
    refine j_goto X 46 dX7_light_34 (by decide) ?_
    refine j_lv [] [] rfl ?_
    exact t_X7_light_46 X hr hlocks 0 ((b_X7_fails_0 w0 S).2) _ _ he
def b_X7_light_0 (x1 : Int32) (x2 : Int32) (S : Sx) : Int32 × Sx := if (b_X7_isHour_0 x1 S) = 0 then b_X7_light_27 x1 x2 1 S else if (b_X7_in_0 x2 0 9 S) = 0 then b_X7_light_27 x1 x2 2 S else b_X7_light_27 x1 x2 0 S
def o_X7_light_0 (x1 : Int32) (x2 : Int32) (S : Sx) : Prop := o_X7_isHour_0 x1 S ∧ (((b_X7_isHour_0 x1 S) = 0 → (o_X7_light_27 x1 x2 1 S)) ∧ (¬ (b_X7_isHour_0 x1 S) = 0 → (o_X7_in_0 x2 0 9 S ∧ (((b_X7_in_0 x2 0 9 S) = 0 → (o_X7_light_27 x1 x2 2 S)) ∧ (¬ (b_X7_in_0 x2 0 9 S) = 0 → (o_X7_light_27 x1 x2 0 S))))))
set_option maxRecDepth 20000 in
theorem t_X7_light_0 (X : Cx p m c cX7_light 3 s args RX7 D q ad) (hr : meth.sig.returnType = some .int) (hlocks : meth.locks = false) (x1 : Int32) (x2 : Int32) (S : Sx) (rv : Int32) (S' : Sx) (ho : o_X7_light_0 x1 x2 S) (he : b_X7_light_0 x1 x2 S = (rv, S')) : Jg p l e rm_X7_light s m args below meth c 0 0 (MQ below (Qi D q ad d rv S' s.heap.size) args s 0 0 (AU ad s.heap.size)) D q ad d 3 0 [(0, .ref (ad 5)), (1, .int x1), (2, .int x2)] [] S := by
  unfold b_X7_light_0 at he
  unfold o_X7_light_0 at ho
  refine j_aload_n X 0 dX7_light_0 rfl ?_
  refine j_iload_n X 1 dX7_light_1 rfl ?_
  have h2 := ho.1
  have ho := ho.2
  refine j_callSi (rest := [.ref (ad 5)]) X (c_X7_isHour (cx_inj X) x1 S h2) cw_X7_66 ⟨rfl, rfl, Nat.le_of_ble_eq_true rfl, Nat.le_of_ble_eq_true rfl⟩ rfl rfl (Nat.le_of_ble_eq_true rfl) ⟨Nat.le_of_ble_eq_true rfl, Nat.le_of_ble_eq_true rfl⟩ dX7_light_2 ?_
  refine j_if_ne X 12 dX7_light_5 (by decide) (fun h3 => ?_) (fun h3 => ?_)
  · rw [if_neg h3] at he
    have ho := ho.2 h3
    refine j_iload_n X 2 dX7_light_12 rfl ?_
    refine j_iconst (v := 0) X dX7_light_13 (by decide) ?_
    refine j_bipush (v := 9) X dX7_light_14 (by decide) ?_
    have h4 := ho.1
    have ho := ho.2
    refine j_callSi (rest := [.ref (ad 5)]) X (c_X7_in (cx_inj X) x2 0 9 S h4) cw_X7_58 ⟨rfl, rfl, Nat.le_of_ble_eq_true rfl, Nat.le_of_ble_eq_true rfl⟩ rfl rfl (Nat.le_of_ble_eq_true rfl) ⟨Nat.le_of_ble_eq_true rfl, Nat.le_of_ble_eq_true rfl⟩ dX7_light_16 ?_
    refine j_if_eq X 26 dX7_light_19 (by decide) (fun h5 => ?_) (fun h5 => ?_)
    · rw [if_pos h5] at he
      have ho := ho.1 h5
      refine j_iconst (v := 2) X dX7_light_26 (by decide) ?_
      exact t_X7_light_27 X hr hlocks x1 x2 2 S _ _ ho he
    · rw [if_neg h5] at he
      have ho := ho.2 h5
      refine j_iconst (v := 0) X dX7_light_22 (by decide) ?_
      refine j_goto X 27 dX7_light_23 (by decide) ?_
      exact t_X7_light_27 X hr hlocks x1 x2 0 S _ _ ho he
  · rw [if_pos h3] at he
    have ho := ho.1 h3
    refine j_iconst (v := 1) X dX7_light_8 (by decide) ?_
    refine j_goto X 27 dX7_light_9 (by decide) ?_
    exact t_X7_light_27 X hr hlocks x1 x2 1 S _ _ ho he
theorem c_X7_light {l : Launch} {D : va_G} {q : Nat → ClassId} {ad : Nat → Nat} {d : UInt64} (hI : inj4 ad) (x1 : Int32) (x2 : Int32) (S : Sx) (ho : o_X7_light_0 x1 x2 S) : CI l yX7_light cX7_light 3 .int rm_X7_light D q ad d [.ref (ad 5), .int x1, .int x2] S (b_X7_light_0 x1 x2 S).1 (b_X7_light_0 x1 x2 S).2 := ci_of hI (by decide +kernel) (Nat.le_of_ble_eq_true rfl) rfl (fun p e s m args below meth c X hr hlocks => t_X7_light_0 X hr hlocks x1 x2 S _ _ ho (pe _))
end
/-! RX7.bell -/
abbrev rm_X7_bell : Room := { frames := 3, cells := 0, slots := 0, locals := 69 }
section
variable {p : Program} {l : Launch} {e : Env} {s : State} {m : MethodId} {args : Array Value} {below : List Frame} {meth : Method} {c : Code} {D : va_G} {q : Nat → ClassId} {ad : Nat → Nat} {d : UInt64}
def b_X7_bell_29 (w0 : Int32) (S : Sx) : Int32 × Sx := (w0, S)
set_option maxRecDepth 20000 in
theorem t_X7_bell_29 (X : Cx p m c cX7_bell 2 s args RX7 D q ad) (hr : meth.sig.returnType = some .int) (hlocks : meth.locks = false) (w0 : Int32) (S : Sx) (rv : Int32) (S' : Sx) (he : b_X7_bell_29 w0 S = (rv, S')) : Jg p l e rm_X7_bell s m args below meth c 0 0 (MQ below (Qi D q ad d rv S' s.heap.size) args s 0 0 (AU ad s.heap.size)) D q ad d 2 29 [] [.int w0] S := by
  unfold b_X7_bell_29 at he
  exact j_iret X hr hlocks dX7_bell_29 (congrArg Prod.fst he) (congrArg Prod.snd he)
def b_X7_bell_13 (v1 : Int32) (w0 : Int32) (S : Sx) : Int32 × Sx := if ((b_X7_fails_0 w0 S).1) = 0 then b_X7_bell_29 ((b_X7_sets_0 1 v1 ((b_X7_fails_0 w0 S).2)).1) ((b_X7_sets_0 1 v1 ((b_X7_fails_0 w0 S).2)).2) else b_X7_bell_29 0 ((b_X7_fails_0 w0 S).2)
def o_X7_bell_13 (v1 : Int32) (w0 : Int32) (S : Sx) : Prop := o_X7_fails_0 w0 S ∧ ((((b_X7_fails_0 w0 S).1) = 0 → (o_X7_sets_0 1 v1 ((b_X7_fails_0 w0 S).2) ∧ True)) ∧ (¬ ((b_X7_fails_0 w0 S).1) = 0 → True))
set_option maxRecDepth 20000 in
theorem t_X7_bell_13 (X : Cx p m c cX7_bell 2 s args RX7 D q ad) (hr : meth.sig.returnType = some .int) (hlocks : meth.locks = false) (v1 : Int32) (w0 : Int32) (S : Sx) (rv : Int32) (S' : Sx) (ho : o_X7_bell_13 v1 w0 S) (he : b_X7_bell_13 v1 w0 S = (rv, S')) : Jg p l e rm_X7_bell s m args below meth c 0 0 (MQ below (Qi D q ad d rv S' s.heap.size) args s 0 0 (AU ad s.heap.size)) D q ad d 2 13 [(0, .ref (ad 5)), (1, .int v1)] [.int w0, .ref (ad 5)] S := by
  unfold b_X7_bell_13 at he
  unfold o_X7_bell_13 at ho
  have h2 := ho.1
  have ho := ho.2
  refine j_callVi (rest := []) X (c_X7_fails (cx_inj X) w0 S h2) cw_X7_70 kc25.1 (cl_25 kc25) rfl ⟨rfl, rfl, Nat.le_of_ble_eq_true rfl, Nat.le_of_ble_eq_true rfl⟩ rfl rfl (Nat.le_of_ble_eq_true rfl) ⟨Nat.le_of_ble_eq_true rfl, Nat.le_of_ble_eq_true rfl⟩ dX7_bell_13 ?_
  refine j_if_eq X 23 dX7_bell_16 (by decide) (fun h3 => ?_) (fun h3 => ?_)
  · rw [if_pos h3] at he
    have ho := ho.1 h3
    refine j_aload_n X 0 dX7_bell_23 rfl ?_
    refine j_iconst (v := 1) X dX7_bell_24 (by decide) ?_
    refine j_iload_n X 1 dX7_bell_25 rfl ?_
    have h4 := ho.1
    have ho := ho.2
    refine j_callVi (rest := []) X (c_X7_sets (cx_inj X) 1 v1 ((b_X7_fails_0 w0 S).2) h4) cw_X7_73 kc25.1 (cl_25 kc25) rfl ⟨rfl, rfl, Nat.le_of_ble_eq_true rfl, Nat.le_of_ble_eq_true rfl⟩ rfl rfl (Nat.le_of_ble_eq_true rfl) ⟨Nat.le_of_ble_eq_true rfl, Nat.le_of_ble_eq_true rfl⟩ dX7_bell_26 ?_
    refine j_lv [] [] rfl ?_
    exact t_X7_bell_29 X hr hlocks ((b_X7_sets_0 1 v1 ((b_X7_fails_0 w0 S).2)).1) ((b_X7_sets_0 1 v1 ((b_X7_fails_0 w0 S).2)).2) _ _ he
  · rw [if_neg h3] at he
    have ho := ho.2 h3
    refine j_iconst (v := 0) X dX7_bell_19 (by decide) ?_
    refine j_goto X 29 dX7_bell_20 (by decide) ?_
    refine j_lv [] [] rfl ?_
    exact t_X7_bell_29 X hr hlocks 0 ((b_X7_fails_0 w0 S).2) _ _ he
def b_X7_bell_0 (x1 : Int32) (S : Sx) : Int32 × Sx := if (b_X7_isHour_0 x1 S) = 0 then b_X7_bell_13 x1 1 S else b_X7_bell_13 x1 0 S
def o_X7_bell_0 (x1 : Int32) (S : Sx) : Prop := o_X7_isHour_0 x1 S ∧ (((b_X7_isHour_0 x1 S) = 0 → (o_X7_bell_13 x1 1 S)) ∧ (¬ (b_X7_isHour_0 x1 S) = 0 → (o_X7_bell_13 x1 0 S)))
set_option maxRecDepth 20000 in
theorem t_X7_bell_0 (X : Cx p m c cX7_bell 2 s args RX7 D q ad) (hr : meth.sig.returnType = some .int) (hlocks : meth.locks = false) (x1 : Int32) (S : Sx) (rv : Int32) (S' : Sx) (ho : o_X7_bell_0 x1 S) (he : b_X7_bell_0 x1 S = (rv, S')) : Jg p l e rm_X7_bell s m args below meth c 0 0 (MQ below (Qi D q ad d rv S' s.heap.size) args s 0 0 (AU ad s.heap.size)) D q ad d 2 0 [(0, .ref (ad 5)), (1, .int x1)] [] S := by
  unfold b_X7_bell_0 at he
  unfold o_X7_bell_0 at ho
  refine j_aload_n X 0 dX7_bell_0 rfl ?_
  refine j_iload_n X 1 dX7_bell_1 rfl ?_
  have h2 := ho.1
  have ho := ho.2
  refine j_callSi (rest := [.ref (ad 5)]) X (c_X7_isHour (cx_inj X) x1 S h2) cw_X7_66 ⟨rfl, rfl, Nat.le_of_ble_eq_true rfl, Nat.le_of_ble_eq_true rfl⟩ rfl rfl (Nat.le_of_ble_eq_true rfl) ⟨Nat.le_of_ble_eq_true rfl, Nat.le_of_ble_eq_true rfl⟩ dX7_bell_2 ?_
  refine j_if_eq X 12 dX7_bell_5 (by decide) (fun h3 => ?_) (fun h3 => ?_)
  · rw [if_pos h3] at he
    have ho := ho.1 h3
    refine j_iconst (v := 1) X dX7_bell_12 (by decide) ?_
    exact t_X7_bell_13 X hr hlocks x1 1 S _ _ ho he
  · rw [if_neg h3] at he
    have ho := ho.2 h3
    refine j_iconst (v := 0) X dX7_bell_8 (by decide) ?_
    refine j_goto X 13 dX7_bell_9 (by decide) ?_
    exact t_X7_bell_13 X hr hlocks x1 0 S _ _ ho he
theorem c_X7_bell {l : Launch} {D : va_G} {q : Nat → ClassId} {ad : Nat → Nat} {d : UInt64} (hI : inj4 ad) (x1 : Int32) (S : Sx) (ho : o_X7_bell_0 x1 S) : CI l yX7_bell cX7_bell 2 .int rm_X7_bell D q ad d [.ref (ad 5), .int x1] S (b_X7_bell_0 x1 S).1 (b_X7_bell_0 x1 S).2 := ci_of hI (by decide +kernel) (Nat.le_of_ble_eq_true rfl) rfl (fun p e s m args below meth c X hr hlocks => t_X7_bell_0 X hr hlocks x1 S _ _ ho (pe _))
end
/-! RX7.weather -/
abbrev rm_X7_weather : Room := { frames := 2, cells := 0, slots := 0, locals := 42 }
section
variable {p : Program} {l : Launch} {e : Env} {s : State} {m : MethodId} {args : Array Value} {below : List Frame} {meth : Method} {c : Code} {D : va_G} {q : Nat → ClassId} {ad : Nat → Nat} {d : UInt64}
def b_X7_weather_40 (w0 : Int32) (S : Sx) : Int32 × Sx := (w0, S)
set_option maxRecDepth 20000 in
theorem t_X7_weather_40 (X : Cx p m c cX7_weather 3 s args RX7 D q ad) (hr : meth.sig.returnType = some .int) (hlocks : meth.locks = false) (w0 : Int32) (S : Sx) (rv : Int32) (S' : Sx) (he : b_X7_weather_40 w0 S = (rv, S')) : Jg p l e rm_X7_weather s m args below meth c 0 0 (MQ below (Qi D q ad d rv S' s.heap.size) args s 0 0 (AU ad s.heap.size)) D q ad d 3 40 [] [.int w0] S := by
  unfold b_X7_weather_40 at he
  exact j_iret X hr hlocks dX7_weather_40 (congrArg Prod.fst he) (congrArg Prod.snd he)
def b_X7_weather_37 (v1 : Int32) (w0 : Int32) (S : Sx) : Int32 × Sx := b_X7_weather_40 (S 6 ((w0 + v1).toNatClampNeg)) S
def o_X7_weather_37 (v1 : Int32) (w0 : Int32) (S : Sx) : Prop := vp_in (w0 + v1) 275 ∧ True
set_option maxRecDepth 20000 in
theorem t_X7_weather_37 (X : Cx p m c cX7_weather 3 s args RX7 D q ad) (hr : meth.sig.returnType = some .int) (hlocks : meth.locks = false) (v1 : Int32) (w0 : Int32) (S : Sx) (rv : Int32) (S' : Sx) (ho : o_X7_weather_37 v1 w0 S) (he : b_X7_weather_37 v1 w0 S = (rv, S')) : Jg p l e rm_X7_weather s m args below meth c 0 0 (MQ below (Qi D q ad d rv S' s.heap.size) args s 0 0 (AU ad s.heap.size)) D q ad d 3 37 [(1, .int v1)] [.int w0, .ref (ad 6)] S := by
  unfold b_X7_weather_37 at he
  unfold o_X7_weather_37 at ho
  refine j_iload_n X 0 dX7_weather_37 rfl ?_
  refine j_iadd X dX7_weather_38 ?_
  have h2 := ho.1
  have ho := ho.2
  refine j_iald X kc26.1 (cl_26 kc26) h2 dX7_weather_39 ?_
  refine j_lv [] [] rfl ?_
  exact t_X7_weather_40 X hr hlocks (S 6 ((w0 + v1).toNatClampNeg)) S _ _ he
def b_X7_weather_13 (v1 : Int32) (v2 : Int32) (w0 : Int32) (S : Sx) : Int32 × Sx := if ((b_X7_fails_0 w0 S).1) = 0 then if v2 = 0 then b_X7_weather_37 v1 2 ((b_X7_fails_0 w0 S).2) else b_X7_weather_37 v1 26 ((b_X7_fails_0 w0 S).2) else b_X7_weather_40 0 ((b_X7_fails_0 w0 S).2)
def o_X7_weather_13 (v1 : Int32) (v2 : Int32) (w0 : Int32) (S : Sx) : Prop := o_X7_fails_0 w0 S ∧ ((((b_X7_fails_0 w0 S).1) = 0 → ((v2 = 0 → (o_X7_weather_37 v1 2 ((b_X7_fails_0 w0 S).2))) ∧ (¬ v2 = 0 → (o_X7_weather_37 v1 26 ((b_X7_fails_0 w0 S).2))))) ∧ (¬ ((b_X7_fails_0 w0 S).1) = 0 → True))
set_option maxRecDepth 20000 in
theorem t_X7_weather_13 (X : Cx p m c cX7_weather 3 s args RX7 D q ad) (hr : meth.sig.returnType = some .int) (hlocks : meth.locks = false) (v1 : Int32) (v2 : Int32) (w0 : Int32) (S : Sx) (rv : Int32) (S' : Sx) (ho : o_X7_weather_13 v1 v2 w0 S) (he : b_X7_weather_13 v1 v2 w0 S = (rv, S')) : Jg p l e rm_X7_weather s m args below meth c 0 0 (MQ below (Qi D q ad d rv S' s.heap.size) args s 0 0 (AU ad s.heap.size)) D q ad d 3 13 [(0, .ref (ad 5)), (1, .int v1), (2, .int v2)] [.int w0, .ref (ad 5)] S := by
  unfold b_X7_weather_13 at he
  unfold o_X7_weather_13 at ho
  have h2 := ho.1
  have ho := ho.2
  refine j_callVi (rest := []) X (c_X7_fails (cx_inj X) w0 S h2) cw_X7_70 kc25.1 (cl_25 kc25) rfl ⟨rfl, rfl, Nat.le_of_ble_eq_true rfl, Nat.le_of_ble_eq_true rfl⟩ rfl rfl (Nat.le_of_ble_eq_true rfl) ⟨Nat.le_of_ble_eq_true rfl, Nat.le_of_ble_eq_true rfl⟩ dX7_weather_13 ?_
  refine j_if_eq X 23 dX7_weather_16 (by decide) (fun h3 => ?_) (fun h3 => ?_)
  · rw [if_pos h3] at he
    have ho := ho.1 h3
    refine j_aload_n X 0 dX7_weather_23 rfl ?_
    refine gf_25_0 X m_fl_X7_7 kc25 dX7_weather_24 ?_
    refine j_iload_n X 2 dX7_weather_27 rfl ?_
    refine j_if_eq X 36 dX7_weather_28 (by decide) (fun h4 => ?_) (fun h4 => ?_)
    · rw [if_pos h4] at he
      have ho := ho.1 h4
      refine j_iconst (v := 2) X dX7_weather_36 (by decide) ?_
      refine j_lv [1] [(1, .int v1)] rfl ?_
      exact t_X7_weather_37 X hr hlocks v1 2 ((b_X7_fails_0 w0 S).2) _ _ ho he
    · rw [if_neg h4] at he
      have ho := ho.2 h4
      refine j_bipush (v := 26) X dX7_weather_31 (by decide) ?_
      refine j_goto X 37 dX7_weather_33 (by decide) ?_
      refine j_lv [1] [(1, .int v1)] rfl ?_
      exact t_X7_weather_37 X hr hlocks v1 26 ((b_X7_fails_0 w0 S).2) _ _ ho he
  · rw [if_neg h3] at he
    have ho := ho.2 h3
    refine j_iconst (v := 0) X dX7_weather_19 (by decide) ?_
    refine j_goto X 40 dX7_weather_20 (by decide) ?_
    refine j_lv [] [] rfl ?_
    exact t_X7_weather_40 X hr hlocks 0 ((b_X7_fails_0 w0 S).2) _ _ he
def b_X7_weather_0 (x1 : Int32) (x2 : Int32) (S : Sx) : Int32 × Sx := if (b_X7_isHour_0 x1 S) = 0 then b_X7_weather_13 x1 x2 1 S else b_X7_weather_13 x1 x2 0 S
def o_X7_weather_0 (x1 : Int32) (x2 : Int32) (S : Sx) : Prop := o_X7_isHour_0 x1 S ∧ (((b_X7_isHour_0 x1 S) = 0 → (o_X7_weather_13 x1 x2 1 S)) ∧ (¬ (b_X7_isHour_0 x1 S) = 0 → (o_X7_weather_13 x1 x2 0 S)))
set_option maxRecDepth 20000 in
theorem t_X7_weather_0 (X : Cx p m c cX7_weather 3 s args RX7 D q ad) (hr : meth.sig.returnType = some .int) (hlocks : meth.locks = false) (x1 : Int32) (x2 : Int32) (S : Sx) (rv : Int32) (S' : Sx) (ho : o_X7_weather_0 x1 x2 S) (he : b_X7_weather_0 x1 x2 S = (rv, S')) : Jg p l e rm_X7_weather s m args below meth c 0 0 (MQ below (Qi D q ad d rv S' s.heap.size) args s 0 0 (AU ad s.heap.size)) D q ad d 3 0 [(0, .ref (ad 5)), (1, .int x1), (2, .int x2)] [] S := by
  unfold b_X7_weather_0 at he
  unfold o_X7_weather_0 at ho
  refine j_aload_n X 0 dX7_weather_0 rfl ?_
  refine j_iload_n X 1 dX7_weather_1 rfl ?_
  have h2 := ho.1
  have ho := ho.2
  refine j_callSi (rest := [.ref (ad 5)]) X (c_X7_isHour (cx_inj X) x1 S h2) cw_X7_66 ⟨rfl, rfl, Nat.le_of_ble_eq_true rfl, Nat.le_of_ble_eq_true rfl⟩ rfl rfl (Nat.le_of_ble_eq_true rfl) ⟨Nat.le_of_ble_eq_true rfl, Nat.le_of_ble_eq_true rfl⟩ dX7_weather_2 ?_
  refine j_if_eq X 12 dX7_weather_5 (by decide) (fun h3 => ?_) (fun h3 => ?_)
  · rw [if_pos h3] at he
    have ho := ho.1 h3
    refine j_iconst (v := 1) X dX7_weather_12 (by decide) ?_
    exact t_X7_weather_13 X hr hlocks x1 x2 1 S _ _ ho he
  · rw [if_neg h3] at he
    have ho := ho.2 h3
    refine j_iconst (v := 0) X dX7_weather_8 (by decide) ?_
    refine j_goto X 13 dX7_weather_9 (by decide) ?_
    exact t_X7_weather_13 X hr hlocks x1 x2 0 S _ _ ho he
theorem c_X7_weather {l : Launch} {D : va_G} {q : Nat → ClassId} {ad : Nat → Nat} {d : UInt64} (hI : inj4 ad) (x1 : Int32) (x2 : Int32) (S : Sx) (ho : o_X7_weather_0 x1 x2 S) : CI l yX7_weather cX7_weather 3 .int rm_X7_weather D q ad d [.ref (ad 5), .int x1, .int x2] S (b_X7_weather_0 x1 x2 S).1 (b_X7_weather_0 x1 x2 S).2 := ci_of hI (by decide +kernel) (Nat.le_of_ble_eq_true rfl) rfl (fun p e s m args below meth c X hr hlocks => t_X7_weather_0 X hr hlocks x1 x2 S _ _ ho (pe _))
end
/-! RX7.pitch -/
abbrev rm_X7_pitch : Room := { frames := 2, cells := 0, slots := 0, locals := 46 }
section
variable {p : Program} {l : Launch} {e : Env} {s : State} {m : MethodId} {args : Array Value} {below : List Frame} {meth : Method} {c : Code} {D : va_G} {q : Nat → ClassId} {ad : Nat → Nat} {d : UInt64}
def b_X7_pitch_87 (v1 : Int32) (S : Sx) : Int32 × Sx := (v1, S)
set_option maxRecDepth 20000 in
theorem t_X7_pitch_87 (X : Cx p m c cX7_pitch 3 s args RX7 D q ad) (hr : meth.sig.returnType = some .int) (hlocks : meth.locks = false) (v1 : Int32) (S : Sx) (rv : Int32) (S' : Sx) (he : b_X7_pitch_87 v1 S = (rv, S')) : Jg p l e rm_X7_pitch s m args below meth c 0 0 (MQ below (Qi D q ad d rv S' s.heap.size) args s 0 0 (AU ad s.heap.size)) D q ad d 3 87 [(1, .int v1)] [] S := by
  unfold b_X7_pitch_87 at he
  refine j_iload_n X 0 dX7_pitch_87 rfl ?_
  exact j_iret X hr hlocks dX7_pitch_88 (congrArg Prod.fst he) (congrArg Prod.snd he)
def b_X7_pitch_53 : Nat → Int32 → Int32 → Sx → Int32 × Sx
  | 0, _, _, S => (0, S)
  | n + 1, v1, v2, S => if 5 ≤ v2 then b_X7_pitch_87 v1 (b_X7_lays_0 v1 1 10 (b_X7_lays_0 v1 0 20 S)) else b_X7_pitch_53 n v1 (v2 + 1) (b_X7_lays_0 v1 v2 0 S)
def o_X7_pitch_53 : Nat → Int32 → Int32 → Sx → Prop
  | 0, _, _, _ => False
  | n + 1, v1, v2, S => (5 ≤ v2 → (o_X7_lays_0 v1 0 20 S ∧ (o_X7_lays_0 v1 1 10 (b_X7_lays_0 v1 0 20 S) ∧ True))) ∧ (¬ 5 ≤ v2 → (o_X7_lays_0 v1 v2 0 S ∧ (o_X7_pitch_53 n v1 (v2 + 1) (b_X7_lays_0 v1 v2 0 S))))
set_option maxRecDepth 20000 in
theorem t_X7_pitch_53 (X : Cx p m c cX7_pitch 3 s args RX7 D q ad) (hr : meth.sig.returnType = some .int) (hlocks : meth.locks = false) : ∀ (n : Nat) (v1 : Int32) (v2 : Int32) (S : Sx) (rv : Int32) (S' : Sx) (ho : o_X7_pitch_53 n v1 v2 S) (he : b_X7_pitch_53 n v1 v2 S = (rv, S')), Jg p l e rm_X7_pitch s m args below meth c 0 0 (MQ below (Qi D q ad d rv S' s.heap.size) args s 0 0 (AU ad s.heap.size)) D q ad d 3 53 [(0, .ref (ad 5)), (1, .int v1), (2, .int v2)] [] S := by
  intro n
  induction n with
  | zero =>
    intro v1 v2 S rv S' ho he
    unfold o_X7_pitch_53 at ho
    exact ho.elim
  | succ n ih =>
    intro v1 v2 S rv S' ho he
    unfold b_X7_pitch_53 at he
    unfold o_X7_pitch_53 at ho
    refine j_iload_n X 2 dX7_pitch_53 rfl ?_
    refine j_iconst (v := 5) X dX7_pitch_54 (by decide) ?_
    refine j_icmp_ge X 71 dX7_pitch_55 (by decide) (fun h2 => ?_) (fun h2 => ?_)
    · rw [if_pos h2] at he
      have ho := ho.1 h2
      refine j_aload_n X 0 dX7_pitch_71 rfl ?_
      refine j_iload_n X 1 dX7_pitch_72 rfl ?_
      refine j_iconst (v := 0) X dX7_pitch_73 (by decide) ?_
      refine j_bipush (v := 20) X dX7_pitch_74 (by decide) ?_
      have h3 := ho.1
      have ho := ho.2
      refine j_callVv (rest := []) X (c_X7_lays (cx_inj X) v1 0 20 S h3) cw_X7_81 kc25.1 (cl_25 kc25) rfl ⟨rfl, rfl, Nat.le_of_ble_eq_true rfl, Nat.le_of_ble_eq_true rfl⟩ rfl rfl (Nat.le_of_ble_eq_true rfl) ⟨Nat.le_of_ble_eq_true rfl, Nat.le_of_ble_eq_true rfl⟩ dX7_pitch_76 ?_
      refine j_aload_n X 0 dX7_pitch_79 rfl ?_
      refine j_iload_n X 1 dX7_pitch_80 rfl ?_
      refine j_iconst (v := 1) X dX7_pitch_81 (by decide) ?_
      refine j_bipush (v := 10) X dX7_pitch_82 (by decide) ?_
      have h4 := ho.1
      have ho := ho.2
      refine j_callVv (rest := []) X (c_X7_lays (cx_inj X) v1 1 10 (b_X7_lays_0 v1 0 20 S) h4) cw_X7_81 kc25.1 (cl_25 kc25) rfl ⟨rfl, rfl, Nat.le_of_ble_eq_true rfl, Nat.le_of_ble_eq_true rfl⟩ rfl rfl (Nat.le_of_ble_eq_true rfl) ⟨Nat.le_of_ble_eq_true rfl, Nat.le_of_ble_eq_true rfl⟩ dX7_pitch_84 ?_
      refine j_lv [1] [(1, .int v1)] rfl ?_
      exact t_X7_pitch_87 X hr hlocks v1 (b_X7_lays_0 v1 1 10 (b_X7_lays_0 v1 0 20 S)) _ _ he
    · rw [if_neg h2] at he
      have ho := ho.2 h2
      refine j_aload_n X 0 dX7_pitch_58 rfl ?_
      refine j_iload_n X 1 dX7_pitch_59 rfl ?_
      refine j_iload_n X 2 dX7_pitch_60 rfl ?_
      refine j_iconst (v := 0) X dX7_pitch_61 (by decide) ?_
      have h5 := ho.1
      have ho := ho.2
      refine j_callVv (rest := []) X (c_X7_lays (cx_inj X) v1 v2 0 S h5) cw_X7_81 kc25.1 (cl_25 kc25) rfl ⟨rfl, rfl, Nat.le_of_ble_eq_true rfl, Nat.le_of_ble_eq_true rfl⟩ rfl rfl (Nat.le_of_ble_eq_true rfl) ⟨Nat.le_of_ble_eq_true rfl, Nat.le_of_ble_eq_true rfl⟩ dX7_pitch_62 ?_
      refine j_iinc X 2 (v2 + 1) [(2, .int (v2 + 1)), (0, .ref (ad 5)), (1, .int v1)] dX7_pitch_65 rfl rfl (by decide) rfl ?_
      refine j_goto X 53 dX7_pitch_68 (by decide) ?_
      refine j_lv [1, 2, 0] [(0, .ref (ad 5)), (1, .int v1), (2, .int (v2 + 1))] rfl ?_
      exact ih v1 (v2 + 1) (b_X7_lays_0 v1 v2 0 S) _ _ ho he
def b_X7_pitch_51 (v1 : Int32) (S : Sx) : Int32 × Sx := b_X7_pitch_53 100 v1 0 S
def o_X7_pitch_51 (v1 : Int32) (S : Sx) : Prop := o_X7_pitch_53 100 v1 0 S
set_option maxRecDepth 20000 in
theorem t_X7_pitch_51 (X : Cx p m c cX7_pitch 3 s args RX7 D q ad) (hr : meth.sig.returnType = some .int) (hlocks : meth.locks = false) (v1 : Int32) (S : Sx) (rv : Int32) (S' : Sx) (ho : o_X7_pitch_51 v1 S) (he : b_X7_pitch_51 v1 S = (rv, S')) : Jg p l e rm_X7_pitch s m args below meth c 0 0 (MQ below (Qi D q ad d rv S' s.heap.size) args s 0 0 (AU ad s.heap.size)) D q ad d 3 51 [(0, .ref (ad 5)), (1, .int v1)] [] S := by
  unfold b_X7_pitch_51 at he
  unfold o_X7_pitch_51 at ho
  refine j_iconst (v := 0) X dX7_pitch_51 (by decide) ?_
  refine j_istore_n X [(2, .int 0), (0, .ref (ad 5)), (1, .int v1)] dX7_pitch_52 (by decide) rfl ?_
  refine j_lv [1, 2, 0] [(0, .ref (ad 5)), (1, .int v1), (2, .int 0)] rfl ?_
  exact t_X7_pitch_53 X hr hlocks 100 v1 0 S _ _ ho he
def b_X7_pitch_0  (S : Sx) : Int32 × Sx := if ((up2 S 5 8 0) 6 ((50 : Int32).toNatClampNeg)) = 4 then ((b_X7_refuses_0 1 1 4 (up2 S 5 8 0)).1, (b_X7_refuses_0 1 1 4 (up2 S 5 8 0)).2) else b_X7_pitch_51 ((b_X7_keeps_0 6 (up2 S 5 8 0)) 6 ((50 : Int32).toNatClampNeg)) (up2 (b_X7_keeps_0 6 (up2 S 5 8 0)) 6 ((50 : Int32).toNatClampNeg) (((b_X7_keeps_0 6 (up2 S 5 8 0)) 6 ((50 : Int32).toNatClampNeg)) + 1))
def o_X7_pitch_0  (S : Sx) : Prop := (((up2 S 5 8 0) 6 ((50 : Int32).toNatClampNeg)) = 4 → True) ∧ (¬ ((up2 S 5 8 0) 6 ((50 : Int32).toNatClampNeg)) = 4 → (o_X7_keeps_0 6 (up2 S 5 8 0) ∧ (o_X7_pitch_51 ((b_X7_keeps_0 6 (up2 S 5 8 0)) 6 ((50 : Int32).toNatClampNeg)) (up2 (b_X7_keeps_0 6 (up2 S 5 8 0)) 6 ((50 : Int32).toNatClampNeg) (((b_X7_keeps_0 6 (up2 S 5 8 0)) 6 ((50 : Int32).toNatClampNeg)) + 1)))))
set_option maxRecDepth 20000 in
theorem t_X7_pitch_0 (X : Cx p m c cX7_pitch 3 s args RX7 D q ad) (hr : meth.sig.returnType = some .int) (hlocks : meth.locks = false) (S : Sx) (rv : Int32) (S' : Sx) (ho : o_X7_pitch_0 S) (he : b_X7_pitch_0 S = (rv, S')) : Jg p l e rm_X7_pitch s m args below meth c 0 0 (MQ below (Qi D q ad d rv S' s.heap.size) args s 0 0 (AU ad s.heap.size)) D q ad d 3 0 [(0, .ref (ad 5))] [] S := by
  unfold b_X7_pitch_0 at he
  unfold o_X7_pitch_0 at ho
  refine j_aload_n X 0 dX7_pitch_0 rfl ?_
  refine j_iconst (v := 0) X dX7_pitch_1 (by decide) ?_
  refine pf_25_8 X m_fl_X7_35 kc25 dX7_pitch_2 ?_
  refine j_aload_n X 0 dX7_pitch_5 rfl ?_
  refine gf_25_0 X m_fl_X7_7 kc25 dX7_pitch_6 ?_
  refine j_bipush (v := 50) X dX7_pitch_9 (by decide) ?_
  refine j_iald X kc26.1 (cl_26 kc26) (by unfold vp_in; decide) dX7_pitch_11 ?_
  refine j_iconst (v := 4) X dX7_pitch_12 (by decide) ?_
  refine j_icmp_ne X 24 dX7_pitch_13 (by decide) (fun h2 => ?_) (fun h2 => ?_)
  · rw [if_neg h2] at he
    have ho := ho.2 h2
    refine j_aload_n X 0 dX7_pitch_24 rfl ?_
    refine j_aload_n X 0 dX7_pitch_25 rfl ?_
    refine gf_25_0 X m_fl_X7_7 kc25 dX7_pitch_26 ?_
    have h3 := ho.1
    have ho := ho.2
    refine j_callVv (rest := []) X (c_X7_keeps (cx_inj X) 6 (isA_of26 kc26) (up2 S 5 8 0) h3) cw_X7_62 kc25.1 (cl_25 kc25) rfl ⟨rfl, rfl, Nat.le_of_ble_eq_true rfl, Nat.le_of_ble_eq_true rfl⟩ rfl rfl (Nat.le_of_ble_eq_true rfl) ⟨Nat.le_of_ble_eq_true rfl, Nat.le_of_ble_eq_true rfl⟩ dX7_pitch_29 ?_
    refine j_aload_n X 0 dX7_pitch_32 rfl ?_
    refine gf_25_0 X m_fl_X7_7 kc25 dX7_pitch_33 ?_
    refine j_bipush (v := 50) X dX7_pitch_36 (by decide) ?_
    refine j_iald X kc26.1 (cl_26 kc26) (by unfold vp_in; decide) dX7_pitch_38 ?_
    refine j_istore_n X [(1, .int ((b_X7_keeps_0 6 (up2 S 5 8 0)) 6 ((50 : Int32).toNatClampNeg))), (0, .ref (ad 5))] dX7_pitch_39 (by decide) rfl ?_
    refine j_aload_n X 1 dX7_pitch_40 rfl ?_
    refine gf_25_0 X m_fl_X7_7 kc25 dX7_pitch_41 ?_
    refine j_bipush (v := 50) X dX7_pitch_44 (by decide) ?_
    refine j_dup2 X dX7_pitch_46 rfl rfl ?_
    refine j_iald X kc26.1 (cl_26 kc26) (by unfold vp_in; decide) dX7_pitch_47 ?_
    refine j_iconst (v := 1) X dX7_pitch_48 (by decide) ?_
    refine j_iadd X dX7_pitch_49 ?_
    refine j_iast X kc26.1 (fun T => cl_26 kc26) (by unfold vp_in; decide) dX7_pitch_50 ?_
    refine j_lv [1, 0] [(0, .ref (ad 5)), (1, .int ((b_X7_keeps_0 6 (up2 S 5 8 0)) 6 ((50 : Int32).toNatClampNeg)))] rfl ?_
    exact t_X7_pitch_51 X hr hlocks ((b_X7_keeps_0 6 (up2 S 5 8 0)) 6 ((50 : Int32).toNatClampNeg)) (up2 (b_X7_keeps_0 6 (up2 S 5 8 0)) 6 ((50 : Int32).toNatClampNeg) (((b_X7_keeps_0 6 (up2 S 5 8 0)) 6 ((50 : Int32).toNatClampNeg)) + 1)) _ _ ho he
  · rw [if_pos h2] at he
    have ho := ho.1 h2
    refine j_aload_n X 0 dX7_pitch_16 rfl ?_
    refine j_iconst (v := 1) X dX7_pitch_17 (by decide) ?_
    refine j_iconst (v := 1) X dX7_pitch_18 (by decide) ?_
    refine j_iconst (v := 4) X dX7_pitch_19 (by decide) ?_
    refine j_callVi (rest := []) X (c_X7_refuses (cx_inj X) 1 1 4 (up2 S 5 8 0)) cw_X7_77 kc25.1 (cl_25 kc25) rfl ⟨rfl, rfl, Nat.le_of_ble_eq_true rfl, Nat.le_of_ble_eq_true rfl⟩ rfl rfl (Nat.le_of_ble_eq_true rfl) ⟨Nat.le_of_ble_eq_true rfl, Nat.le_of_ble_eq_true rfl⟩ dX7_pitch_20 ?_
    exact j_iret X hr hlocks dX7_pitch_23 (congrArg Prod.fst he) (congrArg Prod.snd he)
theorem c_X7_pitch {l : Launch} {D : va_G} {q : Nat → ClassId} {ad : Nat → Nat} {d : UInt64} (hI : inj4 ad) (S : Sx) (ho : o_X7_pitch_0 S) : CI l yX7_pitch cX7_pitch 3 .int rm_X7_pitch D q ad d [.ref (ad 5)] S (b_X7_pitch_0 S).1 (b_X7_pitch_0 S).2 := ci_of hI (by decide +kernel) (Nat.le_of_ble_eq_true rfl) rfl (fun p e s m args below meth c X hr hlocks => t_X7_pitch_0 X hr hlocks S _ _ ho (pe _))
end

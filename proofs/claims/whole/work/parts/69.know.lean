/-! WHAT IS KNOWN AT THE LAW'S ENTRY -/
section KW
variable {s : State} {args : Array Value}
theorem wk_arr {ty : FieldType} (h : (Cond.arrayClass ty).before args s = true) (hra : ∀ cA, s.vm.findClass ("[" ++ ty.toString) = some cA → va_RA s cA ty) : ∃ cA, ArrOfT s cA ty ∧ va_RA s cA ty := by
  obtain ⟨c, k, comp, h1, h2, h3⟩ := Cond.arrayClass_spec h
  exact ⟨c, fun n z => ⟨fun k h => (by cases h), k, h2, comp, h3⟩, hra c h1⟩
theorem wk_obj {C : String} (h : va_AO C s) : ∃ cA, ArrOfT s cA (.object C) ∧ va_RA s cA (.object C) := by
  obtain ⟨comp, c, k, h1, h2, h3, h4, h5⟩ := Cond.arrayOver_spec h
  exact ⟨c, fun N z => ⟨fun k h => (by cases h), k, h3, comp, h4⟩, k, comp, h3, h4, h1, h5⟩
theorem wk_AO (hts : ∀ w ∈ lw_tbl, w.before args s = true) : AOs s := ⟨va_AO.of (hts _ (by decide +kernel)), va_AO.of (hts _ (by decide +kernel)), va_AO.of (hts _ (by decide +kernel)), va_AO.of (hts _ (by decide +kernel))⟩
theorem wk_all (hts : ∀ w ∈ lw_tbl, w.before args s = true) : ∀ w ∈ ALL, w.before args s = true := fun w h => hts w (List.mem_filter.mp h).1
theorem wk_K (hts : ∀ w ∈ lw_tbl, w.before args s = true) : ∃ (D : va_G) (q : Nat → ClassId), va_K D vCl (tysU q) s := by
  have ha := wk_all hts
  have hA := wk_AO hts
  obtain ⟨c0, i0, k0⟩ := u_known ha winX0 (ha _ m_is_X0)
  obtain ⟨c1, i1, k1⟩ := u_known ha winX1 (ha _ m_is_X1)
  obtain ⟨c2, i2, k2⟩ := u_known ha winX2 (ha _ m_is_X2)
  obtain ⟨c3, i3, k3⟩ := u_known ha winX3 (ha _ m_is_X3)
  obtain ⟨c4, i4, k4⟩ := u_known ha winX4 (ha _ m_is_X4)
  obtain ⟨c5, i5, k5⟩ := u_known ha winX5 (ha _ m_is_X5)
  obtain ⟨c6, i6, k6⟩ := u_known ha winX6 (ha _ m_is_X6)
  obtain ⟨c7, i7, k7⟩ := u_known ha winX7 (ha _ m_is_X7)
  obtain ⟨q0, a0⟩ := wk_arr (ha _ m_ac_int) (fun _ h => h)
  obtain ⟨q1, a1⟩ := wk_obj hA.1
  obtain ⟨q2, a2⟩ := wk_obj hA.2.1
  obtain ⟨q3, a3⟩ := wk_obj hA.2.2.1
  obtain ⟨q4, a4⟩ := wk_obj hA.2.2.2
  obtain ⟨q5, a5⟩ := wk_arr (ha _ m_ac_char) (fun _ h => h)
  obtain ⟨q6, a6⟩ := wk_arr (ha _ m_ac_long) (fun _ h => h)
  obtain ⟨q7, a7⟩ := wk_arr (ha _ m_ac_double) (fun _ h => h)
  refine ⟨(fun c => match c with | 0 => c0 | 1 => c1 | 2 => c2 | 3 => c3 | 4 => c4 | 5 => c5 | 6 => c6 | _ => c7, fun c => match c with | 0 => i0 | 1 => i1 | 2 => i2 | 3 => i3 | 4 => i4 | 5 => i5 | 6 => i6 | _ => i7), (fun k => match k with | 0 => q0 | 1 => q1 | 2 => q2 | 3 => q3 | 4 => q4 | 5 => q5 | 6 => q6 | _ => q7), fun c x hx => ?_, fun k x hx => ?_⟩
  · have hl : c < 8 := (List.getElem?_eq_some_iff.mp hx).1
    have h8 : c = 0 ∨ c = 1 ∨ c = 2 ∨ c = 3 ∨ c = 4 ∨ c = 5 ∨ c = 6 ∨ c = 7 := by omega
    rcases h8 with rfl | rfl | rfl | rfl | rfl | rfl | rfl | rfl <;> cases hx
    · exact k0
    · exact k1
    · exact k2
    · exact k3
    · exact k4
    · exact k5
    · exact k6
    · exact k7
  · have hl : k < 8 := (List.getElem?_eq_some_iff.mp hx).1
    have h8 : k = 0 ∨ k = 1 ∨ k = 2 ∨ k = 3 ∨ k = 4 ∨ k = 5 ∨ k = 6 ∨ k = 7 := by omega
    rcases h8 with rfl | rfl | rfl | rfl | rfl | rfl | rfl | rfl <;> cases hx
    · exact a0
    · exact a1
    · exact a2
    · exact a3
    · exact a4
    · exact a5
    · exact a6
    · exact a7
theorem wk_NW (hts : ∀ w ∈ lw_tbl, w.before args s = true) : NWs s := fun w h => va_Nw.of rfl (hts _ (nest_tbl w h))
theorem wk_str (hts : ∀ w ∈ lw_tbl, w.before args s = true) : ∃ sa : Nat → Nat, ∀ w ∈ SREFS, vk_R RX6 w.1 w.2 (sa w.1) s := by
  obtain ⟨cC, kC, hfc, hk, hkind, -⟩ := Cond.instantiable_spec (wk_all hts _ m_is_X6)
  have h1 : ∀ w ∈ SREFS, Cond.stringRef RX6 w.1 w.2 ∈ lw_tbl := by decide +kernel
  refine ⟨fun k => match (Term.string RX6 k).eval args s none [] s with | some (.ref a) => a | _ => 0, fun w hw => ?_⟩
  obtain ⟨-, -, -, sa, -, -, -, -, -, hev⟩ := Cond.stringRef_spec hfc (hts _ (h1 w hw))
  refine vk_R.of (hts _ (h1 w hw)) ?_
  have e : (Term.string RX6 w.1).eval args s none [] s = some (.ref sa) := hev
  rw [e]
  simp only [e]
theorem wk_XW (hts : ∀ w ∈ lw_tbl, w.before args s = true) (hgv : (Jvm.Cond.and given_1 narrow_1).before args s = true) : ∃ sa, XW sa s := by
  obtain ⟨sa, hsa⟩ := wk_str hts
  have hs := flat_of_before _ hgv
  refine ⟨sa, hsa, fun k h1 h2 => ?_, fun i j i1 i2 j1 j2 hij => ?_, fun x hx => ?_⟩
  · have h8 : k = 1 ∨ k = 2 ∨ k = 3 ∨ k = 4 ∨ k = 5 ∨ k = 6 := by omega
    rcases h8 with rfl | rfl | rfl | rfl | rfl | rfl <;> exact va_Nw.of rfl (hts _ (by decide +kernel))
  · have h8 : i = 1 ∨ i = 2 ∨ i = 3 ∨ i = 4 ∨ i = 5 ∨ i = 6 := by omega
    have h9 : j = 1 ∨ j = 2 ∨ j = 3 ∨ j = 4 ∨ j = 5 ∨ j = 6 := by omega
    rcases h8 with rfl | rfl | rfl | rfl | rfl | rfl <;> rcases h9 with rfl | rfl | rfl | rfl | rfl | rfl <;> first | exact absurd rfl hij | exact va_Nc.of (hs _ (by decide +kernel))
  · have h1 : ∀ x ∈ DECL, Cond.declares x ∈ lw_tbl := by decide +kernel
    exact va_Nw.of rfl (hts _ (h1 x hx))
theorem wk_XF (hts : ∀ w ∈ lw_tbl, w.before args s = true) (hgv : (Jvm.Cond.and given_1 narrow_1).before args s = true) : ∃ sa, ∀ ad : Nat → Nat, (∀ j, j < 455 → s.heap.size ≤ ad j) → XF ad s.heap.size sa s := by
  obtain ⟨sa, hsa⟩ := wk_XW hts hgv
  have hs := flat_of_before _ hgv
  refine ⟨sa, fun ad had => ?_⟩
  have hA : ∀ a : Nat, a < s.heap.size → ¬ AU ad s.heap.size a := fun a ha h => by
    rcases h with ⟨j, hj, e⟩ | h
    · have := had j hj
      omega
    · omega
  exact ⟨vx_Zqof (hts _ (by decide +kernel)) (hts _ (by decide +kernel)) (hs _ (by decide +kernel)) hA, vx_Zqof (hts _ (by decide +kernel)) (hts _ (by decide +kernel)) (hs _ (by decide +kernel)) hA, hsa⟩
end KW

theorem whole_start {p : Program} {e : Env} {s : State} {m : MethodId} {below : List Frame} {meth : Method} {c : Code} (l : Launch) (hflags : l.flags = flags0) {b L : Nat} {xs : Nat → Int32} (hL : L ≤ 2048) (C0 : lw_At p s m meth c b L xs) : W p l e room_1 s m #[Value.ref b] below meth c s.heap [] 0 0 (lw_Z below #[Value.ref b] s) (entryFrame m ([Value.ref b] : List Value).toArray 9) := by
  obtain ⟨hx, hb, hr, hml, hown, hts, hX, hbl, hlocks, hgv⟩ := C0
  have hst : l.stackTraces = false := by
    unfold Launch.stackTraces
    rw [hflags]
    decide +kernel
  obtain ⟨D, q, hK⟩ := wk_K hts
  obtain ⟨sa, hF⟩ := wk_XF hts hgv
  have hA := wk_AO hts
  have hN := wk_NW hts
  have ha := wk_all hts
  have K : Ck p m c cL_law 9 s #[Value.ref b] RL D q s.heap.size := ⟨hx, hb, hml, hown, ha, hK, hN, hA, Nat.le_refl _⟩
  have X : Cx p m c cL_law 9 s #[Value.ref b] RL D q (adB s.heap.size) := ⟨hx, hb, hml, hown, ha, hK, hN, adB_inj⟩
  have had : ∀ j, j < 455 → s.heap.size ≤ adB s.heap.size j := fun j _ => Nat.le_add_right _ _
  have F := hF (adB s.heap.size) had
  have C : Scr b L xs (adB s.heap.size) s := ⟨hX, hbl, fun h => by
    rcases h with ⟨j, hj, e⟩ | h
    · have := had j hj
      omega
    · omega, hL⟩
  have ex : ∀ (cells slots : Nat) (d : UInt64) (S : Sx) (i : Nat), cells ≤ 603072 → slots ≤ 7207018 → Jg p l e room_L s m #[Value.ref b] below meth c cells slots (lw_Z below #[Value.ref b] s) D q (adB s.heap.size) d 9 2426 (lv0 b (adB s.heap.size) i) [] S := by
    intro cells slots d S i h1 h2
    refine j_iconst (v := 1) X dL_law_2426 (by decide) ?_
    intro H locs ls hP hS hl
    refine va_forget (fun x hx9 => ?_) (W.widen h1 h2 ?_)
    · rcases hS.2.2 x hx9 with ⟨j, hj, e⟩ | h
      · rw [e]
        exact had j hj
      · exact h
    · exact lw_ret (b := b) (d0 := s.drawn) (Drawn.sameBut.refl s.drawn lw_cs) hx hb hr hlocks dL_law_2427
  have loop := lw_loop hst X F C ex L 0 S0 0 inv_0 (by omega) (by omega)
  have mk : Kg p l e room_L s m #[Value.ref b] below meth c (lw_Z below #[Value.ref b] s) D s.heap.size 9 0 0 0 [(0, .ref b)] [] 0 (fcel q s.heap.size) := by
    refine k_new (ci := 6) (C := RX6) (T := TX6) (N := 8) (fs := [.null, .null, .null, .int 0, .null, .null, .int 0, .int 0]) K tyX6 tyX6_ok m_cl_L_8 m_is_X6 m_in_X6 winX6 rfl (by decide +kernel) (Nat.le_of_ble_eq_true rfl) (Nat.le_of_ble_eq_true rfl) dL_law_0 ?_
    refine k_dup K dL_law_3 ?_
    refine k_ctor (k := 445) K n_X6 ue_at rfl m_ml_L_133 m_im_X6_init m_in_X6 m_co_X6_init ⟨rfl, by decide, by decide, by decide +kernel⟩ ⟨rfl, rfl, Nat.le_of_ble_eq_true rfl, Nat.le_of_ble_eq_true rfl⟩ (Nat.le_of_ble_eq_true rfl) ⟨Nat.le_of_ble_eq_true rfl, Nat.le_of_ble_eq_true rfl⟩ dL_law_4 ?_
    refine k_st 445 445 3542 (fcel q s.heap.size) rfl rfl rfl (fun i hi => jn_ue (k := 445) (fun j hj => ?_) i hi) ?_
    · unfold fcel
      rw [Nat.zero_add, if_pos hj]
      rfl
    refine k_astore_n K [(1, .ref (s.heap.size + 0)), (0, .ref b)] dL_law_7 (by decide) rfl ?_
    refine k_new (ci := 7) (C := RX7) (T := TX7) (N := 18) (fs := [.null, .null, .null, .null, .null, .int 0, .int 0, .int 0, .int 0, .int 0, .int 0, .int 0, .null, .int 0, .int 0, .int 0, .null, .int 0]) K tyX7 tyX7_ok m_cl_L_134 m_is_X7 m_in_X7 winX7 rfl (by decide +kernel) (Nat.le_of_ble_eq_true rfl) (Nat.le_of_ble_eq_true rfl) dL_law_8 ?_
    refine k_dup K dL_law_11 ?_
    refine k_ctor (k := 8) K n_X7 ue_at rfl m_ml_L_136 m_im_X7_init m_in_X7 m_co_X7_init ⟨rfl, by decide, by decide, by decide +kernel⟩ ⟨rfl, rfl, Nat.le_of_ble_eq_true rfl, Nat.le_of_ble_eq_true rfl⟩ (Nat.le_of_ble_eq_true rfl) ⟨Nat.le_of_ble_eq_true rfl, Nat.le_of_ble_eq_true rfl⟩ dL_law_12 ?_
    refine k_st 453 453 7044 (fcel q s.heap.size) rfl rfl rfl (fun i hi => jn_ue (k := 8) (fun j hj => ?_) i hi) ?_
    · unfold fcel
      rw [if_neg (by omega), if_pos (by omega), show 445 + j - 445 = j by omega]
    refine k_astore_n K [(2, .ref (s.heap.size + 445)), (1, .ref (s.heap.size + 0)), (0, .ref b)] dL_law_15 (by decide) rfl ?_
    refine k_iconst (v := 1) K dL_law_16 (by decide) ?_
    refine k_newa (atype := .long) (ty := .long) (t0 := 6) (N := 1) (a0 := (1, .inr (.inl (fun _ => 0)))) K m_ac_long rfl rfl (fun _ => ra_long) (fun _ => rfl) (by decide) (by decide) (by decide) (Nat.le_of_ble_eq_true rfl) (Nat.le_of_ble_eq_true rfl) dL_law_17 ?_
    refine k_st 454 454 7045 (fcel q s.heap.size) rfl rfl rfl (fun i hi => ?_) ?_
    · by_cases h : i = 453
      · subst h
        rw [ue_at]
        rfl
      · exact ue_ne h
    refine k_astore_n K [(3, .ref (s.heap.size + 453)), (2, .ref (s.heap.size + 445)), (1, .ref (s.heap.size + 0)), (0, .ref b)] dL_law_19 (by decide) rfl ?_
    refine k_iconst (v := 1) K dL_law_20 (by decide) ?_
    refine k_newa (atype := .double) (ty := .double) (t0 := 7) (N := 1) (a0 := (1, .inr (.inr (.inr (.inl (fun _ => 0)))))) K m_ac_double rfl rfl (fun _ => ra_double) (fun _ => rfl) (by decide) (by decide) (by decide) (Nat.le_of_ble_eq_true rfl) (Nat.le_of_ble_eq_true rfl) dL_law_21 ?_
    refine k_st 455 455 7046 (fcel q s.heap.size) rfl rfl rfl (fun i hi => ?_) ?_
    · by_cases h : i = 454
      · subst h
        rw [ue_at]
        rfl
      · exact ue_ne h
    refine k_astore K [(4, .ref (s.heap.size + 454)), (3, .ref (s.heap.size + 453)), (2, .ref (s.heap.size + 445)), (1, .ref (s.heap.size + 0)), (0, .ref b)] dL_law_23 (by decide) rfl ?_
    refine k_iconst (v := nI 0) K dL_law_25 (by decide) ?_
    refine k_istore K [(5, .int (nI 0)), (4, .ref (s.heap.size + 454)), (3, .ref (s.heap.size + 453)), (2, .ref (s.heap.size + 445)), (1, .ref (s.heap.size + 0)), (0, .ref b)] dL_law_26 (by decide) rfl ?_
    intro hz H locs ls hP hS hl
    exact loop H locs ls (cv_P hP) ⟨hS.1, fun x h1 h2 => hS.2.1 x h1 (fun hq => h2 (Or.inr hq)), fun x hx9 => Or.inr (hS.2.2 x hx9)⟩ (lv_sub hl [0, 5, 4, 3, 2, 1] rfl)
  have hl := lv_entry [Value.ref b] (n := 9) (Nat.le_of_ble_eq_true rfl)
  rw [lg_entry_eq]
  exact mk (by omega) s.heap [] _ (fun k x hx9 => absurd hx9 (by simp [gw])) va_S.rf hl

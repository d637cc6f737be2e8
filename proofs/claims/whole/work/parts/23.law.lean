def b_L_rain (x1 : Int32) (x2 : Int32) (S : Sx) : Int32 × Sx := if (b_X6_rain_0 x1 x2 S).1 = 0 then (0, up2 (b_X6_rain_0 x1 x2 S).2.2 13 0 (b_X6_rain_0 x1 x2 S).2.1) else if (b_X6_rain_0 x1 x2 S).1 = 1 then (1, (b_X6_rain_0 x1 x2 S).2.2) else (2, (b_X6_rain_0 x1 x2 S).2.2)
def o_L_rain (x1 : Int32) (x2 : Int32) (S : Sx) : Prop := o_X6_rain_0 x1 x2 S ∧ ((b_X6_rain_0 x1 x2 S).1 = 0 ∨ (b_X6_rain_0 x1 x2 S).1 = 1 ∨ (b_X6_rain_0 x1 x2 S).1 = 2)
abbrev rm_L_rain : Room := { frames := 9, cells := 1, slots := 6, locals := 154 }
set_option maxRecDepth 20000 in
theorem c_L_rain {l : Launch} {D : va_G} {q : Nat → ClassId} {ad : Nat → Nat} {d : UInt64} {sa : Nat → Nat} (hst : l.stackTraces = false) (hI : inj4 ad) (x1 : Int32) (x2 : Int32) (S : Sx) (ho : o_L_rain x1 x2 S) : CIw l yL_rain cL_rain 5 [(0, 10, 13, 13), (0, 10, 17, 15)] rm_L_rain 1 6 D q ad d d sa [.ref (ad 0), .int x1, .int x2, .ref (ad 13)] S (b_L_rain x1 x2 S).1 (b_L_rain x1 x2 S).2 := by
  unfold o_L_rain at ho
  obtain ⟨ho1, ho⟩ := ho
  refine ciw_of hI (by decide +kernel) (Nat.le_of_ble_eq_true rfl) rfl (fun p e s m args below meth c X F htb hr hlocks => ?_)
  refine j_aload_n X 3 dL_rain_0 rfl ?_
  refine j_iconst (v := 0) X dL_rain_1 (by decide) ?_
  refine j_aload_n X 0 dL_rain_2 rfl ?_
  refine j_iload_n X 1 dL_rain_3 rfl ?_
  refine j_iload_n X 2 dL_rain_4 rfl ?_
  refine j_callXic (rest := [.int 0, .ref (ad 13)]) X F htb (c_X6_rain hst hI x1 x2 S ho1) cw_L_7 kc20.1 (cl_20 kc20) rfl ⟨rfl, rfl, Nat.le_of_ble_eq_true rfl, Nat.le_of_ble_eq_true rfl⟩ rfl rfl (Nat.le_of_ble_eq_true rfl) ⟨Nat.le_of_ble_eq_true rfl, Nat.le_of_ble_eq_true rfl⟩ dL_rain_5 (fun h0 => ?_) (fun h0 => ?_)
  · rcases ho with h | h | h
    · exact absurd h h0
    · refine ⟨13, ?_, fun q9 => ?_⟩
      · exact ctch_1 (by decide) (by decide) (by rw [h]; exact m_cl_L_13)
      · refine j_astore X [(4, .ref q9), (0, .ref (ad 0)), (1, .int x1), (2, .int x2), (3, .ref (ad 13))] dL_rain_13 (by decide) rfl ?_
        refine j_iconst (v := 1) X dL_rain_15 (by decide) ?_
        exact j_iretC X hr hlocks ⟨by decide, by decide⟩ dL_rain_16 (by simp [b_L_rain, h])
    · refine ⟨17, ?_, fun q9 => ?_⟩
      · exact ctch_s (i := 1) (ctch_1 (by decide) (by decide) (by rw [h]; exact m_cl_L_15)) (by decide) (by decide) (by rw [h]; decide) m_cl_L_13
      · refine j_astore X [(4, .ref q9), (0, .ref (ad 0)), (1, .int x1), (2, .int x2), (3, .ref (ad 13))] dL_rain_17 (by decide) rfl ?_
        refine j_iconst (v := 2) X dL_rain_19 (by decide) ?_
        exact j_iretC X hr hlocks ⟨by decide, by decide⟩ dL_rain_20 (by simp [b_L_rain, h])
  · refine j_outi X dL_rain_8 dL_rain_9 ?_
    refine j_goto X 21 dL_rain_10 (by decide) ?_
    refine j_iconst (v := 0) X dL_rain_21 (by decide) ?_
    exact j_iretC X hr hlocks ⟨by decide, by decide⟩ dL_rain_22 (by simp [b_L_rain, h0])
def b_L_light (x1 : Int32) (x2 : Int32) (S : Sx) : Int32 × Sx := if (b_X6_light_0 x1 x2 S).1 = 0 then (0, up2 (b_X6_light_0 x1 x2 S).2.2 13 0 (b_X6_light_0 x1 x2 S).2.1) else if (b_X6_light_0 x1 x2 S).1 = 1 then (1, (b_X6_light_0 x1 x2 S).2.2) else (2, (b_X6_light_0 x1 x2 S).2.2)
def o_L_light (x1 : Int32) (x2 : Int32) (S : Sx) : Prop := o_X6_light_0 x1 x2 S ∧ ((b_X6_light_0 x1 x2 S).1 = 0 ∨ (b_X6_light_0 x1 x2 S).1 = 1 ∨ (b_X6_light_0 x1 x2 S).1 = 2)
abbrev rm_L_light : Room := { frames := 9, cells := 1, slots := 6, locals := 154 }
set_option maxRecDepth 20000 in
theorem c_L_light {l : Launch} {D : va_G} {q : Nat → ClassId} {ad : Nat → Nat} {d : UInt64} {sa : Nat → Nat} (hst : l.stackTraces = false) (hI : inj4 ad) (x1 : Int32) (x2 : Int32) (S : Sx) (ho : o_L_light x1 x2 S) : CIw l yL_light cL_light 5 [(0, 10, 13, 13), (0, 10, 17, 15)] rm_L_light 1 6 D q ad d d sa [.ref (ad 0), .int x1, .int x2, .ref (ad 13)] S (b_L_light x1 x2 S).1 (b_L_light x1 x2 S).2 := by
  unfold o_L_light at ho
  obtain ⟨ho1, ho⟩ := ho
  refine ciw_of hI (by decide +kernel) (Nat.le_of_ble_eq_true rfl) rfl (fun p e s m args below meth c X F htb hr hlocks => ?_)
  refine j_aload_n X 3 dL_light_0 rfl ?_
  refine j_iconst (v := 0) X dL_light_1 (by decide) ?_
  refine j_aload_n X 0 dL_light_2 rfl ?_
  refine j_iload_n X 1 dL_light_3 rfl ?_
  refine j_iload_n X 2 dL_light_4 rfl ?_
  refine j_callXic (rest := [.int 0, .ref (ad 13)]) X F htb (c_X6_light hst hI x1 x2 S ho1) cw_L_17 kc20.1 (cl_20 kc20) rfl ⟨rfl, rfl, Nat.le_of_ble_eq_true rfl, Nat.le_of_ble_eq_true rfl⟩ rfl rfl (Nat.le_of_ble_eq_true rfl) ⟨Nat.le_of_ble_eq_true rfl, Nat.le_of_ble_eq_true rfl⟩ dL_light_5 (fun h0 => ?_) (fun h0 => ?_)
  · rcases ho with h | h | h
    · exact absurd h h0
    · refine ⟨13, ?_, fun q9 => ?_⟩
      · exact ctch_1 (by decide) (by decide) (by rw [h]; exact m_cl_L_13)
      · refine j_astore X [(4, .ref q9), (0, .ref (ad 0)), (1, .int x1), (2, .int x2), (3, .ref (ad 13))] dL_light_13 (by decide) rfl ?_
        refine j_iconst (v := 1) X dL_light_15 (by decide) ?_
        exact j_iretC X hr hlocks ⟨by decide, by decide⟩ dL_light_16 (by simp [b_L_light, h])
    · refine ⟨17, ?_, fun q9 => ?_⟩
      · exact ctch_s (i := 1) (ctch_1 (by decide) (by decide) (by rw [h]; exact m_cl_L_15)) (by decide) (by decide) (by rw [h]; decide) m_cl_L_13
      · refine j_astore X [(4, .ref q9), (0, .ref (ad 0)), (1, .int x1), (2, .int x2), (3, .ref (ad 13))] dL_light_17 (by decide) rfl ?_
        refine j_iconst (v := 2) X dL_light_19 (by decide) ?_
        exact j_iretC X hr hlocks ⟨by decide, by decide⟩ dL_light_20 (by simp [b_L_light, h])
  · refine j_outi X dL_light_8 dL_light_9 ?_
    refine j_goto X 21 dL_light_10 (by decide) ?_
    refine j_iconst (v := 0) X dL_light_21 (by decide) ?_
    exact j_iretC X hr hlocks ⟨by decide, by decide⟩ dL_light_22 (by simp [b_L_light, h0])
def b_L_bell (x1 : Int32) (S : Sx) : Int32 × Sx := if (b_X6_bell_0 x1 S).1 = 0 then (0, up2 (b_X6_bell_0 x1 S).2.2 13 0 (b_X6_bell_0 x1 S).2.1) else (1, (b_X6_bell_0 x1 S).2.2)
def o_L_bell (x1 : Int32) (S : Sx) : Prop := o_X6_bell_0 x1 S ∧ ((b_X6_bell_0 x1 S).1 = 0 ∨ (b_X6_bell_0 x1 S).1 = 1)
abbrev rm_L_bell : Room := { frames := 9, cells := 1, slots := 6, locals := 154 }
set_option maxRecDepth 20000 in
theorem c_L_bell {l : Launch} {D : va_G} {q : Nat → ClassId} {ad : Nat → Nat} {d : UInt64} {sa : Nat → Nat} (hst : l.stackTraces = false) (hI : inj4 ad) (x1 : Int32) (S : Sx) (ho : o_L_bell x1 S) : CIw l yL_bell cL_bell 4 [(0, 9, 12, 13)] rm_L_bell 1 6 D q ad d d sa [.ref (ad 0), .int x1, .ref (ad 13)] S (b_L_bell x1 S).1 (b_L_bell x1 S).2 := by
  unfold o_L_bell at ho
  obtain ⟨ho1, ho⟩ := ho
  refine ciw_of hI (by decide +kernel) (Nat.le_of_ble_eq_true rfl) rfl (fun p e s m args below meth c X F htb hr hlocks => ?_)
  refine j_aload_n X 2 dL_bell_0 rfl ?_
  refine j_iconst (v := 0) X dL_bell_1 (by decide) ?_
  refine j_aload_n X 0 dL_bell_2 rfl ?_
  refine j_iload_n X 1 dL_bell_3 rfl ?_
  refine j_callXic (rest := [.int 0, .ref (ad 13)]) X F htb (c_X6_bell hst hI x1 S ho1) cw_L_20 kc20.1 (cl_20 kc20) rfl ⟨rfl, rfl, Nat.le_of_ble_eq_true rfl, Nat.le_of_ble_eq_true rfl⟩ rfl rfl (Nat.le_of_ble_eq_true rfl) ⟨Nat.le_of_ble_eq_true rfl, Nat.le_of_ble_eq_true rfl⟩ dL_bell_4 (fun h0 => ?_) (fun h0 => ?_)
  · rcases ho with h | h
    · exact absurd h h0
    · refine ⟨12, ?_, fun q9 => ?_⟩
      · exact ctch_1 (by decide) (by decide) (by rw [h]; exact m_cl_L_13)
      · refine j_astore_n X [(3, .ref q9), (0, .ref (ad 0)), (1, .int x1), (2, .ref (ad 13))] dL_bell_12 (by decide) rfl ?_
        refine j_iconst (v := 1) X dL_bell_13 (by decide) ?_
        exact j_iretC X hr hlocks ⟨by decide, by decide⟩ dL_bell_14 (by simp [b_L_bell, h])
  · refine j_outi X dL_bell_7 dL_bell_8 ?_
    refine j_goto X 15 dL_bell_9 (by decide) ?_
    refine j_iconst (v := 0) X dL_bell_15 (by decide) ?_
    exact j_iretC X hr hlocks ⟨by decide, by decide⟩ dL_bell_16 (by simp [b_L_bell, h0])
def b_L_weather (x1 : Int32) (x2 : Int32) (S : Sx) : Int32 × Sx := if (b_X6_weather_0 x1 x2 S).1 = 0 then (0, up2 (b_X6_weather_0 x1 x2 S).2.2 13 0 (b_X6_weather_0 x1 x2 S).2.1) else (1, (b_X6_weather_0 x1 x2 S).2.2)
def o_L_weather (x1 : Int32) (x2 : Int32) (S : Sx) : Prop := o_X6_weather_0 x1 x2 S ∧ ((b_X6_weather_0 x1 x2 S).1 = 0 ∨ (b_X6_weather_0 x1 x2 S).1 = 1)
abbrev rm_L_weather : Room := { frames := 8, cells := 1, slots := 6, locals := 133 }
set_option maxRecDepth 20000 in
theorem c_L_weather {l : Launch} {D : va_G} {q : Nat → ClassId} {ad : Nat → Nat} {d : UInt64} {sa : Nat → Nat} (hst : l.stackTraces = false) (hI : inj4 ad) (x1 : Int32) (x2 : Int32) (S : Sx) (ho : o_L_weather x1 x2 S) : CIw l yL_weather cL_weather 5 [(0, 10, 13, 13)] rm_L_weather 1 6 D q ad d d sa [.ref (ad 0), .int x1, .int x2, .ref (ad 13)] S (b_L_weather x1 x2 S).1 (b_L_weather x1 x2 S).2 := by
  unfold o_L_weather at ho
  obtain ⟨ho1, ho⟩ := ho
  refine ciw_of hI (by decide +kernel) (Nat.le_of_ble_eq_true rfl) rfl (fun p e s m args below meth c X F htb hr hlocks => ?_)
  refine j_aload_n X 3 dL_weather_0 rfl ?_
  refine j_iconst (v := 0) X dL_weather_1 (by decide) ?_
  refine j_aload_n X 0 dL_weather_2 rfl ?_
  refine j_iload_n X 1 dL_weather_3 rfl ?_
  refine j_iload_n X 2 dL_weather_4 rfl ?_
  refine j_callXic (rest := [.int 0, .ref (ad 13)]) X F htb (c_X6_weather hst hI x1 x2 S ho1) cw_L_24 kc20.1 (cl_20 kc20) rfl ⟨rfl, rfl, Nat.le_of_ble_eq_true rfl, Nat.le_of_ble_eq_true rfl⟩ rfl rfl (Nat.le_of_ble_eq_true rfl) ⟨Nat.le_of_ble_eq_true rfl, Nat.le_of_ble_eq_true rfl⟩ dL_weather_5 (fun h0 => ?_) (fun h0 => ?_)
  · rcases ho with h | h
    · exact absurd h h0
    · refine ⟨13, ?_, fun q9 => ?_⟩
      · exact ctch_1 (by decide) (by decide) (by rw [h]; exact m_cl_L_13)
      · refine j_astore X [(4, .ref q9), (0, .ref (ad 0)), (1, .int x1), (2, .int x2), (3, .ref (ad 13))] dL_weather_13 (by decide) rfl ?_
        refine j_iconst (v := 1) X dL_weather_15 (by decide) ?_
        exact j_iretC X hr hlocks ⟨by decide, by decide⟩ dL_weather_16 (by simp [b_L_weather, h])
  · refine j_outi X dL_weather_8 dL_weather_9 ?_
    refine j_goto X 17 dL_weather_10 (by decide) ?_
    refine j_iconst (v := 0) X dL_weather_17 (by decide) ?_
    exact j_iretC X hr hlocks ⟨by decide, by decide⟩ dL_weather_18 (by simp [b_L_weather, h0])
def b_L_pitch (S : Sx) : Int32 × Sx := if (b_X6_pitch_0 S).1 = 0 then (0, up2 (b_X6_pitch_0 S).2.2 13 0 (b_X6_pitch_0 S).2.1) else (1, (b_X6_pitch_0 S).2.2)
def o_L_pitch (S : Sx) : Prop := o_X6_pitch_0 S ∧ ((b_X6_pitch_0 S).1 = 0 ∨ (b_X6_pitch_0 S).1 = 3)
abbrev rm_L_pitch : Room := { frames := 9, cells := 1, slots := 6, locals := 152 }
set_option maxRecDepth 20000 in
theorem c_L_pitch {l : Launch} {D : va_G} {q : Nat → ClassId} {ad : Nat → Nat} {d : UInt64} {sa : Nat → Nat} (hst : l.stackTraces = false) (hI : inj4 ad) (S : Sx) (ho : o_L_pitch S) : CIw l yL_pitch cL_pitch 3 [(0, 8, 11, 32)] rm_L_pitch 1 6 D q ad d d sa [.ref (ad 0), .ref (ad 13)] S (b_L_pitch S).1 (b_L_pitch S).2 := by
  unfold o_L_pitch at ho
  obtain ⟨ho1, ho⟩ := ho
  refine ciw_of hI (by decide +kernel) (Nat.le_of_ble_eq_true rfl) rfl (fun p e s m args below meth c X F htb hr hlocks => ?_)
  refine j_aload_n X 1 dL_pitch_0 rfl ?_
  refine j_iconst (v := 0) X dL_pitch_1 (by decide) ?_
  refine j_aload_n X 0 dL_pitch_2 rfl ?_
  refine j_callXic (rest := [.int 0, .ref (ad 13)]) X F htb (c_X6_pitch hst hI S ho1) cw_L_28 kc20.1 (cl_20 kc20) rfl ⟨rfl, rfl, Nat.le_of_ble_eq_true rfl, Nat.le_of_ble_eq_true rfl⟩ rfl rfl (Nat.le_of_ble_eq_true rfl) ⟨Nat.le_of_ble_eq_true rfl, Nat.le_of_ble_eq_true rfl⟩ dL_pitch_3 (fun h0 => ?_) (fun h0 => ?_)
  · rcases ho with h | h
    · exact absurd h h0
    · refine ⟨11, ?_, fun q9 => ?_⟩
      · exact ctch_1 (by decide) (by decide) (by rw [h]; exact m_cl_L_32)
      · refine j_astore_n X [(2, .ref q9), (0, .ref (ad 0)), (1, .ref (ad 13))] dL_pitch_11 (by decide) rfl ?_
        refine j_iconst (v := 1) X dL_pitch_12 (by decide) ?_
        exact j_iretC X hr hlocks ⟨by decide, by decide⟩ dL_pitch_13 (by simp [b_L_pitch, h])
  · refine j_outi X dL_pitch_6 dL_pitch_7 ?_
    refine j_goto X 14 dL_pitch_8 (by decide) ?_
    refine j_iconst (v := 0) X dL_pitch_14 (by decide) ?_
    exact j_iretC X hr hlocks ⟨by decide, by decide⟩ dL_pitch_15 (by simp [b_L_pitch, h0])
def b_L_cover (x1 : Int32) (x2 : Int32) (S : Sx) : Int32 × Sx := if (b_X6_cover_0 x1 x2 S).1 = 0 then (0, up2 (b_X6_cover_0 x1 x2 S).2.2 13 0 (b_X6_cover_0 x1 x2 S).2.1) else if (b_X6_cover_0 x1 x2 S).1 = 1 then (1, (b_X6_cover_0 x1 x2 S).2.2) else (2, (b_X6_cover_0 x1 x2 S).2.2)
def o_L_cover (x1 : Int32) (x2 : Int32) (S : Sx) : Prop := o_X6_cover_0 x1 x2 S ∧ ((b_X6_cover_0 x1 x2 S).1 = 0 ∨ (b_X6_cover_0 x1 x2 S).1 = 1 ∨ (b_X6_cover_0 x1 x2 S).1 = 3)
abbrev rm_L_cover : Room := { frames := 9, cells := 1, slots := 6, locals := 154 }
set_option maxRecDepth 20000 in
theorem c_L_cover {l : Launch} {D : va_G} {q : Nat → ClassId} {ad : Nat → Nat} {d : UInt64} {sa : Nat → Nat} (hst : l.stackTraces = false) (hI : inj4 ad) (x1 : Int32) (x2 : Int32) (S : Sx) (ho : o_L_cover x1 x2 S) : CIw l yL_cover cL_cover 5 [(0, 10, 13, 13), (0, 10, 17, 32)] rm_L_cover 1 6 D q ad d d sa [.ref (ad 0), .int x1, .int x2, .ref (ad 13)] S (b_L_cover x1 x2 S).1 (b_L_cover x1 x2 S).2 := by
  unfold o_L_cover at ho
  obtain ⟨ho1, ho⟩ := ho
  refine ciw_of hI (by decide +kernel) (Nat.le_of_ble_eq_true rfl) rfl (fun p e s m args below meth c X F htb hr hlocks => ?_)
  refine j_aload_n X 3 dL_cover_0 rfl ?_
  refine j_iconst (v := 0) X dL_cover_1 (by decide) ?_
  refine j_aload_n X 0 dL_cover_2 rfl ?_
  refine j_iload_n X 1 dL_cover_3 rfl ?_
  refine j_iload_n X 2 dL_cover_4 rfl ?_
  refine j_callXic (rest := [.int 0, .ref (ad 13)]) X F htb (c_X6_cover hst hI x1 x2 S ho1) cw_L_34 kc20.1 (cl_20 kc20) rfl ⟨rfl, rfl, Nat.le_of_ble_eq_true rfl, Nat.le_of_ble_eq_true rfl⟩ rfl rfl (Nat.le_of_ble_eq_true rfl) ⟨Nat.le_of_ble_eq_true rfl, Nat.le_of_ble_eq_true rfl⟩ dL_cover_5 (fun h0 => ?_) (fun h0 => ?_)
  · rcases ho with h | h | h
    · exact absurd h h0
    · refine ⟨13, ?_, fun q9 => ?_⟩
      · exact ctch_1 (by decide) (by decide) (by rw [h]; exact m_cl_L_13)
      · refine j_astore X [(4, .ref q9), (0, .ref (ad 0)), (1, .int x1), (2, .int x2), (3, .ref (ad 13))] dL_cover_13 (by decide) rfl ?_
        refine j_iconst (v := 1) X dL_cover_15 (by decide) ?_
        exact j_iretC X hr hlocks ⟨by decide, by decide⟩ dL_cover_16 (by simp [b_L_cover, h])
    · refine ⟨17, ?_, fun q9 => ?_⟩
      · exact ctch_s (i := 1) (ctch_1 (by decide) (by decide) (by rw [h]; exact m_cl_L_32)) (by decide) (by decide) (by rw [h]; decide) m_cl_L_13
      · refine j_astore X [(4, .ref q9), (0, .ref (ad 0)), (1, .int x1), (2, .int x2), (3, .ref (ad 13))] dL_cover_17 (by decide) rfl ?_
        refine j_iconst (v := 2) X dL_cover_19 (by decide) ?_
        exact j_iretC X hr hlocks ⟨by decide, by decide⟩ dL_cover_20 (by simp [b_L_cover, h])
  · refine j_outi X dL_cover_8 dL_cover_9 ?_
    refine j_goto X 21 dL_cover_10 (by decide) ?_
    refine j_iconst (v := 0) X dL_cover_21 (by decide) ?_
    exact j_iretC X hr hlocks ⟨by decide, by decide⟩ dL_cover_22 (by simp [b_L_cover, h0])
def b_L_pitchOf (x1 : Int32) (x2 : Int32) (S : Sx) : Int32 × Sx := if (b_X6_pitchOf_0 x1 x2 S).1 = 0 then (0, up2 (b_X6_pitchOf_0 x1 x2 S).2.2 13 0 (b_X6_pitchOf_0 x1 x2 S).2.1) else if (b_X6_pitchOf_0 x1 x2 S).1 = 1 then (1, (b_X6_pitchOf_0 x1 x2 S).2.2) else (2, (b_X6_pitchOf_0 x1 x2 S).2.2)
def o_L_pitchOf (x1 : Int32) (x2 : Int32) (S : Sx) : Prop := o_X6_pitchOf_0 x1 x2 S ∧ ((b_X6_pitchOf_0 x1 x2 S).1 = 0 ∨ (b_X6_pitchOf_0 x1 x2 S).1 = 1 ∨ (b_X6_pitchOf_0 x1 x2 S).1 = 2)
abbrev rm_L_pitchOf : Room := { frames := 8, cells := 2, slots := 12, locals := 134 }
set_option maxRecDepth 20000 in
theorem c_L_pitchOf {l : Launch} {D : va_G} {q : Nat → ClassId} {ad : Nat → Nat} {d : UInt64} {sa : Nat → Nat} (hst : l.stackTraces = false) (hI : inj4 ad) (x1 : Int32) (x2 : Int32) (S : Sx) (ho : o_L_pitchOf x1 x2 S) : CIw l yL_pitchOf cL_pitchOf 5 [(0, 10, 13, 13), (0, 10, 17, 15)] rm_L_pitchOf 2 12 D q ad d d sa [.ref (ad 0), .int x1, .int x2, .ref (ad 13)] S (b_L_pitchOf x1 x2 S).1 (b_L_pitchOf x1 x2 S).2 := by
  unfold o_L_pitchOf at ho
  obtain ⟨ho1, ho⟩ := ho
  refine ciw_of hI (by decide +kernel) (Nat.le_of_ble_eq_true rfl) rfl (fun p e s m args below meth c X F htb hr hlocks => ?_)
  refine j_aload_n X 3 dL_pitchOf_0 rfl ?_
  refine j_iconst (v := 0) X dL_pitchOf_1 (by decide) ?_
  refine j_aload_n X 0 dL_pitchOf_2 rfl ?_
  refine j_iload_n X 1 dL_pitchOf_3 rfl ?_
  refine j_iload_n X 2 dL_pitchOf_4 rfl ?_
  refine j_callXic (rest := [.int 0, .ref (ad 13)]) X F htb (c_X6_pitchOf hst hI x1 x2 S ho1) cw_L_37 kc20.1 (cl_20 kc20) rfl ⟨rfl, rfl, Nat.le_of_ble_eq_true rfl, Nat.le_of_ble_eq_true rfl⟩ rfl rfl (Nat.le_of_ble_eq_true rfl) ⟨Nat.le_of_ble_eq_true rfl, Nat.le_of_ble_eq_true rfl⟩ dL_pitchOf_5 (fun h0 => ?_) (fun h0 => ?_)
  · rcases ho with h | h | h
    · exact absurd h h0
    · refine ⟨13, ?_, fun q9 => ?_⟩
      · exact ctch_1 (by decide) (by decide) (by rw [h]; exact m_cl_L_13)
      · refine j_astore X [(4, .ref q9), (0, .ref (ad 0)), (1, .int x1), (2, .int x2), (3, .ref (ad 13))] dL_pitchOf_13 (by decide) rfl ?_
        refine j_iconst (v := 1) X dL_pitchOf_15 (by decide) ?_
        exact j_iretC X hr hlocks ⟨by decide, by decide⟩ dL_pitchOf_16 (by simp [b_L_pitchOf, h])
    · refine ⟨17, ?_, fun q9 => ?_⟩
      · exact ctch_s (i := 1) (ctch_1 (by decide) (by decide) (by rw [h]; exact m_cl_L_15)) (by decide) (by decide) (by rw [h]; decide) m_cl_L_13
      · refine j_astore X [(4, .ref q9), (0, .ref (ad 0)), (1, .int x1), (2, .int x2), (3, .ref (ad 13))] dL_pitchOf_17 (by decide) rfl ?_
        refine j_iconst (v := 2) X dL_pitchOf_19 (by decide) ?_
        exact j_iretC X hr hlocks ⟨by decide, by decide⟩ dL_pitchOf_20 (by simp [b_L_pitchOf, h])
  · refine j_outi X dL_pitchOf_8 dL_pitchOf_9 ?_
    refine j_goto X 21 dL_pitchOf_10 (by decide) ?_
    refine j_iconst (v := 0) X dL_pitchOf_21 (by decide) ?_
    exact j_iretC X hr hlocks ⟨by decide, by decide⟩ dL_pitchOf_22 (by simp [b_L_pitchOf, h0])
def b_L_sign (x1 : Int32) (S : Sx) : Int32 × Sx := if (b_X6_sign_0 x1 S).1 = 0 then (0, up2 (b_X6_sign_0 x1 S).2.2 13 0 (b_X6_sign_0 x1 S).2.1) else (1, (b_X6_sign_0 x1 S).2.2)
def o_L_sign (x1 : Int32) (S : Sx) : Prop := o_X6_sign_0 x1 S ∧ ((b_X6_sign_0 x1 S).1 = 0 ∨ (b_X6_sign_0 x1 S).1 = 1)
abbrev rm_L_sign : Room := { frames := 8, cells := 1, slots := 6, locals := 132 }
set_option maxRecDepth 20000 in
theorem c_L_sign {l : Launch} {D : va_G} {q : Nat → ClassId} {ad : Nat → Nat} {d : UInt64} {sa : Nat → Nat} (hst : l.stackTraces = false) (hI : inj4 ad) (x1 : Int32) (S : Sx) (ho : o_L_sign x1 S) : CIw l yL_sign cL_sign 4 [(0, 9, 12, 13)] rm_L_sign 1 6 D q ad d d sa [.ref (ad 0), .int x1, .ref (ad 13)] S (b_L_sign x1 S).1 (b_L_sign x1 S).2 := by
  unfold o_L_sign at ho
  obtain ⟨ho1, ho⟩ := ho
  refine ciw_of hI (by decide +kernel) (Nat.le_of_ble_eq_true rfl) rfl (fun p e s m args below meth c X F htb hr hlocks => ?_)
  refine j_aload_n X 2 dL_sign_0 rfl ?_
  refine j_iconst (v := 0) X dL_sign_1 (by decide) ?_
  refine j_aload_n X 0 dL_sign_2 rfl ?_
  refine j_iload_n X 1 dL_sign_3 rfl ?_
  refine j_callXic (rest := [.int 0, .ref (ad 13)]) X F htb (c_X6_sign hst hI x1 S ho1) cw_L_40 kc20.1 (cl_20 kc20) rfl ⟨rfl, rfl, Nat.le_of_ble_eq_true rfl, Nat.le_of_ble_eq_true rfl⟩ rfl rfl (Nat.le_of_ble_eq_true rfl) ⟨Nat.le_of_ble_eq_true rfl, Nat.le_of_ble_eq_true rfl⟩ dL_sign_4 (fun h0 => ?_) (fun h0 => ?_)
  · rcases ho with h | h
    · exact absurd h h0
    · refine ⟨12, ?_, fun q9 => ?_⟩
      · exact ctch_1 (by decide) (by decide) (by rw [h]; exact m_cl_L_13)
      · refine j_astore_n X [(3, .ref q9), (0, .ref (ad 0)), (1, .int x1), (2, .ref (ad 13))] dL_sign_12 (by decide) rfl ?_
        refine j_iconst (v := 1) X dL_sign_13 (by decide) ?_
        exact j_iretC X hr hlocks ⟨by decide, by decide⟩ dL_sign_14 (by simp [b_L_sign, h])
  · refine j_outi X dL_sign_7 dL_sign_8 ?_
    refine j_goto X 15 dL_sign_9 (by decide) ?_
    refine j_iconst (v := 0) X dL_sign_15 (by decide) ?_
    exact j_iretC X hr hlocks ⟨by decide, by decide⟩ dL_sign_16 (by simp [b_L_sign, h0])
def b_L_horse (x1 : Int32) (x2 : Int32) (S : Sx) : Int32 × Sx := if (b_X6_horse_0 x1 x2 S).1 = 0 then (0, up2 (b_X6_horse_0 x1 x2 S).2.2 13 0 (b_X6_horse_0 x1 x2 S).2.1) else if (b_X6_horse_0 x1 x2 S).1 = 2 then (1, (b_X6_horse_0 x1 x2 S).2.2) else (2, (b_X6_horse_0 x1 x2 S).2.2)
def o_L_horse (x1 : Int32) (x2 : Int32) (S : Sx) : Prop := o_X6_horse_0 x1 x2 S ∧ ((b_X6_horse_0 x1 x2 S).1 = 0 ∨ (b_X6_horse_0 x1 x2 S).1 = 2 ∨ (b_X6_horse_0 x1 x2 S).1 = 3)
abbrev rm_L_horse : Room := { frames := 9, cells := 2, slots := 12, locals := 154 }
set_option maxRecDepth 20000 in
theorem c_L_horse {l : Launch} {D : va_G} {q : Nat → ClassId} {ad : Nat → Nat} {d : UInt64} {sa : Nat → Nat} (hst : l.stackTraces = false) (hI : inj4 ad) (x1 : Int32) (x2 : Int32) (S : Sx) (ho : o_L_horse x1 x2 S) : CIw l yL_horse cL_horse 5 [(0, 10, 13, 15), (0, 10, 17, 32)] rm_L_horse 2 12 D q ad d d sa [.ref (ad 0), .int x1, .int x2, .ref (ad 13)] S (b_L_horse x1 x2 S).1 (b_L_horse x1 x2 S).2 := by
  unfold o_L_horse at ho
  obtain ⟨ho1, ho⟩ := ho
  refine ciw_of hI (by decide +kernel) (Nat.le_of_ble_eq_true rfl) rfl (fun p e s m args below meth c X F htb hr hlocks => ?_)
  refine j_aload_n X 3 dL_horse_0 rfl ?_
  refine j_iconst (v := 0) X dL_horse_1 (by decide) ?_
  refine j_aload_n X 0 dL_horse_2 rfl ?_
  refine j_iload_n X 1 dL_horse_3 rfl ?_
  refine j_iload_n X 2 dL_horse_4 rfl ?_
  refine j_callXic (rest := [.int 0, .ref (ad 13)]) X F htb (c_X6_horse hst hI x1 x2 S ho1) cw_L_44 kc20.1 (cl_20 kc20) rfl ⟨rfl, rfl, Nat.le_of_ble_eq_true rfl, Nat.le_of_ble_eq_true rfl⟩ rfl rfl (Nat.le_of_ble_eq_true rfl) ⟨Nat.le_of_ble_eq_true rfl, Nat.le_of_ble_eq_true rfl⟩ dL_horse_5 (fun h0 => ?_) (fun h0 => ?_)
  · rcases ho with h | h | h
    · exact absurd h h0
    · refine ⟨13, ?_, fun q9 => ?_⟩
      · exact ctch_1 (by decide) (by decide) (by rw [h]; exact m_cl_L_15)
      · refine j_astore X [(4, .ref q9), (0, .ref (ad 0)), (1, .int x1), (2, .int x2), (3, .ref (ad 13))] dL_horse_13 (by decide) rfl ?_
        refine j_iconst (v := 1) X dL_horse_15 (by decide) ?_
        exact j_iretC X hr hlocks ⟨by decide, by decide⟩ dL_horse_16 (by simp [b_L_horse, h])
    · refine ⟨17, ?_, fun q9 => ?_⟩
      · exact ctch_s (i := 2) (ctch_1 (by decide) (by decide) (by rw [h]; exact m_cl_L_32)) (by decide) (by decide) (by rw [h]; decide) m_cl_L_15
      · refine j_astore X [(4, .ref q9), (0, .ref (ad 0)), (1, .int x1), (2, .int x2), (3, .ref (ad 13))] dL_horse_17 (by decide) rfl ?_
        refine j_iconst (v := 2) X dL_horse_19 (by decide) ?_
        exact j_iretC X hr hlocks ⟨by decide, by decide⟩ dL_horse_20 (by simp [b_L_horse, h])
  · refine j_outi X dL_horse_8 dL_horse_9 ?_
    refine j_goto X 21 dL_horse_10 (by decide) ?_
    refine j_iconst (v := 0) X dL_horse_21 (by decide) ?_
    exact j_iretC X hr hlocks ⟨by decide, by decide⟩ dL_horse_22 (by simp [b_L_horse, h0])
def b_L_boots (x1 : Int32) (x2 : Int32) (S : Sx) : Int32 × Sx := if (b_X6_boots_0 x1 x2 S).1 = 0 then (0, up2 (b_X6_boots_0 x1 x2 S).2.2 13 0 (b_X6_boots_0 x1 x2 S).2.1) else if (b_X6_boots_0 x1 x2 S).1 = 1 then (1, (b_X6_boots_0 x1 x2 S).2.2) else (2, (b_X6_boots_0 x1 x2 S).2.2)
def o_L_boots (x1 : Int32) (x2 : Int32) (S : Sx) : Prop := o_X6_boots_0 x1 x2 S ∧ ((b_X6_boots_0 x1 x2 S).1 = 0 ∨ (b_X6_boots_0 x1 x2 S).1 = 1 ∨ (b_X6_boots_0 x1 x2 S).1 = 3)
abbrev rm_L_boots : Room := { frames := 9, cells := 1, slots := 6, locals := 154 }
set_option maxRecDepth 20000 in
theorem c_L_boots {l : Launch} {D : va_G} {q : Nat → ClassId} {ad : Nat → Nat} {d : UInt64} {sa : Nat → Nat} (hst : l.stackTraces = false) (hI : inj4 ad) (x1 : Int32) (x2 : Int32) (S : Sx) (ho : o_L_boots x1 x2 S) : CIw l yL_boots cL_boots 5 [(0, 10, 13, 13), (0, 10, 17, 32)] rm_L_boots 1 6 D q ad d d sa [.ref (ad 0), .int x1, .int x2, .ref (ad 13)] S (b_L_boots x1 x2 S).1 (b_L_boots x1 x2 S).2 := by
  unfold o_L_boots at ho
  obtain ⟨ho1, ho⟩ := ho
  refine ciw_of hI (by decide +kernel) (Nat.le_of_ble_eq_true rfl) rfl (fun p e s m args below meth c X F htb hr hlocks => ?_)
  refine j_aload_n X 3 dL_boots_0 rfl ?_
  refine j_iconst (v := 0) X dL_boots_1 (by decide) ?_
  refine j_aload_n X 0 dL_boots_2 rfl ?_
  refine j_iload_n X 1 dL_boots_3 rfl ?_
  refine j_iload_n X 2 dL_boots_4 rfl ?_
  refine j_callXic (rest := [.int 0, .ref (ad 13)]) X F htb (c_X6_boots hst hI x1 x2 S ho1) cw_L_47 kc20.1 (cl_20 kc20) rfl ⟨rfl, rfl, Nat.le_of_ble_eq_true rfl, Nat.le_of_ble_eq_true rfl⟩ rfl rfl (Nat.le_of_ble_eq_true rfl) ⟨Nat.le_of_ble_eq_true rfl, Nat.le_of_ble_eq_true rfl⟩ dL_boots_5 (fun h0 => ?_) (fun h0 => ?_)
  · rcases ho with h | h | h
    · exact absurd h h0
    · refine ⟨13, ?_, fun q9 => ?_⟩
      · exact ctch_1 (by decide) (by decide) (by rw [h]; exact m_cl_L_13)
      · refine j_astore X [(4, .ref q9), (0, .ref (ad 0)), (1, .int x1), (2, .int x2), (3, .ref (ad 13))] dL_boots_13 (by decide) rfl ?_
        refine j_iconst (v := 1) X dL_boots_15 (by decide) ?_
        exact j_iretC X hr hlocks ⟨by decide, by decide⟩ dL_boots_16 (by simp [b_L_boots, h])
    · refine ⟨17, ?_, fun q9 => ?_⟩
      · exact ctch_s (i := 1) (ctch_1 (by decide) (by decide) (by rw [h]; exact m_cl_L_32)) (by decide) (by decide) (by rw [h]; decide) m_cl_L_13
      · refine j_astore X [(4, .ref q9), (0, .ref (ad 0)), (1, .int x1), (2, .int x2), (3, .ref (ad 13))] dL_boots_17 (by decide) rfl ?_
        refine j_iconst (v := 2) X dL_boots_19 (by decide) ?_
        exact j_iretC X hr hlocks ⟨by decide, by decide⟩ dL_boots_20 (by simp [b_L_boots, h])
  · refine j_outi X dL_boots_8 dL_boots_9 ?_
    refine j_goto X 21 dL_boots_10 (by decide) ?_
    refine j_iconst (v := 0) X dL_boots_21 (by decide) ?_
    exact j_iretC X hr hlocks ⟨by decide, by decide⟩ dL_boots_22 (by simp [b_L_boots, h0])
def b_L_horseOf (x1 : Int32) (x2 : Int32) (S : Sx) : Int32 × Sx := if (b_X6_horseOf_0 x1 x2 S).1 = 0 then (0, up2 (b_X6_horseOf_0 x1 x2 S).2.2 13 0 (b_X6_horseOf_0 x1 x2 S).2.1) else if (b_X6_horseOf_0 x1 x2 S).1 = 1 then (1, (b_X6_horseOf_0 x1 x2 S).2.2) else (2, (b_X6_horseOf_0 x1 x2 S).2.2)
def o_L_horseOf (x1 : Int32) (x2 : Int32) (S : Sx) : Prop := o_X6_horseOf_0 x1 x2 S ∧ ((b_X6_horseOf_0 x1 x2 S).1 = 0 ∨ (b_X6_horseOf_0 x1 x2 S).1 = 1 ∨ (b_X6_horseOf_0 x1 x2 S).1 = 2)
abbrev rm_L_horseOf : Room := { frames := 8, cells := 2, slots := 12, locals := 134 }
set_option maxRecDepth 20000 in
theorem c_L_horseOf {l : Launch} {D : va_G} {q : Nat → ClassId} {ad : Nat → Nat} {d : UInt64} {sa : Nat → Nat} (hst : l.stackTraces = false) (hI : inj4 ad) (x1 : Int32) (x2 : Int32) (S : Sx) (ho : o_L_horseOf x1 x2 S) : CIw l yL_horseOf cL_horseOf 5 [(0, 10, 13, 13), (0, 10, 17, 15)] rm_L_horseOf 2 12 D q ad d d sa [.ref (ad 0), .int x1, .int x2, .ref (ad 13)] S (b_L_horseOf x1 x2 S).1 (b_L_horseOf x1 x2 S).2 := by
  unfold o_L_horseOf at ho
  obtain ⟨ho1, ho⟩ := ho
  refine ciw_of hI (by decide +kernel) (Nat.le_of_ble_eq_true rfl) rfl (fun p e s m args below meth c X F htb hr hlocks => ?_)
  refine j_aload_n X 3 dL_horseOf_0 rfl ?_
  refine j_iconst (v := 0) X dL_horseOf_1 (by decide) ?_
  refine j_aload_n X 0 dL_horseOf_2 rfl ?_
  refine j_iload_n X 1 dL_horseOf_3 rfl ?_
  refine j_iload_n X 2 dL_horseOf_4 rfl ?_
  refine j_callXic (rest := [.int 0, .ref (ad 13)]) X F htb (c_X6_horseOf hst hI x1 x2 S ho1) cw_L_50 kc20.1 (cl_20 kc20) rfl ⟨rfl, rfl, Nat.le_of_ble_eq_true rfl, Nat.le_of_ble_eq_true rfl⟩ rfl rfl (Nat.le_of_ble_eq_true rfl) ⟨Nat.le_of_ble_eq_true rfl, Nat.le_of_ble_eq_true rfl⟩ dL_horseOf_5 (fun h0 => ?_) (fun h0 => ?_)
  · rcases ho with h | h | h
    · exact absurd h h0
    · refine ⟨13, ?_, fun q9 => ?_⟩
      · exact ctch_1 (by decide) (by decide) (by rw [h]; exact m_cl_L_13)
      · refine j_astore X [(4, .ref q9), (0, .ref (ad 0)), (1, .int x1), (2, .int x2), (3, .ref (ad 13))] dL_horseOf_13 (by decide) rfl ?_
        refine j_iconst (v := 1) X dL_horseOf_15 (by decide) ?_
        exact j_iretC X hr hlocks ⟨by decide, by decide⟩ dL_horseOf_16 (by simp [b_L_horseOf, h])
    · refine ⟨17, ?_, fun q9 => ?_⟩
      · exact ctch_s (i := 1) (ctch_1 (by decide) (by decide) (by rw [h]; exact m_cl_L_15)) (by decide) (by decide) (by rw [h]; decide) m_cl_L_13
      · refine j_astore X [(4, .ref q9), (0, .ref (ad 0)), (1, .int x1), (2, .int x2), (3, .ref (ad 13))] dL_horseOf_17 (by decide) rfl ?_
        refine j_iconst (v := 2) X dL_horseOf_19 (by decide) ?_
        exact j_iretC X hr hlocks ⟨by decide, by decide⟩ dL_horseOf_20 (by simp [b_L_horseOf, h])
  · refine j_outi X dL_horseOf_8 dL_horseOf_9 ?_
    refine j_goto X 21 dL_horseOf_10 (by decide) ?_
    refine j_iconst (v := 0) X dL_horseOf_21 (by decide) ?_
    exact j_iretC X hr hlocks ⟨by decide, by decide⟩ dL_horseOf_22 (by simp [b_L_horseOf, h0])
def b_L_roll (x1 : Int32) (x2 : Int32) (x3 : Int32) (S : Sx) : Int32 × Sx := if (b_X6_roll_0 x1 x2 x3 S).1 = 0 then (0, up2 (b_X6_roll_0 x1 x2 x3 S).2.2 13 0 (b_X6_roll_0 x1 x2 x3 S).2.1) else if (b_X6_roll_0 x1 x2 x3 S).1 = 1 then (1, (b_X6_roll_0 x1 x2 x3 S).2.2) else if (b_X6_roll_0 x1 x2 x3 S).1 = 2 then (2, (b_X6_roll_0 x1 x2 x3 S).2.2) else (3, (b_X6_roll_0 x1 x2 x3 S).2.2)
def o_L_roll (x1 : Int32) (x2 : Int32) (x3 : Int32) (S : Sx) : Prop := o_X6_roll_0 x1 x2 x3 S ∧ ((b_X6_roll_0 x1 x2 x3 S).1 = 0 ∨ (b_X6_roll_0 x1 x2 x3 S).1 = 1 ∨ (b_X6_roll_0 x1 x2 x3 S).1 = 2 ∨ (b_X6_roll_0 x1 x2 x3 S).1 = 3)
abbrev rm_L_roll : Room := { frames := 9, cells := 1, slots := 6, locals := 156 }
set_option maxRecDepth 20000 in
theorem c_L_roll {l : Launch} {D : va_G} {q : Nat → ClassId} {ad : Nat → Nat} {d : UInt64} {sa : Nat → Nat} (hst : l.stackTraces = false) (hI : inj4 ad) (x1 : Int32) (x2 : Int32) (x3 : Int32) (S : Sx) (ho : o_L_roll x1 x2 x3 S) : CIw l yL_roll cL_roll 6 [(0, 12, 15, 13), (0, 12, 19, 15), (0, 12, 23, 32)] rm_L_roll 1 6 D q ad d d sa [.ref (ad 0), .int x1, .int x2, .int x3, .ref (ad 13)] S (b_L_roll x1 x2 x3 S).1 (b_L_roll x1 x2 x3 S).2 := by
  unfold o_L_roll at ho
  obtain ⟨ho1, ho⟩ := ho
  refine ciw_of hI (by decide +kernel) (Nat.le_of_ble_eq_true rfl) rfl (fun p e s m args below meth c X F htb hr hlocks => ?_)
  refine j_aload X 4 dL_roll_0 rfl ?_
  refine j_iconst (v := 0) X dL_roll_2 (by decide) ?_
  refine j_aload_n X 0 dL_roll_3 rfl ?_
  refine j_iload_n X 1 dL_roll_4 rfl ?_
  refine j_iload_n X 2 dL_roll_5 rfl ?_
  refine j_iload_n X 3 dL_roll_6 rfl ?_
  refine j_callXic (rest := [.int 0, .ref (ad 13)]) X F htb (c_X6_roll hst hI x1 x2 x3 S ho1) cw_L_53 kc20.1 (cl_20 kc20) rfl ⟨rfl, rfl, Nat.le_of_ble_eq_true rfl, Nat.le_of_ble_eq_true rfl⟩ rfl rfl (Nat.le_of_ble_eq_true rfl) ⟨Nat.le_of_ble_eq_true rfl, Nat.le_of_ble_eq_true rfl⟩ dL_roll_7 (fun h0 => ?_) (fun h0 => ?_)
  · rcases ho with h | h | h | h
    · exact absurd h h0
    · refine ⟨15, ?_, fun q9 => ?_⟩
      · exact ctch_1 (by decide) (by decide) (by rw [h]; exact m_cl_L_13)
      · refine j_astore X [(5, .ref q9), (0, .ref (ad 0)), (1, .int x1), (2, .int x2), (3, .int x3), (4, .ref (ad 13))] dL_roll_15 (by decide) rfl ?_
        refine j_iconst (v := 1) X dL_roll_17 (by decide) ?_
        exact j_iretC X hr hlocks ⟨by decide, by decide⟩ dL_roll_18 (by simp [b_L_roll, h])
    · refine ⟨19, ?_, fun q9 => ?_⟩
      · exact ctch_s (i := 1) (ctch_1 (by decide) (by decide) (by rw [h]; exact m_cl_L_15)) (by decide) (by decide) (by rw [h]; decide) m_cl_L_13
      · refine j_astore X [(5, .ref q9), (0, .ref (ad 0)), (1, .int x1), (2, .int x2), (3, .int x3), (4, .ref (ad 13))] dL_roll_19 (by decide) rfl ?_
        refine j_iconst (v := 2) X dL_roll_21 (by decide) ?_
        exact j_iretC X hr hlocks ⟨by decide, by decide⟩ dL_roll_22 (by simp [b_L_roll, h])
    · refine ⟨23, ?_, fun q9 => ?_⟩
      · exact ctch_s (i := 1) (ctch_s (i := 2) (ctch_1 (by decide) (by decide) (by rw [h]; exact m_cl_L_32)) (by decide) (by decide) (by rw [h]; decide) m_cl_L_15) (by decide) (by decide) (by rw [h]; decide) m_cl_L_13
      · refine j_astore X [(5, .ref q9), (0, .ref (ad 0)), (1, .int x1), (2, .int x2), (3, .int x3), (4, .ref (ad 13))] dL_roll_23 (by decide) rfl ?_
        refine j_iconst (v := 3) X dL_roll_25 (by decide) ?_
        exact j_iretC X hr hlocks ⟨by decide, by decide⟩ dL_roll_26 (by simp [b_L_roll, h])
  · refine j_outi X dL_roll_10 dL_roll_11 ?_
    refine j_goto X 27 dL_roll_12 (by decide) ?_
    refine j_iconst (v := 0) X dL_roll_27 (by decide) ?_
    exact j_iretC X hr hlocks ⟨by decide, by decide⟩ dL_roll_28 (by simp [b_L_roll, h0])
def b_L_bestHorse (x1 : Int32) (S : Sx) : Int32 × Sx := if (b_X6_bestHorse_0 x1 S).1 = 0 then (0, up2 (b_X6_bestHorse_0 x1 S).2.2 13 0 (b_X6_bestHorse_0 x1 S).2.1) else if (b_X6_bestHorse_0 x1 S).1 = 1 then (1, (b_X6_bestHorse_0 x1 S).2.2) else (2, (b_X6_bestHorse_0 x1 S).2.2)
def o_L_bestHorse (x1 : Int32) (S : Sx) : Prop := o_X6_bestHorse_0 x1 S ∧ ((b_X6_bestHorse_0 x1 S).1 = 0 ∨ (b_X6_bestHorse_0 x1 S).1 = 1 ∨ (b_X6_bestHorse_0 x1 S).1 = 4)
abbrev rm_L_bestHorse : Room := { frames := 8, cells := 2, slots := 12, locals := 134 }
set_option maxRecDepth 20000 in
theorem c_L_bestHorse {l : Launch} {D : va_G} {q : Nat → ClassId} {ad : Nat → Nat} {d : UInt64} {sa : Nat → Nat} (hst : l.stackTraces = false) (hI : inj4 ad) (x1 : Int32) (S : Sx) (ho : o_L_bestHorse x1 S) : CIw l yL_bestHorse cL_bestHorse 4 [(0, 9, 12, 13), (0, 9, 15, 60)] rm_L_bestHorse 2 12 D q ad d d sa [.ref (ad 0), .int x1, .ref (ad 13)] S (b_L_bestHorse x1 S).1 (b_L_bestHorse x1 S).2 := by
  unfold o_L_bestHorse at ho
  obtain ⟨ho1, ho⟩ := ho
  refine ciw_of hI (by decide +kernel) (Nat.le_of_ble_eq_true rfl) rfl (fun p e s m args below meth c X F htb hr hlocks => ?_)
  refine j_aload_n X 2 dL_bestHorse_0 rfl ?_
  refine j_iconst (v := 0) X dL_bestHorse_1 (by decide) ?_
  refine j_aload_n X 0 dL_bestHorse_2 rfl ?_
  refine j_iload_n X 1 dL_bestHorse_3 rfl ?_
  refine j_callXic (rest := [.int 0, .ref (ad 13)]) X F htb (c_X6_bestHorse hst hI x1 S ho1) cw_L_57 kc20.1 (cl_20 kc20) rfl ⟨rfl, rfl, Nat.le_of_ble_eq_true rfl, Nat.le_of_ble_eq_true rfl⟩ rfl rfl (Nat.le_of_ble_eq_true rfl) ⟨Nat.le_of_ble_eq_true rfl, Nat.le_of_ble_eq_true rfl⟩ dL_bestHorse_4 (fun h0 => ?_) (fun h0 => ?_)
  · rcases ho with h | h | h
    · exact absurd h h0
    · refine ⟨12, ?_, fun q9 => ?_⟩
      · exact ctch_1 (by decide) (by decide) (by rw [h]; exact m_cl_L_13)
      · refine j_astore_n X [(3, .ref q9), (0, .ref (ad 0)), (1, .int x1), (2, .ref (ad 13))] dL_bestHorse_12 (by decide) rfl ?_
        refine j_iconst (v := 1) X dL_bestHorse_13 (by decide) ?_
        exact j_iretC X hr hlocks ⟨by decide, by decide⟩ dL_bestHorse_14 (by simp [b_L_bestHorse, h])
    · refine ⟨15, ?_, fun q9 => ?_⟩
      · exact ctch_s (i := 1) (ctch_1 (by decide) (by decide) (by rw [h]; exact m_cl_L_60)) (by decide) (by decide) (by rw [h]; decide) m_cl_L_13
      · refine j_astore_n X [(3, .ref q9), (0, .ref (ad 0)), (1, .int x1), (2, .ref (ad 13))] dL_bestHorse_15 (by decide) rfl ?_
        refine j_iconst (v := 2) X dL_bestHorse_16 (by decide) ?_
        exact j_iretC X hr hlocks ⟨by decide, by decide⟩ dL_bestHorse_17 (by simp [b_L_bestHorse, h])
  · refine j_outi X dL_bestHorse_7 dL_bestHorse_8 ?_
    refine j_goto X 18 dL_bestHorse_9 (by decide) ?_
    refine j_iconst (v := 0) X dL_bestHorse_18 (by decide) ?_
    exact j_iretC X hr hlocks ⟨by decide, by decide⟩ dL_bestHorse_19 (by simp [b_L_bestHorse, h0])
def b_L_umpire (x1 : Int32) (S : Sx) : Int32 × Sx := if (b_X6_umpire_0 x1 S).1 = 0 then (0, up2 (b_X6_umpire_0 x1 S).2.2 13 0 (b_X6_umpire_0 x1 S).2.1) else if (b_X6_umpire_0 x1 S).1 = 2 then (1, (b_X6_umpire_0 x1 S).2.2) else (2, (b_X6_umpire_0 x1 S).2.2)
def o_L_umpire (x1 : Int32) (S : Sx) : Prop := o_X6_umpire_0 x1 S ∧ ((b_X6_umpire_0 x1 S).1 = 0 ∨ (b_X6_umpire_0 x1 S).1 = 2 ∨ (b_X6_umpire_0 x1 S).1 = 3)
abbrev rm_L_umpire : Room := { frames := 9, cells := 2, slots := 12, locals := 153 }
set_option maxRecDepth 20000 in
theorem c_L_umpire {l : Launch} {D : va_G} {q : Nat → ClassId} {ad : Nat → Nat} {d : UInt64} {sa : Nat → Nat} (hst : l.stackTraces = false) (hI : inj4 ad) (x1 : Int32) (S : Sx) (ho : o_L_umpire x1 S) : CIw l yL_umpire cL_umpire 4 [(0, 9, 12, 15), (0, 9, 15, 32)] rm_L_umpire 2 12 D q ad d d sa [.ref (ad 0), .int x1, .ref (ad 13)] S (b_L_umpire x1 S).1 (b_L_umpire x1 S).2 := by
  unfold o_L_umpire at ho
  obtain ⟨ho1, ho⟩ := ho
  refine ciw_of hI (by decide +kernel) (Nat.le_of_ble_eq_true rfl) rfl (fun p e s m args below meth c X F htb hr hlocks => ?_)
  refine j_aload_n X 2 dL_umpire_0 rfl ?_
  refine j_iconst (v := 0) X dL_umpire_1 (by decide) ?_
  refine j_aload_n X 0 dL_umpire_2 rfl ?_
  refine j_iload_n X 1 dL_umpire_3 rfl ?_
  refine j_callXic (rest := [.int 0, .ref (ad 13)]) X F htb (c_X6_umpire hst hI x1 S ho1) cw_L_62 kc20.1 (cl_20 kc20) rfl ⟨rfl, rfl, Nat.le_of_ble_eq_true rfl, Nat.le_of_ble_eq_true rfl⟩ rfl rfl (Nat.le_of_ble_eq_true rfl) ⟨Nat.le_of_ble_eq_true rfl, Nat.le_of_ble_eq_true rfl⟩ dL_umpire_4 (fun h0 => ?_) (fun h0 => ?_)
  · rcases ho with h | h | h
    · exact absurd h h0
    · refine ⟨12, ?_, fun q9 => ?_⟩
      · exact ctch_1 (by decide) (by decide) (by rw [h]; exact m_cl_L_15)
      · refine j_astore_n X [(3, .ref q9), (0, .ref (ad 0)), (1, .int x1), (2, .ref (ad 13))] dL_umpire_12 (by decide) rfl ?_
        refine j_iconst (v := 1) X dL_umpire_13 (by decide) ?_
        exact j_iretC X hr hlocks ⟨by decide, by decide⟩ dL_umpire_14 (by simp [b_L_umpire, h])
    · refine ⟨15, ?_, fun q9 => ?_⟩
      · exact ctch_s (i := 2) (ctch_1 (by decide) (by decide) (by rw [h]; exact m_cl_L_32)) (by decide) (by decide) (by rw [h]; decide) m_cl_L_15
      · refine j_astore_n X [(3, .ref q9), (0, .ref (ad 0)), (1, .int x1), (2, .ref (ad 13))] dL_umpire_15 (by decide) rfl ?_
        refine j_iconst (v := 2) X dL_umpire_16 (by decide) ?_
        exact j_iretC X hr hlocks ⟨by decide, by decide⟩ dL_umpire_17 (by simp [b_L_umpire, h])
  · refine j_outi X dL_umpire_7 dL_umpire_8 ?_
    refine j_goto X 18 dL_umpire_9 (by decide) ?_
    refine j_iconst (v := 0) X dL_umpire_18 (by decide) ?_
    exact j_iretC X hr hlocks ⟨by decide, by decide⟩ dL_umpire_19 (by simp [b_L_umpire, h0])
def b_L_call (x1 : Int32) (x2 : Int32) (S : Sx) : Int32 × Sx := if (b_X6_call_0 x1 x2 S).1 = 0 then (0, up2 (b_X6_call_0 x1 x2 S).2.2 13 0 (b_X6_call_0 x1 x2 S).2.1) else (1, (b_X6_call_0 x1 x2 S).2.2)
def o_L_call (x1 : Int32) (x2 : Int32) (S : Sx) : Prop := o_X6_call_0 x1 x2 S ∧ ((b_X6_call_0 x1 x2 S).1 = 0 ∨ (b_X6_call_0 x1 x2 S).1 = 1)
abbrev rm_L_call : Room := { frames := 8, cells := 1, slots := 6, locals := 133 }
set_option maxRecDepth 20000 in
theorem c_L_call {l : Launch} {D : va_G} {q : Nat → ClassId} {ad : Nat → Nat} {d : UInt64} {sa : Nat → Nat} (hst : l.stackTraces = false) (hI : inj4 ad) (x1 : Int32) (x2 : Int32) (S : Sx) (ho : o_L_call x1 x2 S) : CIw l yL_call cL_call 5 [(0, 10, 13, 13)] rm_L_call 1 6 D q ad d d sa [.ref (ad 0), .int x1, .int x2, .ref (ad 13)] S (b_L_call x1 x2 S).1 (b_L_call x1 x2 S).2 := by
  unfold o_L_call at ho
  obtain ⟨ho1, ho⟩ := ho
  refine ciw_of hI (by decide +kernel) (Nat.le_of_ble_eq_true rfl) rfl (fun p e s m args below meth c X F htb hr hlocks => ?_)
  refine j_aload_n X 3 dL_call_0 rfl ?_
  refine j_iconst (v := 0) X dL_call_1 (by decide) ?_
  refine j_aload_n X 0 dL_call_2 rfl ?_
  refine j_iload_n X 1 dL_call_3 rfl ?_
  refine j_iload_n X 2 dL_call_4 rfl ?_
  refine j_callXic (rest := [.int 0, .ref (ad 13)]) X F htb (c_X6_call hst hI x1 x2 S ho1) cw_L_65 kc20.1 (cl_20 kc20) rfl ⟨rfl, rfl, Nat.le_of_ble_eq_true rfl, Nat.le_of_ble_eq_true rfl⟩ rfl rfl (Nat.le_of_ble_eq_true rfl) ⟨Nat.le_of_ble_eq_true rfl, Nat.le_of_ble_eq_true rfl⟩ dL_call_5 (fun h0 => ?_) (fun h0 => ?_)
  · rcases ho with h | h
    · exact absurd h h0
    · refine ⟨13, ?_, fun q9 => ?_⟩
      · exact ctch_1 (by decide) (by decide) (by rw [h]; exact m_cl_L_13)
      · refine j_astore X [(4, .ref q9), (0, .ref (ad 0)), (1, .int x1), (2, .int x2), (3, .ref (ad 13))] dL_call_13 (by decide) rfl ?_
        refine j_iconst (v := 1) X dL_call_15 (by decide) ?_
        exact j_iretC X hr hlocks ⟨by decide, by decide⟩ dL_call_16 (by simp [b_L_call, h])
  · refine j_outi X dL_call_8 dL_call_9 ?_
    refine j_goto X 17 dL_call_10 (by decide) ?_
    refine j_iconst (v := 0) X dL_call_17 (by decide) ?_
    exact j_iretC X hr hlocks ⟨by decide, by decide⟩ dL_call_18 (by simp [b_L_call, h0])
def b_L_fitIn (x1 : Int32) (x2 : Int32) (S : Sx) : Int32 × Sx := if (b_X6_fitIn_0 x1 x2 S).1 = 0 then (0, up2 (b_X6_fitIn_0 x1 x2 S).2.2 13 0 (b_X6_fitIn_0 x1 x2 S).2.1) else if (b_X6_fitIn_0 x1 x2 S).1 = 1 then (1, (b_X6_fitIn_0 x1 x2 S).2.2) else (2, (b_X6_fitIn_0 x1 x2 S).2.2)
def o_L_fitIn (x1 : Int32) (x2 : Int32) (S : Sx) : Prop := o_X6_fitIn_0 x1 x2 S ∧ ((b_X6_fitIn_0 x1 x2 S).1 = 0 ∨ (b_X6_fitIn_0 x1 x2 S).1 = 1 ∨ (b_X6_fitIn_0 x1 x2 S).1 = 4)
abbrev rm_L_fitIn : Room := { frames := 8, cells := 2, slots := 12, locals := 134 }
set_option maxRecDepth 20000 in
theorem c_L_fitIn {l : Launch} {D : va_G} {q : Nat → ClassId} {ad : Nat → Nat} {d : UInt64} {sa : Nat → Nat} (hst : l.stackTraces = false) (hI : inj4 ad) (x1 : Int32) (x2 : Int32) (S : Sx) (ho : o_L_fitIn x1 x2 S) : CIw l yL_fitIn cL_fitIn 5 [(0, 10, 13, 13), (0, 10, 17, 60)] rm_L_fitIn 2 12 D q ad d d sa [.ref (ad 0), .int x1, .int x2, .ref (ad 13)] S (b_L_fitIn x1 x2 S).1 (b_L_fitIn x1 x2 S).2 := by
  unfold o_L_fitIn at ho
  obtain ⟨ho1, ho⟩ := ho
  refine ciw_of hI (by decide +kernel) (Nat.le_of_ble_eq_true rfl) rfl (fun p e s m args below meth c X F htb hr hlocks => ?_)
  refine j_aload_n X 3 dL_fitIn_0 rfl ?_
  refine j_iconst (v := 0) X dL_fitIn_1 (by decide) ?_
  refine j_aload_n X 0 dL_fitIn_2 rfl ?_
  refine j_iload_n X 1 dL_fitIn_3 rfl ?_
  refine j_iload_n X 2 dL_fitIn_4 rfl ?_
  refine j_callXic (rest := [.int 0, .ref (ad 13)]) X F htb (c_X6_fitIn hst hI x1 x2 S ho1) cw_L_68 kc20.1 (cl_20 kc20) rfl ⟨rfl, rfl, Nat.le_of_ble_eq_true rfl, Nat.le_of_ble_eq_true rfl⟩ rfl rfl (Nat.le_of_ble_eq_true rfl) ⟨Nat.le_of_ble_eq_true rfl, Nat.le_of_ble_eq_true rfl⟩ dL_fitIn_5 (fun h0 => ?_) (fun h0 => ?_)
  · rcases ho with h | h | h
    · exact absurd h h0
    · refine ⟨13, ?_, fun q9 => ?_⟩
      · exact ctch_1 (by decide) (by decide) (by rw [h]; exact m_cl_L_13)
      · refine j_astore X [(4, .ref q9), (0, .ref (ad 0)), (1, .int x1), (2, .int x2), (3, .ref (ad 13))] dL_fitIn_13 (by decide) rfl ?_
        refine j_iconst (v := 1) X dL_fitIn_15 (by decide) ?_
        exact j_iretC X hr hlocks ⟨by decide, by decide⟩ dL_fitIn_16 (by simp [b_L_fitIn, h])
    · refine ⟨17, ?_, fun q9 => ?_⟩
      · exact ctch_s (i := 1) (ctch_1 (by decide) (by decide) (by rw [h]; exact m_cl_L_60)) (by decide) (by decide) (by rw [h]; decide) m_cl_L_13
      · refine j_astore X [(4, .ref q9), (0, .ref (ad 0)), (1, .int x1), (2, .int x2), (3, .ref (ad 13))] dL_fitIn_17 (by decide) rfl ?_
        refine j_iconst (v := 2) X dL_fitIn_19 (by decide) ?_
        exact j_iretC X hr hlocks ⟨by decide, by decide⟩ dL_fitIn_20 (by simp [b_L_fitIn, h])
  · refine j_outi X dL_fitIn_8 dL_fitIn_9 ?_
    refine j_goto X 21 dL_fitIn_10 (by decide) ?_
    refine j_iconst (v := 0) X dL_fitIn_21 (by decide) ?_
    exact j_iretC X hr hlocks ⟨by decide, by decide⟩ dL_fitIn_22 (by simp [b_L_fitIn, h0])
def b_L_bestPitch (x1 : Int32) (S : Sx) : Int32 × Sx := if (b_X6_bestPitch_0 x1 S).1 = 0 then (0, up2 (b_X6_bestPitch_0 x1 S).2.2 13 0 (b_X6_bestPitch_0 x1 S).2.1) else if (b_X6_bestPitch_0 x1 S).1 = 1 then (1, (b_X6_bestPitch_0 x1 S).2.2) else (2, (b_X6_bestPitch_0 x1 S).2.2)
def o_L_bestPitch (x1 : Int32) (S : Sx) : Prop := o_X6_bestPitch_0 x1 S ∧ ((b_X6_bestPitch_0 x1 S).1 = 0 ∨ (b_X6_bestPitch_0 x1 S).1 = 1 ∨ (b_X6_bestPitch_0 x1 S).1 = 4)
abbrev rm_L_bestPitch : Room := { frames := 8, cells := 2, slots := 12, locals := 133 }
set_option maxRecDepth 20000 in
theorem c_L_bestPitch {l : Launch} {D : va_G} {q : Nat → ClassId} {ad : Nat → Nat} {d : UInt64} {sa : Nat → Nat} (hst : l.stackTraces = false) (hI : inj4 ad) (x1 : Int32) (S : Sx) (ho : o_L_bestPitch x1 S) : CIw l yL_bestPitch cL_bestPitch 4 [(0, 9, 12, 13), (0, 9, 15, 60)] rm_L_bestPitch 2 12 D q ad d d sa [.ref (ad 0), .int x1, .ref (ad 13)] S (b_L_bestPitch x1 S).1 (b_L_bestPitch x1 S).2 := by
  unfold o_L_bestPitch at ho
  obtain ⟨ho1, ho⟩ := ho
  refine ciw_of hI (by decide +kernel) (Nat.le_of_ble_eq_true rfl) rfl (fun p e s m args below meth c X F htb hr hlocks => ?_)
  refine j_aload_n X 2 dL_bestPitch_0 rfl ?_
  refine j_iconst (v := 0) X dL_bestPitch_1 (by decide) ?_
  refine j_aload_n X 0 dL_bestPitch_2 rfl ?_
  refine j_iload_n X 1 dL_bestPitch_3 rfl ?_
  refine j_callXic (rest := [.int 0, .ref (ad 13)]) X F htb (c_X6_bestPitch hst hI x1 S ho1) cw_L_71 kc20.1 (cl_20 kc20) rfl ⟨rfl, rfl, Nat.le_of_ble_eq_true rfl, Nat.le_of_ble_eq_true rfl⟩ rfl rfl (Nat.le_of_ble_eq_true rfl) ⟨Nat.le_of_ble_eq_true rfl, Nat.le_of_ble_eq_true rfl⟩ dL_bestPitch_4 (fun h0 => ?_) (fun h0 => ?_)
  · rcases ho with h | h | h
    · exact absurd h h0
    · refine ⟨12, ?_, fun q9 => ?_⟩
      · exact ctch_1 (by decide) (by decide) (by rw [h]; exact m_cl_L_13)
      · refine j_astore_n X [(3, .ref q9), (0, .ref (ad 0)), (1, .int x1), (2, .ref (ad 13))] dL_bestPitch_12 (by decide) rfl ?_
        refine j_iconst (v := 1) X dL_bestPitch_13 (by decide) ?_
        exact j_iretC X hr hlocks ⟨by decide, by decide⟩ dL_bestPitch_14 (by simp [b_L_bestPitch, h])
    · refine ⟨15, ?_, fun q9 => ?_⟩
      · exact ctch_s (i := 1) (ctch_1 (by decide) (by decide) (by rw [h]; exact m_cl_L_60)) (by decide) (by decide) (by rw [h]; decide) m_cl_L_13
      · refine j_astore_n X [(3, .ref q9), (0, .ref (ad 0)), (1, .int x1), (2, .ref (ad 13))] dL_bestPitch_15 (by decide) rfl ?_
        refine j_iconst (v := 2) X dL_bestPitch_16 (by decide) ?_
        exact j_iretC X hr hlocks ⟨by decide, by decide⟩ dL_bestPitch_17 (by simp [b_L_bestPitch, h])
  · refine j_outi X dL_bestPitch_7 dL_bestPitch_8 ?_
    refine j_goto X 18 dL_bestPitch_9 (by decide) ?_
    refine j_iconst (v := 0) X dL_bestPitch_18 (by decide) ?_
    exact j_iretC X hr hlocks ⟨by decide, by decide⟩ dL_bestPitch_19 (by simp [b_L_bestPitch, h0])
def b_L_innings (x1 : Int32) (x2 : Int32) (x3 : Int32) (S : Sx) : Int32 × Sx := if (b_X6_innings_0 x1 x2 x3 S).1 = 0 then (0, up2 (b_X6_innings_0 x1 x2 x3 S).2.2 13 0 (b_X6_innings_0 x1 x2 x3 S).2.1) else if (b_X6_innings_0 x1 x2 x3 S).1 = 1 then (1, (b_X6_innings_0 x1 x2 x3 S).2.2) else if (b_X6_innings_0 x1 x2 x3 S).1 = 2 then (2, (b_X6_innings_0 x1 x2 x3 S).2.2) else (3, (b_X6_innings_0 x1 x2 x3 S).2.2)
def o_L_innings (x1 : Int32) (x2 : Int32) (x3 : Int32) (S : Sx) : Prop := o_X6_innings_0 x1 x2 x3 S ∧ ((b_X6_innings_0 x1 x2 x3 S).1 = 0 ∨ (b_X6_innings_0 x1 x2 x3 S).1 = 1 ∨ (b_X6_innings_0 x1 x2 x3 S).1 = 2 ∨ (b_X6_innings_0 x1 x2 x3 S).1 = 3)
abbrev rm_L_innings : Room := { frames := 9, cells := 1, slots := 6, locals := 156 }
set_option maxRecDepth 20000 in
theorem c_L_innings {l : Launch} {D : va_G} {q : Nat → ClassId} {ad : Nat → Nat} {d : UInt64} {sa : Nat → Nat} (hst : l.stackTraces = false) (hI : inj4 ad) (x1 : Int32) (x2 : Int32) (x3 : Int32) (S : Sx) (ho : o_L_innings x1 x2 x3 S) : CIw l yL_innings cL_innings 6 [(0, 12, 15, 13), (0, 12, 19, 15), (0, 12, 23, 32)] rm_L_innings 1 6 D q ad d d sa [.ref (ad 0), .int x1, .int x2, .int x3, .ref (ad 13)] S (b_L_innings x1 x2 x3 S).1 (b_L_innings x1 x2 x3 S).2 := by
  unfold o_L_innings at ho
  obtain ⟨ho1, ho⟩ := ho
  refine ciw_of hI (by decide +kernel) (Nat.le_of_ble_eq_true rfl) rfl (fun p e s m args below meth c X F htb hr hlocks => ?_)
  refine j_aload X 4 dL_innings_0 rfl ?_
  refine j_iconst (v := 0) X dL_innings_2 (by decide) ?_
  refine j_aload_n X 0 dL_innings_3 rfl ?_
  refine j_iload_n X 1 dL_innings_4 rfl ?_
  refine j_iload_n X 2 dL_innings_5 rfl ?_
  refine j_iload_n X 3 dL_innings_6 rfl ?_
  refine j_callXic (rest := [.int 0, .ref (ad 13)]) X F htb (c_X6_innings hst hI x1 x2 x3 S ho1) cw_L_74 kc20.1 (cl_20 kc20) rfl ⟨rfl, rfl, Nat.le_of_ble_eq_true rfl, Nat.le_of_ble_eq_true rfl⟩ rfl rfl (Nat.le_of_ble_eq_true rfl) ⟨Nat.le_of_ble_eq_true rfl, Nat.le_of_ble_eq_true rfl⟩ dL_innings_7 (fun h0 => ?_) (fun h0 => ?_)
  · rcases ho with h | h | h | h
    · exact absurd h h0
    · refine ⟨15, ?_, fun q9 => ?_⟩
      · exact ctch_1 (by decide) (by decide) (by rw [h]; exact m_cl_L_13)
      · refine j_astore X [(5, .ref q9), (0, .ref (ad 0)), (1, .int x1), (2, .int x2), (3, .int x3), (4, .ref (ad 13))] dL_innings_15 (by decide) rfl ?_
        refine j_iconst (v := 1) X dL_innings_17 (by decide) ?_
        exact j_iretC X hr hlocks ⟨by decide, by decide⟩ dL_innings_18 (by simp [b_L_innings, h])
    · refine ⟨19, ?_, fun q9 => ?_⟩
      · exact ctch_s (i := 1) (ctch_1 (by decide) (by decide) (by rw [h]; exact m_cl_L_15)) (by decide) (by decide) (by rw [h]; decide) m_cl_L_13
      · refine j_astore X [(5, .ref q9), (0, .ref (ad 0)), (1, .int x1), (2, .int x2), (3, .int x3), (4, .ref (ad 13))] dL_innings_19 (by decide) rfl ?_
        refine j_iconst (v := 2) X dL_innings_21 (by decide) ?_
        exact j_iretC X hr hlocks ⟨by decide, by decide⟩ dL_innings_22 (by simp [b_L_innings, h])
    · refine ⟨23, ?_, fun q9 => ?_⟩
      · exact ctch_s (i := 1) (ctch_s (i := 2) (ctch_1 (by decide) (by decide) (by rw [h]; exact m_cl_L_32)) (by decide) (by decide) (by rw [h]; decide) m_cl_L_15) (by decide) (by decide) (by rw [h]; decide) m_cl_L_13
      · refine j_astore X [(5, .ref q9), (0, .ref (ad 0)), (1, .int x1), (2, .int x2), (3, .int x3), (4, .ref (ad 13))] dL_innings_23 (by decide) rfl ?_
        refine j_iconst (v := 3) X dL_innings_25 (by decide) ?_
        exact j_iretC X hr hlocks ⟨by decide, by decide⟩ dL_innings_26 (by simp [b_L_innings, h])
  · refine j_outi X dL_innings_10 dL_innings_11 ?_
    refine j_goto X 27 dL_innings_12 (by decide) ?_
    refine j_iconst (v := 0) X dL_innings_27 (by decide) ?_
    exact j_iretC X hr hlocks ⟨by decide, by decide⟩ dL_innings_28 (by simp [b_L_innings, h0])
def b_L_bowl (x1 : Int32) (x2 : Int32) (S : Sx) : Int32 × Sx := if (b_X6_bowl_0 x1 x2 S).1 = 0 then (0, up2 (b_X6_bowl_0 x1 x2 S).2.2 13 0 (b_X6_bowl_0 x1 x2 S).2.1) else if (b_X6_bowl_0 x1 x2 S).1 = 1 then (1, (b_X6_bowl_0 x1 x2 S).2.2) else if (b_X6_bowl_0 x1 x2 S).1 = 2 then (2, (b_X6_bowl_0 x1 x2 S).2.2) else (3, (b_X6_bowl_0 x1 x2 S).2.2)
def o_L_bowl (x1 : Int32) (x2 : Int32) (S : Sx) : Prop := o_X6_bowl_0 x1 x2 S ∧ ((b_X6_bowl_0 x1 x2 S).1 = 0 ∨ (b_X6_bowl_0 x1 x2 S).1 = 1 ∨ (b_X6_bowl_0 x1 x2 S).1 = 2 ∨ (b_X6_bowl_0 x1 x2 S).1 = 3)
abbrev rm_L_bowl : Room := { frames := 9, cells := 1, slots := 6, locals := 154 }
set_option maxRecDepth 20000 in
theorem c_L_bowl {l : Launch} {D : va_G} {q : Nat → ClassId} {ad : Nat → Nat} {d : UInt64} {sa : Nat → Nat} (hst : l.stackTraces = false) (hI : inj4 ad) (x1 : Int32) (x2 : Int32) (S : Sx) (ho : o_L_bowl x1 x2 S) : CIw l yL_bowl cL_bowl 5 [(0, 10, 13, 13), (0, 10, 17, 15), (0, 10, 21, 32)] rm_L_bowl 1 6 D q ad d d sa [.ref (ad 0), .int x1, .int x2, .ref (ad 13)] S (b_L_bowl x1 x2 S).1 (b_L_bowl x1 x2 S).2 := by
  unfold o_L_bowl at ho
  obtain ⟨ho1, ho⟩ := ho
  refine ciw_of hI (by decide +kernel) (Nat.le_of_ble_eq_true rfl) rfl (fun p e s m args below meth c X F htb hr hlocks => ?_)
  refine j_aload_n X 3 dL_bowl_0 rfl ?_
  refine j_iconst (v := 0) X dL_bowl_1 (by decide) ?_
  refine j_aload_n X 0 dL_bowl_2 rfl ?_
  refine j_iload_n X 1 dL_bowl_3 rfl ?_
  refine j_iload_n X 2 dL_bowl_4 rfl ?_
  refine j_callXic (rest := [.int 0, .ref (ad 13)]) X F htb (c_X6_bowl hst hI x1 x2 S ho1) cw_L_77 kc20.1 (cl_20 kc20) rfl ⟨rfl, rfl, Nat.le_of_ble_eq_true rfl, Nat.le_of_ble_eq_true rfl⟩ rfl rfl (Nat.le_of_ble_eq_true rfl) ⟨Nat.le_of_ble_eq_true rfl, Nat.le_of_ble_eq_true rfl⟩ dL_bowl_5 (fun h0 => ?_) (fun h0 => ?_)
  · rcases ho with h | h | h | h
    · exact absurd h h0
    · refine ⟨13, ?_, fun q9 => ?_⟩
      · exact ctch_1 (by decide) (by decide) (by rw [h]; exact m_cl_L_13)
      · refine j_astore X [(4, .ref q9), (0, .ref (ad 0)), (1, .int x1), (2, .int x2), (3, .ref (ad 13))] dL_bowl_13 (by decide) rfl ?_
        refine j_iconst (v := 1) X dL_bowl_15 (by decide) ?_
        exact j_iretC X hr hlocks ⟨by decide, by decide⟩ dL_bowl_16 (by simp [b_L_bowl, h])
    · refine ⟨17, ?_, fun q9 => ?_⟩
      · exact ctch_s (i := 1) (ctch_1 (by decide) (by decide) (by rw [h]; exact m_cl_L_15)) (by decide) (by decide) (by rw [h]; decide) m_cl_L_13
      · refine j_astore X [(4, .ref q9), (0, .ref (ad 0)), (1, .int x1), (2, .int x2), (3, .ref (ad 13))] dL_bowl_17 (by decide) rfl ?_
        refine j_iconst (v := 2) X dL_bowl_19 (by decide) ?_
        exact j_iretC X hr hlocks ⟨by decide, by decide⟩ dL_bowl_20 (by simp [b_L_bowl, h])
    · refine ⟨21, ?_, fun q9 => ?_⟩
      · exact ctch_s (i := 1) (ctch_s (i := 2) (ctch_1 (by decide) (by decide) (by rw [h]; exact m_cl_L_32)) (by decide) (by decide) (by rw [h]; decide) m_cl_L_15) (by decide) (by decide) (by rw [h]; decide) m_cl_L_13
      · refine j_astore X [(4, .ref q9), (0, .ref (ad 0)), (1, .int x1), (2, .int x2), (3, .ref (ad 13))] dL_bowl_21 (by decide) rfl ?_
        refine j_iconst (v := 3) X dL_bowl_23 (by decide) ?_
        exact j_iretC X hr hlocks ⟨by decide, by decide⟩ dL_bowl_24 (by simp [b_L_bowl, h])
  · refine j_outi X dL_bowl_8 dL_bowl_9 ?_
    refine j_goto X 25 dL_bowl_10 (by decide) ?_
    refine j_iconst (v := 0) X dL_bowl_25 (by decide) ?_
    exact j_iretC X hr hlocks ⟨by decide, by decide⟩ dL_bowl_26 (by simp [b_L_bowl, h0])
def b_L_would (x1 : Int32) (x2 : Int32) (S : Sx) : Int32 × Sx := if (b_X6_would_0 x1 x2 S).1 = 0 then (0, up2 (b_X6_would_0 x1 x2 S).2.2 13 0 (b_X6_would_0 x1 x2 S).2.1) else if (b_X6_would_0 x1 x2 S).1 = 1 then (1, (b_X6_would_0 x1 x2 S).2.2) else (2, (b_X6_would_0 x1 x2 S).2.2)
def o_L_would (x1 : Int32) (x2 : Int32) (S : Sx) : Prop := o_X6_would_0 x1 x2 S ∧ ((b_X6_would_0 x1 x2 S).1 = 0 ∨ (b_X6_would_0 x1 x2 S).1 = 1 ∨ (b_X6_would_0 x1 x2 S).1 = 2)
abbrev rm_L_would : Room := { frames := 8, cells := 1, slots := 6, locals := 133 }
set_option maxRecDepth 20000 in
theorem c_L_would {l : Launch} {D : va_G} {q : Nat → ClassId} {ad : Nat → Nat} {d : UInt64} {sa : Nat → Nat} (hst : l.stackTraces = false) (hI : inj4 ad) (x1 : Int32) (x2 : Int32) (S : Sx) (ho : o_L_would x1 x2 S) : CIw l yL_would cL_would 5 [(0, 10, 13, 13), (0, 10, 17, 15)] rm_L_would 1 6 D q ad d d sa [.ref (ad 0), .int x1, .int x2, .ref (ad 13)] S (b_L_would x1 x2 S).1 (b_L_would x1 x2 S).2 := by
  unfold o_L_would at ho
  obtain ⟨ho1, ho⟩ := ho
  refine ciw_of hI (by decide +kernel) (Nat.le_of_ble_eq_true rfl) rfl (fun p e s m args below meth c X F htb hr hlocks => ?_)
  refine j_aload_n X 3 dL_would_0 rfl ?_
  refine j_iconst (v := 0) X dL_would_1 (by decide) ?_
  refine j_aload_n X 0 dL_would_2 rfl ?_
  refine j_iload_n X 1 dL_would_3 rfl ?_
  refine j_iload_n X 2 dL_would_4 rfl ?_
  refine j_callXic (rest := [.int 0, .ref (ad 13)]) X F htb (c_X6_would hst hI x1 x2 S ho1) cw_L_80 kc20.1 (cl_20 kc20) rfl ⟨rfl, rfl, Nat.le_of_ble_eq_true rfl, Nat.le_of_ble_eq_true rfl⟩ rfl rfl (Nat.le_of_ble_eq_true rfl) ⟨Nat.le_of_ble_eq_true rfl, Nat.le_of_ble_eq_true rfl⟩ dL_would_5 (fun h0 => ?_) (fun h0 => ?_)
  · rcases ho with h | h | h
    · exact absurd h h0
    · refine ⟨13, ?_, fun q9 => ?_⟩
      · exact ctch_1 (by decide) (by decide) (by rw [h]; exact m_cl_L_13)
      · refine j_astore X [(4, .ref q9), (0, .ref (ad 0)), (1, .int x1), (2, .int x2), (3, .ref (ad 13))] dL_would_13 (by decide) rfl ?_
        refine j_iconst (v := 1) X dL_would_15 (by decide) ?_
        exact j_iretC X hr hlocks ⟨by decide, by decide⟩ dL_would_16 (by simp [b_L_would, h])
    · refine ⟨17, ?_, fun q9 => ?_⟩
      · exact ctch_s (i := 1) (ctch_1 (by decide) (by decide) (by rw [h]; exact m_cl_L_15)) (by decide) (by decide) (by rw [h]; decide) m_cl_L_13
      · refine j_astore X [(4, .ref q9), (0, .ref (ad 0)), (1, .int x1), (2, .int x2), (3, .ref (ad 13))] dL_would_17 (by decide) rfl ?_
        refine j_iconst (v := 2) X dL_would_19 (by decide) ?_
        exact j_iretC X hr hlocks ⟨by decide, by decide⟩ dL_would_20 (by simp [b_L_would, h])
  · refine j_outi X dL_would_8 dL_would_9 ?_
    refine j_goto X 21 dL_would_10 (by decide) ?_
    refine j_iconst (v := 0) X dL_would_21 (by decide) ?_
    exact j_iretC X hr hlocks ⟨by decide, by decide⟩ dL_would_22 (by simp [b_L_would, h0])
def b_L_end (x1 : Int32) (S : Sx) : Int32 × Sx := if (b_X6_end_0 x1 S).1 = 0 then (0, up2 (b_X6_end_0 x1 S).2.2 13 0 (b_X6_end_0 x1 S).2.1) else if (b_X6_end_0 x1 S).1 = 1 then (1, (b_X6_end_0 x1 S).2.2) else (2, (b_X6_end_0 x1 S).2.2)
def o_L_end (x1 : Int32) (S : Sx) : Prop := o_X6_end_0 x1 S ∧ ((b_X6_end_0 x1 S).1 = 0 ∨ (b_X6_end_0 x1 S).1 = 1 ∨ (b_X6_end_0 x1 S).1 = 3)
abbrev rm_L_end : Room := { frames := 9, cells := 1, slots := 6, locals := 153 }
set_option maxRecDepth 20000 in
theorem c_L_end {l : Launch} {D : va_G} {q : Nat → ClassId} {ad : Nat → Nat} {d : UInt64} {sa : Nat → Nat} (hst : l.stackTraces = false) (hI : inj4 ad) (x1 : Int32) (S : Sx) (ho : o_L_end x1 S) : CIw l yL_end cL_end 4 [(0, 9, 12, 13), (0, 9, 15, 32)] rm_L_end 1 6 D q ad d d sa [.ref (ad 0), .int x1, .ref (ad 13)] S (b_L_end x1 S).1 (b_L_end x1 S).2 := by
  unfold o_L_end at ho
  obtain ⟨ho1, ho⟩ := ho
  refine ciw_of hI (by decide +kernel) (Nat.le_of_ble_eq_true rfl) rfl (fun p e s m args below meth c X F htb hr hlocks => ?_)
  refine j_aload_n X 2 dL_end_0 rfl ?_
  refine j_iconst (v := 0) X dL_end_1 (by decide) ?_
  refine j_aload_n X 0 dL_end_2 rfl ?_
  refine j_iload_n X 1 dL_end_3 rfl ?_
  refine j_callXic (rest := [.int 0, .ref (ad 13)]) X F htb (c_X6_end hst hI x1 S ho1) cw_L_83 kc20.1 (cl_20 kc20) rfl ⟨rfl, rfl, Nat.le_of_ble_eq_true rfl, Nat.le_of_ble_eq_true rfl⟩ rfl rfl (Nat.le_of_ble_eq_true rfl) ⟨Nat.le_of_ble_eq_true rfl, Nat.le_of_ble_eq_true rfl⟩ dL_end_4 (fun h0 => ?_) (fun h0 => ?_)
  · rcases ho with h | h | h
    · exact absurd h h0
    · refine ⟨12, ?_, fun q9 => ?_⟩
      · exact ctch_1 (by decide) (by decide) (by rw [h]; exact m_cl_L_13)
      · refine j_astore_n X [(3, .ref q9), (0, .ref (ad 0)), (1, .int x1), (2, .ref (ad 13))] dL_end_12 (by decide) rfl ?_
        refine j_iconst (v := 1) X dL_end_13 (by decide) ?_
        exact j_iretC X hr hlocks ⟨by decide, by decide⟩ dL_end_14 (by simp [b_L_end, h])
    · refine ⟨15, ?_, fun q9 => ?_⟩
      · exact ctch_s (i := 1) (ctch_1 (by decide) (by decide) (by rw [h]; exact m_cl_L_32)) (by decide) (by decide) (by rw [h]; decide) m_cl_L_13
      · refine j_astore_n X [(3, .ref q9), (0, .ref (ad 0)), (1, .int x1), (2, .ref (ad 13))] dL_end_15 (by decide) rfl ?_
        refine j_iconst (v := 2) X dL_end_16 (by decide) ?_
        exact j_iretC X hr hlocks ⟨by decide, by decide⟩ dL_end_17 (by simp [b_L_end, h])
  · refine j_outi X dL_end_7 dL_end_8 ?_
    refine j_goto X 18 dL_end_9 (by decide) ?_
    refine j_iconst (v := 0) X dL_end_18 (by decide) ?_
    exact j_iretC X hr hlocks ⟨by decide, by decide⟩ dL_end_19 (by simp [b_L_end, h0])
def b_L_inningsOf (x1 : Int32) (x2 : Int32) (S : Sx) : Int32 × Sx := if (b_X6_inningsOf_0 x1 x2 S).1 = 0 then (0, up2 (b_X6_inningsOf_0 x1 x2 S).2.2 13 0 (b_X6_inningsOf_0 x1 x2 S).2.1) else if (b_X6_inningsOf_0 x1 x2 S).1 = 1 then (1, (b_X6_inningsOf_0 x1 x2 S).2.2) else (2, (b_X6_inningsOf_0 x1 x2 S).2.2)
def o_L_inningsOf (x1 : Int32) (x2 : Int32) (S : Sx) : Prop := o_X6_inningsOf_0 x1 x2 S ∧ ((b_X6_inningsOf_0 x1 x2 S).1 = 0 ∨ (b_X6_inningsOf_0 x1 x2 S).1 = 1 ∨ (b_X6_inningsOf_0 x1 x2 S).1 = 2)
abbrev rm_L_inningsOf : Room := { frames := 8, cells := 2, slots := 12, locals := 134 }
set_option maxRecDepth 20000 in
theorem c_L_inningsOf {l : Launch} {D : va_G} {q : Nat → ClassId} {ad : Nat → Nat} {d : UInt64} {sa : Nat → Nat} (hst : l.stackTraces = false) (hI : inj4 ad) (x1 : Int32) (x2 : Int32) (S : Sx) (ho : o_L_inningsOf x1 x2 S) : CIw l yL_inningsOf cL_inningsOf 5 [(0, 10, 13, 13), (0, 10, 17, 15)] rm_L_inningsOf 2 12 D q ad d d sa [.ref (ad 0), .int x1, .int x2, .ref (ad 13)] S (b_L_inningsOf x1 x2 S).1 (b_L_inningsOf x1 x2 S).2 := by
  unfold o_L_inningsOf at ho
  obtain ⟨ho1, ho⟩ := ho
  refine ciw_of hI (by decide +kernel) (Nat.le_of_ble_eq_true rfl) rfl (fun p e s m args below meth c X F htb hr hlocks => ?_)
  refine j_aload_n X 3 dL_inningsOf_0 rfl ?_
  refine j_iconst (v := 0) X dL_inningsOf_1 (by decide) ?_
  refine j_aload_n X 0 dL_inningsOf_2 rfl ?_
  refine j_iload_n X 1 dL_inningsOf_3 rfl ?_
  refine j_iload_n X 2 dL_inningsOf_4 rfl ?_
  refine j_callXic (rest := [.int 0, .ref (ad 13)]) X F htb (c_X6_inningsOf hst hI x1 x2 S ho1) cw_L_86 kc20.1 (cl_20 kc20) rfl ⟨rfl, rfl, Nat.le_of_ble_eq_true rfl, Nat.le_of_ble_eq_true rfl⟩ rfl rfl (Nat.le_of_ble_eq_true rfl) ⟨Nat.le_of_ble_eq_true rfl, Nat.le_of_ble_eq_true rfl⟩ dL_inningsOf_5 (fun h0 => ?_) (fun h0 => ?_)
  · rcases ho with h | h | h
    · exact absurd h h0
    · refine ⟨13, ?_, fun q9 => ?_⟩
      · exact ctch_1 (by decide) (by decide) (by rw [h]; exact m_cl_L_13)
      · refine j_astore X [(4, .ref q9), (0, .ref (ad 0)), (1, .int x1), (2, .int x2), (3, .ref (ad 13))] dL_inningsOf_13 (by decide) rfl ?_
        refine j_iconst (v := 1) X dL_inningsOf_15 (by decide) ?_
        exact j_iretC X hr hlocks ⟨by decide, by decide⟩ dL_inningsOf_16 (by simp [b_L_inningsOf, h])
    · refine ⟨17, ?_, fun q9 => ?_⟩
      · exact ctch_s (i := 1) (ctch_1 (by decide) (by decide) (by rw [h]; exact m_cl_L_15)) (by decide) (by decide) (by rw [h]; decide) m_cl_L_13
      · refine j_astore X [(4, .ref q9), (0, .ref (ad 0)), (1, .int x1), (2, .int x2), (3, .ref (ad 13))] dL_inningsOf_17 (by decide) rfl ?_
        refine j_iconst (v := 2) X dL_inningsOf_19 (by decide) ?_
        exact j_iretC X hr hlocks ⟨by decide, by decide⟩ dL_inningsOf_20 (by simp [b_L_inningsOf, h])
  · refine j_outi X dL_inningsOf_8 dL_inningsOf_9 ?_
    refine j_goto X 21 dL_inningsOf_10 (by decide) ?_
    refine j_iconst (v := 0) X dL_inningsOf_21 (by decide) ?_
    exact j_iretC X hr hlocks ⟨by decide, by decide⟩ dL_inningsOf_22 (by simp [b_L_inningsOf, h0])
def b_L_balls (x1 : Int32) (x2 : Int32) (S : Sx) : Int32 × Sx := if (b_X6_balls_0 x1 x2 S).1 = 0 then (0, up2 (b_X6_balls_0 x1 x2 S).2.2 13 0 (b_X6_balls_0 x1 x2 S).2.1) else if (b_X6_balls_0 x1 x2 S).1 = 1 then (1, (b_X6_balls_0 x1 x2 S).2.2) else (2, (b_X6_balls_0 x1 x2 S).2.2)
def o_L_balls (x1 : Int32) (x2 : Int32) (S : Sx) : Prop := o_X6_balls_0 x1 x2 S ∧ ((b_X6_balls_0 x1 x2 S).1 = 0 ∨ (b_X6_balls_0 x1 x2 S).1 = 1 ∨ (b_X6_balls_0 x1 x2 S).1 = 2)
abbrev rm_L_balls : Room := { frames := 8, cells := 2, slots := 12, locals := 133 }
set_option maxRecDepth 20000 in
theorem c_L_balls {l : Launch} {D : va_G} {q : Nat → ClassId} {ad : Nat → Nat} {d : UInt64} {sa : Nat → Nat} (hst : l.stackTraces = false) (hI : inj4 ad) (x1 : Int32) (x2 : Int32) (S : Sx) (ho : o_L_balls x1 x2 S) : CIw l yL_balls cL_balls 5 [(0, 10, 13, 13), (0, 10, 17, 15)] rm_L_balls 2 12 D q ad d d sa [.ref (ad 0), .int x1, .int x2, .ref (ad 13)] S (b_L_balls x1 x2 S).1 (b_L_balls x1 x2 S).2 := by
  unfold o_L_balls at ho
  obtain ⟨ho1, ho⟩ := ho
  refine ciw_of hI (by decide +kernel) (Nat.le_of_ble_eq_true rfl) rfl (fun p e s m args below meth c X F htb hr hlocks => ?_)
  refine j_aload_n X 3 dL_balls_0 rfl ?_
  refine j_iconst (v := 0) X dL_balls_1 (by decide) ?_
  refine j_aload_n X 0 dL_balls_2 rfl ?_
  refine j_iload_n X 1 dL_balls_3 rfl ?_
  refine j_iload_n X 2 dL_balls_4 rfl ?_
  refine j_callXic (rest := [.int 0, .ref (ad 13)]) X F htb (c_X6_balls hst hI x1 x2 S ho1) cw_L_89 kc20.1 (cl_20 kc20) rfl ⟨rfl, rfl, Nat.le_of_ble_eq_true rfl, Nat.le_of_ble_eq_true rfl⟩ rfl rfl (Nat.le_of_ble_eq_true rfl) ⟨Nat.le_of_ble_eq_true rfl, Nat.le_of_ble_eq_true rfl⟩ dL_balls_5 (fun h0 => ?_) (fun h0 => ?_)
  · rcases ho with h | h | h
    · exact absurd h h0
    · refine ⟨13, ?_, fun q9 => ?_⟩
      · exact ctch_1 (by decide) (by decide) (by rw [h]; exact m_cl_L_13)
      · refine j_astore X [(4, .ref q9), (0, .ref (ad 0)), (1, .int x1), (2, .int x2), (3, .ref (ad 13))] dL_balls_13 (by decide) rfl ?_
        refine j_iconst (v := 1) X dL_balls_15 (by decide) ?_
        exact j_iretC X hr hlocks ⟨by decide, by decide⟩ dL_balls_16 (by simp [b_L_balls, h])
    · refine ⟨17, ?_, fun q9 => ?_⟩
      · exact ctch_s (i := 1) (ctch_1 (by decide) (by decide) (by rw [h]; exact m_cl_L_15)) (by decide) (by decide) (by rw [h]; decide) m_cl_L_13
      · refine j_astore X [(4, .ref q9), (0, .ref (ad 0)), (1, .int x1), (2, .int x2), (3, .ref (ad 13))] dL_balls_17 (by decide) rfl ?_
        refine j_iconst (v := 2) X dL_balls_19 (by decide) ?_
        exact j_iretC X hr hlocks ⟨by decide, by decide⟩ dL_balls_20 (by simp [b_L_balls, h])
  · refine j_outi X dL_balls_8 dL_balls_9 ?_
    refine j_goto X 21 dL_balls_10 (by decide) ?_
    refine j_iconst (v := 0) X dL_balls_21 (by decide) ?_
    exact j_iretC X hr hlocks ⟨by decide, by decide⟩ dL_balls_22 (by simp [b_L_balls, h0])
def b_L_runsAgain (x1 : Int32) (S : Sx) : Int32 × Sx := if (b_X6_runsAgain_0 x1 S).1 = 0 then (0, up2 (b_X6_runsAgain_0 x1 S).2.2 13 0 (b_X6_runsAgain_0 x1 S).2.1) else (1, (b_X6_runsAgain_0 x1 S).2.2)
def o_L_runsAgain (x1 : Int32) (S : Sx) : Prop := o_X6_runsAgain_0 x1 S ∧ ((b_X6_runsAgain_0 x1 S).1 = 0 ∨ (b_X6_runsAgain_0 x1 S).1 = 1)
abbrev rm_L_runsAgain : Room := { frames := 8, cells := 1, slots := 6, locals := 132 }
set_option maxRecDepth 20000 in
theorem c_L_runsAgain {l : Launch} {D : va_G} {q : Nat → ClassId} {ad : Nat → Nat} {d : UInt64} {sa : Nat → Nat} (hst : l.stackTraces = false) (hI : inj4 ad) (x1 : Int32) (S : Sx) (ho : o_L_runsAgain x1 S) : CIw l yL_runsAgain cL_runsAgain 4 [(0, 9, 12, 13)] rm_L_runsAgain 1 6 D q ad d d sa [.ref (ad 0), .int x1, .ref (ad 13)] S (b_L_runsAgain x1 S).1 (b_L_runsAgain x1 S).2 := by
  unfold o_L_runsAgain at ho
  obtain ⟨ho1, ho⟩ := ho
  refine ciw_of hI (by decide +kernel) (Nat.le_of_ble_eq_true rfl) rfl (fun p e s m args below meth c X F htb hr hlocks => ?_)
  refine j_aload_n X 2 dL_runsAgain_0 rfl ?_
  refine j_iconst (v := 0) X dL_runsAgain_1 (by decide) ?_
  refine j_aload_n X 0 dL_runsAgain_2 rfl ?_
  refine j_iload_n X 1 dL_runsAgain_3 rfl ?_
  refine j_callXic (rest := [.int 0, .ref (ad 13)]) X F htb (c_X6_runsAgain hst hI x1 S ho1) cw_L_92 kc20.1 (cl_20 kc20) rfl ⟨rfl, rfl, Nat.le_of_ble_eq_true rfl, Nat.le_of_ble_eq_true rfl⟩ rfl rfl (Nat.le_of_ble_eq_true rfl) ⟨Nat.le_of_ble_eq_true rfl, Nat.le_of_ble_eq_true rfl⟩ dL_runsAgain_4 (fun h0 => ?_) (fun h0 => ?_)
  · rcases ho with h | h
    · exact absurd h h0
    · refine ⟨12, ?_, fun q9 => ?_⟩
      · exact ctch_1 (by decide) (by decide) (by rw [h]; exact m_cl_L_13)
      · refine j_astore_n X [(3, .ref q9), (0, .ref (ad 0)), (1, .int x1), (2, .ref (ad 13))] dL_runsAgain_12 (by decide) rfl ?_
        refine j_iconst (v := 1) X dL_runsAgain_13 (by decide) ?_
        exact j_iretC X hr hlocks ⟨by decide, by decide⟩ dL_runsAgain_14 (by simp [b_L_runsAgain, h])
  · refine j_outi X dL_runsAgain_7 dL_runsAgain_8 ?_
    refine j_goto X 15 dL_runsAgain_9 (by decide) ?_
    refine j_iconst (v := 0) X dL_runsAgain_15 (by decide) ?_
    exact j_iretC X hr hlocks ⟨by decide, by decide⟩ dL_runsAgain_16 (by simp [b_L_runsAgain, h0])
def b_L_ranked (x1 : Int32) (S : Sx) : Int32 × Sx := if (b_X6_ranked_0 x1 S).1 = 0 then (0, up2 (b_X6_ranked_0 x1 S).2.2 13 0 (b_X6_ranked_0 x1 S).2.1) else (1, (b_X6_ranked_0 x1 S).2.2)
def o_L_ranked (x1 : Int32) (S : Sx) : Prop := o_X6_ranked_0 x1 S ∧ ((b_X6_ranked_0 x1 S).1 = 0 ∨ (b_X6_ranked_0 x1 S).1 = 4)
abbrev rm_L_ranked : Room := { frames := 7, cells := 1, slots := 6, locals := 112 }
set_option maxRecDepth 20000 in
theorem c_L_ranked {l : Launch} {D : va_G} {q : Nat → ClassId} {ad : Nat → Nat} {d : UInt64} {sa : Nat → Nat} (hst : l.stackTraces = false) (hI : inj4 ad) (x1 : Int32) (S : Sx) (ho : o_L_ranked x1 S) : CIw l yL_ranked cL_ranked 4 [(0, 9, 12, 60)] rm_L_ranked 1 6 D q ad d d sa [.ref (ad 0), .int x1, .ref (ad 13)] S (b_L_ranked x1 S).1 (b_L_ranked x1 S).2 := by
  unfold o_L_ranked at ho
  obtain ⟨ho1, ho⟩ := ho
  refine ciw_of hI (by decide +kernel) (Nat.le_of_ble_eq_true rfl) rfl (fun p e s m args below meth c X F htb hr hlocks => ?_)
  refine j_aload_n X 2 dL_ranked_0 rfl ?_
  refine j_iconst (v := 0) X dL_ranked_1 (by decide) ?_
  refine j_aload_n X 0 dL_ranked_2 rfl ?_
  refine j_iload_n X 1 dL_ranked_3 rfl ?_
  refine j_callXic (rest := [.int 0, .ref (ad 13)]) X F htb (c_X6_ranked hst hI x1 S ho1) cw_L_95 kc20.1 (cl_20 kc20) rfl ⟨rfl, rfl, Nat.le_of_ble_eq_true rfl, Nat.le_of_ble_eq_true rfl⟩ rfl rfl (Nat.le_of_ble_eq_true rfl) ⟨Nat.le_of_ble_eq_true rfl, Nat.le_of_ble_eq_true rfl⟩ dL_ranked_4 (fun h0 => ?_) (fun h0 => ?_)
  · rcases ho with h | h
    · exact absurd h h0
    · refine ⟨12, ?_, fun q9 => ?_⟩
      · exact ctch_1 (by decide) (by decide) (by rw [h]; exact m_cl_L_60)
      · refine j_astore_n X [(3, .ref q9), (0, .ref (ad 0)), (1, .int x1), (2, .ref (ad 13))] dL_ranked_12 (by decide) rfl ?_
        refine j_iconst (v := 1) X dL_ranked_13 (by decide) ?_
        exact j_iretC X hr hlocks ⟨by decide, by decide⟩ dL_ranked_14 (by simp [b_L_ranked, h])
  · refine j_outi X dL_ranked_7 dL_ranked_8 ?_
    refine j_goto X 15 dL_ranked_9 (by decide) ?_
    refine j_iconst (v := 0) X dL_ranked_15 (by decide) ?_
    exact j_iretC X hr hlocks ⟨by decide, by decide⟩ dL_ranked_16 (by simp [b_L_ranked, h0])
def b_L_pass (x1 : Int32) (S : Sx) : Int32 × Sx := if (b_X6_pass_0 x1 S).1 = 0 then (0, up2 (b_X6_pass_0 x1 S).2.2 13 0 (b_X6_pass_0 x1 S).2.1) else (1, (b_X6_pass_0 x1 S).2.2)
def o_L_pass (x1 : Int32) (S : Sx) : Prop := o_X6_pass_0 x1 S ∧ ((b_X6_pass_0 x1 S).1 = 0 ∨ (b_X6_pass_0 x1 S).1 = 2)
abbrev rm_L_pass : Room := { frames := 9, cells := 1, slots := 6, locals := 153 }
set_option maxRecDepth 20000 in
theorem c_L_pass {l : Launch} {D : va_G} {q : Nat → ClassId} {ad : Nat → Nat} {d : UInt64} {sa : Nat → Nat} (hst : l.stackTraces = false) (hI : inj4 ad) (x1 : Int32) (S : Sx) (ho : o_L_pass x1 S) : CIw l yL_pass cL_pass 4 [(0, 9, 12, 15)] rm_L_pass 1 6 D q ad d d sa [.ref (ad 0), .int x1, .ref (ad 13)] S (b_L_pass x1 S).1 (b_L_pass x1 S).2 := by
  unfold o_L_pass at ho
  obtain ⟨ho1, ho⟩ := ho
  refine ciw_of hI (by decide +kernel) (Nat.le_of_ble_eq_true rfl) rfl (fun p e s m args below meth c X F htb hr hlocks => ?_)
  refine j_aload_n X 2 dL_pass_0 rfl ?_
  refine j_iconst (v := 0) X dL_pass_1 (by decide) ?_
  refine j_aload_n X 0 dL_pass_2 rfl ?_
  refine j_iload_n X 1 dL_pass_3 rfl ?_
  refine j_callXic (rest := [.int 0, .ref (ad 13)]) X F htb (c_X6_pass hst hI x1 S ho1) cw_L_98 kc20.1 (cl_20 kc20) rfl ⟨rfl, rfl, Nat.le_of_ble_eq_true rfl, Nat.le_of_ble_eq_true rfl⟩ rfl rfl (Nat.le_of_ble_eq_true rfl) ⟨Nat.le_of_ble_eq_true rfl, Nat.le_of_ble_eq_true rfl⟩ dL_pass_4 (fun h0 => ?_) (fun h0 => ?_)
  · rcases ho with h | h
    · exact absurd h h0
    · refine ⟨12, ?_, fun q9 => ?_⟩
      · exact ctch_1 (by decide) (by decide) (by rw [h]; exact m_cl_L_15)
      · refine j_astore_n X [(3, .ref q9), (0, .ref (ad 0)), (1, .int x1), (2, .ref (ad 13))] dL_pass_12 (by decide) rfl ?_
        refine j_iconst (v := 1) X dL_pass_13 (by decide) ?_
        exact j_iretC X hr hlocks ⟨by decide, by decide⟩ dL_pass_14 (by simp [b_L_pass, h])
  · refine j_outi X dL_pass_7 dL_pass_8 ?_
    refine j_goto X 15 dL_pass_9 (by decide) ?_
    refine j_iconst (v := 0) X dL_pass_15 (by decide) ?_
    exact j_iretC X hr hlocks ⟨by decide, by decide⟩ dL_pass_16 (by simp [b_L_pass, h0])
def b_L_append (x1 : Int32) (S : Sx) : Int32 × Sx := if (b_X6_append_0 x1 S).1 = 0 then (0, up2 (b_X6_append_0 x1 S).2.2 13 0 (b_X6_append_0 x1 S).2.1) else (1, (b_X6_append_0 x1 S).2.2)
def o_L_append (x1 : Int32) (S : Sx) : Prop := o_X6_append_0 x1 S ∧ ((b_X6_append_0 x1 S).1 = 0 ∨ (b_X6_append_0 x1 S).1 = 5)
abbrev rm_L_append : Room := { frames := 7, cells := 1, slots := 6, locals := 111 }
set_option maxRecDepth 20000 in
theorem c_L_append {l : Launch} {D : va_G} {q : Nat → ClassId} {ad : Nat → Nat} {d : UInt64} {sa : Nat → Nat} (hst : l.stackTraces = false) (hI : inj4 ad) (x1 : Int32) (S : Sx) (ho : o_L_append x1 S) : CIw l yL_append cL_append 4 [(0, 9, 12, 105)] rm_L_append 1 6 D q ad d d sa [.ref (ad 0), .int x1, .ref (ad 13)] S (b_L_append x1 S).1 (b_L_append x1 S).2 := by
  unfold o_L_append at ho
  obtain ⟨ho1, ho⟩ := ho
  refine ciw_of hI (by decide +kernel) (Nat.le_of_ble_eq_true rfl) rfl (fun p e s m args below meth c X F htb hr hlocks => ?_)
  refine j_aload_n X 2 dL_append_0 rfl ?_
  refine j_iconst (v := 0) X dL_append_1 (by decide) ?_
  refine j_aload_n X 0 dL_append_2 rfl ?_
  refine j_iload_n X 1 dL_append_3 rfl ?_
  refine j_callXic (rest := [.int 0, .ref (ad 13)]) X F htb (c_X6_append hst hI x1 S ho1) cw_L_101 kc20.1 (cl_20 kc20) rfl ⟨rfl, rfl, Nat.le_of_ble_eq_true rfl, Nat.le_of_ble_eq_true rfl⟩ rfl rfl (Nat.le_of_ble_eq_true rfl) ⟨Nat.le_of_ble_eq_true rfl, Nat.le_of_ble_eq_true rfl⟩ dL_append_4 (fun h0 => ?_) (fun h0 => ?_)
  · rcases ho with h | h
    · exact absurd h h0
    · refine ⟨12, ?_, fun q9 => ?_⟩
      · exact ctch_1 (by decide) (by decide) (by rw [h]; exact m_cl_L_105)
      · refine j_astore_n X [(3, .ref q9), (0, .ref (ad 0)), (1, .int x1), (2, .ref (ad 13))] dL_append_12 (by decide) rfl ?_
        refine j_iconst (v := 1) X dL_append_13 (by decide) ?_
        exact j_iretC X hr hlocks ⟨by decide, by decide⟩ dL_append_14 (by simp [b_L_append, h])
  · refine j_outi X dL_append_7 dL_append_8 ?_
    refine j_goto X 15 dL_append_9 (by decide) ?_
    refine j_iconst (v := 0) X dL_append_15 (by decide) ?_
    exact j_iretC X hr hlocks ⟨by decide, by decide⟩ dL_append_16 (by simp [b_L_append, h0])
def b_L_read (S : Sx) : Int32 × Sx := if (b_X6_read_0 S).1 = 0 then (0, up2 (b_X6_read_0 S).2.2 13 0 (b_X6_read_0 S).2.1) else if (b_X6_read_0 S).1 = 2 then (1, (b_X6_read_0 S).2.2) else (2, (b_X6_read_0 S).2.2)
def o_L_read (S : Sx) : Prop := o_X6_read_0 S ∧ ((b_X6_read_0 S).1 = 0 ∨ (b_X6_read_0 S).1 = 2 ∨ (b_X6_read_0 S).1 = 3)
abbrev rm_L_read : Room := { frames := 9, cells := 1, slots := 6, locals := 159 }
set_option maxRecDepth 20000 in
theorem c_L_read {l : Launch} {D : va_G} {q : Nat → ClassId} {ad : Nat → Nat} {d : UInt64} {sa : Nat → Nat} (hst : l.stackTraces = false) (hI : inj4 ad) (S : Sx) (ho : o_L_read S) : CIw l yL_read cL_read 3 [(0, 8, 11, 15), (0, 8, 14, 32)] rm_L_read 1 6 D q ad d d sa [.ref (ad 0), .ref (ad 13)] S (b_L_read S).1 (b_L_read S).2 := by
  unfold o_L_read at ho
  obtain ⟨ho1, ho⟩ := ho
  refine ciw_of hI (by decide +kernel) (Nat.le_of_ble_eq_true rfl) rfl (fun p e s m args below meth c X F htb hr hlocks => ?_)
  refine j_aload_n X 1 dL_read_0 rfl ?_
  refine j_iconst (v := 0) X dL_read_1 (by decide) ?_
  refine j_aload_n X 0 dL_read_2 rfl ?_
  refine j_callXic (rest := [.int 0, .ref (ad 13)]) X F htb (c_X6_read hst hI S ho1) cw_L_107 kc20.1 (cl_20 kc20) rfl ⟨rfl, rfl, Nat.le_of_ble_eq_true rfl, Nat.le_of_ble_eq_true rfl⟩ rfl rfl (Nat.le_of_ble_eq_true rfl) ⟨Nat.le_of_ble_eq_true rfl, Nat.le_of_ble_eq_true rfl⟩ dL_read_3 (fun h0 => ?_) (fun h0 => ?_)
  · rcases ho with h | h | h
    · exact absurd h h0
    · refine ⟨11, ?_, fun q9 => ?_⟩
      · exact ctch_1 (by decide) (by decide) (by rw [h]; exact m_cl_L_15)
      · refine j_astore_n X [(2, .ref q9), (0, .ref (ad 0)), (1, .ref (ad 13))] dL_read_11 (by decide) rfl ?_
        refine j_iconst (v := 1) X dL_read_12 (by decide) ?_
        exact j_iretC X hr hlocks ⟨by decide, by decide⟩ dL_read_13 (by simp [b_L_read, h])
    · refine ⟨14, ?_, fun q9 => ?_⟩
      · exact ctch_s (i := 2) (ctch_1 (by decide) (by decide) (by rw [h]; exact m_cl_L_32)) (by decide) (by decide) (by rw [h]; decide) m_cl_L_15
      · refine j_astore_n X [(2, .ref q9), (0, .ref (ad 0)), (1, .ref (ad 13))] dL_read_14 (by decide) rfl ?_
        refine j_iconst (v := 2) X dL_read_15 (by decide) ?_
        exact j_iretC X hr hlocks ⟨by decide, by decide⟩ dL_read_16 (by simp [b_L_read, h])
  · refine j_outi X dL_read_6 dL_read_7 ?_
    refine j_goto X 17 dL_read_8 (by decide) ?_
    refine j_iconst (v := 0) X dL_read_17 (by decide) ?_
    exact j_iretC X hr hlocks ⟨by decide, by decide⟩ dL_read_18 (by simp [b_L_read, h0])
def b_L_refusal (x1 : Int32) (S : Sx) : Int32 × Sx := if (b_X6_refusal_0 x1 S).1 = 0 then (0, up2 (b_X6_refusal_0 x1 S).2.2 13 0 (b_X6_refusal_0 x1 S).2.1) else (1, (b_X6_refusal_0 x1 S).2.2)
def o_L_refusal (x1 : Int32) (S : Sx) : Prop := ((b_X6_refusal_0 x1 S).1 = 0 ∨ (b_X6_refusal_0 x1 S).1 = 4)
abbrev rm_L_refusal : Room := { frames := 7, cells := 1, slots := 6, locals := 111 }
set_option maxRecDepth 20000 in
theorem c_L_refusal {l : Launch} {D : va_G} {q : Nat → ClassId} {ad : Nat → Nat} {d : UInt64} {sa : Nat → Nat} (hst : l.stackTraces = false) (hI : inj4 ad) (x1 : Int32) (S : Sx) (ho : o_L_refusal x1 S) : CIw l yL_refusal cL_refusal 4 [(0, 9, 12, 60)] rm_L_refusal 1 6 D q ad d d sa [.ref (ad 0), .int x1, .ref (ad 13)] S (b_L_refusal x1 S).1 (b_L_refusal x1 S).2 := by
  unfold o_L_refusal at ho
  refine ciw_of hI (by decide +kernel) (Nat.le_of_ble_eq_true rfl) rfl (fun p e s m args below meth c X F htb hr hlocks => ?_)
  refine j_aload_n X 2 dL_refusal_0 rfl ?_
  refine j_iconst (v := 0) X dL_refusal_1 (by decide) ?_
  refine j_aload_n X 0 dL_refusal_2 rfl ?_
  refine j_iload_n X 1 dL_refusal_3 rfl ?_
  refine j_callXic (rest := [.int 0, .ref (ad 13)]) X F htb (c_X6_refusal hst hI x1 S) cw_L_110 kc20.1 (cl_20 kc20) rfl ⟨rfl, rfl, Nat.le_of_ble_eq_true rfl, Nat.le_of_ble_eq_true rfl⟩ rfl rfl (Nat.le_of_ble_eq_true rfl) ⟨Nat.le_of_ble_eq_true rfl, Nat.le_of_ble_eq_true rfl⟩ dL_refusal_4 (fun h0 => ?_) (fun h0 => ?_)
  · rcases ho with h | h
    · exact absurd h h0
    · refine ⟨12, ?_, fun q9 => ?_⟩
      · exact ctch_1 (by decide) (by decide) (by rw [h]; exact m_cl_L_60)
      · refine j_astore_n X [(3, .ref q9), (0, .ref (ad 0)), (1, .int x1), (2, .ref (ad 13))] dL_refusal_12 (by decide) rfl ?_
        refine j_iconst (v := 1) X dL_refusal_13 (by decide) ?_
        exact j_iretC X hr hlocks ⟨by decide, by decide⟩ dL_refusal_14 (by simp [b_L_refusal, h])
  · refine j_outi X dL_refusal_7 dL_refusal_8 ?_
    refine j_goto X 15 dL_refusal_9 (by decide) ?_
    refine j_iconst (v := 0) X dL_refusal_15 (by decide) ?_
    exact j_iretC X hr hlocks ⟨by decide, by decide⟩ dL_refusal_16 (by simp [b_L_refusal, h0])
def b_L_account (x1 : Int32) (S : Sx) : Int32 × Sx := if (b_X6_account_0 x1 S).1 = 0 then (0, up2 (b_X6_account_0 x1 S).2.2 13 0 (b_X6_account_0 x1 S).2.1) else (1, (b_X6_account_0 x1 S).2.2)
def o_L_account (x1 : Int32) (S : Sx) : Prop := o_X6_account_0 x1 S ∧ ((b_X6_account_0 x1 S).1 = 0 ∨ (b_X6_account_0 x1 S).1 = 2)
abbrev rm_L_account : Room := { frames := 7, cells := 1, slots := 6, locals := 111 }
set_option maxRecDepth 20000 in
theorem c_L_account {l : Launch} {D : va_G} {q : Nat → ClassId} {ad : Nat → Nat} {d : UInt64} {sa : Nat → Nat} (hst : l.stackTraces = false) (hI : inj4 ad) (x1 : Int32) (S : Sx) (ho : o_L_account x1 S) : CIw l yL_account cL_account 4 [(0, 9, 12, 15)] rm_L_account 1 6 D q ad d d sa [.ref (ad 0), .int x1, .ref (ad 13)] S (b_L_account x1 S).1 (b_L_account x1 S).2 := by
  unfold o_L_account at ho
  obtain ⟨ho1, ho⟩ := ho
  refine ciw_of hI (by decide +kernel) (Nat.le_of_ble_eq_true rfl) rfl (fun p e s m args below meth c X F htb hr hlocks => ?_)
  refine j_aload_n X 2 dL_account_0 rfl ?_
  refine j_iconst (v := 0) X dL_account_1 (by decide) ?_
  refine j_aload_n X 0 dL_account_2 rfl ?_
  refine j_iload_n X 1 dL_account_3 rfl ?_
  refine j_callXic (rest := [.int 0, .ref (ad 13)]) X F htb (c_X6_account hst hI x1 S ho1) cw_L_114 kc20.1 (cl_20 kc20) rfl ⟨rfl, rfl, Nat.le_of_ble_eq_true rfl, Nat.le_of_ble_eq_true rfl⟩ rfl rfl (Nat.le_of_ble_eq_true rfl) ⟨Nat.le_of_ble_eq_true rfl, Nat.le_of_ble_eq_true rfl⟩ dL_account_4 (fun h0 => ?_) (fun h0 => ?_)
  · rcases ho with h | h
    · exact absurd h h0
    · refine ⟨12, ?_, fun q9 => ?_⟩
      · exact ctch_1 (by decide) (by decide) (by rw [h]; exact m_cl_L_15)
      · refine j_astore_n X [(3, .ref q9), (0, .ref (ad 0)), (1, .int x1), (2, .ref (ad 13))] dL_account_12 (by decide) rfl ?_
        refine j_iconst (v := 1) X dL_account_13 (by decide) ?_
        exact j_iretC X hr hlocks ⟨by decide, by decide⟩ dL_account_14 (by simp [b_L_account, h])
  · refine j_outi X dL_account_7 dL_account_8 ?_
    refine j_goto X 15 dL_account_9 (by decide) ?_
    refine j_iconst (v := 0) X dL_account_15 (by decide) ?_
    exact j_iretC X hr hlocks ⟨by decide, by decide⟩ dL_account_16 (by simp [b_L_account, h0])
def b_L_undo (S : Sx) : Int32 × Sx := if (b_X6_undo_0 S).1 = 0 then (0, up2 (b_X6_undo_0 S).2.2 13 0 (b_X6_undo_0 S).2.1) else (1, (b_X6_undo_0 S).2.2)
def o_L_undo (S : Sx) : Prop := o_X6_undo_0 S ∧ ((b_X6_undo_0 S).1 = 0 ∨ (b_X6_undo_0 S).1 = 5)
abbrev rm_L_undo : Room := { frames := 7, cells := 1, slots := 6, locals := 122 }
set_option maxRecDepth 20000 in
theorem c_L_undo {l : Launch} {D : va_G} {q : Nat → ClassId} {ad : Nat → Nat} {d : UInt64} {sa : Nat → Nat} (hst : l.stackTraces = false) (hI : inj4 ad) (S : Sx) (ho : o_L_undo S) : CIw l yL_undo cL_undo 3 [(0, 8, 11, 105)] rm_L_undo 1 6 D q ad d d sa [.ref (ad 0), .ref (ad 13)] S (b_L_undo S).1 (b_L_undo S).2 := by
  unfold o_L_undo at ho
  obtain ⟨ho1, ho⟩ := ho
  refine ciw_of hI (by decide +kernel) (Nat.le_of_ble_eq_true rfl) rfl (fun p e s m args below meth c X F htb hr hlocks => ?_)
  refine j_aload_n X 1 dL_undo_0 rfl ?_
  refine j_iconst (v := 0) X dL_undo_1 (by decide) ?_
  refine j_aload_n X 0 dL_undo_2 rfl ?_
  refine j_callXic (rest := [.int 0, .ref (ad 13)]) X F htb (c_X6_undo hst hI S ho1) cw_L_127 kc20.1 (cl_20 kc20) rfl ⟨rfl, rfl, Nat.le_of_ble_eq_true rfl, Nat.le_of_ble_eq_true rfl⟩ rfl rfl (Nat.le_of_ble_eq_true rfl) ⟨Nat.le_of_ble_eq_true rfl, Nat.le_of_ble_eq_true rfl⟩ dL_undo_3 (fun h0 => ?_) (fun h0 => ?_)
  · rcases ho with h | h
    · exact absurd h h0
    · refine ⟨11, ?_, fun q9 => ?_⟩
      · exact ctch_1 (by decide) (by decide) (by rw [h]; exact m_cl_L_105)
      · refine j_astore_n X [(2, .ref q9), (0, .ref (ad 0)), (1, .ref (ad 13))] dL_undo_11 (by decide) rfl ?_
        refine j_iconst (v := 1) X dL_undo_12 (by decide) ?_
        exact j_iretC X hr hlocks ⟨by decide, by decide⟩ dL_undo_13 (by simp [b_L_undo, h])
  · refine j_outi X dL_undo_6 dL_undo_7 ?_
    refine j_goto X 14 dL_undo_8 (by decide) ?_
    refine j_iconst (v := 0) X dL_undo_14 (by decide) ?_
    exact j_iretC X hr hlocks ⟨by decide, by decide⟩ dL_undo_15 (by simp [b_L_undo, h0])
def b_L_restore (S : Sx) : Int32 × Sx := if (b_X6_restore_0 S).1 = 0 then (0, up2 (b_X6_restore_0 S).2.2 13 0 (b_X6_restore_0 S).2.1) else (1, (b_X6_restore_0 S).2.2)
def o_L_restore (S : Sx) : Prop := o_X6_restore_0 S ∧ ((b_X6_restore_0 S).1 = 0 ∨ (b_X6_restore_0 S).1 = 5)
abbrev rm_L_restore : Room := { frames := 7, cells := 1, slots := 6, locals := 110 }
set_option maxRecDepth 20000 in
theorem c_L_restore {l : Launch} {D : va_G} {q : Nat → ClassId} {ad : Nat → Nat} {d : UInt64} {sa : Nat → Nat} (hst : l.stackTraces = false) (hI : inj4 ad) (S : Sx) (ho : o_L_restore S) : CIw l yL_restore cL_restore 3 [(0, 8, 11, 105)] rm_L_restore 1 6 D q ad d d sa [.ref (ad 0), .ref (ad 13)] S (b_L_restore S).1 (b_L_restore S).2 := by
  unfold o_L_restore at ho
  obtain ⟨ho1, ho⟩ := ho
  refine ciw_of hI (by decide +kernel) (Nat.le_of_ble_eq_true rfl) rfl (fun p e s m args below meth c X F htb hr hlocks => ?_)
  refine j_aload_n X 1 dL_restore_0 rfl ?_
  refine j_iconst (v := 0) X dL_restore_1 (by decide) ?_
  refine j_aload_n X 0 dL_restore_2 rfl ?_
  refine j_callXic (rest := [.int 0, .ref (ad 13)]) X F htb (c_X6_restore hst hI S ho1) cw_L_130 kc20.1 (cl_20 kc20) rfl ⟨rfl, rfl, Nat.le_of_ble_eq_true rfl, Nat.le_of_ble_eq_true rfl⟩ rfl rfl (Nat.le_of_ble_eq_true rfl) ⟨Nat.le_of_ble_eq_true rfl, Nat.le_of_ble_eq_true rfl⟩ dL_restore_3 (fun h0 => ?_) (fun h0 => ?_)
  · rcases ho with h | h
    · exact absurd h h0
    · refine ⟨11, ?_, fun q9 => ?_⟩
      · exact ctch_1 (by decide) (by decide) (by rw [h]; exact m_cl_L_105)
      · refine j_astore_n X [(2, .ref q9), (0, .ref (ad 0)), (1, .ref (ad 13))] dL_restore_11 (by decide) rfl ?_
        refine j_iconst (v := 1) X dL_restore_12 (by decide) ?_
        exact j_iretC X hr hlocks ⟨by decide, by decide⟩ dL_restore_13 (by simp [b_L_restore, h])
  · refine j_outi X dL_restore_6 dL_restore_7 ?_
    refine j_goto X 14 dL_restore_8 (by decide) ?_
    refine j_iconst (v := 0) X dL_restore_14 (by decide) ?_
    exact j_iretC X hr hlocks ⟨by decide, by decide⟩ dL_restore_15 (by simp [b_L_restore, h0])

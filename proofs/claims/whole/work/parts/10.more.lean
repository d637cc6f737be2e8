theorem cx_inj {p : Program} {m : MethodId} {c : Code} {cc : ByteArray} {nL : Nat} {s : State} {args : Array Value} {own : String} {D : va_G} {q : Nat → ClassId} {ad : Nat → Nat} (X : Cx p m c cc nL s args own D q ad) : inj4 ad := X.2.2.2.2.2.2.2
theorem pe {α β : Type} (x : α × β) : x = (x.1, x.2) := rfl
def cz (v : Int32) : Prop := narrow .char (.int v) = .int v
def alen (j : Nat) : Nat :=
  match kd j with
  | 1 => 24
  | 2 => 24
  | 3 => 3
  | 10 => 7
  | 26 => 275
  | 27 => 2200
  | 28 => 275
  | 29 => 275
  | 30 => 275
  | 31 => 60
  | 32 => 124
  | _ => 0
def isA (j : Nat) : Prop := j < 455 ∧ ∀ (ad : Nat → Nat) (q : Nat → ClassId) (d : UInt64) (S : Sx), cellU ad q d S j = .inl (q 0, alen j, .inl (S j))
theorem ca {ad : Nat → Nat} {q : Nat → ClassId} {d : UInt64} {j : Nat} (h : isA j) (S : Sx) : cellU ad q d S j = .inl (q 0, alen j, .inl (S j)) := h.2 ad q d S
theorem isA_of1 {j : Nat} (h : isK 1 j) : isA j := ⟨h.1, fun ad q d S => by
  rw [cl_1 h]
  unfold alen
  rw [h.2]
  rfl⟩
theorem isA_of2 {j : Nat} (h : isK 2 j) : isA j := ⟨h.1, fun ad q d S => by
  rw [cl_2 h]
  unfold alen
  rw [h.2]
  rfl⟩
theorem isA_of3 {j : Nat} (h : isK 3 j) : isA j := ⟨h.1, fun ad q d S => by
  rw [cl_3 h]
  unfold alen
  rw [h.2]
  rfl⟩
theorem isA_of10 {j : Nat} (h : isK 10 j) : isA j := ⟨h.1, fun ad q d S => by
  rw [cl_10 h]
  unfold alen
  rw [h.2]
  rfl⟩
theorem isA_of26 {j : Nat} (h : isK 26 j) : isA j := ⟨h.1, fun ad q d S => by
  rw [cl_26 h]
  unfold alen
  rw [h.2]
  rfl⟩
theorem isA_of27 {j : Nat} (h : isK 27 j) : isA j := ⟨h.1, fun ad q d S => by
  rw [cl_27 h]
  unfold alen
  rw [h.2]
  rfl⟩
theorem isA_of28 {j : Nat} (h : isK 28 j) : isA j := ⟨h.1, fun ad q d S => by
  rw [cl_28 h]
  unfold alen
  rw [h.2]
  rfl⟩
theorem isA_of29 {j : Nat} (h : isK 29 j) : isA j := ⟨h.1, fun ad q d S => by
  rw [cl_29 h]
  unfold alen
  rw [h.2]
  rfl⟩
theorem isA_of30 {j : Nat} (h : isK 30 j) : isA j := ⟨h.1, fun ad q d S => by
  rw [cl_30 h]
  unfold alen
  rw [h.2]
  rfl⟩
theorem isA_of31 {j : Nat} (h : isK 31 j) : isA j := ⟨h.1, fun ad q d S => by
  rw [cl_31 h]
  unfold alen
  rw [h.2]
  rfl⟩
theorem isA_of32 {j : Nat} (h : isK 32 j) : isA j := ⟨h.1, fun ad q d S => by
  rw [cl_32 h]
  unfold alen
  rw [h.2]
  rfl⟩

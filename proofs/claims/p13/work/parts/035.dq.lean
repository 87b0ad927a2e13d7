/-! decode rows by stretches of a method (printed by wip/whole/fastdec.py) -/
def dq_b (c : ByteArray) (j : Nat) : Option Nat := (c.data.toList[j]?).map UInt8.toNat
theorem dq_u1 {c : ByteArray} {p n : Nat} (h : dq_b c p = some n) : (Reader.u1 : Decoder Nat) c p = .ok (n, p + 1) := by
  obtain ⟨x, hx, hn⟩ := Option.map_eq_some_iff.mp h
  obtain ⟨hlt, he⟩ := List.getElem?_eq_some_iff.mp hx
  have hp : p < c.size := by simpa using hlt
  have e : (Reader.u1 : Decoder Nat) c p = (if h : p < c.size then .ok (c[p].toNat, p + 1) else .error (HasTruncated.truncated p)) := by
    show (do if h : p < c.size then do set (p + 1); pure c[p].toNat else throw (HasTruncated.truncated p) : Decoder Nat) c p = _
    rw [dif_pos hp, dif_pos hp]; rfl
  rw [e, dif_pos hp]
  have h2 : c[p] = x := he
  rw [h2, hn]
theorem dq_bind {α β : Type} {r : Decoder α} {f : α → Decoder β} {c : ByteArray} {p s : Nat} {a : α} (h : r c p = .ok (a, s)) : (r >>= f) c p = f a c s := by
  show (do let (a, s) ← r c p; f a c s : Except DecodeError (β × Nat)) = _
  rw [h]
  first | rfl | done
theorem dq_map {α β : Type} {r : Decoder α} {f : α → β} {c : ByteArray} {p s : Nat} {a : α} (h : r c p = .ok (a, s)) : (f <$> r) c p = .ok (f a, s) := by
  show (do let (a, s) ← r c p; .ok (f a, s) : Except DecodeError (β × Nat)) = _
  rw [h]
  first | rfl | done
theorem dq_u2 {c : ByteArray} {p x y : Nat} (h1 : dq_b c p = some x) (h2 : dq_b c (p + 1) = some y) : (Reader.u2 : Decoder Nat) c p = .ok (x * 256 + y, p + 1 + 1) := by
  delta Reader.u2
  refine (dq_bind (dq_u1 h1)).trans ?_
  exact (dq_bind (dq_u1 h2)).trans rfl
theorem dq_s1 {c : ByteArray} {p x : Nat} (h1 : dq_b c p = some x) : (Reader.s1 : Decoder Int) c p = .ok (Reader.signed 8 x, p + 1) := by
  delta Reader.s1
  exact dq_map (dq_u1 h1)
theorem dq_s2 {c : ByteArray} {p x y : Nat} (h1 : dq_b c p = some x) (h2 : dq_b c (p + 1) = some y) : (Reader.s2 : Decoder Int) c p = .ok (Reader.signed 16 (x * 256 + y), p + 1 + 1) := by
  delta Reader.s2
  exact dq_map (dq_u2 h1 h2)
theorem dq_dec {c : ByteArray} {p n : Nat} {i : Instr} (h : Decoder.instr p c p = .ok (i, p + n)) : decode c p = .ok (i, n) := by
  show (do let (i, q) ← Decoder.instr p c p; pure (i, q - p) : Except DecodeError (Instr × Nat)) = _
  rw [h]
  show Except.ok (i, p + n - p) = _
  rw [Nat.add_sub_cancel_left]
/-- an opcode, its instruction's length, the instruction out of the two bytes behind -/
abbrev dq_R : Type := Nat × Nat × (Nat → Nat → Instr)
def dq_ok (r : dq_R) : Prop := ∀ (c : ByteArray) (p x y : Nat), dq_b c p = some r.1 → (2 ≤ r.2.1 → dq_b c (p + 1) = some x) → (3 ≤ r.2.1 → dq_b c (p + 2) = some y) → decode c p = .ok (r.2.2 x y, r.2.1)
set_option maxRecDepth 16384 in
theorem dq_o42 : ∀ (c : ByteArray) (p x y : Nat), dq_b c p = some 42 → (2 ≤ 1 → dq_b c (p + 1) = some x) → (3 ≤ 1 → dq_b c (p + 2) = some y) → decode c p = .ok (.aload_n 0, 1) := by
  intro c p x y h0 h1 h2
  refine dq_dec ?_
  delta Decoder.instr
  refine (dq_bind (dq_u1 h0)).trans ?_
  exact rfl
set_option maxRecDepth 16384 in
theorem dq_o43 : ∀ (c : ByteArray) (p x y : Nat), dq_b c p = some 43 → (2 ≤ 1 → dq_b c (p + 1) = some x) → (3 ≤ 1 → dq_b c (p + 2) = some y) → decode c p = .ok (.aload_n 1, 1) := by
  intro c p x y h0 h1 h2
  refine dq_dec ?_
  delta Decoder.instr
  refine (dq_bind (dq_u1 h0)).trans ?_
  exact rfl
set_option maxRecDepth 16384 in
theorem dq_o44 : ∀ (c : ByteArray) (p x y : Nat), dq_b c p = some 44 → (2 ≤ 1 → dq_b c (p + 1) = some x) → (3 ≤ 1 → dq_b c (p + 2) = some y) → decode c p = .ok (.aload_n 2, 1) := by
  intro c p x y h0 h1 h2
  refine dq_dec ?_
  delta Decoder.instr
  refine (dq_bind (dq_u1 h0)).trans ?_
  exact rfl
set_option maxRecDepth 16384 in
theorem dq_o45 : ∀ (c : ByteArray) (p x y : Nat), dq_b c p = some 45 → (2 ≤ 1 → dq_b c (p + 1) = some x) → (3 ≤ 1 → dq_b c (p + 2) = some y) → decode c p = .ok (.aload_n 3, 1) := by
  intro c p x y h0 h1 h2
  refine dq_dec ?_
  delta Decoder.instr
  refine (dq_bind (dq_u1 h0)).trans ?_
  exact rfl
set_option maxRecDepth 16384 in
theorem dq_o26 : ∀ (c : ByteArray) (p x y : Nat), dq_b c p = some 26 → (2 ≤ 1 → dq_b c (p + 1) = some x) → (3 ≤ 1 → dq_b c (p + 2) = some y) → decode c p = .ok (.iload_n 0, 1) := by
  intro c p x y h0 h1 h2
  refine dq_dec ?_
  delta Decoder.instr
  refine (dq_bind (dq_u1 h0)).trans ?_
  exact rfl
set_option maxRecDepth 16384 in
theorem dq_o27 : ∀ (c : ByteArray) (p x y : Nat), dq_b c p = some 27 → (2 ≤ 1 → dq_b c (p + 1) = some x) → (3 ≤ 1 → dq_b c (p + 2) = some y) → decode c p = .ok (.iload_n 1, 1) := by
  intro c p x y h0 h1 h2
  refine dq_dec ?_
  delta Decoder.instr
  refine (dq_bind (dq_u1 h0)).trans ?_
  exact rfl
set_option maxRecDepth 16384 in
theorem dq_o28 : ∀ (c : ByteArray) (p x y : Nat), dq_b c p = some 28 → (2 ≤ 1 → dq_b c (p + 1) = some x) → (3 ≤ 1 → dq_b c (p + 2) = some y) → decode c p = .ok (.iload_n 2, 1) := by
  intro c p x y h0 h1 h2
  refine dq_dec ?_
  delta Decoder.instr
  refine (dq_bind (dq_u1 h0)).trans ?_
  exact rfl
set_option maxRecDepth 16384 in
theorem dq_o29 : ∀ (c : ByteArray) (p x y : Nat), dq_b c p = some 29 → (2 ≤ 1 → dq_b c (p + 1) = some x) → (3 ≤ 1 → dq_b c (p + 2) = some y) → decode c p = .ok (.iload_n 3, 1) := by
  intro c p x y h0 h1 h2
  refine dq_dec ?_
  delta Decoder.instr
  refine (dq_bind (dq_u1 h0)).trans ?_
  exact rfl
set_option maxRecDepth 16384 in
theorem dq_o2 : ∀ (c : ByteArray) (p x y : Nat), dq_b c p = some 2 → (2 ≤ 1 → dq_b c (p + 1) = some x) → (3 ≤ 1 → dq_b c (p + 2) = some y) → decode c p = .ok (.iconst (-1), 1) := by
  intro c p x y h0 h1 h2
  refine dq_dec ?_
  delta Decoder.instr
  refine (dq_bind (dq_u1 h0)).trans ?_
  exact rfl
set_option maxRecDepth 16384 in
theorem dq_o3 : ∀ (c : ByteArray) (p x y : Nat), dq_b c p = some 3 → (2 ≤ 1 → dq_b c (p + 1) = some x) → (3 ≤ 1 → dq_b c (p + 2) = some y) → decode c p = .ok (.iconst (0), 1) := by
  intro c p x y h0 h1 h2
  refine dq_dec ?_
  delta Decoder.instr
  refine (dq_bind (dq_u1 h0)).trans ?_
  exact rfl
set_option maxRecDepth 16384 in
theorem dq_o4 : ∀ (c : ByteArray) (p x y : Nat), dq_b c p = some 4 → (2 ≤ 1 → dq_b c (p + 1) = some x) → (3 ≤ 1 → dq_b c (p + 2) = some y) → decode c p = .ok (.iconst (1), 1) := by
  intro c p x y h0 h1 h2
  refine dq_dec ?_
  delta Decoder.instr
  refine (dq_bind (dq_u1 h0)).trans ?_
  exact rfl
set_option maxRecDepth 16384 in
theorem dq_o5 : ∀ (c : ByteArray) (p x y : Nat), dq_b c p = some 5 → (2 ≤ 1 → dq_b c (p + 1) = some x) → (3 ≤ 1 → dq_b c (p + 2) = some y) → decode c p = .ok (.iconst (2), 1) := by
  intro c p x y h0 h1 h2
  refine dq_dec ?_
  delta Decoder.instr
  refine (dq_bind (dq_u1 h0)).trans ?_
  exact rfl
set_option maxRecDepth 16384 in
theorem dq_o6 : ∀ (c : ByteArray) (p x y : Nat), dq_b c p = some 6 → (2 ≤ 1 → dq_b c (p + 1) = some x) → (3 ≤ 1 → dq_b c (p + 2) = some y) → decode c p = .ok (.iconst (3), 1) := by
  intro c p x y h0 h1 h2
  refine dq_dec ?_
  delta Decoder.instr
  refine (dq_bind (dq_u1 h0)).trans ?_
  exact rfl
set_option maxRecDepth 16384 in
theorem dq_o7 : ∀ (c : ByteArray) (p x y : Nat), dq_b c p = some 7 → (2 ≤ 1 → dq_b c (p + 1) = some x) → (3 ≤ 1 → dq_b c (p + 2) = some y) → decode c p = .ok (.iconst (4), 1) := by
  intro c p x y h0 h1 h2
  refine dq_dec ?_
  delta Decoder.instr
  refine (dq_bind (dq_u1 h0)).trans ?_
  exact rfl
set_option maxRecDepth 16384 in
theorem dq_o8 : ∀ (c : ByteArray) (p x y : Nat), dq_b c p = some 8 → (2 ≤ 1 → dq_b c (p + 1) = some x) → (3 ≤ 1 → dq_b c (p + 2) = some y) → decode c p = .ok (.iconst (5), 1) := by
  intro c p x y h0 h1 h2
  refine dq_dec ?_
  delta Decoder.instr
  refine (dq_bind (dq_u1 h0)).trans ?_
  exact rfl
set_option maxRecDepth 16384 in
theorem dq_o180 : ∀ (c : ByteArray) (p x y : Nat), dq_b c p = some 180 → (2 ≤ 3 → dq_b c (p + 1) = some x) → (3 ≤ 3 → dq_b c (p + 2) = some y) → decode c p = .ok (.getfield (x * 256 + y), 3) := by
  intro c p x y h0 h1 h2
  refine dq_dec ?_
  delta Decoder.instr
  refine (dq_bind (dq_u1 h0)).trans ?_
  exact (dq_bind (dq_u2 (h1 (by decide)) (h2 (by decide)))).trans rfl
set_option maxRecDepth 16384 in
theorem dq_o182 : ∀ (c : ByteArray) (p x y : Nat), dq_b c p = some 182 → (2 ≤ 3 → dq_b c (p + 1) = some x) → (3 ≤ 3 → dq_b c (p + 2) = some y) → decode c p = .ok (.invokevirtual (x * 256 + y), 3) := by
  intro c p x y h0 h1 h2
  refine dq_dec ?_
  delta Decoder.instr
  refine (dq_bind (dq_u1 h0)).trans ?_
  exact (dq_bind (dq_u2 (h1 (by decide)) (h2 (by decide)))).trans rfl
set_option maxRecDepth 16384 in
theorem dq_o172 : ∀ (c : ByteArray) (p x y : Nat), dq_b c p = some 172 → (2 ≤ 1 → dq_b c (p + 1) = some x) → (3 ≤ 1 → dq_b c (p + 2) = some y) → decode c p = .ok (.ireturn, 1) := by
  intro c p x y h0 h1 h2
  refine dq_dec ?_
  delta Decoder.instr
  refine (dq_bind (dq_u1 h0)).trans ?_
  exact rfl
set_option maxRecDepth 16384 in
theorem dq_o21 : ∀ (c : ByteArray) (p x y : Nat), dq_b c p = some 21 → (2 ≤ 2 → dq_b c (p + 1) = some x) → (3 ≤ 2 → dq_b c (p + 2) = some y) → decode c p = .ok (.iload x, 2) := by
  intro c p x y h0 h1 h2
  refine dq_dec ?_
  delta Decoder.instr
  refine (dq_bind (dq_u1 h0)).trans ?_
  exact (dq_bind (dq_u1 (h1 (by decide)))).trans rfl
set_option maxRecDepth 16384 in
theorem dq_o46 : ∀ (c : ByteArray) (p x y : Nat), dq_b c p = some 46 → (2 ≤ 1 → dq_b c (p + 1) = some x) → (3 ≤ 1 → dq_b c (p + 2) = some y) → decode c p = .ok (.iaload, 1) := by
  intro c p x y h0 h1 h2
  refine dq_dec ?_
  delta Decoder.instr
  refine (dq_bind (dq_u1 h0)).trans ?_
  exact rfl
set_option maxRecDepth 16384 in
theorem dq_o167 : ∀ (c : ByteArray) (p x y : Nat), dq_b c p = some 167 → (2 ≤ 3 → dq_b c (p + 1) = some x) → (3 ≤ 3 → dq_b c (p + 2) = some y) → decode c p = .ok (.goto (Reader.signed 16 (x * 256 + y)), 3) := by
  intro c p x y h0 h1 h2
  refine dq_dec ?_
  delta Decoder.instr
  refine (dq_bind (dq_u1 h0)).trans ?_
  exact (dq_bind (dq_s2 (h1 (by decide)) (h2 (by decide)))).trans rfl
set_option maxRecDepth 16384 in
theorem dq_o181 : ∀ (c : ByteArray) (p x y : Nat), dq_b c p = some 181 → (2 ≤ 3 → dq_b c (p + 1) = some x) → (3 ≤ 3 → dq_b c (p + 2) = some y) → decode c p = .ok (.putfield (x * 256 + y), 3) := by
  intro c p x y h0 h1 h2
  refine dq_dec ?_
  delta Decoder.instr
  refine (dq_bind (dq_u1 h0)).trans ?_
  exact (dq_bind (dq_u2 (h1 (by decide)) (h2 (by decide)))).trans rfl
set_option maxRecDepth 16384 in
theorem dq_o96 : ∀ (c : ByteArray) (p x y : Nat), dq_b c p = some 96 → (2 ≤ 1 → dq_b c (p + 1) = some x) → (3 ≤ 1 → dq_b c (p + 2) = some y) → decode c p = .ok (.iadd, 1) := by
  intro c p x y h0 h1 h2
  refine dq_dec ?_
  delta Decoder.instr
  refine (dq_bind (dq_u1 h0)).trans ?_
  exact rfl
set_option maxRecDepth 16384 in
theorem dq_o153 : ∀ (c : ByteArray) (p x y : Nat), dq_b c p = some 153 → (2 ≤ 3 → dq_b c (p + 1) = some x) → (3 ≤ 3 → dq_b c (p + 2) = some y) → decode c p = .ok (.ifCond .eq (Reader.signed 16 (x * 256 + y)), 3) := by
  intro c p x y h0 h1 h2
  refine dq_dec ?_
  delta Decoder.instr
  refine (dq_bind (dq_u1 h0)).trans ?_
  exact (dq_bind (dq_s2 (h1 (by decide)) (h2 (by decide)))).trans rfl
set_option maxRecDepth 16384 in
theorem dq_o154 : ∀ (c : ByteArray) (p x y : Nat), dq_b c p = some 154 → (2 ≤ 3 → dq_b c (p + 1) = some x) → (3 ≤ 3 → dq_b c (p + 2) = some y) → decode c p = .ok (.ifCond .ne (Reader.signed 16 (x * 256 + y)), 3) := by
  intro c p x y h0 h1 h2
  refine dq_dec ?_
  delta Decoder.instr
  refine (dq_bind (dq_u1 h0)).trans ?_
  exact (dq_bind (dq_s2 (h1 (by decide)) (h2 (by decide)))).trans rfl
set_option maxRecDepth 16384 in
theorem dq_o155 : ∀ (c : ByteArray) (p x y : Nat), dq_b c p = some 155 → (2 ≤ 3 → dq_b c (p + 1) = some x) → (3 ≤ 3 → dq_b c (p + 2) = some y) → decode c p = .ok (.ifCond .lt (Reader.signed 16 (x * 256 + y)), 3) := by
  intro c p x y h0 h1 h2
  refine dq_dec ?_
  delta Decoder.instr
  refine (dq_bind (dq_u1 h0)).trans ?_
  exact (dq_bind (dq_s2 (h1 (by decide)) (h2 (by decide)))).trans rfl
set_option maxRecDepth 16384 in
theorem dq_o156 : ∀ (c : ByteArray) (p x y : Nat), dq_b c p = some 156 → (2 ≤ 3 → dq_b c (p + 1) = some x) → (3 ≤ 3 → dq_b c (p + 2) = some y) → decode c p = .ok (.ifCond .ge (Reader.signed 16 (x * 256 + y)), 3) := by
  intro c p x y h0 h1 h2
  refine dq_dec ?_
  delta Decoder.instr
  refine (dq_bind (dq_u1 h0)).trans ?_
  exact (dq_bind (dq_s2 (h1 (by decide)) (h2 (by decide)))).trans rfl
set_option maxRecDepth 16384 in
theorem dq_o157 : ∀ (c : ByteArray) (p x y : Nat), dq_b c p = some 157 → (2 ≤ 3 → dq_b c (p + 1) = some x) → (3 ≤ 3 → dq_b c (p + 2) = some y) → decode c p = .ok (.ifCond .gt (Reader.signed 16 (x * 256 + y)), 3) := by
  intro c p x y h0 h1 h2
  refine dq_dec ?_
  delta Decoder.instr
  refine (dq_bind (dq_u1 h0)).trans ?_
  exact (dq_bind (dq_s2 (h1 (by decide)) (h2 (by decide)))).trans rfl
set_option maxRecDepth 16384 in
theorem dq_o158 : ∀ (c : ByteArray) (p x y : Nat), dq_b c p = some 158 → (2 ≤ 3 → dq_b c (p + 1) = some x) → (3 ≤ 3 → dq_b c (p + 2) = some y) → decode c p = .ok (.ifCond .le (Reader.signed 16 (x * 256 + y)), 3) := by
  intro c p x y h0 h1 h2
  refine dq_dec ?_
  delta Decoder.instr
  refine (dq_bind (dq_u1 h0)).trans ?_
  exact (dq_bind (dq_s2 (h1 (by decide)) (h2 (by decide)))).trans rfl
set_option maxRecDepth 16384 in
theorem dq_o159 : ∀ (c : ByteArray) (p x y : Nat), dq_b c p = some 159 → (2 ≤ 3 → dq_b c (p + 1) = some x) → (3 ≤ 3 → dq_b c (p + 2) = some y) → decode c p = .ok (.if_icmp .eq (Reader.signed 16 (x * 256 + y)), 3) := by
  intro c p x y h0 h1 h2
  refine dq_dec ?_
  delta Decoder.instr
  refine (dq_bind (dq_u1 h0)).trans ?_
  exact (dq_bind (dq_s2 (h1 (by decide)) (h2 (by decide)))).trans rfl
set_option maxRecDepth 16384 in
theorem dq_o160 : ∀ (c : ByteArray) (p x y : Nat), dq_b c p = some 160 → (2 ≤ 3 → dq_b c (p + 1) = some x) → (3 ≤ 3 → dq_b c (p + 2) = some y) → decode c p = .ok (.if_icmp .ne (Reader.signed 16 (x * 256 + y)), 3) := by
  intro c p x y h0 h1 h2
  refine dq_dec ?_
  delta Decoder.instr
  refine (dq_bind (dq_u1 h0)).trans ?_
  exact (dq_bind (dq_s2 (h1 (by decide)) (h2 (by decide)))).trans rfl
set_option maxRecDepth 16384 in
theorem dq_o161 : ∀ (c : ByteArray) (p x y : Nat), dq_b c p = some 161 → (2 ≤ 3 → dq_b c (p + 1) = some x) → (3 ≤ 3 → dq_b c (p + 2) = some y) → decode c p = .ok (.if_icmp .lt (Reader.signed 16 (x * 256 + y)), 3) := by
  intro c p x y h0 h1 h2
  refine dq_dec ?_
  delta Decoder.instr
  refine (dq_bind (dq_u1 h0)).trans ?_
  exact (dq_bind (dq_s2 (h1 (by decide)) (h2 (by decide)))).trans rfl
set_option maxRecDepth 16384 in
theorem dq_o162 : ∀ (c : ByteArray) (p x y : Nat), dq_b c p = some 162 → (2 ≤ 3 → dq_b c (p + 1) = some x) → (3 ≤ 3 → dq_b c (p + 2) = some y) → decode c p = .ok (.if_icmp .ge (Reader.signed 16 (x * 256 + y)), 3) := by
  intro c p x y h0 h1 h2
  refine dq_dec ?_
  delta Decoder.instr
  refine (dq_bind (dq_u1 h0)).trans ?_
  exact (dq_bind (dq_s2 (h1 (by decide)) (h2 (by decide)))).trans rfl
set_option maxRecDepth 16384 in
theorem dq_o163 : ∀ (c : ByteArray) (p x y : Nat), dq_b c p = some 163 → (2 ≤ 3 → dq_b c (p + 1) = some x) → (3 ≤ 3 → dq_b c (p + 2) = some y) → decode c p = .ok (.if_icmp .gt (Reader.signed 16 (x * 256 + y)), 3) := by
  intro c p x y h0 h1 h2
  refine dq_dec ?_
  delta Decoder.instr
  refine (dq_bind (dq_u1 h0)).trans ?_
  exact (dq_bind (dq_s2 (h1 (by decide)) (h2 (by decide)))).trans rfl
set_option maxRecDepth 16384 in
theorem dq_o164 : ∀ (c : ByteArray) (p x y : Nat), dq_b c p = some 164 → (2 ≤ 3 → dq_b c (p + 1) = some x) → (3 ≤ 3 → dq_b c (p + 2) = some y) → decode c p = .ok (.if_icmp .le (Reader.signed 16 (x * 256 + y)), 3) := by
  intro c p x y h0 h1 h2
  refine dq_dec ?_
  delta Decoder.instr
  refine (dq_bind (dq_u1 h0)).trans ?_
  exact (dq_bind (dq_s2 (h1 (by decide)) (h2 (by decide)))).trans rfl
set_option maxRecDepth 16384 in
theorem dq_o16 : ∀ (c : ByteArray) (p x y : Nat), dq_b c p = some 16 → (2 ≤ 2 → dq_b c (p + 1) = some x) → (3 ≤ 2 → dq_b c (p + 2) = some y) → decode c p = .ok (.bipush (Reader.signed 8 x), 2) := by
  intro c p x y h0 h1 h2
  refine dq_dec ?_
  delta Decoder.instr
  refine (dq_bind (dq_u1 h0)).trans ?_
  exact (dq_bind (dq_s1 (h1 (by decide)))).trans rfl
set_option maxRecDepth 16384 in
theorem dq_o184 : ∀ (c : ByteArray) (p x y : Nat), dq_b c p = some 184 → (2 ≤ 3 → dq_b c (p + 1) = some x) → (3 ≤ 3 → dq_b c (p + 2) = some y) → decode c p = .ok (.invokestatic (x * 256 + y), 3) := by
  intro c p x y h0 h1 h2
  refine dq_dec ?_
  delta Decoder.instr
  refine (dq_bind (dq_u1 h0)).trans ?_
  exact (dq_bind (dq_u2 (h1 (by decide)) (h2 (by decide)))).trans rfl
set_option maxRecDepth 16384 in
theorem dq_o54 : ∀ (c : ByteArray) (p x y : Nat), dq_b c p = some 54 → (2 ≤ 2 → dq_b c (p + 1) = some x) → (3 ≤ 2 → dq_b c (p + 2) = some y) → decode c p = .ok (.istore x, 2) := by
  intro c p x y h0 h1 h2
  refine dq_dec ?_
  delta Decoder.instr
  refine (dq_bind (dq_u1 h0)).trans ?_
  exact (dq_bind (dq_u1 (h1 (by decide)))).trans rfl
set_option maxRecDepth 16384 in
theorem dq_o59 : ∀ (c : ByteArray) (p x y : Nat), dq_b c p = some 59 → (2 ≤ 1 → dq_b c (p + 1) = some x) → (3 ≤ 1 → dq_b c (p + 2) = some y) → decode c p = .ok (.istore_n 0, 1) := by
  intro c p x y h0 h1 h2
  refine dq_dec ?_
  delta Decoder.instr
  refine (dq_bind (dq_u1 h0)).trans ?_
  exact rfl
set_option maxRecDepth 16384 in
theorem dq_o60 : ∀ (c : ByteArray) (p x y : Nat), dq_b c p = some 60 → (2 ≤ 1 → dq_b c (p + 1) = some x) → (3 ≤ 1 → dq_b c (p + 2) = some y) → decode c p = .ok (.istore_n 1, 1) := by
  intro c p x y h0 h1 h2
  refine dq_dec ?_
  delta Decoder.instr
  refine (dq_bind (dq_u1 h0)).trans ?_
  exact rfl
set_option maxRecDepth 16384 in
theorem dq_o61 : ∀ (c : ByteArray) (p x y : Nat), dq_b c p = some 61 → (2 ≤ 1 → dq_b c (p + 1) = some x) → (3 ≤ 1 → dq_b c (p + 2) = some y) → decode c p = .ok (.istore_n 2, 1) := by
  intro c p x y h0 h1 h2
  refine dq_dec ?_
  delta Decoder.instr
  refine (dq_bind (dq_u1 h0)).trans ?_
  exact rfl
set_option maxRecDepth 16384 in
theorem dq_o62 : ∀ (c : ByteArray) (p x y : Nat), dq_b c p = some 62 → (2 ≤ 1 → dq_b c (p + 1) = some x) → (3 ≤ 1 → dq_b c (p + 2) = some y) → decode c p = .ok (.istore_n 3, 1) := by
  intro c p x y h0 h1 h2
  refine dq_dec ?_
  delta Decoder.instr
  refine (dq_bind (dq_u1 h0)).trans ?_
  exact rfl
set_option maxRecDepth 16384 in
theorem dq_o132 : ∀ (c : ByteArray) (p x y : Nat), dq_b c p = some 132 → (2 ≤ 3 → dq_b c (p + 1) = some x) → (3 ≤ 3 → dq_b c (p + 2) = some y) → decode c p = .ok (.iinc x (Reader.signed 8 y), 3) := by
  intro c p x y h0 h1 h2
  refine dq_dec ?_
  delta Decoder.instr
  refine (dq_bind (dq_u1 h0)).trans ?_
  refine (dq_bind (dq_u1 (h1 (by decide)))).trans ?_
  exact (dq_bind (dq_s1 (h2 (by decide)))).trans rfl
set_option maxRecDepth 16384 in
theorem dq_o79 : ∀ (c : ByteArray) (p x y : Nat), dq_b c p = some 79 → (2 ≤ 1 → dq_b c (p + 1) = some x) → (3 ≤ 1 → dq_b c (p + 2) = some y) → decode c p = .ok (.iastore, 1) := by
  intro c p x y h0 h1 h2
  refine dq_dec ?_
  delta Decoder.instr
  refine (dq_bind (dq_u1 h0)).trans ?_
  exact rfl
set_option maxRecDepth 16384 in
theorem dq_o177 : ∀ (c : ByteArray) (p x y : Nat), dq_b c p = some 177 → (2 ≤ 1 → dq_b c (p + 1) = some x) → (3 ≤ 1 → dq_b c (p + 2) = some y) → decode c p = .ok (.return_, 1) := by
  intro c p x y h0 h1 h2
  refine dq_dec ?_
  delta Decoder.instr
  refine (dq_bind (dq_u1 h0)).trans ?_
  exact rfl
set_option maxRecDepth 16384 in
theorem dq_o89 : ∀ (c : ByteArray) (p x y : Nat), dq_b c p = some 89 → (2 ≤ 1 → dq_b c (p + 1) = some x) → (3 ≤ 1 → dq_b c (p + 2) = some y) → decode c p = .ok (.dup, 1) := by
  intro c p x y h0 h1 h2
  refine dq_dec ?_
  delta Decoder.instr
  refine (dq_bind (dq_u1 h0)).trans ?_
  exact rfl
set_option maxRecDepth 16384 in
theorem dq_o133 : ∀ (c : ByteArray) (p x y : Nat), dq_b c p = some 133 → (2 ≤ 1 → dq_b c (p + 1) = some x) → (3 ≤ 1 → dq_b c (p + 2) = some y) → decode c p = .ok (.i2l, 1) := by
  intro c p x y h0 h1 h2
  refine dq_dec ?_
  delta Decoder.instr
  refine (dq_bind (dq_u1 h0)).trans ?_
  exact rfl
set_option maxRecDepth 16384 in
theorem dq_o17 : ∀ (c : ByteArray) (p x y : Nat), dq_b c p = some 17 → (2 ≤ 3 → dq_b c (p + 1) = some x) → (3 ≤ 3 → dq_b c (p + 2) = some y) → decode c p = .ok (.sipush (Reader.signed 16 (x * 256 + y)), 3) := by
  intro c p x y h0 h1 h2
  refine dq_dec ?_
  delta Decoder.instr
  refine (dq_bind (dq_u1 h0)).trans ?_
  exact (dq_bind (dq_s2 (h1 (by decide)) (h2 (by decide)))).trans rfl
set_option maxRecDepth 16384 in
theorem dq_o80 : ∀ (c : ByteArray) (p x y : Nat), dq_b c p = some 80 → (2 ≤ 1 → dq_b c (p + 1) = some x) → (3 ≤ 1 → dq_b c (p + 2) = some y) → decode c p = .ok (.lastore, 1) := by
  intro c p x y h0 h1 h2
  refine dq_dec ?_
  delta Decoder.instr
  refine (dq_bind (dq_u1 h0)).trans ?_
  exact rfl
set_option maxRecDepth 16384 in
theorem dq_o100 : ∀ (c : ByteArray) (p x y : Nat), dq_b c p = some 100 → (2 ≤ 1 → dq_b c (p + 1) = some x) → (3 ≤ 1 → dq_b c (p + 2) = some y) → decode c p = .ok (.isub, 1) := by
  intro c p x y h0 h1 h2
  refine dq_dec ?_
  delta Decoder.instr
  refine (dq_bind (dq_u1 h0)).trans ?_
  exact rfl
set_option maxRecDepth 16384 in
theorem dq_o58 : ∀ (c : ByteArray) (p x y : Nat), dq_b c p = some 58 → (2 ≤ 2 → dq_b c (p + 1) = some x) → (3 ≤ 2 → dq_b c (p + 2) = some y) → decode c p = .ok (.astore x, 2) := by
  intro c p x y h0 h1 h2
  refine dq_dec ?_
  delta Decoder.instr
  refine (dq_bind (dq_u1 h0)).trans ?_
  exact (dq_bind (dq_u1 (h1 (by decide)))).trans rfl
set_option maxRecDepth 16384 in
theorem dq_o18 : ∀ (c : ByteArray) (p x y : Nat), dq_b c p = some 18 → (2 ≤ 2 → dq_b c (p + 1) = some x) → (3 ≤ 2 → dq_b c (p + 2) = some y) → decode c p = .ok (.ldc x, 2) := by
  intro c p x y h0 h1 h2
  refine dq_dec ?_
  delta Decoder.instr
  refine (dq_bind (dq_u1 h0)).trans ?_
  exact (dq_bind (dq_u1 (h1 (by decide)))).trans rfl
set_option maxRecDepth 16384 in
theorem dq_o183 : ∀ (c : ByteArray) (p x y : Nat), dq_b c p = some 183 → (2 ≤ 3 → dq_b c (p + 1) = some x) → (3 ≤ 3 → dq_b c (p + 2) = some y) → decode c p = .ok (.invokespecial (x * 256 + y), 3) := by
  intro c p x y h0 h1 h2
  refine dq_dec ?_
  delta Decoder.instr
  refine (dq_bind (dq_u1 h0)).trans ?_
  exact (dq_bind (dq_u2 (h1 (by decide)) (h2 (by decide)))).trans rfl
set_option maxRecDepth 16384 in
theorem dq_o104 : ∀ (c : ByteArray) (p x y : Nat), dq_b c p = some 104 → (2 ≤ 1 → dq_b c (p + 1) = some x) → (3 ≤ 1 → dq_b c (p + 2) = some y) → decode c p = .ok (.imul, 1) := by
  intro c p x y h0 h1 h2
  refine dq_dec ?_
  delta Decoder.instr
  refine (dq_bind (dq_u1 h0)).trans ?_
  exact rfl
set_option maxRecDepth 16384 in
theorem dq_o75 : ∀ (c : ByteArray) (p x y : Nat), dq_b c p = some 75 → (2 ≤ 1 → dq_b c (p + 1) = some x) → (3 ≤ 1 → dq_b c (p + 2) = some y) → decode c p = .ok (.astore_n 0, 1) := by
  intro c p x y h0 h1 h2
  refine dq_dec ?_
  delta Decoder.instr
  refine (dq_bind (dq_u1 h0)).trans ?_
  exact rfl
set_option maxRecDepth 16384 in
theorem dq_o76 : ∀ (c : ByteArray) (p x y : Nat), dq_b c p = some 76 → (2 ≤ 1 → dq_b c (p + 1) = some x) → (3 ≤ 1 → dq_b c (p + 2) = some y) → decode c p = .ok (.astore_n 1, 1) := by
  intro c p x y h0 h1 h2
  refine dq_dec ?_
  delta Decoder.instr
  refine (dq_bind (dq_u1 h0)).trans ?_
  exact rfl
set_option maxRecDepth 16384 in
theorem dq_o77 : ∀ (c : ByteArray) (p x y : Nat), dq_b c p = some 77 → (2 ≤ 1 → dq_b c (p + 1) = some x) → (3 ≤ 1 → dq_b c (p + 2) = some y) → decode c p = .ok (.astore_n 2, 1) := by
  intro c p x y h0 h1 h2
  refine dq_dec ?_
  delta Decoder.instr
  refine (dq_bind (dq_u1 h0)).trans ?_
  exact rfl
set_option maxRecDepth 16384 in
theorem dq_o78 : ∀ (c : ByteArray) (p x y : Nat), dq_b c p = some 78 → (2 ≤ 1 → dq_b c (p + 1) = some x) → (3 ≤ 1 → dq_b c (p + 2) = some y) → decode c p = .ok (.astore_n 3, 1) := by
  intro c p x y h0 h1 h2
  refine dq_dec ?_
  delta Decoder.instr
  refine (dq_bind (dq_u1 h0)).trans ?_
  exact rfl
set_option maxRecDepth 16384 in
theorem dq_o187 : ∀ (c : ByteArray) (p x y : Nat), dq_b c p = some 187 → (2 ≤ 3 → dq_b c (p + 1) = some x) → (3 ≤ 3 → dq_b c (p + 2) = some y) → decode c p = .ok (.new (x * 256 + y), 3) := by
  intro c p x y h0 h1 h2
  refine dq_dec ?_
  delta Decoder.instr
  refine (dq_bind (dq_u1 h0)).trans ?_
  exact (dq_bind (dq_u2 (h1 (by decide)) (h2 (by decide)))).trans rfl
set_option maxRecDepth 16384 in
theorem dq_o9 : ∀ (c : ByteArray) (p x y : Nat), dq_b c p = some 9 → (2 ≤ 1 → dq_b c (p + 1) = some x) → (3 ≤ 1 → dq_b c (p + 2) = some y) → decode c p = .ok (.lconst 0, 1) := by
  intro c p x y h0 h1 h2
  refine dq_dec ?_
  delta Decoder.instr
  refine (dq_bind (dq_u1 h0)).trans ?_
  exact rfl
set_option maxRecDepth 16384 in
theorem dq_o10 : ∀ (c : ByteArray) (p x y : Nat), dq_b c p = some 10 → (2 ≤ 1 → dq_b c (p + 1) = some x) → (3 ≤ 1 → dq_b c (p + 2) = some y) → decode c p = .ok (.lconst 1, 1) := by
  intro c p x y h0 h1 h2
  refine dq_dec ?_
  delta Decoder.instr
  refine (dq_bind (dq_u1 h0)).trans ?_
  exact rfl
set_option maxRecDepth 16384 in
theorem dq_o87 : ∀ (c : ByteArray) (p x y : Nat), dq_b c p = some 87 → (2 ≤ 1 → dq_b c (p + 1) = some x) → (3 ≤ 1 → dq_b c (p + 2) = some y) → decode c p = .ok (.pop, 1) := by
  intro c p x y h0 h1 h2
  refine dq_dec ?_
  delta Decoder.instr
  refine (dq_bind (dq_u1 h0)).trans ?_
  exact rfl
set_option maxRecDepth 16384 in
theorem dq_o120 : ∀ (c : ByteArray) (p x y : Nat), dq_b c p = some 120 → (2 ≤ 1 → dq_b c (p + 1) = some x) → (3 ≤ 1 → dq_b c (p + 2) = some y) → decode c p = .ok (.ishl, 1) := by
  intro c p x y h0 h1 h2
  refine dq_dec ?_
  delta Decoder.instr
  refine (dq_bind (dq_u1 h0)).trans ?_
  exact rfl
set_option maxRecDepth 16384 in
theorem dq_o190 : ∀ (c : ByteArray) (p x y : Nat), dq_b c p = some 190 → (2 ≤ 1 → dq_b c (p + 1) = some x) → (3 ≤ 1 → dq_b c (p + 2) = some y) → decode c p = .ok (.arraylength, 1) := by
  intro c p x y h0 h1 h2
  refine dq_dec ?_
  delta Decoder.instr
  refine (dq_bind (dq_u1 h0)).trans ?_
  exact rfl
set_option maxRecDepth 16384 in
theorem dq_o126 : ∀ (c : ByteArray) (p x y : Nat), dq_b c p = some 126 → (2 ≤ 1 → dq_b c (p + 1) = some x) → (3 ≤ 1 → dq_b c (p + 2) = some y) → decode c p = .ok (.iand, 1) := by
  intro c p x y h0 h1 h2
  refine dq_dec ?_
  delta Decoder.instr
  refine (dq_bind (dq_u1 h0)).trans ?_
  exact rfl
set_option maxRecDepth 16384 in
theorem dq_o25 : ∀ (c : ByteArray) (p x y : Nat), dq_b c p = some 25 → (2 ≤ 2 → dq_b c (p + 1) = some x) → (3 ≤ 2 → dq_b c (p + 2) = some y) → decode c p = .ok (.aload x, 2) := by
  intro c p x y h0 h1 h2
  refine dq_dec ?_
  delta Decoder.instr
  refine (dq_bind (dq_u1 h0)).trans ?_
  exact (dq_bind (dq_u1 (h1 (by decide)))).trans rfl
set_option maxRecDepth 16384 in
theorem dq_o19 : ∀ (c : ByteArray) (p x y : Nat), dq_b c p = some 19 → (2 ≤ 3 → dq_b c (p + 1) = some x) → (3 ≤ 3 → dq_b c (p + 2) = some y) → decode c p = .ok (.ldc_w (x * 256 + y), 3) := by
  intro c p x y h0 h1 h2
  refine dq_dec ?_
  delta Decoder.instr
  refine (dq_bind (dq_u1 h0)).trans ?_
  exact (dq_bind (dq_u2 (h1 (by decide)) (h2 (by decide)))).trans rfl
set_option maxRecDepth 16384 in
theorem dq_o20 : ∀ (c : ByteArray) (p x y : Nat), dq_b c p = some 20 → (2 ≤ 3 → dq_b c (p + 1) = some x) → (3 ≤ 3 → dq_b c (p + 2) = some y) → decode c p = .ok (.ldc2_w (x * 256 + y), 3) := by
  intro c p x y h0 h1 h2
  refine dq_dec ?_
  delta Decoder.instr
  refine (dq_bind (dq_u1 h0)).trans ?_
  exact (dq_bind (dq_u2 (h1 (by decide)) (h2 (by decide)))).trans rfl
set_option maxRecDepth 16384 in
theorem dq_o108 : ∀ (c : ByteArray) (p x y : Nat), dq_b c p = some 108 → (2 ≤ 1 → dq_b c (p + 1) = some x) → (3 ≤ 1 → dq_b c (p + 2) = some y) → decode c p = .ok (.idiv, 1) := by
  intro c p x y h0 h1 h2
  refine dq_dec ?_
  delta Decoder.instr
  refine (dq_bind (dq_u1 h0)).trans ?_
  exact rfl
set_option maxRecDepth 16384 in
theorem dq_o112 : ∀ (c : ByteArray) (p x y : Nat), dq_b c p = some 112 → (2 ≤ 1 → dq_b c (p + 1) = some x) → (3 ≤ 1 → dq_b c (p + 2) = some y) → decode c p = .ok (.irem, 1) := by
  intro c p x y h0 h1 h2
  refine dq_dec ?_
  delta Decoder.instr
  refine (dq_bind (dq_u1 h0)).trans ?_
  exact rfl
set_option maxRecDepth 16384 in
theorem dq_o92 : ∀ (c : ByteArray) (p x y : Nat), dq_b c p = some 92 → (2 ≤ 1 → dq_b c (p + 1) = some x) → (3 ≤ 1 → dq_b c (p + 2) = some y) → decode c p = .ok (.dup2, 1) := by
  intro c p x y h0 h1 h2
  refine dq_dec ?_
  delta Decoder.instr
  refine (dq_bind (dq_u1 h0)).trans ?_
  exact rfl
set_option maxRecDepth 16384 in
theorem dq_o83 : ∀ (c : ByteArray) (p x y : Nat), dq_b c p = some 83 → (2 ≤ 1 → dq_b c (p + 1) = some x) → (3 ≤ 1 → dq_b c (p + 2) = some y) → decode c p = .ok (.aastore, 1) := by
  intro c p x y h0 h1 h2
  refine dq_dec ?_
  delta Decoder.instr
  refine (dq_bind (dq_u1 h0)).trans ?_
  exact rfl
set_option maxRecDepth 16384 in
theorem dq_o128 : ∀ (c : ByteArray) (p x y : Nat), dq_b c p = some 128 → (2 ≤ 1 → dq_b c (p + 1) = some x) → (3 ≤ 1 → dq_b c (p + 2) = some y) → decode c p = .ok (.ior, 1) := by
  intro c p x y h0 h1 h2
  refine dq_dec ?_
  delta Decoder.instr
  refine (dq_bind (dq_u1 h0)).trans ?_
  exact rfl
set_option maxRecDepth 16384 in
theorem dq_o191 : ∀ (c : ByteArray) (p x y : Nat), dq_b c p = some 191 → (2 ≤ 1 → dq_b c (p + 1) = some x) → (3 ≤ 1 → dq_b c (p + 2) = some y) → decode c p = .ok (.athrow, 1) := by
  intro c p x y h0 h1 h2
  refine dq_dec ?_
  delta Decoder.instr
  refine (dq_bind (dq_u1 h0)).trans ?_
  exact rfl
set_option maxRecDepth 16384 in
theorem dq_o122 : ∀ (c : ByteArray) (p x y : Nat), dq_b c p = some 122 → (2 ≤ 1 → dq_b c (p + 1) = some x) → (3 ≤ 1 → dq_b c (p + 2) = some y) → decode c p = .ok (.ishr, 1) := by
  intro c p x y h0 h1 h2
  refine dq_dec ?_
  delta Decoder.instr
  refine (dq_bind (dq_u1 h0)).trans ?_
  exact rfl
set_option maxRecDepth 16384 in
theorem dq_o124 : ∀ (c : ByteArray) (p x y : Nat), dq_b c p = some 124 → (2 ≤ 1 → dq_b c (p + 1) = some x) → (3 ≤ 1 → dq_b c (p + 2) = some y) → decode c p = .ok (.iushr, 1) := by
  intro c p x y h0 h1 h2
  refine dq_dec ?_
  delta Decoder.instr
  refine (dq_bind (dq_u1 h0)).trans ?_
  exact rfl
set_option maxRecDepth 16384 in
theorem dq_o178 : ∀ (c : ByteArray) (p x y : Nat), dq_b c p = some 178 → (2 ≤ 3 → dq_b c (p + 1) = some x) → (3 ≤ 3 → dq_b c (p + 2) = some y) → decode c p = .ok (.getstatic (x * 256 + y), 3) := by
  intro c p x y h0 h1 h2
  refine dq_dec ?_
  delta Decoder.instr
  refine (dq_bind (dq_u1 h0)).trans ?_
  exact (dq_bind (dq_u2 (h1 (by decide)) (h2 (by decide)))).trans rfl
set_option maxRecDepth 16384 in
theorem dq_o51 : ∀ (c : ByteArray) (p x y : Nat), dq_b c p = some 51 → (2 ≤ 1 → dq_b c (p + 1) = some x) → (3 ≤ 1 → dq_b c (p + 2) = some y) → decode c p = .ok (.baload, 1) := by
  intro c p x y h0 h1 h2
  refine dq_dec ?_
  delta Decoder.instr
  refine (dq_bind (dq_u1 h0)).trans ?_
  exact rfl
set_option maxRecDepth 16384 in
theorem dq_o50 : ∀ (c : ByteArray) (p x y : Nat), dq_b c p = some 50 → (2 ≤ 1 → dq_b c (p + 1) = some x) → (3 ≤ 1 → dq_b c (p + 2) = some y) → decode c p = .ok (.aaload, 1) := by
  intro c p x y h0 h1 h2
  refine dq_dec ?_
  delta Decoder.instr
  refine (dq_bind (dq_u1 h0)).trans ?_
  exact rfl
set_option maxRecDepth 16384 in
theorem dq_o130 : ∀ (c : ByteArray) (p x y : Nat), dq_b c p = some 130 → (2 ≤ 1 → dq_b c (p + 1) = some x) → (3 ≤ 1 → dq_b c (p + 2) = some y) → decode c p = .ok (.ixor, 1) := by
  intro c p x y h0 h1 h2
  refine dq_dec ?_
  delta Decoder.instr
  refine (dq_bind (dq_u1 h0)).trans ?_
  exact rfl
set_option maxRecDepth 16384 in
theorem dq_o146 : ∀ (c : ByteArray) (p x y : Nat), dq_b c p = some 146 → (2 ≤ 1 → dq_b c (p + 1) = some x) → (3 ≤ 1 → dq_b c (p + 2) = some y) → decode c p = .ok (.i2c, 1) := by
  intro c p x y h0 h1 h2
  refine dq_dec ?_
  delta Decoder.instr
  refine (dq_bind (dq_u1 h0)).trans ?_
  exact rfl
set_option maxRecDepth 16384 in
theorem dq_o148 : ∀ (c : ByteArray) (p x y : Nat), dq_b c p = some 148 → (2 ≤ 1 → dq_b c (p + 1) = some x) → (3 ≤ 1 → dq_b c (p + 2) = some y) → decode c p = .ok (.lcmp, 1) := by
  intro c p x y h0 h1 h2
  refine dq_dec ?_
  delta Decoder.instr
  refine (dq_bind (dq_u1 h0)).trans ?_
  exact rfl
set_option maxRecDepth 16384 in
theorem dq_o30 : ∀ (c : ByteArray) (p x y : Nat), dq_b c p = some 30 → (2 ≤ 1 → dq_b c (p + 1) = some x) → (3 ≤ 1 → dq_b c (p + 2) = some y) → decode c p = .ok (.lload_n 0, 1) := by
  intro c p x y h0 h1 h2
  refine dq_dec ?_
  delta Decoder.instr
  refine (dq_bind (dq_u1 h0)).trans ?_
  exact rfl
set_option maxRecDepth 16384 in
theorem dq_o31 : ∀ (c : ByteArray) (p x y : Nat), dq_b c p = some 31 → (2 ≤ 1 → dq_b c (p + 1) = some x) → (3 ≤ 1 → dq_b c (p + 2) = some y) → decode c p = .ok (.lload_n 1, 1) := by
  intro c p x y h0 h1 h2
  refine dq_dec ?_
  delta Decoder.instr
  refine (dq_bind (dq_u1 h0)).trans ?_
  exact rfl
set_option maxRecDepth 16384 in
theorem dq_o32 : ∀ (c : ByteArray) (p x y : Nat), dq_b c p = some 32 → (2 ≤ 1 → dq_b c (p + 1) = some x) → (3 ≤ 1 → dq_b c (p + 2) = some y) → decode c p = .ok (.lload_n 2, 1) := by
  intro c p x y h0 h1 h2
  refine dq_dec ?_
  delta Decoder.instr
  refine (dq_bind (dq_u1 h0)).trans ?_
  exact rfl
set_option maxRecDepth 16384 in
theorem dq_o33 : ∀ (c : ByteArray) (p x y : Nat), dq_b c p = some 33 → (2 ≤ 1 → dq_b c (p + 1) = some x) → (3 ≤ 1 → dq_b c (p + 2) = some y) → decode c p = .ok (.lload_n 3, 1) := by
  intro c p x y h0 h1 h2
  refine dq_dec ?_
  delta Decoder.instr
  refine (dq_bind (dq_u1 h0)).trans ?_
  exact rfl
set_option maxRecDepth 16384 in
theorem dq_o189 : ∀ (c : ByteArray) (p x y : Nat), dq_b c p = some 189 → (2 ≤ 3 → dq_b c (p + 1) = some x) → (3 ≤ 3 → dq_b c (p + 2) = some y) → decode c p = .ok (.anewarray (x * 256 + y), 3) := by
  intro c p x y h0 h1 h2
  refine dq_dec ?_
  delta Decoder.instr
  refine (dq_bind (dq_u1 h0)).trans ?_
  exact (dq_bind (dq_u2 (h1 (by decide)) (h2 (by decide)))).trans rfl
set_option maxRecDepth 16384 in
theorem dq_o47 : ∀ (c : ByteArray) (p x y : Nat), dq_b c p = some 47 → (2 ≤ 1 → dq_b c (p + 1) = some x) → (3 ≤ 1 → dq_b c (p + 2) = some y) → decode c p = .ok (.laload, 1) := by
  intro c p x y h0 h1 h2
  refine dq_dec ?_
  delta Decoder.instr
  refine (dq_bind (dq_u1 h0)).trans ?_
  exact rfl
set_option maxRecDepth 16384 in
theorem dq_o145 : ∀ (c : ByteArray) (p x y : Nat), dq_b c p = some 145 → (2 ≤ 1 → dq_b c (p + 1) = some x) → (3 ≤ 1 → dq_b c (p + 2) = some y) → decode c p = .ok (.i2b, 1) := by
  intro c p x y h0 h1 h2
  refine dq_dec ?_
  delta Decoder.instr
  refine (dq_bind (dq_u1 h0)).trans ?_
  exact rfl
set_option maxRecDepth 16384 in
theorem dq_o84 : ∀ (c : ByteArray) (p x y : Nat), dq_b c p = some 84 → (2 ≤ 1 → dq_b c (p + 1) = some x) → (3 ≤ 1 → dq_b c (p + 2) = some y) → decode c p = .ok (.bastore, 1) := by
  intro c p x y h0 h1 h2
  refine dq_dec ?_
  delta Decoder.instr
  refine (dq_bind (dq_u1 h0)).trans ?_
  exact rfl
set_option maxRecDepth 16384 in
theorem dq_o22 : ∀ (c : ByteArray) (p x y : Nat), dq_b c p = some 22 → (2 ≤ 2 → dq_b c (p + 1) = some x) → (3 ≤ 2 → dq_b c (p + 2) = some y) → decode c p = .ok (.lload x, 2) := by
  intro c p x y h0 h1 h2
  refine dq_dec ?_
  delta Decoder.instr
  refine (dq_bind (dq_u1 h0)).trans ?_
  exact (dq_bind (dq_u1 (h1 (by decide)))).trans rfl
def dq_T : List dq_R := [(42, 1, fun x y => .aload_n 0), (43, 1, fun x y => .aload_n 1), (44, 1, fun x y => .aload_n 2), (45, 1, fun x y => .aload_n 3), (26, 1, fun x y => .iload_n 0), (27, 1, fun x y => .iload_n 1), (28, 1, fun x y => .iload_n 2), (29, 1, fun x y => .iload_n 3), (2, 1, fun x y => .iconst (-1)), (3, 1, fun x y => .iconst (0)), (4, 1, fun x y => .iconst (1)), (5, 1, fun x y => .iconst (2)), (6, 1, fun x y => .iconst (3)), (7, 1, fun x y => .iconst (4)), (8, 1, fun x y => .iconst (5)), (180, 3, fun x y => .getfield (x * 256 + y)), (182, 3, fun x y => .invokevirtual (x * 256 + y)), (172, 1, fun x y => .ireturn), (21, 2, fun x y => .iload x), (46, 1, fun x y => .iaload), (167, 3, fun x y => .goto (Reader.signed 16 (x * 256 + y))), (181, 3, fun x y => .putfield (x * 256 + y)), (96, 1, fun x y => .iadd), (153, 3, fun x y => .ifCond .eq (Reader.signed 16 (x * 256 + y))), (154, 3, fun x y => .ifCond .ne (Reader.signed 16 (x * 256 + y))), (155, 3, fun x y => .ifCond .lt (Reader.signed 16 (x * 256 + y))), (156, 3, fun x y => .ifCond .ge (Reader.signed 16 (x * 256 + y))), (157, 3, fun x y => .ifCond .gt (Reader.signed 16 (x * 256 + y))), (158, 3, fun x y => .ifCond .le (Reader.signed 16 (x * 256 + y))), (159, 3, fun x y => .if_icmp .eq (Reader.signed 16 (x * 256 + y))), (160, 3, fun x y => .if_icmp .ne (Reader.signed 16 (x * 256 + y))), (161, 3, fun x y => .if_icmp .lt (Reader.signed 16 (x * 256 + y))), (162, 3, fun x y => .if_icmp .ge (Reader.signed 16 (x * 256 + y))), (163, 3, fun x y => .if_icmp .gt (Reader.signed 16 (x * 256 + y))), (164, 3, fun x y => .if_icmp .le (Reader.signed 16 (x * 256 + y))), (16, 2, fun x y => .bipush (Reader.signed 8 x)), (184, 3, fun x y => .invokestatic (x * 256 + y)), (54, 2, fun x y => .istore x), (59, 1, fun x y => .istore_n 0), (60, 1, fun x y => .istore_n 1), (61, 1, fun x y => .istore_n 2), (62, 1, fun x y => .istore_n 3), (132, 3, fun x y => .iinc x (Reader.signed 8 y)), (79, 1, fun x y => .iastore), (177, 1, fun x y => .return_), (89, 1, fun x y => .dup), (133, 1, fun x y => .i2l), (17, 3, fun x y => .sipush (Reader.signed 16 (x * 256 + y))), (80, 1, fun x y => .lastore), (100, 1, fun x y => .isub), (58, 2, fun x y => .astore x), (18, 2, fun x y => .ldc x), (183, 3, fun x y => .invokespecial (x * 256 + y)), (104, 1, fun x y => .imul), (75, 1, fun x y => .astore_n 0), (76, 1, fun x y => .astore_n 1), (77, 1, fun x y => .astore_n 2), (78, 1, fun x y => .astore_n 3), (187, 3, fun x y => .new (x * 256 + y)), (9, 1, fun x y => .lconst 0), (10, 1, fun x y => .lconst 1), (87, 1, fun x y => .pop), (120, 1, fun x y => .ishl), (190, 1, fun x y => .arraylength), (126, 1, fun x y => .iand), (25, 2, fun x y => .aload x), (19, 3, fun x y => .ldc_w (x * 256 + y)), (20, 3, fun x y => .ldc2_w (x * 256 + y)), (108, 1, fun x y => .idiv), (112, 1, fun x y => .irem), (92, 1, fun x y => .dup2), (83, 1, fun x y => .aastore), (128, 1, fun x y => .ior), (191, 1, fun x y => .athrow), (122, 1, fun x y => .ishr), (124, 1, fun x y => .iushr), (178, 3, fun x y => .getstatic (x * 256 + y)), (51, 1, fun x y => .baload), (50, 1, fun x y => .aaload), (130, 1, fun x y => .ixor), (146, 1, fun x y => .i2c), (148, 1, fun x y => .lcmp), (30, 1, fun x y => .lload_n 0), (31, 1, fun x y => .lload_n 1), (32, 1, fun x y => .lload_n 2), (33, 1, fun x y => .lload_n 3), (189, 3, fun x y => .anewarray (x * 256 + y)), (47, 1, fun x y => .laload), (145, 1, fun x y => .i2b), (84, 1, fun x y => .bastore), (22, 2, fun x y => .lload x)]
theorem dq_Tok : ∀ r ∈ dq_T, dq_ok r := List.forall_mem_cons.mpr ⟨dq_o42, List.forall_mem_cons.mpr ⟨dq_o43, List.forall_mem_cons.mpr ⟨dq_o44, List.forall_mem_cons.mpr ⟨dq_o45, List.forall_mem_cons.mpr ⟨dq_o26, List.forall_mem_cons.mpr ⟨dq_o27, List.forall_mem_cons.mpr ⟨dq_o28, List.forall_mem_cons.mpr ⟨dq_o29, List.forall_mem_cons.mpr ⟨dq_o2, List.forall_mem_cons.mpr ⟨dq_o3, List.forall_mem_cons.mpr ⟨dq_o4, List.forall_mem_cons.mpr ⟨dq_o5, List.forall_mem_cons.mpr ⟨dq_o6, List.forall_mem_cons.mpr ⟨dq_o7, List.forall_mem_cons.mpr ⟨dq_o8, List.forall_mem_cons.mpr ⟨dq_o180, List.forall_mem_cons.mpr ⟨dq_o182, List.forall_mem_cons.mpr ⟨dq_o172, List.forall_mem_cons.mpr ⟨dq_o21, List.forall_mem_cons.mpr ⟨dq_o46, List.forall_mem_cons.mpr ⟨dq_o167, List.forall_mem_cons.mpr ⟨dq_o181, List.forall_mem_cons.mpr ⟨dq_o96, List.forall_mem_cons.mpr ⟨dq_o153, List.forall_mem_cons.mpr ⟨dq_o154, List.forall_mem_cons.mpr ⟨dq_o155, List.forall_mem_cons.mpr ⟨dq_o156, List.forall_mem_cons.mpr ⟨dq_o157, List.forall_mem_cons.mpr ⟨dq_o158, List.forall_mem_cons.mpr ⟨dq_o159, List.forall_mem_cons.mpr ⟨dq_o160, List.forall_mem_cons.mpr ⟨dq_o161, List.forall_mem_cons.mpr ⟨dq_o162, List.forall_mem_cons.mpr ⟨dq_o163, List.forall_mem_cons.mpr ⟨dq_o164, List.forall_mem_cons.mpr ⟨dq_o16, List.forall_mem_cons.mpr ⟨dq_o184, List.forall_mem_cons.mpr ⟨dq_o54, List.forall_mem_cons.mpr ⟨dq_o59, List.forall_mem_cons.mpr ⟨dq_o60, List.forall_mem_cons.mpr ⟨dq_o61, List.forall_mem_cons.mpr ⟨dq_o62, List.forall_mem_cons.mpr ⟨dq_o132, List.forall_mem_cons.mpr ⟨dq_o79, List.forall_mem_cons.mpr ⟨dq_o177, List.forall_mem_cons.mpr ⟨dq_o89, List.forall_mem_cons.mpr ⟨dq_o133, List.forall_mem_cons.mpr ⟨dq_o17, List.forall_mem_cons.mpr ⟨dq_o80, List.forall_mem_cons.mpr ⟨dq_o100, List.forall_mem_cons.mpr ⟨dq_o58, List.forall_mem_cons.mpr ⟨dq_o18, List.forall_mem_cons.mpr ⟨dq_o183, List.forall_mem_cons.mpr ⟨dq_o104, List.forall_mem_cons.mpr ⟨dq_o75, List.forall_mem_cons.mpr ⟨dq_o76, List.forall_mem_cons.mpr ⟨dq_o77, List.forall_mem_cons.mpr ⟨dq_o78, List.forall_mem_cons.mpr ⟨dq_o187, List.forall_mem_cons.mpr ⟨dq_o9, List.forall_mem_cons.mpr ⟨dq_o10, List.forall_mem_cons.mpr ⟨dq_o87, List.forall_mem_cons.mpr ⟨dq_o120, List.forall_mem_cons.mpr ⟨dq_o190, List.forall_mem_cons.mpr ⟨dq_o126, List.forall_mem_cons.mpr ⟨dq_o25, List.forall_mem_cons.mpr ⟨dq_o19, List.forall_mem_cons.mpr ⟨dq_o20, List.forall_mem_cons.mpr ⟨dq_o108, List.forall_mem_cons.mpr ⟨dq_o112, List.forall_mem_cons.mpr ⟨dq_o92, List.forall_mem_cons.mpr ⟨dq_o83, List.forall_mem_cons.mpr ⟨dq_o128, List.forall_mem_cons.mpr ⟨dq_o191, List.forall_mem_cons.mpr ⟨dq_o122, List.forall_mem_cons.mpr ⟨dq_o124, List.forall_mem_cons.mpr ⟨dq_o178, List.forall_mem_cons.mpr ⟨dq_o51, List.forall_mem_cons.mpr ⟨dq_o50, List.forall_mem_cons.mpr ⟨dq_o130, List.forall_mem_cons.mpr ⟨dq_o146, List.forall_mem_cons.mpr ⟨dq_o148, List.forall_mem_cons.mpr ⟨dq_o30, List.forall_mem_cons.mpr ⟨dq_o31, List.forall_mem_cons.mpr ⟨dq_o32, List.forall_mem_cons.mpr ⟨dq_o33, List.forall_mem_cons.mpr ⟨dq_o189, List.forall_mem_cons.mpr ⟨dq_o47, List.forall_mem_cons.mpr ⟨dq_o145, List.forall_mem_cons.mpr ⟨dq_o84, List.forall_mem_cons.mpr ⟨dq_o22, fun _ h => nomatch h⟩⟩⟩⟩⟩⟩⟩⟩⟩⟩⟩⟩⟩⟩⟩⟩⟩⟩⟩⟩⟩⟩⟩⟩⟩⟩⟩⟩⟩⟩⟩⟩⟩⟩⟩⟩⟩⟩⟩⟩⟩⟩⟩⟩⟩⟩⟩⟩⟩⟩⟩⟩⟩⟩⟩⟩⟩⟩⟩⟩⟩⟩⟩⟩⟩⟩⟩⟩⟩⟩⟩⟩⟩⟩⟩⟩⟩⟩⟩⟩⟩⟩⟩⟩⟩⟩⟩⟩⟩⟩⟩
def dq_find (b : Nat) : List dq_R → Option dq_R
  | [] => none
  | r :: t => bif Nat.beq r.1 b then some r else dq_find b t
theorem dq_find_ok {b : Nat} : ∀ {l : List dq_R} {r : dq_R}, dq_find b l = some r → r ∈ l ∧ r.1 = b
  | [], _, h => nomatch h
  | q :: t, r, h => by
    unfold dq_find at h
    cases hb : Nat.beq q.1 b with
    | true =>
      rw [hb] at h
      change some q = some r at h
      cases h
      exact ⟨List.mem_cons_self, Nat.eq_of_beq_eq_true hb⟩
    | false =>
      rw [hb] at h
      change dq_find b t = some r at h
      exact ⟨List.mem_cons_of_mem _ (dq_find_ok h).1, (dq_find_ok h).2⟩
def dq_at (l : List UInt8) (j : Nat) : Option Nat := (l[j]?).map UInt8.toNat
def dq_f3 (r : dq_R) (x : Nat) : Option Nat → Option (Instr × Nat)
  | none => none
  | some y => some (r.2.2 x y, r.2.1)
def dq_f2 (r : dq_R) (l : List UInt8) : Option Nat → Option (Instr × Nat)
  | none => none
  | some x => bif Nat.beq r.2.1 2 then some (r.2.2 x 0, r.2.1) else dq_f3 r x (dq_at l 2)
def dq_f1 (l : List UInt8) : Option dq_R → Option (Instr × Nat)
  | none => none
  | some r => bif Nat.beq r.2.1 1 then some (r.2.2 0 0, r.2.1) else dq_f2 r l (dq_at l 1)
def dq_f0 (l : List UInt8) : Option Nat → Option (Instr × Nat)
  | none => none
  | some b => dq_f1 l (dq_find b dq_T)
/-- the instruction that a list of bytes begins with -/
def dq_run (l : List UInt8) : Option (Instr × Nat) := dq_f0 l (dq_at l 0)
theorem dq_run_ok {c : ByteArray} {p : Nat} {l : List UInt8} {q : Instr × Nat} (hl : ∀ j, l[j]? = c.data.toList[p + j]?) (h : dq_run l = some q) : decode c p = .ok q := by
  have hb : ∀ j, dq_at l j = dq_b c (p + j) := fun j => by unfold dq_at dq_b; rw [hl]
  change dq_f0 l (dq_at l 0) = some q at h
  cases h0 : dq_at l 0 with
  | none => rw [h0] at h; exact nomatch (show (none : Option (Instr × Nat)) = some q from h)
  | some b =>
    rw [h0] at h
    change dq_f1 l (dq_find b dq_T) = some q at h
    cases hr : dq_find b dq_T with
    | none => rw [hr] at h; exact nomatch (show (none : Option (Instr × Nat)) = some q from h)
    | some r =>
      rw [hr] at h
      change (bif Nat.beq r.2.1 1 then some (r.2.2 0 0, r.2.1) else dq_f2 r l (dq_at l 1)) = some q at h
      obtain ⟨hm, he⟩ := dq_find_ok hr
      have hk := dq_Tok r hm c p
      have hz : dq_b c p = some r.1 := by rw [he, ← h0]; exact (hb 0).symm
      cases h1 : Nat.beq r.2.1 1 with
      | true =>
        rw [h1] at h
        change some (r.2.2 0 0, r.2.1) = some q at h
        have e := Nat.eq_of_beq_eq_true h1
        cases h
        exact hk 0 0 hz (fun k => absurd k (by rw [e]; decide)) (fun k => absurd k (by rw [e]; decide))
      | false =>
        rw [h1] at h
        change dq_f2 r l (dq_at l 1) = some q at h
        cases hx : dq_at l 1 with
        | none => rw [hx] at h; exact nomatch (show (none : Option (Instr × Nat)) = some q from h)
        | some x =>
          rw [hx] at h
          change (bif Nat.beq r.2.1 2 then some (r.2.2 x 0, r.2.1) else dq_f3 r x (dq_at l 2)) = some q at h
          have hx' : dq_b c (p + 1) = some x := (hb 1).symm.trans hx
          cases h2 : Nat.beq r.2.1 2 with
          | true =>
            rw [h2] at h
            change some (r.2.2 x 0, r.2.1) = some q at h
            have e := Nat.eq_of_beq_eq_true h2
            cases h
            exact hk x 0 hz (fun _ => hx') (fun k => absurd k (by rw [e]; decide))
          | false =>
            rw [h2] at h
            change dq_f3 r x (dq_at l 2) = some q at h
            cases hy : dq_at l 2 with
            | none => rw [hy] at h; exact nomatch (show (none : Option (Instr × Nat)) = some q from h)
            | some y =>
              rw [hy] at h
              change some (r.2.2 x y, r.2.1) = some q at h
              cases h
              exact hk x y hz (fun _ => hx') (fun _ => (hb 2).symm.trans hy)
def dq_a1 (a : Nat) (g : Nat → List (Nat × Instr × Nat)) : Option (Instr × Nat) → List (Nat × Instr × Nat)
  | none => []
  | some r => (a, r) :: g r.2
/-- k instructions from place a on -/
def dq_all : Nat → Nat → List UInt8 → List (Nat × Instr × Nat)
  | 0, _, _ => []
  | k + 1, a, l => dq_a1 a (fun n => dq_all k (a + n) (l.drop n)) (dq_run l)
def dq_F (c : ByteArray) : List (Nat × Instr × Nat) → Prop
  | [] => True
  | r :: t => decode c r.1 = .ok r.2 ∧ dq_F c t
theorem dq_sound {c : ByteArray} : ∀ (k a : Nat) (l : List UInt8), (∀ j, l[j]? = c.data.toList[a + j]?) → dq_F c (dq_all k a l)
  | 0, _, _, _ => True.intro
  | k + 1, a, l, hl => by
    show dq_F c (dq_a1 a (fun n => dq_all k (a + n) (l.drop n)) (dq_run l))
    cases hr : dq_run l with
    | none => exact True.intro
    | some r =>
      show decode c a = .ok r ∧ dq_F c (dq_all k (a + r.2) (l.drop r.2))
      exact ⟨dq_run_ok hl hr, dq_sound k _ _ (fun j => by rw [List.getElem?_drop, hl, Nat.add_assoc])⟩
theorem dq_s {c : ByteArray} {t : List (Nat × Instr × Nat)} (k a : Nat) (h : dq_all k a (c.data.toList.drop a) = t) : dq_F c t := by
  subst h
  exact dq_sound k a _ (fun j => by rw [List.getElem?_drop])
theorem dq_h {c : ByteArray} {p n : Nat} {i : Instr} {t : List (Nat × Instr × Nat)} (h : dq_F c ((p, i, n) :: t)) : decode c p = .ok (i, n) := h.1
theorem dq_t {c : ByteArray} {r : Nat × Instr × Nat} {t : List (Nat × Instr × Nat)} (h : dq_F c (r :: t)) : dq_F c t := h.2

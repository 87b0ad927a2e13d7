section TNEW
variable {p : Program} {l : Launch} {e : Env} {R : Room} {s : State} {m : MethodId} {args : Array Value} {below : List Frame} {meth : Method} {c : Code} {H : Heap} {locs : List Loc} {cs sl : Nat} {Am : (Nat → Prop) → State → Heap → Prop}
variable {cc : ByteArray} {nL pc u ii ist : Nat} {ret : Option FieldType} {D : va_G} {tys : List (ClassId × FieldType)} {g : Nat → Nat} {cI cB cZ cQ : ClassId} {S : gS} {ls : Array Slot} {rest : List Value} {vd : Bool} {aK aV : Nat → Nat} {tx : String}
theorem t_x (C : gC p s m args meth c cc nL RX11 ret D tys xord g Am) (X : gX D (xcell g cI cB cZ cQ) xord g S s H locs) {n : Nat} (hn : n ≠ 0) {E : String} (hE : E = tE n) : ∀ t : State, s.vm.Alike t.vm → H.size ≤ t.heap.size → (∀ q : Nat, q < H.size → t.heap[q]? = H[q]?) → gXX D tys (xcell g cI cB cZ cQ) xord g s.heap.size (n, 0, S) E s t := by
  intro t hv hz hk
  refine ⟨hn, hE, X.1.kept (fun k q hq => hk q.1 (va_at.lt (X.1 k q hq))), va_K.moved hv C.2.1, Nat.le_trans X.2.1 hz, fun q h1 h2 => ?_⟩
  rw [hk q (Nat.lt_of_lt_of_le h1 X.2.1)]
  exact X.2.2.1 q h1 h2
end TNEW

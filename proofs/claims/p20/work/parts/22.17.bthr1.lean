section TNEW
variable {p : Program} {l : Launch} {e : Env} {R : Room} {s : State} {m : MethodId} {args : Array Value} {below : List Frame} {meth : Method} {c : Code} {H : Heap} {locs : List Loc} {cs sl : Nat} {Am : (Nat → Prop) → State → Heap → Prop}
variable {cc : ByteArray} {nL pc u ii ist : Nat} {ret : Option FieldType} {D : va_G} {tys : List (ClassId × FieldType)} {g : Nat → Nat} {cI cB cZ cQ : ClassId} {S : gS} {ls : Array Slot} {rest : List Value} {vd : Bool} {aK aV : Nat → Nat} {tx : String}
theorem t_wordsX (C : gC p s m args meth c cc nL RX11 ret D tys xord g Am) (O : tO l g cI cB cZ cQ Am aK aV) : ∀ w ∈ tX.filter vx_no, w.before args s = true := by
  have hA := O.2.1 _ _ _ C.2.2.2.2.2
  refine vx_hat (B := tB) (fun w hw => C.1.2.2.2.2 w (List.mem_filter.mpr ⟨tg1 w hw, (List.mem_filter.mp hw).2⟩)) tb1 ?_
  intro w hw
  rcases List.mem_append.mp hw with hw | hw
  · have h1 := hA.1 w hw
    simp only [tW, List.mem_cons, List.not_mem_nil, or_false] at hw
    rcases hw with rfl | rfl | rfl | rfl | rfl <;> exact va_Nw.use rfl h1
  · simp only [List.mem_cons, List.not_mem_nil, or_false] at hw
    rcases hw with rfl | rfl
    · exact hA.2.1.2.word
    · exact hA.2.2.2.word
end TNEW

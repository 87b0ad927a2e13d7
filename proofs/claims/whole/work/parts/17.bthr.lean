/-! throwing: the two exceptions that the class makes -/
def tNm : List String := ["java/lang/RuntimeException", "java/lang/Exception"]
set_option maxRecDepth 100000 in
theorem tg2 : ∀ w ∈ (vx_atS RX11 86 "java/lang/IllegalArgumentException" tNm).filter goodWord, w ∈ lw_tbl := by decide +kernel
def tB : List Cond := tW ++ [.laysStatic Bundle.tN "UNASSIGNED_STACK" Bundle.steD, .laysStatic Bundle.tN "SUPPRESSED_SENTINEL" Bundle.listD]
theorem tb2 : ∀ w ∈ (vx_atS RX11 86 "java/lang/IllegalArgumentException" tNm).filter (fun w => !goodWord w), w ∈ tB := by decide +kernel
theorem to2 : ∀ w ∈ Cond.classLink RX11 82 "java/lang/IllegalArgumentException" :: Cond.initialized "java/lang/IllegalArgumentException" :: vx_atS RX11 86 "java/lang/IllegalArgumentException" tNm, vx_ot w = true := by decide +kernel
theorem tc1 : Cond.classLink RX11 157 "java/util/NoSuchElementException" ∈ gT ∧ Cond.initialized "java/util/NoSuchElementException" ∈ gT := ⟨gT_of 1040 (by decide +kernel) rfl, gT_of 130 (by decide +kernel) rfl⟩
theorem tc2 : Cond.classLink RX11 82 "java/lang/IllegalArgumentException" ∈ gT ∧ Cond.initialized "java/lang/IllegalArgumentException" ∈ gT := ⟨gT_of 699 (by decide +kernel) rfl, gT_of 123 (by decide +kernel) rfl⟩
section TNEW
variable {p : Program} {l : Launch} {e : Env} {R : Room} {s : State} {m : MethodId} {args : Array Value} {below : List Frame} {meth : Method} {c : Code} {H : Heap} {locs : List Loc} {cs sl : Nat} {Am : (Nat → Prop) → State → Heap → Prop}
variable {cc : ByteArray} {nL pc u ii ist : Nat} {ret : Option FieldType} {D : va_G} {tys : List (ClassId × FieldType)} {g : Nat → Nat} {cI cB cZ cQ : ClassId} {S : gS} {ls : Array Slot} {rest : List Value} {vd : Bool} {aK aV : Nat → Nat} {tx : String}
theorem t_words {ic : Nat} {cls : String} (C : gC p s m args meth c cc nL RX11 ret D tys xord g Am) (O : tO l g cI cB cZ cQ Am aK aV) (hg : ∀ w ∈ (vx_atS RX11 ic cls tNm).filter goodWord, w ∈ lw_tbl) (hb : ∀ w ∈ (vx_atS RX11 ic cls tNm).filter (fun w => !goodWord w), w ∈ tB) : ∀ w ∈ vx_atS RX11 ic cls tNm, w.before args s = true := by
  have hA := O.2.1 _ _ _ C.2.2.2.2.2
  refine vx_hat (B := tB) (fun w hw => C.1.2.2.2.2 w (List.mem_filter.mpr ⟨hg w hw, (List.mem_filter.mp hw).2⟩)) hb ?_
  intro w hw
  rcases List.mem_append.mp hw with hw | hw
  · have h1 := hA.1 w hw
    simp only [tW, List.mem_cons, List.not_mem_nil, or_false] at hw
    rcases hw with rfl | rfl | rfl | rfl | rfl <;> exact va_Nw.use rfl h1
  · simp only [List.mem_cons, List.not_mem_nil, or_false] at hw
    rcases hw with rfl | rfl
    · exact hA.2.1.2.word
    · exact hA.2.2.2.word
theorem t_x (C : gC p s m args meth c cc nL RX11 ret D tys xord g Am) (X : gX D (xcell g cI cB cZ cQ) xord g S s H locs) {n : Nat} (hn : n ≠ 0) {E : String} (hE : E = tE n) : ∀ t : State, s.vm.Alike t.vm → H.size ≤ t.heap.size → (∀ q : Nat, q < H.size → t.heap[q]? = H[q]?) → gXX D tys (xcell g cI cB cZ cQ) xord g s.heap.size (n, 0, S) E s t := by
  intro t hv hz hk
  refine ⟨hn, hE, X.1.kept (fun k q hq => hk q.1 (va_at.lt (X.1 k q hq))), va_K.moved hv C.2.1, Nat.le_trans X.2.1 hz, fun q h1 h2 => ?_⟩
  rw [hk q (Nat.lt_of_lt_of_le h1 X.2.1)]
  exact X.2.2.1 q h1 h2
theorem t_newN (C : gC p s m args meth c cc nL RX11 ret D tys xord g Am) (O : tO l g cI cB cZ cQ Am aK aV) (Tb : ∀ x ∈ c.exceptionTable.toList, False) (X : gX D (xcell g cI cB cZ cQ) xord g S s H locs) (hls : ls.size = nL) (hw : sW[ii]? = some (RX11, ist, tx)) (d0 : decode cc pc = .ok (.new 157, 3)) (d3 : decode cc (pc + 3) = .ok (.dup, 1)) (d4 : decode cc (pc + 4) = .ok (.ldc ist, 2)) (d6 : decode cc (pc + 6) = .ok (.invokespecial 161, 3)) (d9 : decode cc (pc + 9) = .ok (.athrow, 1))
    (hRf : 5 < R.frames) (hRl : (rest.map fun v => v.category).sum + 82 ≤ R.locals) (hRc : cs + 1 ≤ R.cells) (hRs : sl + 6 ≤ R.slots) (hc : cs + 1 ≤ u) (hs : sl + 6 ≤ 6 * u) : W p l e R s m args below meth c H locs cs sl (gEX below args s D tys (xcell g cI cB cZ cQ) xord g u vd (1, 0, S)) (F0 m pc ls rest) := by
  sorry
theorem t_newNW (C : gC p s m args meth c cc nL RX11 ret D tys xord g Am) (O : tO l g cI cB cZ cQ Am aK aV) (Tb : ∀ x ∈ c.exceptionTable.toList, False) (X : gX D (xcell g cI cB cZ cQ) xord g S s H locs) (hls : ls.size = nL) (hw : sW[ii]? = some (RX11, ist, tx)) (d0 : decode cc pc = .ok (.new 157, 3)) (d3 : decode cc (pc + 3) = .ok (.dup, 1)) (d4 : decode cc (pc + 4) = .ok (.ldc_w ist, 3)) (d6 : decode cc (pc + 7) = .ok (.invokespecial 161, 3)) (d9 : decode cc (pc + 10) = .ok (.athrow, 1))
    (hRf : 5 < R.frames) (hRl : (rest.map fun v => v.category).sum + 82 ≤ R.locals) (hRc : cs + 1 ≤ R.cells) (hRs : sl + 6 ≤ R.slots) (hc : cs + 1 ≤ u) (hs : sl + 6 ≤ 6 * u) : W p l e R s m args below meth c H locs cs sl (gEX below args s D tys (xcell g cI cB cZ cQ) xord g u vd (1, 0, S)) (F0 m pc ls rest) := by
  sorry
theorem t_newI (C : gC p s m args meth c cc nL RX11 ret D tys xord g Am) (O : tO l g cI cB cZ cQ Am aK aV) (Tb : ∀ x ∈ c.exceptionTable.toList, False) (X : gX D (xcell g cI cB cZ cQ) xord g S s H locs) (hls : ls.size = nL) (hw : sW[ii]? = some (RX11, ist, tx)) (d0 : decode cc pc = .ok (.new 82, 3)) (d3 : decode cc (pc + 3) = .ok (.dup, 1)) (d4 : decode cc (pc + 4) = .ok (.ldc ist, 2)) (d6 : decode cc (pc + 6) = .ok (.invokespecial 86, 3)) (d9 : decode cc (pc + 9) = .ok (.athrow, 1))
    (hRf : 5 < R.frames) (hRl : (rest.map fun v => v.category).sum + 82 ≤ R.locals) (hRc : cs + 1 ≤ R.cells) (hRs : sl + 6 ≤ R.slots) (hc : cs + 1 ≤ u) (hs : sl + 6 ≤ 6 * u) : W p l e R s m args below meth c H locs cs sl (gEX below args s D tys (xcell g cI cB cZ cQ) xord g u vd (2, 0, S)) (F0 m pc ls rest) :=
  vx_throwS (names := tNm) C.1.1 C.1.2.1 O.2.2 C.1.2.2.2.1 (by decide) (by decide) (C.1.2.2.2.2 _ tc2.1) (C.1.2.2.2.2 _ tc2.2) ((O.1.2 _ _ _ C.2.2.2.2.2).2.1 ii _ hw) (t_words C O tg2 tb2) to2 (O.2.1 _ _ _ C.2.2.2.2.2).2.1 (O.2.1 _ _ _ C.2.2.2.2.2).2.2 X.2 (hls.trans C.1.2.2.1.symm) d0 d3 d4 d6 d9 (fun x hx => (Tb x hx).elim) hRf hRl hRc hRs C.2.2.2.1 (t_x C X (by decide) rfl) X.2.2.2 hc hs
theorem t_newIW (C : gC p s m args meth c cc nL RX11 ret D tys xord g Am) (O : tO l g cI cB cZ cQ Am aK aV) (Tb : ∀ x ∈ c.exceptionTable.toList, False) (X : gX D (xcell g cI cB cZ cQ) xord g S s H locs) (hls : ls.size = nL) (hw : sW[ii]? = some (RX11, ist, tx)) (d0 : decode cc pc = .ok (.new 82, 3)) (d3 : decode cc (pc + 3) = .ok (.dup, 1)) (d4 : decode cc (pc + 4) = .ok (.ldc_w ist, 3)) (d6 : decode cc (pc + 7) = .ok (.invokespecial 86, 3)) (d9 : decode cc (pc + 10) = .ok (.athrow, 1))
    (hRf : 5 < R.frames) (hRl : (rest.map fun v => v.category).sum + 82 ≤ R.locals) (hRc : cs + 1 ≤ R.cells) (hRs : sl + 6 ≤ R.slots) (hc : cs + 1 ≤ u) (hs : sl + 6 ≤ 6 * u) : W p l e R s m args below meth c H locs cs sl (gEX below args s D tys (xcell g cI cB cZ cQ) xord g u vd (2, 0, S)) (F0 m pc ls rest) :=
  vx_throwSW (names := tNm) C.1.1 C.1.2.1 O.2.2 C.1.2.2.2.1 (by decide) (by decide) (C.1.2.2.2.2 _ tc2.1) (C.1.2.2.2.2 _ tc2.2) ((O.1.2 _ _ _ C.2.2.2.2.2).2.1 ii _ hw) (t_words C O tg2 tb2) to2 (O.2.1 _ _ _ C.2.2.2.2.2).2.1 (O.2.1 _ _ _ C.2.2.2.2.2).2.2 X.2 (hls.trans C.1.2.2.1.symm) d0 d3 d4 d6 d9 (fun x hx => (Tb x hx).elim) hRf hRl hRc hRs C.2.2.2.1 (t_x C X (by decide) rfl) X.2.2.2 hc hs
end TNEW

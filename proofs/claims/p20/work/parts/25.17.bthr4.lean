section TNEW
variable {p : Program} {l : Launch} {e : Env} {R : Room} {s : State} {m : MethodId} {args : Array Value} {below : List Frame} {meth : Method} {c : Code} {H : Heap} {locs : List Loc} {cs sl : Nat} {Am : (Nat → Prop) → State → Heap → Prop}
variable {cc : ByteArray} {nL pc u ii ist : Nat} {ret : Option FieldType} {D : va_G} {tys : List (ClassId × FieldType)} {g : Nat → Nat} {cI cB cZ cQ : ClassId} {S : gS} {ls : Array Slot} {rest : List Value} {vd : Bool} {aK aV : Nat → Nat} {tx : String}
theorem t_newNW (C : gC p s m args meth c cc nL RX11 ret D tys xord g Am) (O : tO l g cI cB cZ cQ Am aK aV) (Tb : ∀ x ∈ c.exceptionTable.toList, False) (X : gX D (xcell g cI cB cZ cQ) xord g S s H locs) (hls : ls.size = nL) (hw : sW[ii]? = some (RX11, ist, tx)) (d0 : decode cc pc = .ok (.new 157, 3)) (d3 : decode cc (pc + 3) = .ok (.dup, 1)) (d4 : decode cc (pc + 4) = .ok (.ldc_w ist, 3)) (d6 : decode cc (pc + 7) = .ok (.invokespecial 161, 3)) (d9 : decode cc (pc + 10) = .ok (.athrow, 1))
    (hRf : 5 < R.frames) (hRl : (rest.map fun v => v.category).sum + 82 ≤ R.locals) (hRc : cs + 1 ≤ R.cells) (hRs : sl + 6 ≤ R.slots) (hc : cs + 1 ≤ u) (hs : sl + 6 ≤ 6 * u) : W p l e R s m args below meth c H locs cs sl (gEX below args s D tys (xcell g cI cB cZ cQ) xord g u vd (1, 0, S)) (F0 m pc ls rest) := by
  intro T hT X0
  have hat := t_wordsX C O
  have hA2 := O.2.1 _ _ _ C.2.2.2.2.2
  have hstr := (O.1.2 _ _ _ C.2.2.2.2.2).2.1 ii _ hw
  have htr : e.platform.stackTraces = false := (show e.platform.stackTraces = l.stackTraces by rw [X0.admits.platform]).trans O.2.2
  have Y := vx_rebase X0 (R' := { frames := R.frames, locals := R.locals, cells := 1, slots := 6 }) (Nat.le_refl _) (Nat.le_refl _) hRc hRs
  obtain ⟨s', hA⟩ : ∃ z, z = (T.setVm s.vm).setFrames (.invoking m args :: below) := ⟨_, rfl⟩
  rewrite [← hA] at Y
  have hvm : s'.vm = s.vm := by rw [hA]; rfl
  have hhp : s'.heap = H := by rw [hA]; exact hT
  have hW0 : s.WarmedH s'.vm := by rw [hvm]; exact State.WarmedH.refl s
  have hat' : ∀ w ∈ tX.filter vx_no, w.before args s' = true := fun w hw => vx_ot_at hW0 hvm.symm (to1 w (List.mem_cons_of_mem _ (List.mem_cons_of_mem _ hw))) (hat w hw)
  have hk' : (Cond.classLink RX11 157 tNS).before args s' = true := vx_ot_at hW0 hvm.symm (to1 _ List.mem_cons_self) (C.1.2.2.2.2 _ tc1.1)
  have hini' : (Cond.initialized tNS).before args s' = true := vx_ot_at hW0 hvm.symm (to1 _ (List.mem_cons_of_mem _ List.mem_cons_self)) (C.1.2.2.2.2 _ tc1.2)
  have hU' : vx_Zq Bundle.tN "UNASSIGNED_STACK" Bundle.steD (gA xord g s.heap.size) s' s'.heap := by rw [hhp]; exact vx_Zq.moved hW0.alike (hA2.2.1.kept X.2.2.1)
  have hN' : vx_Zq Bundle.tN "SUPPRESSED_SENTINEL" Bundle.listD (gA xord g s.heap.size) s' s'.heap := by rw [hhp]; exact vx_Zq.moved hW0.alike (hA2.2.2.kept X.2.2.1)
  have h : ∀ w ∈ tX, w.before args s' = true := vx_own hat' (vx_isRefq hU'.1) (vx_isRefq hN'.1) hU'.2.word hN'.2.word
  have hown' : s'.vm.findClass RX11 = some m.cls := by rw [hvm]; exact C.1.2.2.2.1
  obtain ⟨vm₁, cX, kX, hfX, hkX, -, -, X₁, st1⟩ := Y.newCold C.1.1 (own := RX11) (C := tNS) (index := 157) (n := 6) hown' hk' (h _ (tX_5 1 rfl)) hini'
    (g := F0 m pc ls rest) rfl (by rw [C.1.2.1]; exact d0) (Nat.le_refl _) (Nat.le_refl _)
  generalize hT1 : (T.setVm vm₁).pushCell { cls := cX, slots := kX.instanceTypes.map defaultValue, vm := .none } = T1 at X₁ st1
  have hcat : (Value.ref T.heap.size).category = 1 := rfl
  have hcellA : T1.heap[T.heap.size]? = some (freshCell cX kX) := by rw [← hT1]; exact State.heap_pushCell_size _ _
  have d3' : decode c.code (pc + 3) = .ok (.dup, 1) := by rw [C.1.2.1]; exact d3
  have d4' : decode c.code (pc + 4) = .ok (.ldc_w ist, 3) := by rw [C.1.2.1]; exact d4
  have hstr' : vk_R RX11 ist tx (aK ii) s' := vk_R.warm hW0 hstr
  obtain ⟨U, hsteps, hrun, hend, hW, hsame, ce, hce, hcv, hcf⟩ := t_ctor X₁ C.1.1 htr hown' h (fun x hx => nomatch hx) hfX hkX hcellA (by rw [hhp, hT]; exact Nat.le_refl _) (msg := .ref (aK ii)) rfl
    (g := { method := m, pc := pc + 7, locals := ls, stack := .ref (aK ii) :: .ref T.heap.size :: .ref T.heap.size :: rest, locked := none }) rfl (hls.trans C.1.2.2.1.symm) rfl rfl (rest := rest) rfl
    (by rw [C.1.2.1]; exact d6) (by rw [C.1.2.1]; exact d9) (fun x hx => (Tb x hx).elim) hRf (by simp only [List.map_cons, List.sum_cons, hcat]; show 2 * 0 + _ + 81 ≤ _; omega) C.2.2.2.1
  obtain ⟨f1, f2⟩ := vx_frame hsame
  rewrite [hhp] at f1 f2
  have hWs : s.WarmedH U.vm := State.WarmedH.trans hW0 hW
  have hcl : s.vm.findClass tNS = some ce.cls := by
    rewrite [hvm] at hcf
    exact hcf
  have hall : s.sameButNew ({ U with vm := s.vm } : State) locs u (6 * u) := by
    subst hA
    obtain ⟨e1, e2⟩ := hsame
    rewrite [State.setFrames_setFrames] at e1
    have h2 : (T.setVm s.vm).sameButNew ({ U with vm := s.vm } : State) [] (0 + 1) (0 + 6) := ⟨e1, e2⟩
    have h3 := X0.same.trans h2
    rewrite [List.append_nil] at h3
    exact h3.mono hc hs
  refine ⟨U, ?_, .threw T.heap.size, hrun, hend, Or.inr ⟨T.heap.size, rfl, tNS, ce, locs, t_x C X (by decide) rfl U hWs.alike f1 (fun q hq => f2 q hq (fun z hz => nomatch hz)), hce, hcv, hcl, hWs, hall, X.2.2.2⟩⟩
  refine st1 _ ?_
  show Steps p.tables e below (T1.setTop { method := m, pc := pc + 3, locals := ls, stack := .ref T.heap.size :: rest, locked := none }) _
  have hx := C.1.1
  jvm_step X₁.here [X₁.here.top, hx, d3', Value.category]
  exact X₁.ldcStringW C.1.1 (own := RX11) (text := tx) (index := ist) (a := aK ii) hown' hstr'.1 hstr'.2
    (g := { method := m, pc := pc + 4, locals := ls, stack := .ref T.heap.size :: .ref T.heap.size :: rest, locked := none }) rfl d4' _ hsteps
end TNEW

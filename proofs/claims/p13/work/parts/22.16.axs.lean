/-! the class with texts; a row copied -/
def xsO (g : Nat → Nat) (cI cB cZ cQ : ClassId) (Am : (Nat → Prop) → State → Heap → Prop) (aK aV : Nat → Nat) : Prop := xO g cI cB cZ cQ Am ∧ ∀ (A : Nat → Prop) (U : State) (H : Heap), Am A U H → sAll aK aV A U H
theorem xs_sO {g : Nat → Nat} {cI cB cZ cQ : ClassId} {Am : (Nat → Prop) → State → Heap → Prop} {aK aV : Nat → Nat} (O : xsO g cI cB cZ cQ Am aK aV) : sO (xcell g cI cB cZ cQ) xord g Am aK aV := ⟨O.1.1, O.2⟩
noncomputable def acp (sp dp n : Int32) (L0 L1 : Nat) : Bool := decide (¬ sp < 0 ∧ ¬ dp < 0 ∧ ¬ n < 0 ∧ sp.toNatClampNeg + n.toNatClampNeg ≤ L0 ∧ dp.toNatClampNeg + n.toNatClampNeg ≤ L1)
noncomputable def sC (S : gS) (k0 k1 sp dp n : Nat) : gS := fun i => if i = k1 then va_cpy (S k0) (S k1) sp dp n else S i
section XCOPY
variable {p : Program} {l : Launch} {e : Env} {R : Room} {s : State} {m : MethodId} {args : Array Value} {below : List Frame} {meth : Method} {c : Code} {H : Heap} {locs : List Loc} {cs sl : Nat} {Q : State → Prop} {Am : (Nat → Prop) → State → Heap → Prop} {cc : ByteArray} {nL pc index : Nat} {ret : Option FieldType} {own : String} {D : va_G} {g : Nat → Nat} {cI cB cZ cQ : ClassId} {S S' : gS} {ls : Array Slot} {rest : List Value} {k0 k1 : Nat}
theorem x_copy (C : gC p s m args meth c cc nL own ret D (xtys cI cB cZ cQ) xord g Am) (O : xO g cI cB cZ cQ Am) (X : gX D (xcell g cI cB cZ cQ) xord g S s H locs) (hls : ls.size = nL) (w : Cond.methodLink own index arraycopyName ∈ gT ∧ Cond.native arraycopyName ∈ gT ∧ Cond.static arraycopyName ∈ gT ∧ Cond.initialized "java/lang/System" ∈ gT) (hk0 : xk k0 = 20) (hk1 : xk k1 = 20) {n0 n1 : Nat} (hn0 : xN k0 = n0) (hn1 : xN k1 = n1) {sp dp n : Int32} (h : acp sp dp n n0 n1 = true) (hS : S' = sC S k0 k1 sp.toNatClampNeg dp.toNatClampNeg n.toNatClampNeg)
    (hR : 1 ≤ R.frames) (hR2 : (rest.map fun v => v.category).sum + (nativeFrameWords "java/lang/System" "arraycopy" 5 + 11) ≤ R.locals) (hcs : cs ≤ R.cells) (hsl : sl ≤ R.slots) (hdg : decode cc pc = .ok (.invokestatic index, 3))
    (kk : ∀ (H1 : Heap) (locs1 : List Loc), gX D (xcell g cI cB cZ cQ) xord g S' s H1 locs1 → W p l e R s m args below meth c H1 locs1 cs sl Q (F0 m (pc + 3) ls rest)) : W p l e R s m args below meth c H locs cs sl Q (F0 m pc ls (.int n :: .int dp :: .ref (g k1) :: .int sp :: .ref (g k0) :: rest)) := by
  subst hS
  subst hn0
  subst hn1
  obtain ⟨h1, h2, h3, h4, h5⟩ := of_decide_eq_true h
  refine va_copyi C.1.1 C.1.2.1 (C.1.2.2.1.trans hls.symm) C.1.2.2.2.1 (C.1.2.2.2.2 _ w.1) (C.1.2.2.2.2 _ w.2.1) (C.1.2.2.2.2 _ w.2.2.1) (C.1.2.2.2.2 _ w.2.2.2) C.2.1 X.1 (gw_D O.1 S _) X.2 k0 k1 0 0 (gw_get (x_pos hk0 (by decide)) (x_cI g cI cB cZ cQ S hk0)) (gw_get (x_pos hk1 (by decide)) (x_cI g cI cB cZ cQ S hk1)) (ty := .int) rfl rfl rfl h1 h2 h3 h4 h5 (fun _ _ => rfl) hR hR2 hdg (fun H1 locs1 hP hD hS1 => kk H1 locs1 ⟨?_, hS1⟩)
  rw [gw_set O.1 (x_pos hk1 (by decide)) (S' := sC S k0 k1 sp.toNatClampNeg dp.toNatClampNeg n.toNatClampNeg) (by rw [x_cI g cI cB cZ cQ _ hk1]; simp [sC]) (fun j hj => if_neg hj)] at hP
  exact hP
end XCOPY

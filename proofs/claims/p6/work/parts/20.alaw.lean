/-! THE LAW'S STATIC METHODS: each calls one of the class's methods, keeps its answer in the row out, and catches what it throws -/
def lP (D : va_G) (g : Nat → Nat) (cI cB cZ cQ cJ : ClassId) (aO : Nat) (S : gS) (f : Nat → Int64) (H : Heap) : Prop :=
  va_P D vwCl (gw (xcell g cI cB cZ cQ) xord S) H ∧ va_P D vwCl [(aO, .inl (cJ, 1, .inr (.inl f)))] H
def lA (g : Nat → Nat) (aO sz : Nat) : Nat → Prop := fun q => gA xord g sz q ∨ q = aO
def lQ (D : va_G) (g : Nat → Nat) (cI cB cZ cQ cJ : ClassId) (aO sz : Nat) (k : Int32) (S : gS) (f : Nat → Int64) : Array Value → State → Outcome → State → Prop := fun _ st oc t =>
  (oc = .returned (some (.int k)) ∧ lP D g cI cB cZ cQ cJ aO S f t.heap) ∧ va_F (lA g aO sz) st t
def lM (l : Launch) (y : MethodName) (cy : ByteArray) (mL : Nat) (hh : List (Nat × Nat × Nat × Nat)) (d u : Nat) (D : va_G) (g : Nat → Nat) (cI cB cZ cQ cJ : ClassId) (aO : Nat) (Am : (Nat → Prop) → State → Heap → Prop) (av : List Value) (S : gS) (f : Nat → Int64) (k : Int32) (S' : gS) (f' : Nat → Int64) : Prop :=
  ∀ sz : Nat, Met l y (Cond.codeWith y cy mL (some .int) hh :: gT) (rmx d u) (va_Pc av (fun U => U.heap.size = sz ∧ lP D g cI cB cZ cQ cJ aO S f U.heap ∧ va_K D vwCl (xtys cI cB cZ cQ) U ∧ va_K D vwCl [(cJ, .long)] U ∧ Am (gA xord g sz) U U.heap ∧ va_Nc (tE 2) (tE 1) U)) (lQ D g cI cB cZ cQ cJ aO sz k S' f') u (6 * u) (lA g aO sz)
def lC (p : Program) (s : State) (m : MethodId) (args : Array Value) (meth : Method) (c : Code) (cc : ByteArray) (nL : Nat) (hh : List (Nat × Nat × Nat × Nat)) (D : va_G) (g : Nat → Nat) (cI cB cZ cQ cJ : ClassId) (aO : Nat) (Am : (Nat → Prop) → State → Heap → Prop) : Prop :=
  gC p s m args meth c cc nL RL (some .int) D (xtys cI cB cZ cQ) xord g Am ∧ c.exceptionTable.toList = tableOf hh ∧ va_K D vwCl [(cJ, .long)] s ∧ va_Nc (tE 2) (tE 1) s ∧ ∀ k, k ∈ xord → g k ≠ aO
def lE (below : List Frame) (args : Array Value) (s : State) (D : va_G) (g : Nat → Nat) (cI cB cZ cQ cJ : ClassId) (aO u : Nat) (k : Int32) (S' : gS) (f' : Nat → Int64) : State → Prop :=
  MQ below (lQ D g cI cB cZ cQ cJ aO s.heap.size k S' f') args s u (6 * u) (lA g aO s.heap.size)
section LAW1
variable {p : Program} {l : Launch} {e : Env} {R : Room} {s : State} {m : MethodId} {args : Array Value} {below : List Frame} {meth : Method} {c : Code} {H : Heap} {locs : List Loc} {cs sl : Nat} {Q : State → Prop} {Am : (Nat → Prop) → State → Heap → Prop}
variable {cc cy : ByteArray} {nL mL pc n index d u u2 : Nat} {hh : List (Nat × Nat × Nat × Nat)} {ret rt : Option FieldType} {D : va_G} {g : Nat → Nat} {cI cB cZ cQ cJ : ClassId} {aO : Nat} {S S' : gS} {f f' : Nat → Int64} {ls : Array Slot} {rest As av : List Value} {y : MethodName} {vd : Bool} {o : tR} {k : Int32} {aK aV : Nat → Nat}
theorem lM_of (P : gAm Am) (hy : plainName y.cls = true) (hyl : y.cls = RL) (hg : ∀ k, k ∈ xord → g k ≠ aO) (hn : (lg_sl av).length ≤ mL)
    (hw : ∀ (p : Program) (e : Env) (s : State) (m : MethodId) (args : Array Value) (below : List Frame) (meth : Method) (c : Code) (ls : Array Slot), lC p s m args meth c cy mL hh D g cI cB cZ cQ cJ aO Am → lP D g cI cB cZ cQ cJ aO S f s.heap → lv_has ls mL (lv_args 0 av) →
      W p l e (rmx d u) s m args below meth c s.heap [] 0 0 (lE below args s D g cI cB cZ cQ cJ aO u k S' f') (F0 m 0 ls [])) : lM l y cy mL hh d u D g cI cB cZ cQ cJ aO Am av S f k S' f' := by
  intro sz
  unfold Met
  refine MetFree.of_bodyS (code := cy) (maxLocals := mL) (ret := some .int) hy ?_ ?_
  · intro args s m h hn
    obtain ⟨m9, meth, c, hn9, h1, h2, h3, h4, -, h5, h6, -⟩ := Cond.codeWith_spec (atoms_spec (ws := Cond.codeWith y cy mL (some .int) hh :: gT) h _ List.mem_cons_self)
    cases hn.symm.trans hn9
    exact ⟨meth, c, h1, h2, h3, h4, h5, h6⟩
  · intro p e s m args below meth c s₁ B hml hP _
    have hh0 : s₁.heap = s.heap := by rw [B.state]; rfl
    obtain ⟨rfl, hsz, hP, hK, hK2, hY, hN⟩ := hP
    have hts := atoms_spec (ws := Cond.codeWith y cy mL (some .int) hh :: gT) B.pre
    subst hsz
    have hf : s.vm.findClass RL = some m.cls := by
      have := findClass_of_methodNamed B.named
      rewrite [hyl] at this
      exact this
    have K := hw p e s m _ below meth c _ ⟨⟨⟨B.exec, B.bytes, hml, hf, fun w h => hts w (List.mem_cons_of_mem _ h)⟩, hK, B.returns, B.notSynchronized, P, hY⟩, vx_table (x := y) B (hts _ List.mem_cons_self), hK2, hN, hg⟩ hP (lv_entry av hn)
    rewrite [← lg_entry_eq] at K
    obtain ⟨t, a1, o, b1, b2, b3⟩ := K s₁ hh0 (Stand.of_body B)
    exact ⟨t, o, a1, b1, b2, ⟨b3.1, b3.2⟩⟩
theorem lA_of {sz q : Nat} (h : gA xord g sz q) : lA g aO sz q := Or.inl h
theorem l_keep {t : State} {T' : State} {L : List Loc} {S1 : gS} (hg : ∀ k, k ∈ xord → g k ≠ aO) (hP : lP D g cI cB cZ cQ cJ aO S f s.heap) (hP1 : va_P D vwCl (gw (xcell g cI cB cZ cQ) xord S1) t.heap) (hF : s.heap.size ≤ t.heap.size ∧ ∀ q : Nat, q < s.heap.size → ¬ gA xord g s.heap.size q → t.heap[q]? = s.heap[q]?) (hL : ∀ z ∈ L, gA xord g s.heap.size z.base) (e1 : T'.heap = t.heap) :
    lP D g cI cB cZ cQ cJ aO S1 f T'.heap ∧ va_S (lA g aO s.heap.size) s.heap T'.heap ([] ++ L) := by
  have hO : aO < s.heap.size := by
    have h1 : s.heap[aO]? = some _ := hP.2 0 _ rfl
    exact (Array.getElem?_eq_some_iff.mp h1).1
  have hn : ¬ gA xord g s.heap.size aO := by
    rintro (⟨k, hk, h1⟩ | h1)
    · exact hg k hk h1.symm
    · exact absurd hO (Nat.not_lt.mpr h1)
  refine ⟨⟨by rw [e1]; exact hP1, ?_⟩, by rw [e1]; exact hF.1, fun q h1 h2 => by rw [e1]; exact hF.2 q h1 (fun z => h2 (lA_of z)), fun z hz => lA_of (hL z (by simpa using hz))⟩
  refine hP.2.kept (fun i q hq => ?_)
  have h2 : q.1 = aO := by
    cases i with
    | zero => cases Option.some.inj hq; rfl
    | succ i => cases hq
  rw [h2, e1]
  exact hF.2 aO hO hn
/-- the class's method is called: it has come back, or has thrown -/
theorem l_call {st0 : List Value} {a : Array Value} {mc ms : Nat} (hg : ∀ k, k ∈ xord → g k ≠ aO) (hP : lP D g cI cB cZ cQ cJ aO S f s.heap) (hr : vx_Run p l e R s m args below meth c s.heap [] 0 0 mc ms (F0 m pc ls st0) rest (gXQ D (xtys cI cB cZ cQ) (xcell g cI cB cZ cQ) xord g s.heap.size false o a) (gXX D (xtys cI cB cZ cQ) (xcell g cI cB cZ cQ) xord g s.heap.size o) (gA xord g s.heap.size))
    (hok : o.1 = 0 → ∀ (H1 : Heap) (locs1 : List Loc), lP D g cI cB cZ cQ cJ aO o.2.2 f H1 → va_S (lA g aO s.heap.size) s.heap H1 locs1 → W p l e R s m args below meth c H1 locs1 (0 + mc) (0 + ms) Q (F0 m (pc + 3) ls (.int o.2.1 :: rest)))
    (hthr : o.1 ≠ 0 → ∀ (q : Addr) (ce : Cell) (H1 : Heap) (locs1 : List Loc), lP D g cI cB cZ cQ cJ aO o.2.2 f H1 → va_S (lA g aO s.heap.size) s.heap H1 locs1 → H1[q]? = some ce → ce.vm = .none → s.vm.findClass (tE o.1) = some ce.cls → vx_W p l e R s m args below meth c H1 locs1 (0 + mc) (0 + ms) Q (F0 m pc ls rest) q) :
    W p l e R s m args below meth c s.heap [] 0 0 Q (F0 m pc ls st0) := by
  intro T hT X0
  rcases hr T hT X0 with ⟨v', st₀, t, T', L, h0, X', hL, e1, e2, ⟨h9, ⟨hv, hP1, hK⟩, hz, hk⟩, st⟩ | ⟨q, st₀, t, T', L, E, ce, h0, X', hL, e1, e2, ⟨hn, hE, hP1, hK, hz, hk⟩, hce, hcv, hcl, st⟩
  · cases hv
    rewrite [h0] at hz hk
    obtain ⟨k1, k2⟩ := l_keep hg hP hP1 ⟨hz, hk⟩ hL e1
    obtain ⟨t2, a1, b1⟩ := hok h9 T'.heap ([] ++ L) k1 k2 T' rfl X'
    exact ⟨t2, st t2 a1, b1⟩
  · rewrite [h0] at hz hk
    obtain ⟨k1, k2⟩ := l_keep hg hP hP1 ⟨hz, hk⟩ hL e1
    subst hE
    obtain ⟨t2, a1, b1⟩ := hthr hn q ce T'.heap ([] ++ L) k1 k2 (by rw [e1]; exact hce) hcv hcl T' rfl X'
    exact ⟨t2, st.trans a1, b1⟩
theorem l_ret (C : lC p s m args meth c cc nL hh D g cI cB cZ cQ cJ aO Am) (hP : lP D g cI cB cZ cQ cJ aO S f H) (hS : va_S (lA g aO s.heap.size) s.heap H locs) (h1 : cs ≤ u) (h2 : sl ≤ 6 * u) {x : Int32} (hdg : decode cc pc = .ok (.ireturn, 1)) :
    W p l e R s m args below meth c H locs cs sl (lE below args s D g cI cB cZ cQ cJ aO u x S f) (F0 m pc ls [.int x]) :=
  W.widen (k := u) (n := 6 * u) h1 h2 (W.iret (v := x) C.1.1.1 C.1.1.2.1 C.1.2.2.1 (fun t ht hW => ⟨⟨rfl, by rw [ht]; exact hP⟩, hS.F ht⟩) hS.2.2 hdg C.1.2.2.2.1)
/-- the answer is laid into the row -/
theorem l_lay (O : gO (xcell g cI cB cZ cQ) xord g) (C : lC p s m args meth c cc nL hh D g cI cB cZ cQ cJ aO Am) (hP : lP D g cI cB cZ cQ cJ aO S f H) (hS : va_S (lA g aO s.heap.size) s.heap H locs) {x : Int64} (hdg : decode cc pc = .ok (.lastore, 1))
    (kk : ∀ (H1 : Heap) (locs1 : List Loc), lP D g cI cB cZ cQ cJ aO S (vp_updL f 0 x) H1 → va_S (lA g aO s.heap.size) s.heap H1 locs1 → W p l e R s m args below meth c H1 locs1 cs sl Q (F0 m (pc + 1) ls rest)) : W p l e R s m args below meth c H locs cs sl Q (F0 m pc ls (.long x :: .int 0 :: .ref aO :: rest)) := by
  have h0 : ((gw (xcell g cI cB cZ cQ) xord S) ++ [(aO, (.inl (cJ, 1, .inr (.inl f)) : va_E))])[(gw (xcell g cI cB cZ cQ) xord S).length]? = some (aO, .inl (cJ, 1, .inr (.inl f))) := by
    rw [List.getElem?_append_right (Nat.le_refl _), Nat.sub_self]
    rfl
  have hD : va_D (lA g aO s.heap.size) ((gw (xcell g cI cB cZ cQ) xord S) ++ [(aO, (.inl (cJ, 1, .inr (.inl f)) : va_E))]) := by
    have h1 := gw_D O S s.heap.size
    have h2 : ∀ (i : Nat) (q : Nat × va_E), ((gw (xcell g cI cB cZ cQ) xord S) ++ [(aO, (.inl (cJ, 1, .inr (.inl f)) : va_E))])[i]? = some q → (gw (xcell g cI cB cZ cQ) xord S)[i]? = some q ∨ i = (gw (xcell g cI cB cZ cQ) xord S).length ∧ q.1 = aO := by
      intro i q hq
      rcases Nat.lt_or_ge i (gw (xcell g cI cB cZ cQ) xord S).length with hi | hi
      · rewrite [List.getElem?_append_left hi] at hq
        exact Or.inl hq
      · rewrite [List.getElem?_append_right hi] at hq
        have h3 : i - (gw (xcell g cI cB cZ cQ) xord S).length = 0 := by
          cases h4 : i - (gw (xcell g cI cB cZ cQ) xord S).length with
          | zero => rfl
          | succ j => rewrite [h4] at hq; cases hq
        rewrite [h3] at hq
        refine Or.inr ⟨Nat.le_antisymm (Nat.le_of_sub_eq_zero h3) hi, ?_⟩
        cases Option.some.inj hq
        rfl
    have h5 : ∀ (i : Nat) (q : Nat × va_E), (gw (xcell g cI cB cZ cQ) xord S)[i]? = some q → q.1 ≠ aO := by
      intro i q hq
      obtain ⟨k, hk, rfl⟩ := gw_of hq
      rw [O.2.1]
      exact C.2.2.2.2 k (List.mem_of_getElem? hk)
    refine ⟨fun i j a b hi hj e9 => ?_, fun k q hk => ?_⟩
    · rcases h2 i a hi with hi | ⟨hi, ha⟩
      · rcases h2 j b hj with hj | ⟨hj, hb⟩
        · exact h1.1 i j a b hi hj e9
        · exact absurd (e9.trans hb) (h5 i a hi)
      · rcases h2 j b hj with hj | ⟨hj, hb⟩
        · exact absurd (e9.symm.trans ha) (h5 j b hj)
        · rw [hi, hj]
    · rcases h2 k q hk with hk | ⟨-, hk⟩
      · exact Or.inl (h1.2 k q hk)
      · exact Or.inr hk
  refine va_last C.1.1.1 C.1.1.2.1 C.2.2.1 (va_P.app hP.1 hP.2) hD hS _ 0 h0 rfl (by unfold vp_in; decide) hdg (fun H1 L1 k1 k2 k3 => ?_)
  rewrite [List.set_append_right _ _ (Nat.le_refl _), Nat.sub_self] at k1
  refine kk H1 L1 ⟨fun i q hi => k1 i q ?_, fun i q hi => k1 ((gw (xcell g cI cB cZ cQ) xord S).length + i) q ?_⟩ k3
  · rw [List.getElem?_append_left (List.getElem?_eq_some_iff.mp hi).1]
    exact hi
  · rw [List.getElem?_append_right (Nat.le_add_right _ _), Nat.add_sub_cancel_left]
    exact hi
/-- caught by the first row of the table -/
theorem l_catchA {i1 i2 i3 i4 t : Nat} {h' : List (Nat × Nat × Nat × Nat)} (C : lC p s m args meth c cc nL ((i1, i2, i3, i4) :: h') D g cI cB cZ cQ cJ aO Am) (O : tO l g cI cB cZ cQ Am aK aV) (hw : Cond.classLink RL i4 (tE t) ∈ gT) (ht : t = 1 ∨ t = 2) (h0 : i4 ≠ 0) (hcov : ∀ x : ExceptionTableEntry, (tableOf ((i1, i2, i3, i4) :: h')).head? = some x → covers x pc = true ∧ x.catchType = i4 ∧ x.handlerPc = i3)
    {q : Addr} {ce : Cell} (hc : H[q]? = some ce) (hv : ce.vm = .none) (hcl : s.vm.findClass (tE t) = some ce.cls) (kk : W p l e R s m args below meth c H locs cs sl Q (F0 m i3 ls [.ref q])) : vx_W p l e R s m args below meth c H locs cs sl Q (F0 m pc ls rest) q := by
  obtain ⟨k1, k2, k3⟩ := hcov _ rfl
  have hct : (Cond.castable (tE t) (tE t)).before args s = true := by
    have h1 := (O.2.1 _ _ _ C.1.2.2.2.2.2).1
    rcases ht with rfl | rfl
    · exact va_tabs rfl rfl (h1 (.castable (tE 1) (tE 1)) (List.mem_of_getElem? (i := 0) rfl))
    · exact va_tabs rfl rfl (h1 (.castable (tE 2) (tE 2)) (List.mem_of_getElem? (i := 1) rfl))
  refine vx_catch (own := RL) (name := tE t) (E := tE t) C.1.1.2.2.2.1 [] _ _ (C.2.1.trans rfl) (fun z hz => by cases hz) k1 (by rw [k2]; exact h0) (by rw [k2]; exact C.1.1.2.2.2.2 _ hw) hct hc hv hcl ?_
  rw [k3]
  exact kk
/-- caught by the second row: the first one takes NoSuchElementException alone -/
theorem l_catchB {j1 j2 j3 j4 i1 i2 i3 i4 : Nat} (C : lC p s m args meth c cc nL [(j1, j2, j3, j4), (i1, i2, i3, i4)] D g cI cB cZ cQ cJ aO Am) (O : tO l g cI cB cZ cQ Am aK aV) (hw1 : Cond.classLink RL j4 (tE 1) ∈ gT) (hw : Cond.classLink RL i4 (tE 2) ∈ gT) (hj : j4 ≠ 0) (h0 : i4 ≠ 0)
    (hc1 : ∀ x : ExceptionTableEntry, (tableOf [(j1, j2, j3, j4), (i1, i2, i3, i4)])[0]? = some x → x.catchType = j4) (hcov : ∀ x : ExceptionTableEntry, (tableOf [(j1, j2, j3, j4), (i1, i2, i3, i4)])[1]? = some x → covers x pc = true ∧ x.catchType = i4 ∧ x.handlerPc = i3)
    {q : Addr} {ce : Cell} (hc : H[q]? = some ce) (hv : ce.vm = .none) (hcl : s.vm.findClass (tE 2) = some ce.cls) (kk : W p l e R s m args below meth c H locs cs sl Q (F0 m i3 ls [.ref q])) : vx_W p l e R s m args below meth c H locs cs sl Q (F0 m pc ls rest) q := by
  obtain ⟨k1, k2, k3⟩ := hcov _ rfl
  have j2' := hc1 _ rfl
  have hct : (Cond.castable (tE 2) (tE 2)).before args s = true := va_tabs rfl rfl ((O.2.1 _ _ _ C.1.2.2.2.2.2).1 (.castable (tE 2) (tE 2)) (List.mem_of_getElem? (i := 1) rfl))
  refine vx_catch (own := RL) (name := tE 2) (E := tE 2) C.1.1.2.2.2.1 [_] _ _ (C.2.1.trans rfl) (fun z hz => ?_) k1 (by rw [k2]; exact h0) (by rw [k2]; exact C.1.1.2.2.2.2 _ hw) hct hc hv hcl ?_
  · cases List.mem_singleton.mp hz
    exact Or.inr ⟨by rw [j2']; exact hj, tE 1, by rw [j2']; exact C.1.1.2.2.2.2 _ hw1, C.2.2.2.1⟩
  · rw [k3]
    exact kk
end LAW1
noncomputable def lcA (t : Nat) : Int32 := if t = 0 then 0 else 1
noncomputable def lcC (t : Nat) : Int32 := if t = 0 then 0 else if t = 1 then 1 else 2
noncomputable def lrow (f : Nat → Int64) (o : tR) : Nat → Int64 := if o.1 = 0 then vp_updL f 0 o.2.1.toInt64 else f
noncomputable def lrowZ (f : Nat → Int64) (o : tR) : Nat → Int64 := if o.1 = 0 then vp_updL f 0 (if o.2.1 = 0 then 0 else 1) else f

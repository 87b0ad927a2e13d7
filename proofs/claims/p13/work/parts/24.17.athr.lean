/-! METHODS THAT MAY THROW: what they rest on, their contracts, their rows -/
noncomputable def rmx (d u : Nat) : Room := { frames := d, cells := u, slots := 6 * u, locals := 40 * d + 13 }
noncomputable def tE (n : Nat) : String := if n = 1 then "java/util/NoSuchElementException" else "java/lang/IllegalArgumentException"
noncomputable def tW : List Cond := [.castable "java/util/NoSuchElementException" "java/util/NoSuchElementException", .castable "java/lang/IllegalArgumentException" "java/lang/IllegalArgumentException", .declares ⟨"java/lang/RuntimeException", "<init>", "(Ljava/lang/String;)V"⟩, .declares ⟨"java/lang/Exception", "<init>", "(Ljava/lang/String;)V"⟩, .declares ⟨"java/lang/Throwable", "<init>", "(Ljava/lang/String;)V"⟩]
def tAll (A : Nat → Prop) (U : State) (H : Heap) : Prop := (∀ w ∈ tW, va_Nw w U) ∧ vx_Zq Bundle.tN "UNASSIGNED_STACK" Bundle.steD A U H ∧ vx_Zq Bundle.tN "SUPPRESSED_SENTINEL" Bundle.listD A U H
theorem tAll.on {A B : Nat → Prop} {s U : State} {H : Heap} (hW : s.WarmedH U.vm) (h : tAll A s s.heap) (hq : ∀ q : Nat, q < s.heap.size → ¬ A q → H[q]? = s.heap[q]?) (hAB : ∀ q, B q → A q) : tAll B U H := by
  refine ⟨?_, ((vx_Zq.moved hW.alike h.2.1).kept hq).narrow hAB, ((vx_Zq.moved hW.alike h.2.2).kept hq).narrow hAB⟩
  intro w hw
  have h1 := h.1 w hw
  simp only [tW, List.mem_cons, List.not_mem_nil, or_false] at hw
  rcases hw with rfl | rfl | rfl | rfl | rfl
  · exact va_Nw.warmC hW h1
  · exact va_Nw.warmC hW h1
  · exact va_Nw.warmD hW h1
  · exact va_Nw.warmD hW h1
  · exact va_Nw.warmD hW h1
def tO (l : Launch) (g : Nat → Nat) (cI cB cZ cQ : ClassId) (Am : (Nat → Prop) → State → Heap → Prop) (aK aV : Nat → Nat) : Prop := xsO g cI cB cZ cQ Am aK aV ∧ (∀ (A : Nat → Prop) (U : State) (H : Heap), Am A U H → tAll A U H) ∧ l.stackTraces = false
abbrev tR : Type := Nat × Int32 × gS
noncomputable def tv (vd : Bool) (x : Int32) : Option Value := match vd with
  | true => none
  | false => some (.int x)
def gXQ (D : va_G) (tys : List (ClassId × FieldType)) (cell : gS → Nat → Nat × va_E) (ord : List Nat) (adr : Nat → Nat) (sz : Nat) (vd : Bool) (o : tR) : Array Value → State → Outcome → State → Prop := fun a st oc t => o.1 = 0 ∧ gQ D tys cell ord adr sz (tv vd o.2.1) o.2.2 a st oc t
def gXX (D : va_G) (tys : List (ClassId × FieldType)) (cell : gS → Nat → Nat × va_E) (ord : List Nat) (adr : Nat → Nat) (sz : Nat) (o : tR) : String → State → State → Prop := fun E st t => o.1 ≠ 0 ∧ E = tE o.1 ∧ va_P D vwCl (gw cell ord o.2.2) t.heap ∧ va_K D vwCl tys t ∧ va_F (gA ord adr sz) st t
def gN (l : Launch) (y : MethodName) (cy : ByteArray) (mL : Nat) (rt : Option FieldType) (d u : Nat) (D : va_G) (tys : List (ClassId × FieldType)) (cell : gS → Nat → Nat × va_E) (ord : List Nat) (adr : Nat → Nat) (Am : (Nat → Prop) → State → Heap → Prop) (av : List Value) (S : gS) (vd : Bool) (o : tR) : Prop :=
  ∀ sz : Nat, vx_Met l y (Cond.code y cy mL rt :: gT) (rmx d u) (va_Pc av (fun U => U.heap.size = sz ∧ va_P D vwCl (gw cell ord S) U.heap ∧ va_K D vwCl tys U ∧ Am (gA ord adr sz) U U.heap)) (gXQ D tys cell ord adr sz vd o) (gXX D tys cell ord adr sz o) u (6 * u) (gA ord adr sz)
def gEX (below : List Frame) (args : Array Value) (s : State) (D : va_G) (tys : List (ClassId × FieldType)) (cell : gS → Nat → Nat × va_E) (ord : List Nat) (adr : Nat → Nat) (u : Nat) (vd : Bool) (o : tR) : State → Prop :=
  vx_MQ below (gXQ D tys cell ord adr s.heap.size vd o) (gXX D tys cell ord adr s.heap.size o) args s u (6 * u) (gA ord adr s.heap.size)
noncomputable def bnx {α : Type} (x : Option (Nat × α × gS)) (f : Nat × α × gS → Option tR) : Option tR := match x with
  | some a => if a.1 = 0 then f a else some (a.1, 0, a.2.2)
  | none => none
theorem bnx_some {α : Type} {x : Option (Nat × α × gS)} {f : Nat × α × gS → Option tR} {o : tR} (h : bnx x f = some o) : (∃ a, x = some a ∧ a.1 = 0 ∧ f a = some o) ∨ ∃ a, x = some a ∧ a.1 ≠ 0 ∧ o = (a.1, 0, a.2.2) := by
  cases x with
  | none => cases h
  | some a =>
    by_cases h0 : a.1 = 0
    · refine Or.inl ⟨a, rfl, h0, ?_⟩
      have h1 : (if a.1 = 0 then f a else some (a.1, 0, a.2.2)) = some o := h
      rewrite [if_pos h0] at h1
      exact h1
    · refine Or.inr ⟨a, rfl, h0, ?_⟩
      have h1 : (if a.1 = 0 then f a else some (a.1, 0, a.2.2)) = some o := h
      rewrite [if_neg h0] at h1
      exact (Option.some.inj h1).symm
section THR
variable {p : Program} {l : Launch} {e : Env} {R : Room} {s : State} {m : MethodId} {args : Array Value} {below : List Frame} {meth : Method} {c : Code} {H : Heap} {locs : List Loc} {cs sl : Nat} {Q : State → Prop} {Am : (Nat → Prop) → State → Heap → Prop}
variable {cc cy : ByteArray} {nL mL pc n index d u u2 : Nat} {own Cn : String} {ret rt : Option FieldType} {D : va_G} {tys : List (ClassId × FieldType)} {cell : gS → Nat → Nat × va_E} {ord : List Nat} {adr : Nat → Nat} {S S' : gS} {ls : Array Slot} {rest As av : List Value} {y : MethodName} {vd vd2 : Bool} {o : tR}
theorem gN_of (P : gAm Am) (hy : plainName y.cls = true) (hn : (lg_sl av).length ≤ mL)
    (hw : ∀ (p : Program) (e : Env) (s : State) (m : MethodId) (args : Array Value) (below : List Frame) (meth : Method) (c : Code) (ls : Array Slot), gC p s m args meth c cy mL y.cls rt D tys ord adr Am → (∀ x ∈ c.exceptionTable.toList, False) → gX D cell ord adr S s s.heap [] → lv_has ls mL (lv_args 0 av) →
      W p l e (rmx d u) s m args below meth c s.heap [] 0 0 (gEX below args s D tys cell ord adr u vd o) (F0 m 0 ls [])) : gN l y cy mL rt d u D tys cell ord adr Am av S vd o := by
  intro sz
  refine vx_ofW (cc := cy) (maxL := mL) (ret := rt) hy rfl ?_
  intro p e s m args below meth c s₁ B hml hT hv
  obtain ⟨rfl, hsz, hP, hK, hY⟩ := hv
  have hts := atoms_spec (ws := Cond.code y cy mL rt :: gT) B.pre
  subst hsz
  rw [lg_entry_eq]
  exact hw p e s m _ below meth c _ ⟨⟨B.exec, B.bytes, hml, findClass_of_methodNamed B.named, fun w h => hts w (List.mem_cons_of_mem _ h)⟩, hK, B.returns, B.notSynchronized, P, hY⟩ hT ⟨hP, va_S.rf⟩ (lv_entry av hn)
theorem t_iret (C : gC p s m args meth c cc nL own (some .int) D tys ord adr Am) (X : gX D cell ord adr S s H locs) {x : Int32} (h1 : cs ≤ u) (h2 : sl ≤ 6 * u) (hdg : decode cc pc = .ok (.ireturn, 1)) :
    W p l e R s m args below meth c H locs cs sl (gEX below args s D tys cell ord adr u false (0, x, S)) (F0 m pc ls [.int x]) :=
  vx_ret (W.widen (k := u) (n := 6 * u) h1 h2 (W.iret (v := x) C.1.1 C.1.2.1 C.2.2.1 (fun t ht hW => ⟨rfl, ⟨rfl, by rw [ht]; exact X.1, va_K.moved hW.alike C.2.1⟩, X.2.F ht⟩) X.2.2.2 hdg C.2.2.2.1))
theorem t_zret (C : gC p s m args meth c cc nL own (some .boolean) D tys ord adr Am) (X : gX D cell ord adr S s H locs) {x : Int32} (hz : zb x = true) (h1 : cs ≤ u) (h2 : sl ≤ 6 * u) (hdg : decode cc pc = .ok (.ireturn, 1)) :
    W p l e R s m args below meth c H locs cs sl (gEX below args s D tys cell ord adr u false (0, x, S)) (F0 m pc ls [.int x]) :=
  vx_ret (W.widen (k := u) (n := 6 * u) h1 h2 (W.zret (v := x) C.1.1 C.1.2.1 C.2.2.1 (zb_narrow hz) (fun t ht hW => ⟨rfl, ⟨rfl, by rw [ht]; exact X.1, va_K.moved hW.alike C.2.1⟩, X.2.F ht⟩) X.2.2.2 hdg C.2.2.2.1))
theorem t_vret (C : gC p s m args meth c cc nL own none D tys ord adr Am) (X : gX D cell ord adr S s H locs) (h1 : cs ≤ u) (h2 : sl ≤ 6 * u) (hdg : decode cc pc = .ok (.return_, 1)) :
    W p l e R s m args below meth c H locs cs sl (gEX below args s D tys cell ord adr u true (0, 0, S)) (F0 m pc ls []) :=
  vx_ret (W.widen (k := u) (n := 6 * u) h1 h2 (W.vret C.1.1 C.1.2.1 C.2.2.1 (fun t ht hW => ⟨rfl, ⟨rfl, by rw [ht]; exact X.1, va_K.moved hW.alike C.2.1⟩, X.2.F ht⟩) X.2.2.2 hdg C.2.2.2.1))
/-- a call that came back -/
theorem t_ok {mc ms : Nat} {st0 : List Value} {a : Array Value} (hr : vx_Run p l e R s m args below meth c H locs cs sl mc ms (F0 m pc ls st0) rest (gXQ D tys cell ord adr H.size vd o a) (gXX D tys cell ord adr H.size o) (gA ord adr H.size)) (ho : o.1 = 0) (X : gX D cell ord adr S s H locs)
    (kk : ∀ (H1 : Heap) (locs1 : List Loc), gX D cell ord adr o.2.2 s H1 locs1 → W p l e R s m args below meth c H1 locs1 (cs + mc) (sl + ms) Q (F0 m (pc + 3) ls ((tv vd o.2.1).toList ++ rest))) : W p l e R s m args below meth c H locs cs sl Q (F0 m pc ls st0) := by
  intro T hT X0
  have hAA : ∀ q, gA ord adr H.size q → gA ord adr s.heap.size q := fun q hq => hq.elim Or.inl (fun h => Or.inr (Nat.le_trans X.2.1 h))
  rcases hr T hT X0 with ⟨v', st₀, t, T', L, h0, X', hL, e1, e2, ⟨_, ⟨hv, hP, hK⟩, hz, hk⟩, st⟩ | ⟨q, st₀, t, T', L, E, ce, h0, X', hL, e1, e2, ⟨hn, _⟩, hce, hcv, hcl, st⟩
  · cases hv
    rewrite [h0] at hz hk
    obtain ⟨t2, a1, b1⟩ := kk T'.heap (locs ++ L) ⟨by rw [e1]; exact hP, Nat.le_trans X.2.1 (by rw [e1]; exact hz), fun q h1 h2 => by rw [e1, hk q (Nat.lt_of_lt_of_le h1 X.2.1) (fun z => h2 (hAA q z))]; exact X.2.2.1 q h1 h2, fun q hq => by
        rcases List.mem_append.mp hq with h | h
        · exact X.2.2.2 q h
        · exact hAA _ (hL q h)⟩ T' rfl X'
    exact ⟨t2, st t2 a1, b1⟩
  · exact absurd ho hn
/-- a call that threw: it goes on to the caller -/
theorem t_thr {mc ms : Nat} {st0 : List Value} {a : Array Value} (hr : vx_Run p l e R s m args below meth c H locs cs sl mc ms (F0 m pc ls st0) rest (gXQ D tys cell ord adr H.size vd o a) (gXX D tys cell ord adr H.size o) (gA ord adr H.size)) (ho : o.1 ≠ 0) (C : gC p s m args meth c cc nL own ret D tys ord adr Am) (Tb : ∀ x ∈ c.exceptionTable.toList, False) (X : gX D cell ord adr S s H locs) (h1 : cs + mc ≤ u) (h2 : sl + ms ≤ 6 * u) :
    W p l e R s m args below meth c H locs cs sl (gEX below args s D tys cell ord adr u vd2 (o.1, 0, o.2.2)) (F0 m pc ls st0) := by
  intro T hT X0
  have hAA : ∀ q, gA ord adr H.size q → gA ord adr s.heap.size q := fun q hq => hq.elim Or.inl (fun h => Or.inr (Nat.le_trans X.2.1 h))
  rcases hr T hT X0 with ⟨v', st₀, t, T', L, h0, X', hL, e1, e2, ⟨hn, _⟩, st⟩ | ⟨q, st₀, t, T', L, E, ce, h0, X', hL, e1, e2, ⟨hn, hE, hP, hK, hz, hk⟩, hce, hcv, hcl, st⟩
  · exact absurd hn ho
  · rewrite [h0] at hz hk
    have hS1 : va_S (gA ord adr s.heap.size) s.heap T'.heap (locs ++ L) := ⟨Nat.le_trans X.2.1 (by rw [e1]; exact hz), fun q h1 h2 => by rw [e1, hk q (Nat.lt_of_lt_of_le h1 X.2.1) (fun z => h2 (hAA q z))]; exact X.2.2.1 q h1 h2, fun q hq => by
        rcases List.mem_append.mp hq with h | h
        · exact X.2.2.2 q h
        · exact hAA _ (hL q h)⟩
    obtain ⟨t2, a1, b1⟩ := vx_out (Qc := gXQ D tys cell ord adr s.heap.size vd2 (o.1, 0, o.2.2)) (XC := gXX D tys cell ord adr s.heap.size (o.1, 0, o.2.2)) (free := gA ord adr s.heap.size) (ls := ls) (rest := rest) (fun x hx => (Tb x hx).elim) C.2.2.2.1 (by rw [e1]; exact hce) hcv hcl (fun t' ht' hA' => ⟨ho, hE, by rw [ht', e1]; exact hP, va_K.moved hA' C.2.1, hS1.F ht'⟩) hS1.2.2 h1 h2 T' rfl X'
    exact ⟨t2, st.trans a1, b1⟩
theorem t_preV (C : gC p s m args meth c cc nL own ret D tys ord adr Am) (X : gX D cell ord adr S s H locs) (w : gWV own index y cy mL rt n) {b q0 ci : Nat} {fs : List Value} {qc : vw_C} (hc : vwCl[ci]? = some qc) (hqc : qc.1 = y.cls) (he : (gw cell ord S)[q0]? = some (b, .inr (ci, fs)))
    (hM : gN l y cy mL rt d u2 D tys cell ord adr Am (.ref b :: As) S vd o) (hR : d + 1 ≤ R.frames) (hR2 : 8 + (mL + 11) + (40 * d + 13) ≤ R.locals) (hcs : cs + u2 ≤ R.cells) (hsl : sl + 6 * u2 ≤ R.slots) (hn : As.length = n) (hls : ls.size = nL) {st : List Value} (hst : st = As.reverse ++ .ref b :: rest) (hrest : (rest.map fun v => v.category).sum ≤ 8) (hdg : decode cc pc = .ok (.invokevirtual index, 3)) :
    vx_Run p l e R s m args below meth c H locs cs sl u2 (6 * u2) (F0 m pc ls st) rest (gXQ D tys cell ord adr H.size vd o (Value.ref b :: As).toArray) (gXX D tys cell ord adr H.size o) (gA ord adr H.size) := by
  subst hst
  refine vx_runV C.1 (hM H.size) (cwV n C.1.2.2.2.2 (gT_in (fun w' h => ?_)) rfl rfl rfl ⟨rfl, w.2.2.2.2.2⟩ ⟨hR, hR2⟩) ⟨(g_pre C X).1, ?_, (g_pre C X).2⟩ rfl hn hls rfl (lv_room hrest) hdg ⟨hcs, hsl⟩
  · unfold wsV at h
    rcases List.mem_append.mp h with h | h
    · simp only [List.mem_cons, List.not_mem_nil, or_false] at h
      rcases h with rfl | rfl | rfl | rfl
      · exact w.1
      · exact w.2.1
      · exact w.2.2.1
      · exact w.2.2.2.1
    · rcases List.mem_cons.mp h with rfl | h
      · exact w.2.2.2.2.1
      · exact h
  · have := va_recv C.2.1 X.1 hc he
    rewrite [hqc] at this
    exact this
theorem t_preS (C : gC p s m args meth c cc nL own ret D tys ord adr Am) (X : gX D cell ord adr S s H locs) (w : gWS own index y cy mL rt n)
    (hM : gN l y cy mL rt d u2 D tys cell ord adr Am As S vd o) (hR : d + 1 ≤ R.frames) (hR2 : 8 + (mL + 11) + (40 * d + 13) ≤ R.locals) (hcs : cs + u2 ≤ R.cells) (hsl : sl + 6 * u2 ≤ R.slots) (hn : As.length = n) (hls : ls.size = nL) {st : List Value} (hst : st = As.reverse ++ rest) (hrest : (rest.map fun v => v.category).sum ≤ 8) (hdg : decode cc pc = .ok (.invokestatic index, 3)) :
    vx_Run p l e R s m args below meth c H locs cs sl u2 (6 * u2) (F0 m pc ls st) rest (gXQ D tys cell ord adr H.size vd o As.toArray) (gXX D tys cell ord adr H.size o) (gA ord adr H.size) := by
  subst hst
  refine vx_runS C.1 (hM H.size) (cwS n C.1.2.2.2.2 (gT_in (fun w' h => ?_)) rfl rfl rfl ⟨w.2.2.2.2.1, w.2.2.2.2.2⟩ ⟨hR, hR2⟩) (g_pre C X) rfl hn hls rfl (lv_room hrest) hdg ⟨hcs, hsl⟩
  unfold wsS at h
  rcases List.mem_append.mp h with h | h
  · simp only [List.mem_cons, List.not_mem_nil, or_false] at h
    rcases h with rfl | rfl | rfl
    · exact w.1
    · exact w.2.1
    · exact w.2.2.1
  · rcases List.mem_cons.mp h with rfl | h
    · exact w.2.2.2.1
    · exact h
end THR

/-! part 05.gen -/
section
/-! THE GENERAL WORLD: all cells of one side (class or reference) as one list; a state is what the cells hold; every method is a map of states that may fail; its contract: where the map gives a value, the method returns it and the cells hold the new state. -/
noncomputable def gT : List Cond := lw_tbl.filter goodWord
theorem gT_of {w : Cond} (i : Nat) (h : lw_tbl[i]? = some w) (hg : goodWord w = true) : w ∈ gT := List.mem_filter.mpr ⟨List.mem_of_getElem? h, hg⟩
theorem gT_sub {w : Cond} (h : w ∈ gT) : w ∈ lw_tbl := (List.mem_filter.mp h).1
theorem gT_good {w : Cond} (h : w ∈ gT) : (w.onTables && w.keeps) = true ∨ ∃ ty, w = .arrayClass ty := good_of_word (List.mem_filter.mp h).2
theorem gT_places {ws : List Cond} (ps : List Nat) (h : ws = ps.filterMap (fun i => lw_tbl[i]?)) (hg : ws.all goodWord = true) : ∀ w ∈ ws, w ∈ gT := by
  intro w hw
  have h1 := List.all_eq_true.mp hg w hw
  rw [h] at hw
  obtain ⟨i, -, hi⟩ := List.mem_filterMap.mp hw
  exact List.mem_filter.mpr ⟨List.mem_of_getElem? hi, h1⟩
theorem gT_in {ws : List Cond} (h : ∀ w ∈ ws, w ∈ gT) : GoodIn gT ws := fun w hw => ⟨h w hw, gT_good (h w hw)⟩
/-- a state: of each cell what it holds (an object's numbers by their slots, a row's elements) -/
abbrev gS : Type := Nat → Nat → Int32
noncomputable def sU (S : gS) (a b : Nat) (x : Int32) : gS := fun i => if i = a then upd (S a) b x else S i
theorem sU_ne {S : gS} {a b i : Nat} {x : Int32} (h : i ≠ a) : sU S a b x i = S i := if_neg h
theorem sU_eq {S : gS} {a b : Nat} {x : Int32} : sU S a b x a = upd (S a) b x := if_pos rfl
noncomputable def gw (cell : gS → Nat → Nat × va_E) (ord : List Nat) (S : gS) : va_W := ord.map (cell S)
def gA (ord : List Nat) (adr : Nat → Nat) (sz : Nat) : Nat → Prop := fun q => (∃ k, k ∈ ord ∧ q = adr k) ∨ sz ≤ q
def gO (cell : gS → Nat → Nat × va_E) (ord : List Nat) (adr : Nat → Nat) : Prop :=
  (∀ (S S' : gS) (j : Nat), S j = S' j → cell S j = cell S' j) ∧ (∀ (S : gS) (j : Nat), (cell S j).1 = adr j) ∧ (∀ (i j a b : Nat), ord[i]? = some a → ord[j]? = some b → adr a = adr b → i = j)
theorem gw_get {cell : gS → Nat → Nat × va_E} {ord : List Nat} {S : gS} {q k : Nat} (hq : ord[q]? = some k) {e : Nat × va_E} (he : cell S k = e) : (gw cell ord S)[q]? = some e := by
  unfold gw
  rw [List.getElem?_map, hq, ← he]
  rfl
theorem gw_of {cell : gS → Nat → Nat × va_E} {ord : List Nat} {S : gS} {q : Nat} {e : Nat × va_E} (h : (gw cell ord S)[q]? = some e) : ∃ k, ord[q]? = some k ∧ cell S k = e := by
  unfold gw at h
  rw [List.getElem?_map] at h
  cases hk : ord[q]? with
  | none => rw [hk] at h; cases h
  | some k => rw [hk] at h; exact ⟨k, rfl, Option.some.inj h⟩
theorem gw_D {cell : gS → Nat → Nat × va_E} {ord : List Nat} {adr : Nat → Nat} (O : gO cell ord adr) (S : gS) (sz : Nat) : va_D (gA ord adr sz) (gw cell ord S) := by
  refine ⟨fun i j p q hi hj e => ?_, fun k q h => ?_⟩
  · obtain ⟨a, ha, rfl⟩ := gw_of hi
    obtain ⟨b, hb, rfl⟩ := gw_of hj
    rw [O.2.1, O.2.1] at e
    exact O.2.2 i j a b ha hb e
  · obtain ⟨a, ha, rfl⟩ := gw_of h
    exact Or.inl ⟨a, List.mem_of_getElem? ha, O.2.1 S a⟩
theorem gw_set {cell : gS → Nat → Nat × va_E} {ord : List Nat} {adr : Nat → Nat} (O : gO cell ord adr) {S S' : gS} {q k : Nat} (hq : ord[q]? = some k) {e : Nat × va_E} (he : cell S' k = e) (hS : ∀ j, j ≠ k → S' j = S j) : (gw cell ord S).set q e = gw cell ord S' := by
  apply List.ext_getElem?
  intro i
  by_cases hi : i = q
  · subst hi
    have hl : i < (gw cell ord S).length := by
      unfold gw
      rw [List.length_map]
      exact (List.getElem?_eq_some_iff.mp hq).1
    rw [List.getElem?_set_self hl, gw_get hq he]
  · rw [List.getElem?_set_ne (Ne.symm hi)]
    unfold gw
    rw [List.getElem?_map, List.getElem?_map]
    cases hk : ord[i]? with
    | none => rfl
    | some a =>
      have : a ≠ k := fun h => hi (O.2.2 i q a k hk hq (by rw [h]))
      show some (cell S a) = some (cell S' a)
      rw [O.1 S S' a (hS a this).symm]
/-! maps of states that may fail -/
noncomputable def chk {α : Type} (b : Bool) (x : Option α) : Option α := match b with
  | true => x
  | false => none
theorem chk_some {α : Type} {b : Bool} {x : Option α} {o : α} (h : chk b x = some o) : b = true ∧ x = some o := by
  cases b with
  | true => exact ⟨rfl, h⟩
  | false => cases h
noncomputable def bnd {α β : Type} (x : Option α) (f : α → Option β) : Option β := match x with
  | some a => f a
  | none => none
theorem bnd_some {α β : Type} {x : Option α} {f : α → Option β} {o : β} (h : bnd x f = some o) : ∃ a, x = some a ∧ f a = some o := by
  cases x with
  | none => cases h
  | some a => exact ⟨a, rfl, h⟩
noncomputable def lt {α β : Type} (x : α) (f : α → β) : β := f x
theorem lt_some {α β : Type} {x : α} {f : α → β} {o : β} (h : lt x f = o) : ∃ a, a = x ∧ f a = o := ⟨x, rfl, h⟩
noncomputable def inb (i : Int32) (n : Nat) : Bool := decide (¬ (i < 0 ∨ n ≤ i.toNatClampNeg))
theorem inb_vp {i : Int32} {n : Nat} (h : inb i n = true) : vp_in i n := by
  unfold inb at h
  unfold vp_in
  exact of_decide_eq_true h
noncomputable def nz (x : Int32) : Bool := decide (¬ x = 0)
theorem nz_ne {x : Int32} (h : nz x = true) : ¬ x = 0 := of_decide_eq_true h
noncomputable def zb (x : Int32) : Bool := decide (x = 0 ∨ x = 1)
theorem zb_narrow {x : Int32} (h : zb x = true) : narrow .boolean (.int x) = .int x := by
  rcases of_decide_eq_true h with rfl | rfl <;> rfl
theorem zb_fits {x : Int32} (h : zb x = true) : fits .boolean (.int x) = true := by
  rcases of_decide_eq_true h with rfl | rfl <;> rfl
/-! rooms: d frames -/
noncomputable def rmd (d : Nat) : Room := { frames := d, cells := 0, slots := 0, locals := 40 * d + 13 }
/-- what a side rests on besides its cells (texts, words of nest mates): it stays while what is old stays -/
def gAm (Am : (Nat → Prop) → State → Heap → Prop) : Prop := ∀ (A B : Nat → Prop) (s U : State) (H : Heap), s.WarmedH U.vm → Am A s s.heap → (∀ q : Nat, q < s.heap.size → ¬ A q → H[q]? = s.heap[q]?) → (∀ q, B q → A q) → Am B U H
def gC (p : Program) (s : State) (m : MethodId) (args : Array Value) (meth : Method) (c : Code) (cc : ByteArray) (nL : Nat) (own : String) (ret : Option FieldType) (D : va_G) (tys : List (ClassId × FieldType)) (ord : List Nat) (adr : Nat → Nat) (Am : (Nat → Prop) → State → Heap → Prop) : Prop :=
  CallFix p m c cc nL s args gT own ∧ va_K D vwCl tys s ∧ meth.sig.returnType = ret ∧ meth.locks = false ∧ gAm Am ∧ Am (gA ord adr s.heap.size) s s.heap
def gX (D : va_G) (cell : gS → Nat → Nat × va_E) (ord : List Nat) (adr : Nat → Nat) (S : gS) (s : State) (H : Heap) (locs : List Loc) : Prop :=
  va_P D vwCl (gw cell ord S) H ∧ va_S (gA ord adr s.heap.size) s.heap H locs
def gQ (D : va_G) (tys : List (ClassId × FieldType)) (cell : gS → Nat → Nat × va_E) (ord : List Nat) (adr : Nat → Nat) (sz : Nat) (v : Option Value) (S' : gS) : Array Value → State → Outcome → State → Prop := fun _ st oc t =>
  (oc = .returned v ∧ va_P D vwCl (gw cell ord S') t.heap ∧ va_K D vwCl tys t) ∧ va_F (gA ord adr sz) st t
def gM (l : Launch) (y : MethodName) (cy : ByteArray) (mL : Nat) (rt : Option FieldType) (d : Nat) (D : va_G) (tys : List (ClassId × FieldType)) (cell : gS → Nat → Nat × va_E) (ord : List Nat) (adr : Nat → Nat) (Am : (Nat → Prop) → State → Heap → Prop) (av : List Value) (S : gS) (v : Option Value) (S' : gS) : Prop :=
  ∀ sz : Nat, Met l y (Cond.code y cy mL rt :: gT) (rmd d) (va_Pc av (fun U => U.heap.size = sz ∧ va_P D vwCl (gw cell ord S) U.heap ∧ va_K D vwCl tys U ∧ Am (gA ord adr sz) U U.heap)) (gQ D tys cell ord adr sz v S') 0 0 (gA ord adr sz)
def gE (below : List Frame) (args : Array Value) (s : State) (D : va_G) (tys : List (ClassId × FieldType)) (cell : gS → Nat → Nat × va_E) (ord : List Nat) (adr : Nat → Nat) (v : Option Value) (S' : gS) : State → Prop :=
  MQ below (gQ D tys cell ord adr s.heap.size v S') args s 0 0 (gA ord adr s.heap.size)
section GEN
variable {p : Program} {l : Launch} {e : Env} {R : Room} {s : State} {m : MethodId} {args : Array Value} {below : List Frame} {meth : Method} {c : Code} {H : Heap} {locs : List Loc} {cs sl : Nat} {Q : State → Prop} {Am : (Nat → Prop) → State → Heap → Prop}
variable {cc cy : ByteArray} {nL mL pc n index d : Nat} {own Cn : String} {ret rt : Option FieldType} {D : va_G} {tys : List (ClassId × FieldType)} {cell : gS → Nat → Nat × va_E} {ord : List Nat} {adr : Nat → Nat} {S S' : gS} {ls : Array Slot} {rest As av : List Value} {y : MethodName} {v : Option Value}
/-- a contract out of a walk of the body -/
theorem gM_of (O : gO cell ord adr) (P : gAm Am) (hy : plainName y.cls = true) (hn : (lg_sl av).length ≤ mL)
    (hw : ∀ (p : Program) (e : Env) (s : State) (m : MethodId) (args : Array Value) (below : List Frame) (meth : Method) (c : Code) (ls : Array Slot), gC p s m args meth c cy mL y.cls rt D tys ord adr Am → gX D cell ord adr S s s.heap [] → lv_has ls mL (lv_args 0 av) →
      W p l e (rmd d) s m args below meth c s.heap [] 0 0 (gE below args s D tys cell ord adr v S') (F0 m 0 ls [])) : gM l y cy mL rt d D tys cell ord adr Am av S v S' := by
  intro sz
  refine Met.ofW (cc := cy) (maxL := mL) (ret := rt) hy rfl ?_
  intro p e s m args below meth c s₁ B hml hv
  obtain ⟨rfl, hsz, hP, hK, hY⟩ := hv
  have hts := atoms_spec (ws := Cond.code y cy mL rt :: gT) B.pre
  subst hsz
  rw [lg_entry_eq]
  exact hw p e s m _ below meth c _ ⟨⟨B.exec, B.bytes, hml, findClass_of_methodNamed B.named, fun w h => hts w (List.mem_cons_of_mem _ h)⟩, hK, B.returns, B.notSynchronized, P, hY⟩ ⟨hP, va_S.rf⟩ (lv_entry av hn)
theorem g_iret (C : gC p s m args meth c cc nL own (some .int) D tys ord adr Am) (X : gX D cell ord adr S s H locs) {x : Int32} (hdg : decode cc pc = .ok (.ireturn, 1)) :
    W p l e R s m args below meth c H locs 0 0 (gE below args s D tys cell ord adr (some (.int x)) S) (F0 m pc ls [.int x]) :=
  W.iret (v := x) C.1.1 C.1.2.1 C.2.2.1 (fun t ht hW => ⟨⟨rfl, by rw [ht]; exact X.1, va_K.moved hW.alike C.2.1⟩, X.2.F ht⟩) X.2.2.2 hdg C.2.2.2.1
theorem g_zret (C : gC p s m args meth c cc nL own (some .boolean) D tys ord adr Am) (X : gX D cell ord adr S s H locs) {x : Int32} (hz : zb x = true) (hdg : decode cc pc = .ok (.ireturn, 1)) :
    W p l e R s m args below meth c H locs 0 0 (gE below args s D tys cell ord adr (some (.int x)) S) (F0 m pc ls [.int x]) :=
  W.zret (v := x) C.1.1 C.1.2.1 C.2.2.1 (zb_narrow hz) (fun t ht hW => ⟨⟨rfl, by rw [ht]; exact X.1, va_K.moved hW.alike C.2.1⟩, X.2.F ht⟩) X.2.2.2 hdg C.2.2.2.1
theorem g_vret (C : gC p s m args meth c cc nL own none D tys ord adr Am) (X : gX D cell ord adr S s H locs) (hdg : decode cc pc = .ok (.return_, 1)) :
    W p l e R s m args below meth c H locs 0 0 (gE below args s D tys cell ord adr none S) (F0 m pc ls []) :=
  W.vret C.1.1 C.1.2.1 C.2.2.1 (fun t ht hW => ⟨⟨rfl, by rw [ht]; exact X.1, va_K.moved hW.alike C.2.1⟩, X.2.F ht⟩) X.2.2.2 hdg C.2.2.2.1
/-- what came back of a call -/
theorem g_back {st0 : List Value} {a : Array Value} (hr : va_Run p l e R s m args below meth c H locs cs sl 0 0 (F0 m pc ls st0) rest (gQ D tys cell ord adr H.size v S' a) (gA ord adr H.size)) (X : gX D cell ord adr S s H locs)
    (kk : ∀ (H1 : Heap) (locs1 : List Loc), gX D cell ord adr S' s H1 locs1 → W p l e R s m args below meth c H1 locs1 cs sl Q (F0 m (pc + 3) ls (v.toList ++ rest))) : W p l e R s m args below meth c H locs cs sl Q (F0 m pc ls st0) := by
  intro T hT X0
  obtain ⟨v', st₀, t, T', L, h0, X', hL, e1, e2, ⟨⟨hv, hP, hK⟩, hz, hk⟩, st⟩ := hr T hT X0
  cases hv
  rw [h0] at hz hk
  have hAA : ∀ q, gA ord adr H.size q → gA ord adr s.heap.size q := fun q hq => hq.elim Or.inl (fun h => Or.inr (Nat.le_trans X.2.1 h))
  obtain ⟨t2, a1, b1⟩ := kk T'.heap (locs ++ L) ⟨by rw [e1]; exact hP, Nat.le_trans X.2.1 (by rw [e1]; exact hz), fun q h1 h2 => by rw [e1, hk q (Nat.lt_of_lt_of_le h1 X.2.1) (fun z => h2 (hAA q z))]; exact X.2.2.1 q h1 h2, fun q hq => by
      rcases List.mem_append.mp hq with h | h
      · exact X.2.2.2 q h
      · exact hAA _ (hL q h)⟩ T' rfl X'
  exact ⟨t2, st t2 a1, b1⟩
/-- the words of a call of an instance method -/
def gWV (own : String) (index : Nat) (y : MethodName) (cy : ByteArray) (mL : Nat) (rt : Option FieldType) (n : Nat) : Prop :=
  Cond.methodLink own index y ∈ gT ∧ Cond.instanceMethod y ∈ gT ∧ Cond.selects y.cls y y ∈ gT ∧ Cond.initialized y.cls ∈ gT ∧ Cond.code y cy mL rt ∈ gT ∧ (y.cls ≠ "java/lang/invoke/MethodHandle" ∧ y.cls ≠ "java/lang/invoke/VarHandle" ∧ (parseMethodDescriptor y.desc).map (fun d => d.parameters.length) = some n)
def gWS (own : String) (index : Nat) (y : MethodName) (cy : ByteArray) (mL : Nat) (rt : Option FieldType) (n : Nat) : Prop :=
  Cond.methodLink own index y ∈ gT ∧ Cond.static y ∈ gT ∧ Cond.initialized own ∈ gT ∧ Cond.code y cy mL rt ∈ gT ∧ y.cls = own ∧ (y.cls ≠ "java/lang/invoke/MethodHandle" ∧ y.cls ≠ "java/lang/invoke/VarHandle" ∧ (parseMethodDescriptor y.desc).map (fun d => d.parameters.length) = some n)
theorem g_pre (C : gC p s m args meth c cc nL own ret D tys ord adr Am) (X : gX D cell ord adr S s H locs) {a : List Value} : FrameBlind (va_Pc a (fun U => U.heap.size = H.size ∧ va_P D vwCl (gw cell ord S) U.heap ∧ va_K D vwCl tys U ∧ Am (gA ord adr H.size) U U.heap)) ∧ ∀ U : State, U.heap = H → s.WarmedH U.vm → va_Pc a (fun U => U.heap.size = H.size ∧ va_P D vwCl (gw cell ord S) U.heap ∧ va_K D vwCl tys U ∧ Am (gA ord adr H.size) U U.heap) a.toArray U :=
  ⟨fun a U g mk q => by obtain ⟨q0, q1, qP, qK, qY⟩ := q; exact ⟨q0, q1, qP, va_K.moved (u := U) (U := U.calling g mk a) (Vm.Alike.refl U.vm) qK, C.2.2.2.2.1 _ _ U (U.calling g mk a) U.heap (State.WarmedH.refl U) qY (fun _ _ _ => rfl) (fun _ h => h)⟩, fun U hU hW => ⟨rfl, by rw [hU], by rw [hU]; exact X.1, va_K.moved hW.alike C.2.1, by rw [hU]; exact C.2.2.2.2.1 _ _ s U H hW C.2.2.2.2.2 X.2.2.1 (fun q hq => hq.elim Or.inl (fun h => Or.inr (Nat.le_trans X.2.1 h)))⟩⟩
theorem g_callV (C : gC p s m args meth c cc nL own ret D tys ord adr Am) (X : gX D cell ord adr S s H locs) (w : gWV own index y cy mL rt n) {b q0 ci : Nat} {fs : List Value} {qc : vw_C} (hc : vwCl[ci]? = some qc) (hqc : qc.1 = y.cls) (he : (gw cell ord S)[q0]? = some (b, .inr (ci, fs)))
    (hM : gM l y cy mL rt d D tys cell ord adr Am (.ref b :: As) S v S') (hR : d + 1 ≤ R.frames) (hR2 : 8 + (mL + 11) + (40 * d + 13) ≤ R.locals) (hcs : cs ≤ R.cells) (hsl : sl ≤ R.slots) (hn : As.length = n) (hls : ls.size = nL) {st : List Value} (hst : st = As.reverse ++ .ref b :: rest) (hrest : (rest.map fun v => v.category).sum ≤ 8) (hdg : decode cc pc = .ok (.invokevirtual index, 3))
    (kk : ∀ (H1 : Heap) (locs1 : List Loc), gX D cell ord adr S' s H1 locs1 → W p l e R s m args below meth c H1 locs1 cs sl Q (F0 m (pc + 3) ls (v.toList ++ rest))) : W p l e R s m args below meth c H locs cs sl Q (F0 m pc ls st) := by
  subst hst
  refine g_back (va_runV C.1 (hM H.size) (cwV n C.1.2.2.2.2 (gT_in (fun w' h => ?_)) rfl rfl rfl ⟨rfl, w.2.2.2.2.2⟩ ⟨hR, hR2⟩) ⟨(g_pre C X).1, ?_, (g_pre C X).2⟩ rfl hn hls rfl (lv_room hrest) hdg ⟨hcs, hsl⟩) X kk
  · unfold wsV at h
    rcases List.mem_append.mp h with h | h
    · simp only [List.mem_cons, List.not_mem_nil, or_false] at h
      rcases h with rfl | rfl | rfl | rfl
      · exact w.1
      · exact w.2.1
      · exact w.2.2.1
      · exact w.2.2.2.1
    · rcases List.mem_cons.mp h with rfl | h
      · exact w.2.2.2.2.1
      · exact h
  · have := va_recv C.2.1 X.1 hc he
    rw [hqc] at this
    exact this
theorem g_callS (C : gC p s m args meth c cc nL own ret D tys ord adr Am) (X : gX D cell ord adr S s H locs) (w : gWS own index y cy mL rt n)
    (hM : gM l y cy mL rt d D tys cell ord adr Am As S v S') (hR : d + 1 ≤ R.frames) (hR2 : 8 + (mL + 11) + (40 * d + 13) ≤ R.locals) (hcs : cs ≤ R.cells) (hsl : sl ≤ R.slots) (hn : As.length = n) (hls : ls.size = nL) {st : List Value} (hst : st = As.reverse ++ rest) (hrest : (rest.map fun v => v.category).sum ≤ 8) (hdg : decode cc pc = .ok (.invokestatic index, 3))
    (kk : ∀ (H1 : Heap) (locs1 : List Loc), gX D cell ord adr S' s H1 locs1 → W p l e R s m args below meth c H1 locs1 cs sl Q (F0 m (pc + 3) ls (v.toList ++ rest))) : W p l e R s m args below meth c H locs cs sl Q (F0 m pc ls st) := by
  subst hst
  refine g_back (va_runS C.1 (hM H.size) (cwS n C.1.2.2.2.2 (gT_in (fun w' h => ?_)) rfl rfl rfl ⟨w.2.2.2.2.1, w.2.2.2.2.2⟩ ⟨hR, hR2⟩) (g_pre C X) rfl hn hls rfl (lv_room hrest) hdg ⟨hcs, hsl⟩) X kk
  unfold wsS at h
  rcases List.mem_append.mp h with h | h
  · simp only [List.mem_cons, List.not_mem_nil, or_false] at h
    rcases h with rfl | rfl | rfl
    · exact w.1
    · exact w.2.1
    · exact w.2.2.1
  · rcases List.mem_cons.mp h with rfl | h
    · exact w.2.2.2.1
    · exact h
theorem g_callSi (C : gC p s m args meth c cc nL own ret D tys ord adr Am) (X : gX D cell ord adr S s H locs) (w : gWS own index y cy mL rt n) {x : Int32}
    (hM : gM l y cy mL rt d D tys cell ord adr Am As S (some (.int x)) S') (hR : d + 1 ≤ R.frames) (hR2 : 8 + (mL + 11) + (40 * d + 13) ≤ R.locals) (hcs : cs ≤ R.cells) (hsl : sl ≤ R.slots) (hn : As.length = n) (hls : ls.size = nL) {st : List Value} (hst : st = As.reverse ++ rest) (hrest : (rest.map fun v => v.category).sum ≤ 8) (hdg : decode cc pc = .ok (.invokestatic index, 3))
    (kk : ∀ (H1 : Heap) (locs1 : List Loc), gX D cell ord adr S' s H1 locs1 → W p l e R s m args below meth c H1 locs1 cs sl Q (F0 m (pc + 3) ls (.int x :: rest))) : W p l e R s m args below meth c H locs cs sl Q (F0 m pc ls st) :=
  g_callS C X w hM hR hR2 hcs hsl hn hls hst hrest hdg kk
theorem g_tsw (lo hi : Int) (x : Int32) (h : ∀ i : Int, lo ≤ i → i ≤ hi → ¬ x = Int32.ofInt i) : x.toInt < lo ∨ hi < x.toInt := by
  rcases Int.lt_or_le x.toInt lo with h1 | h1
  · exact Or.inl h1
  · rcases Int.lt_or_le hi x.toInt with h2 | h2
    · exact Or.inr h2
    · exact absurd (by simp) (h x.toInt h1 h2)
/-! fields and rows -/
theorem g_get (C : gC p s m args meth c cc nL own ret D tys ord adr Am) (X : gX D cell ord adr S s H locs) {q k ci N : Nat} {T : u_T} {fs : List Value} {x : Value} (hq : ord[q]? = some k) (hc : cell S k = (adr k, .inr (ci, fs))) (hcl : vwCl[ci]? = some (Cn, T, N)) (hin : ∀ w ∈ u_ws Cn T N, w ∈ gT) (j : Nat) (hj : j < N) (hl : Cond.fieldLink own index (T j).1 (T j).2.1 (T j).2.2.1 ∈ gT) (hv : fs[j]? = some x) (hdg : decode cc pc = .ok (.getfield index, 3))
    (kk : W p l e R s m args below meth c H locs cs sl Q (F0 m (pc + 3) ls (x :: rest))) : W p l e R s m args below meth c H locs cs sl Q (F0 m pc ls (.ref (adr k) :: rest)) :=
  va_get (D := D) C.1.1 C.1.2.1 C.1.2.2.2.2 hin C.1.2.2.2.1 C.2.1 X.1 q (gw_get hq hc) hcl j hj (C.1.2.2.2.2 _ hl) (fun _ h => h) hv hdg kk
theorem g_put (C : gC p s m args meth c cc nL own ret D tys ord adr Am) (O : gO cell ord adr) (X : gX D cell ord adr S s H locs) {q k ci N : Nat} {T : u_T} {fs : List Value} {x : Value} (hq : ord[q]? = some k) (hc : cell S k = (adr k, .inr (ci, fs))) (hcl : vwCl[ci]? = some (Cn, T, N)) (hin : ∀ w ∈ u_ws Cn T N, w ∈ gT) (ty0 : Nat → FieldType) (hty : ∀ k, k < N → parseFieldDescriptor (T k).2.2.1 = some (ty0 k)) (hnm : ∀ a, a < N → ∀ b, b < N → a ≠ b → (T a).2.1 ≠ (T b).2.1) (j : Nat) (hj : j < N) (hl : Cond.fieldLink own index (T j).1 (T j).2.1 (T j).2.2.1 ∈ gT) (hfin : (T j).2.2.2 = false) (hn : narrow (ty0 j) x = x) (hfit : fits (ty0 j) x = true) (hlen : j < fs.length) (hS : ∀ i, i ≠ k → S' i = S i) (hc' : cell S' k = (adr k, .inr (ci, fs.set j x))) (hdg : decode cc pc = .ok (.putfield index, 3))
    (kk : ∀ (H1 : Heap) (locs1 : List Loc), gX D cell ord adr S' s H1 locs1 → W p l e R s m args below meth c H1 locs1 cs sl Q (F0 m (pc + 3) ls rest)) : W p l e R s m args below meth c H locs cs sl Q (F0 m pc ls (x :: .ref (adr k) :: rest)) :=
  va_put (D := D) (ty := ty0 j) C.1.1 C.1.2.1 C.1.2.2.2.2 hin ty0 hty hnm C.1.2.2.2.1 C.2.1 X.1 (gw_D O S _) X.2 q (gw_get hq hc) hcl j hj (C.1.2.2.2.2 _ hl) (fun _ h => h) hfin (hty j hj) hn hfit hlen hdg (fun H1 locs1 hP hD hS1 => kk H1 locs1 ⟨by rw [gw_set O hq hc' hS] at hP; exact hP, hS1⟩)
theorem g_iald (C : gC p s m args meth c cc nL own ret D tys ord adr Am) (X : gX D cell ord adr S s H locs) {q k t0 n : Nat} {cA : ClassId} {f : Nat → Int32} (hq : ord[q]? = some k) (hc : cell S k = (adr k, .inl (cA, n, .inl f))) (ht : tys[t0]? = some (cA, .int)) {i : Int32} {j : Nat} (hin : vp_in i n) (hj : i.toNatClampNeg = j) (hdg : decode cc pc = .ok (.iaload, 1))
    (kk : W p l e R s m args below meth c H locs cs sl Q (F0 m (pc + 1) ls (.int (f j) :: rest))) : W p l e R s m args below meth c H locs cs sl Q (F0 m pc ls (.int i :: .ref (adr k) :: rest)) := by
  subst hj
  exact va_iald C.1.1 C.1.2.1 C.2.1 X.1 q t0 (gw_get hq hc) ht hin hdg kk
theorem g_iast (C : gC p s m args meth c cc nL own ret D tys ord adr Am) (O : gO cell ord adr) (X : gX D cell ord adr S s H locs) {q k t0 n : Nat} {cA : ClassId} {f : Nat → Int32} (hq : ord[q]? = some k) (hc : cell S k = (adr k, .inl (cA, n, .inl f))) (ht : tys[t0]? = some (cA, .int)) {i x : Int32} {j : Nat} (hin : vp_in i n) (hj : i.toNatClampNeg = j) (hS : ∀ i, i ≠ k → S' i = S i) (hc' : cell S' k = (adr k, .inl (cA, n, .inl (upd f j x)))) (hdg : decode cc pc = .ok (.iastore, 1))
    (kk : ∀ (H1 : Heap) (locs1 : List Loc), gX D cell ord adr S' s H1 locs1 → W p l e R s m args below meth c H1 locs1 cs sl Q (F0 m (pc + 1) ls rest)) : W p l e R s m args below meth c H locs cs sl Q (F0 m pc ls (.int x :: .int i :: .ref (adr k) :: rest)) := by
  subst hj
  exact va_iast C.1.1 C.1.2.1 C.2.1 X.1 (gw_D O S _) X.2 q t0 (gw_get hq hc) ht hin hdg (fun H1 locs1 hP hD hS1 => kk H1 locs1 ⟨by rw [gw_set O hq hc' hS] at hP; exact hP, hS1⟩)
theorem g_alen (C : gC p s m args meth c cc nL own ret D tys ord adr Am) (X : gX D cell ord adr S s H locs) {q k t0 : Nat} {cA : ClassId} {z : vp_A} {ty : FieldType} (hq : ord[q]? = some k) (hc : cell S k = (adr k, .inl (cA, z))) (ht : tys[t0]? = some (cA, ty)) {x : Int32} (hx : Int32.ofNat z.1 = x) (hdg : decode cc pc = .ok (.arraylength, 1))
    (kk : W p l e R s m args below meth c H locs cs sl Q (F0 m (pc + 1) ls (.int x :: rest))) : W p l e R s m args below meth c H locs cs sl Q (F0 m pc ls (.ref (adr k) :: rest)) :=
  va_alen C.1.1 C.1.2.1 C.2.1 X.1 q t0 (gw_get hq hc) ht hx hdg kk
theorem g_max (C : gC p s m args meth c cc nL own ret D tys ord adr Am) (hls : ls.size = nL) (w : Cond.methodLink own index Lib.Math.max.name ∈ gT ∧ Cond.static Lib.Math.max.name ∈ gT ∧ Cond.initialized "java/lang/Math" ∈ gT ∧ Cond.code Lib.Math.max.name Lib.Math.max.code 2 (some .int) ∈ gT) (hR : 1 ≤ R.frames ∧ (rest.map fun v => v.category).sum + 13 ≤ R.locals) (hcs : cs ≤ R.cells) (hsl : sl ≤ R.slots) {x y : Int32} (hdg : decode cc pc = .ok (.invokestatic index, 3))
    (kk : W p l e R s m args below meth c H locs cs sl Q (F0 m (pc + 3) ls (.int (if x < y then y else x) :: rest))) : W p l e R s m args below meth c H locs cs sl Q (F0 m pc ls (.int y :: .int x :: rest)) :=
  va_mmax C.1.1 C.1.2.1 (C.1.2.2.1.trans hls.symm) C.1.2.2.2.1 (C.1.2.2.2.2 _ w.1) (C.1.2.2.2.2 _ w.2.1) (C.1.2.2.2.2 _ w.2.2.1) (C.1.2.2.2.2 _ w.2.2.2) hR.1 hR.2 hcs hsl hdg kk
theorem g_min (C : gC p s m args meth c cc nL own ret D tys ord adr Am) (hls : ls.size = nL) (w : Cond.methodLink own index Lib.Math.min.name ∈ gT ∧ Cond.static Lib.Math.min.name ∈ gT ∧ Cond.initialized "java/lang/Math" ∈ gT ∧ Cond.code Lib.Math.min.name Lib.Math.min.code 2 (some .int) ∈ gT) (hR : 1 ≤ R.frames ∧ (rest.map fun v => v.category).sum + 13 ≤ R.locals) (hcs : cs ≤ R.cells) (hsl : sl ≤ R.slots) {x y : Int32} (hdg : decode cc pc = .ok (.invokestatic index, 3))
    (kk : W p l e R s m args below meth c H locs cs sl Q (F0 m (pc + 3) ls (.int (if y < x then y else x) :: rest))) : W p l e R s m args below meth c H locs cs sl Q (F0 m pc ls (.int y :: .int x :: rest)) :=
  va_mmin C.1.1 C.1.2.1 (C.1.2.2.1.trans hls.symm) C.1.2.2.2.1 (C.1.2.2.2.2 _ w.1) (C.1.2.2.2.2 _ w.2.1) (C.1.2.2.2.2 _ w.2.2.1) (C.1.2.2.2.2 _ w.2.2.2) hR.1 hR.2 hcs hsl hdg kk
end GEN
end

/-! part 051.words -/
section
/-! words by the chunk of the tables that holds them (printed by wip/whole/fastwords.py) -/
theorem gT_c1 {w : Cond} (i : Nat) (h : tables_1_1[i]? = some w) (hg : goodWord w = true) : w ∈ gT := List.mem_filter.mpr ⟨List.mem_append_right _ (List.mem_append_left _ (List.mem_of_getElem? h)), hg⟩
theorem gT_c2 {w : Cond} (i : Nat) (h : tables_1_2[i]? = some w) (hg : goodWord w = true) : w ∈ gT := List.mem_filter.mpr ⟨List.mem_append_right _ (List.mem_append_right _ (List.mem_append_left _ (List.mem_of_getElem? h))), hg⟩
theorem gT_c3 {w : Cond} (i : Nat) (h : tables_1_3[i]? = some w) (hg : goodWord w = true) : w ∈ gT := List.mem_filter.mpr ⟨List.mem_append_right _ (List.mem_append_right _ (List.mem_append_right _ (List.mem_append_left _ (List.mem_of_getElem? h)))), hg⟩
theorem gT_c4 {w : Cond} (i : Nat) (h : tables_1_4[i]? = some w) (hg : goodWord w = true) : w ∈ gT := List.mem_filter.mpr ⟨List.mem_append_right _ (List.mem_append_right _ (List.mem_append_right _ (List.mem_append_right _ (List.mem_append_left _ (List.mem_of_getElem? h))))), hg⟩
theorem gT_c5 {w : Cond} (i : Nat) (h : tables_1_5[i]? = some w) (hg : goodWord w = true) : w ∈ gT := List.mem_filter.mpr ⟨List.mem_append_right _ (List.mem_append_right _ (List.mem_append_right _ (List.mem_append_right _ (List.mem_append_right _ (List.mem_append_left _ (List.mem_of_getElem? h)))))), hg⟩
theorem gT_c6 {w : Cond} (i : Nat) (h : tables_1_6[i]? = some w) (hg : goodWord w = true) : w ∈ gT := List.mem_filter.mpr ⟨List.mem_append_right _ (List.mem_append_right _ (List.mem_append_right _ (List.mem_append_right _ (List.mem_append_right _ (List.mem_append_right _ (List.mem_append_left _ (List.mem_of_getElem? h))))))), hg⟩
theorem gT_c7 {w : Cond} (i : Nat) (h : tables_1_7[i]? = some w) (hg : goodWord w = true) : w ∈ gT := List.mem_filter.mpr ⟨List.mem_append_right _ (List.mem_append_right _ (List.mem_append_right _ (List.mem_append_right _ (List.mem_append_right _ (List.mem_append_right _ (List.mem_append_right _ (List.mem_append_left _ (List.mem_of_getElem? h)))))))), hg⟩
theorem gT_c8 {w : Cond} (i : Nat) (h : tables_1_8[i]? = some w) (hg : goodWord w = true) : w ∈ gT := List.mem_filter.mpr ⟨List.mem_append_right _ (List.mem_append_right _ (List.mem_append_right _ (List.mem_append_right _ (List.mem_append_right _ (List.mem_append_right _ (List.mem_append_right _ (List.mem_append_right _ (List.mem_append_left _ (List.mem_of_getElem? h))))))))), hg⟩
theorem gT_c9 {w : Cond} (i : Nat) (h : tables_1_9[i]? = some w) (hg : goodWord w = true) : w ∈ gT := List.mem_filter.mpr ⟨List.mem_append_right _ (List.mem_append_right _ (List.mem_append_right _ (List.mem_append_right _ (List.mem_append_right _ (List.mem_append_right _ (List.mem_append_right _ (List.mem_append_right _ (List.mem_append_right _ (List.mem_of_getElem? h))))))))), hg⟩
end

/-! part 06.model -/
section
/-! THE REFERENCE: its world, its rows (printed by wip/whole/mkmodel.py) -/
noncomputable def mord : List Nat := [99, 5, 6, 7, 8, 9, 10, 11, 12, 13, 14, 15, 16, 17, 18, 19, 32, 33, 34, 35, 36, 42, 43, 46, 47, 48, 49, 50, 51, 52, 53, 55, 60, 61, 62, 63, 64, 65, 0, 1, 2]
noncomputable def mI (k : Nat) : Bool := decide (k ∈ ([5, 6, 7, 8, 9, 10, 11, 12, 13, 14, 15, 16, 17, 18, 19, 32, 33, 34, 35, 36, 42, 43, 46, 47, 48, 49, 50, 51, 52, 53, 55, 60, 61, 62, 63, 64, 65] : List Nat))
noncomputable def mN (k : Nat) : Nat := match k with
  | 5 => 12
  | 6 => 16
  | 7 => 16
  | 8 => 16
  | 9 => 16
  | 10 => 12
  | 11 => 12
  | 12 => 12
  | 13 => 12
  | 14 => 16
  | 15 => 1400
  | 16 => 1400
  | 17 => 3
  | 18 => 6
  | 19 => 700
  | 32 => 6
  | 33 => 6
  | 34 => 6
  | 35 => 6
  | 36 => 1040
  | 42 => 7
  | 43 => 64
  | 46 => 26
  | 47 => 1792
  | 48 => 8
  | 49 => 8
  | 50 => 8
  | 51 => 26
  | 52 => 60
  | 53 => 1200
  | 55 => 8
  | 60 => 26
  | 61 => 1040
  | 62 => 8
  | 63 => 8
  | 64 => 8
  | 65 => 3
  | 0 => 2
  | 1 => 6
  | 2 => 7
  | _ => 0
noncomputable def mfl (g : Nat → Nat) (f : Nat → Int32) : List Value := [.ref (g 0), .ref (g 1), .ref (g 2), .ref (g (if f 3 = 0 then 1 else 2)), .int (f 4), .ref (g 5), .ref (g 6), .ref (g 7), .ref (g 8), .ref (g 9), .ref (g 10), .ref (g 11), .ref (g 12), .ref (g 13), .ref (g 14), .ref (g 15), .ref (g 16), .ref (g 17), .ref (g 18), .ref (g 19), .int (f 20), .int (f 21), .int (f 22), .int (f 23), .int (f 24), .int (f 25), .int (f 26), .int (f 27), .int (f 28), .int (f 29), .int (f 30), .int (f 31), .ref (g 32), .ref (g 33), .ref (g 34), .ref (g 35), .ref (g 36), .int (f 37), .int (f 38), .int (f 39), .int (f 40), .int (f 41), .ref (g 42), .ref (g 43), .int (f 44), .int (f 45), .ref (g 46), .ref (g 47), .ref (g 48), .ref (g 49), .ref (g 50), .ref (g 51), .ref (g 52), .ref (g 53), .int (f 54), .ref (g 55), .int (f 56), .int (f 57), .int (f 58), .int (f 59), .ref (g 60), .ref (g 61), .ref (g 62), .ref (g 63), .ref (g 64), .ref (g 65)]
noncomputable def mE (g : Nat → Nat) (cI cS : ClassId) (sa : Nat → Nat → Option Nat) (f : Nat → Int32) (j : Nat) : va_E := if j = 99 then .inr (12, mfl g f) else if mI j = true then .inl (cI, mN j, .inl f) else .inl (cS, mN j, .inr (.inr (.inr (.inr (sa j)))))
noncomputable def mcell (g : Nat → Nat) (cI cS : ClassId) (sa : Nat → Nat → Option Nat) (S : gS) (j : Nat) : Nat × va_E := (g j, mE g cI cS sa (S j) j)
abbrev mtys (cI cS : ClassId) : List (ClassId × FieldType) := [(cI, .int), (cS, .object "java/lang/String")]
theorem m_O (g : Nat → Nat) (cI cS : ClassId) (sa : Nat → Nat → Option Nat) (hg : ∀ (i j a b : Nat), mord[i]? = some a → mord[j]? = some b → g a = g b → i = j) : gO (mcell g cI cS sa) mord g :=
  ⟨fun S S' j h => by unfold mcell; rw [h], fun _ _ => rfl, hg⟩
set_option maxRecDepth 100000 in
theorem m_in : ∀ w ∈ u_ws RX12 TX12 66, w ∈ gT := gT_places [1533, 1535, 1537, 1539, 1541, 1543, 1545, 1547, 1549, 1551, 1553, 1555, 1557, 1559, 1561, 1563, 1565, 1567, 1569, 1571, 1573, 1575, 1577, 1579, 1581, 1583, 1585, 1587, 1589, 1591, 1593, 1595, 1597, 1599, 1601, 1603, 1605, 1607, 1609, 1611, 1613, 1615, 1617, 1619, 1621, 1623, 1625, 1627, 1629, 1631, 1633, 1635, 1637, 1639, 1641, 1643, 1645, 1647, 1649, 1651, 1653, 1655, 1657, 1659, 1661, 1663] (by decide +kernel) (by decide +kernel)
theorem m_c99 (g : Nat → Nat) (cI cS : ClassId) (sa : Nat → Nat → Option Nat) (S : gS) : mcell g cI cS sa S 99 = (g 99, .inr (12, mfl g (S 99))) := rfl
theorem m_cA (g : Nat → Nat) (cI cS : ClassId) (sa : Nat → Nat → Option Nat) (S : gS) {k : Nat} (h : mI k = true) : mcell g cI cS sa S k = (g k, .inl (cI, mN k, .inl (S k))) := by
  have h9 : k ≠ 99 := fun q => by subst q; exact absurd h (by decide)
  unfold mcell mE
  rw [if_neg h9, if_pos h]
theorem m_pos {k : Nat} (h : mI k = true) : ∃ q : Nat, mord[q]? = some k := by
  have h1 : k ∈ mord := by
    have h2 := of_decide_eq_true h
    unfold mord
    exact List.mem_cons_of_mem _ (List.mem_append_left [0, 1, 2] h2)
  exact List.getElem?_of_mem h1
section MROWS
variable {p : Program} {l : Launch} {e : Env} {R : Room} {s : State} {m : MethodId} {args : Array Value} {below : List Frame} {meth : Method} {c : Code} {H : Heap} {locs : List Loc} {cs sl : Nat} {Q : State → Prop} {Am : (Nat → Prop) → State → Heap → Prop} {cc : ByteArray} {nL pc : Nat} {ret : Option FieldType} {D : va_G} {g : Nat → Nat} {cI cS : ClassId} {sa : Nat → Nat → Option Nat} {S S' : gS} {ls : Array Slot} {rest : List Value}
theorem m_l0 : Cond.fieldLink RX12 15 "GrottoHoursModel" "caves" "[Ljava/lang/String;" ∈ gT := gT_c6 161 rfl rfl
theorem m_g0 (C : gC p s m args meth c cc nL RX12 ret D (mtys cI cS) mord g Am) (X : gX D (mcell g cI cS sa) mord g S s H locs) (hdg : decode cc pc = .ok (.getfield 15, 3)) (kk : W p l e R s m args below meth c H locs cs sl Q (F0 m (pc + 3) ls (.ref (g 0) :: rest))) : W p l e R s m args below meth c H locs cs sl Q (F0 m pc ls (.ref (g 99) :: rest)) :=
  g_get C X (q := 0) (k := 99) rfl (m_c99 g cI cS sa S) (ci := 12) rfl m_in 0 (by decide) m_l0 rfl hdg kk
theorem m_l1 : Cond.fieldLink RX12 31 "GrottoHoursModel" "ofPrays" "[Ljava/lang/String;" ∈ gT := gT_c6 162 rfl rfl
theorem m_g1 (C : gC p s m args meth c cc nL RX12 ret D (mtys cI cS) mord g Am) (X : gX D (mcell g cI cS sa) mord g S s H locs) (hdg : decode cc pc = .ok (.getfield 31, 3)) (kk : W p l e R s m args below meth c H locs cs sl Q (F0 m (pc + 3) ls (.ref (g 1) :: rest))) : W p l e R s m args below meth c H locs cs sl Q (F0 m pc ls (.ref (g 99) :: rest)) :=
  g_get C X (q := 0) (k := 99) rfl (m_c99 g cI cS sa S) (ci := 12) rfl m_in 1 (by decide) m_l1 rfl hdg kk
theorem m_l2 : Cond.fieldLink RX12 36 "GrottoHoursModel" "ofCosts" "[Ljava/lang/String;" ∈ gT := gT_c6 163 rfl rfl
theorem m_g2 (C : gC p s m args meth c cc nL RX12 ret D (mtys cI cS) mord g Am) (X : gX D (mcell g cI cS sa) mord g S s H locs) (hdg : decode cc pc = .ok (.getfield 36, 3)) (kk : W p l e R s m args below meth c H locs cs sl Q (F0 m (pc + 3) ls (.ref (g 2) :: rest))) : W p l e R s m args below meth c H locs cs sl Q (F0 m pc ls (.ref (g 99) :: rest)) :=
  g_get C X (q := 0) (k := 99) rfl (m_c99 g cI cS sa S) (ci := 12) rfl m_in 2 (by decide) m_l2 rfl hdg kk
theorem m_l3 : Cond.fieldLink RX12 39 "GrottoHoursModel" "values" "[Ljava/lang/String;" ∈ gT := gT_c6 164 rfl rfl
theorem m_g3 (C : gC p s m args meth c cc nL RX12 ret D (mtys cI cS) mord g Am) (X : gX D (mcell g cI cS sa) mord g S s H locs) (hdg : decode cc pc = .ok (.getfield 39, 3)) (kk : W p l e R s m args below meth c H locs cs sl Q (F0 m (pc + 3) ls (.ref (g (if S 99 3 = 0 then 1 else 2)) :: rest))) : W p l e R s m args below meth c H locs cs sl Q (F0 m pc ls (.ref (g 99) :: rest)) :=
  g_get C X (q := 0) (k := 99) rfl (m_c99 g cI cS sa S) (ci := 12) rfl m_in 3 (by decide) m_l3 rfl hdg kk
theorem m_l4 : Cond.fieldLink RX12 155 "GrottoHoursModel" "code" "I" ∈ gT := gT_c6 165 rfl rfl
theorem m_g4 (C : gC p s m args meth c cc nL RX12 ret D (mtys cI cS) mord g Am) (X : gX D (mcell g cI cS sa) mord g S s H locs) (hdg : decode cc pc = .ok (.getfield 155, 3)) (kk : W p l e R s m args below meth c H locs cs sl Q (F0 m (pc + 3) ls (.int (S 99 4) :: rest))) : W p l e R s m args below meth c H locs cs sl Q (F0 m pc ls (.ref (g 99) :: rest)) :=
  g_get C X (q := 0) (k := 99) rfl (m_c99 g cI cS sa S) (ci := 12) rfl m_in 4 (by decide) m_l4 rfl hdg kk
theorem m_p4 (C : gC p s m args meth c cc nL RX12 ret D (mtys cI cS) mord g Am) (O : gO (mcell g cI cS sa) mord g) (X : gX D (mcell g cI cS sa) mord g S s H locs) {x : Int32} (hS : S' = sU S 99 4 x) (hdg : decode cc pc = .ok (.putfield 155, 3)) (kk : ∀ (H1 : Heap) (locs1 : List Loc), gX D (mcell g cI cS sa) mord g S' s H1 locs1 → W p l e R s m args below meth c H1 locs1 cs sl Q (F0 m (pc + 3) ls rest)) : W p l e R s m args below meth c H locs cs sl Q (F0 m pc ls (.int x :: .ref (g 99) :: rest)) := by
  subst hS
  exact g_put C O X (q := 0) (k := 99) rfl (m_c99 g cI cS sa S) (ci := 12) rfl m_in tyX12 tyX12_ok nmX12 4 (by decide) m_l4 rfl rfl rfl (Nat.le_of_ble_eq_true rfl) (fun i h => sU_ne h) rfl hdg kk
theorem m_l5 : Cond.fieldLink RX12 42 "GrottoHoursModel" "told" "[I" ∈ gT := gT_c6 166 rfl rfl
theorem m_g5 (C : gC p s m args meth c cc nL RX12 ret D (mtys cI cS) mord g Am) (X : gX D (mcell g cI cS sa) mord g S s H locs) (hdg : decode cc pc = .ok (.getfield 42, 3)) (kk : W p l e R s m args below meth c H locs cs sl Q (F0 m (pc + 3) ls (.ref (g 5) :: rest))) : W p l e R s m args below meth c H locs cs sl Q (F0 m pc ls (.ref (g 99) :: rest)) :=
  g_get C X (q := 0) (k := 99) rfl (m_c99 g cI cS sa S) (ci := 12) rfl m_in 5 (by decide) m_l5 rfl hdg kk
theorem m_l6 : Cond.fieldLink RX12 46 "GrottoHoursModel" "hollow" "[I" ∈ gT := gT_c6 167 rfl rfl
theorem m_g6 (C : gC p s m args meth c cc nL RX12 ret D (mtys cI cS) mord g Am) (X : gX D (mcell g cI cS sa) mord g S s H locs) (hdg : decode cc pc = .ok (.getfield 46, 3)) (kk : W p l e R s m args below meth c H locs cs sl Q (F0 m (pc + 3) ls (.ref (g 6) :: rest))) : W p l e R s m args below meth c H locs cs sl Q (F0 m pc ls (.ref (g 99) :: rest)) :=
  g_get C X (q := 0) (k := 99) rfl (m_c99 g cI cS sa S) (ci := 12) rfl m_in 6 (by decide) m_l6 rfl hdg kk
theorem m_l7 : Cond.fieldLink RX12 48 "GrottoHoursModel" "drip" "[I" ∈ gT := gT_c6 168 rfl rfl
theorem m_g7 (C : gC p s m args meth c cc nL RX12 ret D (mtys cI cS) mord g Am) (X : gX D (mcell g cI cS sa) mord g S s H locs) (hdg : decode cc pc = .ok (.getfield 48, 3)) (kk : W p l e R s m args below meth c H locs cs sl Q (F0 m (pc + 3) ls (.ref (g 7) :: rest))) : W p l e R s m args below meth c H locs cs sl Q (F0 m pc ls (.ref (g 99) :: rest)) :=
  g_get C X (q := 0) (k := 99) rfl (m_c99 g cI cS sa S) (ci := 12) rfl m_in 7 (by decide) m_l7 rfl hdg kk
theorem m_l8 : Cond.fieldLink RX12 50 "GrottoHoursModel" "phase" "[I" ∈ gT := gT_c6 169 rfl rfl
theorem m_g8 (C : gC p s m args meth c cc nL RX12 ret D (mtys cI cS) mord g Am) (X : gX D (mcell g cI cS sa) mord g S s H locs) (hdg : decode cc pc = .ok (.getfield 50, 3)) (kk : W p l e R s m args below meth c H locs cs sl Q (F0 m (pc + 3) ls (.ref (g 8) :: rest))) : W p l e R s m args below meth c H locs cs sl Q (F0 m pc ls (.ref (g 99) :: rest)) :=
  g_get C X (q := 0) (k := 99) rfl (m_c99 g cI cS sa S) (ci := 12) rfl m_in 8 (by decide) m_l8 rfl hdg kk
theorem m_l9 : Cond.fieldLink RX12 53 "GrottoHoursModel" "price" "[I" ∈ gT := gT_c6 170 rfl rfl
theorem m_g9 (C : gC p s m args meth c cc nL RX12 ret D (mtys cI cS) mord g Am) (X : gX D (mcell g cI cS sa) mord g S s H locs) (hdg : decode cc pc = .ok (.getfield 53, 3)) (kk : W p l e R s m args below meth c H locs cs sl Q (F0 m (pc + 3) ls (.ref (g 9) :: rest))) : W p l e R s m args below meth c H locs cs sl Q (F0 m pc ls (.ref (g 99) :: rest)) :=
  g_get C X (q := 0) (k := 99) rfl (m_c99 g cI cS sa S) (ci := 12) rfl m_in 9 (by decide) m_l9 rfl hdg kk
theorem m_l10 : Cond.fieldLink RX12 55 "GrottoHoursModel" "greedTold" "[I" ∈ gT := gT_c6 171 rfl rfl
theorem m_g10 (C : gC p s m args meth c cc nL RX12 ret D (mtys cI cS) mord g Am) (X : gX D (mcell g cI cS sa) mord g S s H locs) (hdg : decode cc pc = .ok (.getfield 55, 3)) (kk : W p l e R s m args below meth c H locs cs sl Q (F0 m (pc + 3) ls (.ref (g 10) :: rest))) : W p l e R s m args below meth c H locs cs sl Q (F0 m pc ls (.ref (g 99) :: rest)) :=
  g_get C X (q := 0) (k := 99) rfl (m_c99 g cI cS sa S) (ci := 12) rfl m_in 10 (by decide) m_l10 rfl hdg kk
theorem m_l11 : Cond.fieldLink RX12 58 "GrottoHoursModel" "sinTold" "[I" ∈ gT := gT_c6 172 rfl rfl
theorem m_g11 (C : gC p s m args meth c cc nL RX12 ret D (mtys cI cS) mord g Am) (X : gX D (mcell g cI cS sa) mord g S s H locs) (hdg : decode cc pc = .ok (.getfield 58, 3)) (kk : W p l e R s m args below meth c H locs cs sl Q (F0 m (pc + 3) ls (.ref (g 11) :: rest))) : W p l e R s m args below meth c H locs cs sl Q (F0 m pc ls (.ref (g 99) :: rest)) :=
  g_get C X (q := 0) (k := 99) rfl (m_c99 g cI cS sa S) (ci := 12) rfl m_in 11 (by decide) m_l11 rfl hdg kk
theorem m_l12 : Cond.fieldLink RX12 61 "GrottoHoursModel" "purseTold" "[I" ∈ gT := gT_c6 173 rfl rfl
theorem m_g12 (C : gC p s m args meth c cc nL RX12 ret D (mtys cI cS) mord g Am) (X : gX D (mcell g cI cS sa) mord g S s H locs) (hdg : decode cc pc = .ok (.getfield 61, 3)) (kk : W p l e R s m args below meth c H locs cs sl Q (F0 m (pc + 3) ls (.ref (g 12) :: rest))) : W p l e R s m args below meth c H locs cs sl Q (F0 m pc ls (.ref (g 99) :: rest)) :=
  g_get C X (q := 0) (k := 99) rfl (m_c99 g cI cS sa S) (ci := 12) rfl m_in 12 (by decide) m_l12 rfl hdg kk
theorem m_l13 : Cond.fieldLink RX12 64 "GrottoHoursModel" "hiredTold" "[I" ∈ gT := gT_c6 174 rfl rfl
theorem m_g13 (C : gC p s m args meth c cc nL RX12 ret D (mtys cI cS) mord g Am) (X : gX D (mcell g cI cS sa) mord g S s H locs) (hdg : decode cc pc = .ok (.getfield 64, 3)) (kk : W p l e R s m args below meth c H locs cs sl Q (F0 m (pc + 3) ls (.ref (g 13) :: rest))) : W p l e R s m args below meth c H locs cs sl Q (F0 m pc ls (.ref (g 99) :: rest)) :=
  g_get C X (q := 0) (k := 99) rfl (m_c99 g cI cS sa S) (ci := 12) rfl m_in 13 (by decide) m_l13 rfl hdg kk
theorem m_l14 : Cond.fieldLink RX12 67 "GrottoHoursModel" "wetTold" "[I" ∈ gT := gT_c6 175 rfl rfl
theorem m_g14 (C : gC p s m args meth c cc nL RX12 ret D (mtys cI cS) mord g Am) (X : gX D (mcell g cI cS sa) mord g S s H locs) (hdg : decode cc pc = .ok (.getfield 67, 3)) (kk : W p l e R s m args below meth c H locs cs sl Q (F0 m (pc + 3) ls (.ref (g 14) :: rest))) : W p l e R s m args below meth c H locs cs sl Q (F0 m pc ls (.ref (g 99) :: rest)) :=
  g_get C X (q := 0) (k := 99) rfl (m_c99 g cI cS sa S) (ci := 12) rfl m_in 14 (by decide) m_l14 rfl hdg kk
theorem m_l15 : Cond.fieldLink RX12 70 "GrottoHoursModel" "signsPrays" "[I" ∈ gT := gT_c6 176 rfl rfl
theorem m_g15 (C : gC p s m args meth c cc nL RX12 ret D (mtys cI cS) mord g Am) (X : gX D (mcell g cI cS sa) mord g S s H locs) (hdg : decode cc pc = .ok (.getfield 70, 3)) (kk : W p l e R s m args below meth c H locs cs sl Q (F0 m (pc + 3) ls (.ref (g 15) :: rest))) : W p l e R s m args below meth c H locs cs sl Q (F0 m pc ls (.ref (g 99) :: rest)) :=
  g_get C X (q := 0) (k := 99) rfl (m_c99 g cI cS sa S) (ci := 12) rfl m_in 15 (by decide) m_l15 rfl hdg kk
theorem m_l16 : Cond.fieldLink RX12 73 "GrottoHoursModel" "signsCosts" "[I" ∈ gT := gT_c6 177 rfl rfl
theorem m_g16 (C : gC p s m args meth c cc nL RX12 ret D (mtys cI cS) mord g Am) (X : gX D (mcell g cI cS sa) mord g S s H locs) (hdg : decode cc pc = .ok (.getfield 73, 3)) (kk : W p l e R s m args below meth c H locs cs sl Q (F0 m (pc + 3) ls (.ref (g 16) :: rest))) : W p l e R s m args below meth c H locs cs sl Q (F0 m pc ls (.ref (g 99) :: rest)) :=
  g_get C X (q := 0) (k := 99) rfl (m_c99 g cI cS sa S) (ci := 12) rfl m_in 16 (by decide) m_l16 rfl hdg kk
theorem m_l17 : Cond.fieldLink RX12 76 "GrottoHoursModel" "status" "[I" ∈ gT := gT_c6 178 rfl rfl
theorem m_g17 (C : gC p s m args meth c cc nL RX12 ret D (mtys cI cS) mord g Am) (X : gX D (mcell g cI cS sa) mord g S s H locs) (hdg : decode cc pc = .ok (.getfield 76, 3)) (kk : W p l e R s m args below meth c H locs cs sl Q (F0 m (pc + 3) ls (.ref (g 17) :: rest))) : W p l e R s m args below meth c H locs cs sl Q (F0 m pc ls (.ref (g 99) :: rest)) :=
  g_get C X (q := 0) (k := 99) rfl (m_c99 g cI cS sa S) (ci := 12) rfl m_in 17 (by decide) m_l17 rfl hdg kk
theorem m_l18 : Cond.fieldLink RX12 79 "GrottoHoursModel" "greed" "[I" ∈ gT := gT_c6 179 rfl rfl
theorem m_g18 (C : gC p s m args meth c cc nL RX12 ret D (mtys cI cS) mord g Am) (X : gX D (mcell g cI cS sa) mord g S s H locs) (hdg : decode cc pc = .ok (.getfield 79, 3)) (kk : W p l e R s m args below meth c H locs cs sl Q (F0 m (pc + 3) ls (.ref (g 18) :: rest))) : W p l e R s m args below meth c H locs cs sl Q (F0 m pc ls (.ref (g 99) :: rest)) :=
  g_get C X (q := 0) (k := 99) rfl (m_c99 g cI cS sa S) (ci := 12) rfl m_in 18 (by decide) m_l18 rfl hdg kk
theorem m_l19 : Cond.fieldLink RX12 81 "GrottoHoursModel" "tape" "[I" ∈ gT := gT_c6 180 rfl rfl
theorem m_g19 (C : gC p s m args meth c cc nL RX12 ret D (mtys cI cS) mord g Am) (X : gX D (mcell g cI cS sa) mord g S s H locs) (hdg : decode cc pc = .ok (.getfield 81, 3)) (kk : W p l e R s m args below meth c H locs cs sl Q (F0 m (pc + 3) ls (.ref (g 19) :: rest))) : W p l e R s m args below meth c H locs cs sl Q (F0 m pc ls (.ref (g 99) :: rest)) :=
  g_get C X (q := 0) (k := 99) rfl (m_c99 g cI cS sa S) (ci := 12) rfl m_in 19 (by decide) m_l19 rfl hdg kk
theorem m_l20 : Cond.fieldLink RX12 162 "GrottoHoursModel" "taped" "I" ∈ gT := gT_c6 181 rfl rfl
theorem m_g20 (C : gC p s m args meth c cc nL RX12 ret D (mtys cI cS) mord g Am) (X : gX D (mcell g cI cS sa) mord g S s H locs) (hdg : decode cc pc = .ok (.getfield 162, 3)) (kk : W p l e R s m args below meth c H locs cs sl Q (F0 m (pc + 3) ls (.int (S 99 20) :: rest))) : W p l e R s m args below meth c H locs cs sl Q (F0 m pc ls (.ref (g 99) :: rest)) :=
  g_get C X (q := 0) (k := 99) rfl (m_c99 g cI cS sa S) (ci := 12) rfl m_in 20 (by decide) m_l20 rfl hdg kk
theorem m_p20 (C : gC p s m args meth c cc nL RX12 ret D (mtys cI cS) mord g Am) (O : gO (mcell g cI cS sa) mord g) (X : gX D (mcell g cI cS sa) mord g S s H locs) {x : Int32} (hS : S' = sU S 99 20 x) (hdg : decode cc pc = .ok (.putfield 162, 3)) (kk : ∀ (H1 : Heap) (locs1 : List Loc), gX D (mcell g cI cS sa) mord g S' s H1 locs1 → W p l e R s m args below meth c H1 locs1 cs sl Q (F0 m (pc + 3) ls rest)) : W p l e R s m args below meth c H locs cs sl Q (F0 m pc ls (.int x :: .ref (g 99) :: rest)) := by
  subst hS
  exact g_put C O X (q := 0) (k := 99) rfl (m_c99 g cI cS sa S) (ci := 12) rfl m_in tyX12 tyX12_ok nmX12 20 (by decide) m_l20 rfl rfl rfl (Nat.le_of_ble_eq_true rfl) (fun i h => sU_ne h) rfl hdg kk
theorem m_l21 : Cond.fieldLink RX12 168 "GrottoHoursModel" "at" "I" ∈ gT := gT_c6 182 rfl rfl
theorem m_g21 (C : gC p s m args meth c cc nL RX12 ret D (mtys cI cS) mord g Am) (X : gX D (mcell g cI cS sa) mord g S s H locs) (hdg : decode cc pc = .ok (.getfield 168, 3)) (kk : W p l e R s m args below meth c H locs cs sl Q (F0 m (pc + 3) ls (.int (S 99 21) :: rest))) : W p l e R s m args below meth c H locs cs sl Q (F0 m pc ls (.ref (g 99) :: rest)) :=
  g_get C X (q := 0) (k := 99) rfl (m_c99 g cI cS sa S) (ci := 12) rfl m_in 21 (by decide) m_l21 rfl hdg kk
theorem m_p21 (C : gC p s m args meth c cc nL RX12 ret D (mtys cI cS) mord g Am) (O : gO (mcell g cI cS sa) mord g) (X : gX D (mcell g cI cS sa) mord g S s H locs) {x : Int32} (hS : S' = sU S 99 21 x) (hdg : decode cc pc = .ok (.putfield 168, 3)) (kk : ∀ (H1 : Heap) (locs1 : List Loc), gX D (mcell g cI cS sa) mord g S' s H1 locs1 → W p l e R s m args below meth c H1 locs1 cs sl Q (F0 m (pc + 3) ls rest)) : W p l e R s m args below meth c H locs cs sl Q (F0 m pc ls (.int x :: .ref (g 99) :: rest)) := by
  subst hS
  exact g_put C O X (q := 0) (k := 99) rfl (m_c99 g cI cS sa S) (ci := 12) rfl m_in tyX12 tyX12_ok nmX12 21 (by decide) m_l21 rfl rfl rfl (Nat.le_of_ble_eq_true rfl) (fun i h => sU_ne h) rfl hdg kk
theorem m_l22 : Cond.fieldLink RX12 165 "GrottoHoursModel" "size" "I" ∈ gT := gT_c6 183 rfl rfl
theorem m_g22 (C : gC p s m args meth c cc nL RX12 ret D (mtys cI cS) mord g Am) (X : gX D (mcell g cI cS sa) mord g S s H locs) (hdg : decode cc pc = .ok (.getfield 165, 3)) (kk : W p l e R s m args below meth c H locs cs sl Q (F0 m (pc + 3) ls (.int (S 99 22) :: rest))) : W p l e R s m args below meth c H locs cs sl Q (F0 m pc ls (.ref (g 99) :: rest)) :=
  g_get C X (q := 0) (k := 99) rfl (m_c99 g cI cS sa S) (ci := 12) rfl m_in 22 (by decide) m_l22 rfl hdg kk
theorem m_p22 (C : gC p s m args meth c cc nL RX12 ret D (mtys cI cS) mord g Am) (O : gO (mcell g cI cS sa) mord g) (X : gX D (mcell g cI cS sa) mord g S s H locs) {x : Int32} (hS : S' = sU S 99 22 x) (hdg : decode cc pc = .ok (.putfield 165, 3)) (kk : ∀ (H1 : Heap) (locs1 : List Loc), gX D (mcell g cI cS sa) mord g S' s H1 locs1 → W p l e R s m args below meth c H1 locs1 cs sl Q (F0 m (pc + 3) ls rest)) : W p l e R s m args below meth c H locs cs sl Q (F0 m pc ls (.int x :: .ref (g 99) :: rest)) := by
  subst hS
  exact g_put C O X (q := 0) (k := 99) rfl (m_c99 g cI cS sa S) (ci := 12) rfl m_in tyX12 tyX12_ok nmX12 22 (by decide) m_l22 rfl rfl rfl (Nat.le_of_ble_eq_true rfl) (fun i h => sU_ne h) rfl hdg kk
theorem m_l23 : Cond.fieldLink RX12 178 "GrottoHoursModel" "token" "I" ∈ gT := gT_c6 184 rfl rfl
theorem m_g23 (C : gC p s m args meth c cc nL RX12 ret D (mtys cI cS) mord g Am) (X : gX D (mcell g cI cS sa) mord g S s H locs) (hdg : decode cc pc = .ok (.getfield 178, 3)) (kk : W p l e R s m args below meth c H locs cs sl Q (F0 m (pc + 3) ls (.int (S 99 23) :: rest))) : W p l e R s m args below meth c H locs cs sl Q (F0 m pc ls (.ref (g 99) :: rest)) :=
  g_get C X (q := 0) (k := 99) rfl (m_c99 g cI cS sa S) (ci := 12) rfl m_in 23 (by decide) m_l23 rfl hdg kk
theorem m_p23 (C : gC p s m args meth c cc nL RX12 ret D (mtys cI cS) mord g Am) (O : gO (mcell g cI cS sa) mord g) (X : gX D (mcell g cI cS sa) mord g S s H locs) {x : Int32} (hS : S' = sU S 99 23 x) (hdg : decode cc pc = .ok (.putfield 178, 3)) (kk : ∀ (H1 : Heap) (locs1 : List Loc), gX D (mcell g cI cS sa) mord g S' s H1 locs1 → W p l e R s m args below meth c H1 locs1 cs sl Q (F0 m (pc + 3) ls rest)) : W p l e R s m args below meth c H locs cs sl Q (F0 m pc ls (.int x :: .ref (g 99) :: rest)) := by
  subst hS
  exact g_put C O X (q := 0) (k := 99) rfl (m_c99 g cI cS sa S) (ci := 12) rfl m_in tyX12 tyX12_ok nmX12 23 (by decide) m_l23 rfl rfl rfl (Nat.le_of_ble_eq_true rfl) (fun i h => sU_ne h) rfl hdg kk
theorem m_l24 : Cond.fieldLink RX12 188 "GrottoHoursModel" "number" "I" ∈ gT := gT_c6 185 rfl rfl
theorem m_g24 (C : gC p s m args meth c cc nL RX12 ret D (mtys cI cS) mord g Am) (X : gX D (mcell g cI cS sa) mord g S s H locs) (hdg : decode cc pc = .ok (.getfield 188, 3)) (kk : W p l e R s m args below meth c H locs cs sl Q (F0 m (pc + 3) ls (.int (S 99 24) :: rest))) : W p l e R s m args below meth c H locs cs sl Q (F0 m pc ls (.ref (g 99) :: rest)) :=
  g_get C X (q := 0) (k := 99) rfl (m_c99 g cI cS sa S) (ci := 12) rfl m_in 24 (by decide) m_l24 rfl hdg kk
theorem m_p24 (C : gC p s m args meth c cc nL RX12 ret D (mtys cI cS) mord g Am) (O : gO (mcell g cI cS sa) mord g) (X : gX D (mcell g cI cS sa) mord g S s H locs) {x : Int32} (hS : S' = sU S 99 24 x) (hdg : decode cc pc = .ok (.putfield 188, 3)) (kk : ∀ (H1 : Heap) (locs1 : List Loc), gX D (mcell g cI cS sa) mord g S' s H1 locs1 → W p l e R s m args below meth c H1 locs1 cs sl Q (F0 m (pc + 3) ls rest)) : W p l e R s m args below meth c H locs cs sl Q (F0 m pc ls (.int x :: .ref (g 99) :: rest)) := by
  subst hS
  exact g_put C O X (q := 0) (k := 99) rfl (m_c99 g cI cS sa S) (ci := 12) rfl m_in tyX12 tyX12_ok nmX12 24 (by decide) m_l24 rfl rfl rfl (Nat.le_of_ble_eq_true rfl) (fun i h => sU_ne h) rfl hdg kk
theorem m_l25 : Cond.fieldLink RX12 175 "GrottoHoursModel" "begins" "I" ∈ gT := gT_c6 186 rfl rfl
theorem m_g25 (C : gC p s m args meth c cc nL RX12 ret D (mtys cI cS) mord g Am) (X : gX D (mcell g cI cS sa) mord g S s H locs) (hdg : decode cc pc = .ok (.getfield 175, 3)) (kk : W p l e R s m args below meth c H locs cs sl Q (F0 m (pc + 3) ls (.int (S 99 25) :: rest))) : W p l e R s m args below meth c H locs cs sl Q (F0 m pc ls (.ref (g 99) :: rest)) :=
  g_get C X (q := 0) (k := 99) rfl (m_c99 g cI cS sa S) (ci := 12) rfl m_in 25 (by decide) m_l25 rfl hdg kk
theorem m_p25 (C : gC p s m args meth c cc nL RX12 ret D (mtys cI cS) mord g Am) (O : gO (mcell g cI cS sa) mord g) (X : gX D (mcell g cI cS sa) mord g S s H locs) {x : Int32} (hS : S' = sU S 99 25 x) (hdg : decode cc pc = .ok (.putfield 175, 3)) (kk : ∀ (H1 : Heap) (locs1 : List Loc), gX D (mcell g cI cS sa) mord g S' s H1 locs1 → W p l e R s m args below meth c H1 locs1 cs sl Q (F0 m (pc + 3) ls rest)) : W p l e R s m args below meth c H locs cs sl Q (F0 m pc ls (.int x :: .ref (g 99) :: rest)) := by
  subst hS
  exact g_put C O X (q := 0) (k := 99) rfl (m_c99 g cI cS sa S) (ci := 12) rfl m_in tyX12 tyX12_ok nmX12 25 (by decide) m_l25 rfl rfl rfl (Nat.le_of_ble_eq_true rfl) (fun i h => sU_ne h) rfl hdg kk
theorem m_l26 : Cond.fieldLink RX12 201 "GrottoHoursModel" "stops" "I" ∈ gT := gT_c6 187 rfl rfl
theorem m_g26 (C : gC p s m args meth c cc nL RX12 ret D (mtys cI cS) mord g Am) (X : gX D (mcell g cI cS sa) mord g S s H locs) (hdg : decode cc pc = .ok (.getfield 201, 3)) (kk : W p l e R s m args below meth c H locs cs sl Q (F0 m (pc + 3) ls (.int (S 99 26) :: rest))) : W p l e R s m args below meth c H locs cs sl Q (F0 m pc ls (.ref (g 99) :: rest)) :=
  g_get C X (q := 0) (k := 99) rfl (m_c99 g cI cS sa S) (ci := 12) rfl m_in 26 (by decide) m_l26 rfl hdg kk
theorem m_p26 (C : gC p s m args meth c cc nL RX12 ret D (mtys cI cS) mord g Am) (O : gO (mcell g cI cS sa) mord g) (X : gX D (mcell g cI cS sa) mord g S s H locs) {x : Int32} (hS : S' = sU S 99 26 x) (hdg : decode cc pc = .ok (.putfield 201, 3)) (kk : ∀ (H1 : Heap) (locs1 : List Loc), gX D (mcell g cI cS sa) mord g S' s H1 locs1 → W p l e R s m args below meth c H1 locs1 cs sl Q (F0 m (pc + 3) ls rest)) : W p l e R s m args below meth c H locs cs sl Q (F0 m pc ls (.int x :: .ref (g 99) :: rest)) := by
  subst hS
  exact g_put C O X (q := 0) (k := 99) rfl (m_c99 g cI cS sa S) (ci := 12) rfl m_in tyX12 tyX12_ok nmX12 26 (by decide) m_l26 rfl rfl rfl (Nat.le_of_ble_eq_true rfl) (fun i h => sU_ne h) rfl hdg kk
theorem m_l27 : Cond.fieldLink RX12 204 "GrottoHoursModel" "bad" "I" ∈ gT := gT_c6 188 rfl rfl
theorem m_g27 (C : gC p s m args meth c cc nL RX12 ret D (mtys cI cS) mord g Am) (X : gX D (mcell g cI cS sa) mord g S s H locs) (hdg : decode cc pc = .ok (.getfield 204, 3)) (kk : W p l e R s m args below meth c H locs cs sl Q (F0 m (pc + 3) ls (.int (S 99 27) :: rest))) : W p l e R s m args below meth c H locs cs sl Q (F0 m pc ls (.ref (g 99) :: rest)) :=
  g_get C X (q := 0) (k := 99) rfl (m_c99 g cI cS sa S) (ci := 12) rfl m_in 27 (by decide) m_l27 rfl hdg kk
theorem m_p27 (C : gC p s m args meth c cc nL RX12 ret D (mtys cI cS) mord g Am) (O : gO (mcell g cI cS sa) mord g) (X : gX D (mcell g cI cS sa) mord g S s H locs) {x : Int32} (hS : S' = sU S 99 27 x) (hdg : decode cc pc = .ok (.putfield 204, 3)) (kk : ∀ (H1 : Heap) (locs1 : List Loc), gX D (mcell g cI cS sa) mord g S' s H1 locs1 → W p l e R s m args below meth c H1 locs1 cs sl Q (F0 m (pc + 3) ls rest)) : W p l e R s m args below meth c H locs cs sl Q (F0 m pc ls (.int x :: .ref (g 99) :: rest)) := by
  subst hS
  exact g_put C O X (q := 0) (k := 99) rfl (m_c99 g cI cS sa S) (ci := 12) rfl m_in tyX12 tyX12_ok nmX12 27 (by decide) m_l27 rfl rfl rfl (Nat.le_of_ble_eq_true rfl) (fun i h => sU_ne h) rfl hdg kk
theorem m_l28 : Cond.fieldLink RX12 207 "GrottoHoursModel" "badPlace" "I" ∈ gT := gT_c6 189 rfl rfl
theorem m_g28 (C : gC p s m args meth c cc nL RX12 ret D (mtys cI cS) mord g Am) (X : gX D (mcell g cI cS sa) mord g S s H locs) (hdg : decode cc pc = .ok (.getfield 207, 3)) (kk : W p l e R s m args below meth c H locs cs sl Q (F0 m (pc + 3) ls (.int (S 99 28) :: rest))) : W p l e R s m args below meth c H locs cs sl Q (F0 m pc ls (.ref (g 99) :: rest)) :=
  g_get C X (q := 0) (k := 99) rfl (m_c99 g cI cS sa S) (ci := 12) rfl m_in 28 (by decide) m_l28 rfl hdg kk
theorem m_p28 (C : gC p s m args meth c cc nL RX12 ret D (mtys cI cS) mord g Am) (O : gO (mcell g cI cS sa) mord g) (X : gX D (mcell g cI cS sa) mord g S s H locs) {x : Int32} (hS : S' = sU S 99 28 x) (hdg : decode cc pc = .ok (.putfield 207, 3)) (kk : ∀ (H1 : Heap) (locs1 : List Loc), gX D (mcell g cI cS sa) mord g S' s H1 locs1 → W p l e R s m args below meth c H1 locs1 cs sl Q (F0 m (pc + 3) ls rest)) : W p l e R s m args below meth c H locs cs sl Q (F0 m pc ls (.int x :: .ref (g 99) :: rest)) := by
  subst hS
  exact g_put C O X (q := 0) (k := 99) rfl (m_c99 g cI cS sa S) (ci := 12) rfl m_in tyX12 tyX12_ok nmX12 28 (by decide) m_l28 rfl rfl rfl (Nat.le_of_ble_eq_true rfl) (fun i h => sU_ne h) rfl hdg kk
theorem m_l29 : Cond.fieldLink RX12 84 "GrottoHoursModel" "faultPlace" "I" ∈ gT := gT_c6 190 rfl rfl
theorem m_g29 (C : gC p s m args meth c cc nL RX12 ret D (mtys cI cS) mord g Am) (X : gX D (mcell g cI cS sa) mord g S s H locs) (hdg : decode cc pc = .ok (.getfield 84, 3)) (kk : W p l e R s m args below meth c H locs cs sl Q (F0 m (pc + 3) ls (.int (S 99 29) :: rest))) : W p l e R s m args below meth c H locs cs sl Q (F0 m pc ls (.ref (g 99) :: rest)) :=
  g_get C X (q := 0) (k := 99) rfl (m_c99 g cI cS sa S) (ci := 12) rfl m_in 29 (by decide) m_l29 rfl hdg kk
theorem m_p29 (C : gC p s m args meth c cc nL RX12 ret D (mtys cI cS) mord g Am) (O : gO (mcell g cI cS sa) mord g) (X : gX D (mcell g cI cS sa) mord g S s H locs) {x : Int32} (hS : S' = sU S 99 29 x) (hdg : decode cc pc = .ok (.putfield 84, 3)) (kk : ∀ (H1 : Heap) (locs1 : List Loc), gX D (mcell g cI cS sa) mord g S' s H1 locs1 → W p l e R s m args below meth c H1 locs1 cs sl Q (F0 m (pc + 3) ls rest)) : W p l e R s m args below meth c H locs cs sl Q (F0 m pc ls (.int x :: .ref (g 99) :: rest)) := by
  subst hS
  exact g_put C O X (q := 0) (k := 99) rfl (m_c99 g cI cS sa S) (ci := 12) rfl m_in tyX12 tyX12_ok nmX12 29 (by decide) m_l29 rfl rfl rfl (Nat.le_of_ble_eq_true rfl) (fun i h => sU_ne h) rfl hdg kk
theorem m_l30 : Cond.fieldLink RX12 282 "GrottoHoursModel" "taken" "I" ∈ gT := gT_c6 191 rfl rfl
theorem m_g30 (C : gC p s m args meth c cc nL RX12 ret D (mtys cI cS) mord g Am) (X : gX D (mcell g cI cS sa) mord g S s H locs) (hdg : decode cc pc = .ok (.getfield 282, 3)) (kk : W p l e R s m args below meth c H locs cs sl Q (F0 m (pc + 3) ls (.int (S 99 30) :: rest))) : W p l e R s m args below meth c H locs cs sl Q (F0 m pc ls (.ref (g 99) :: rest)) :=
  g_get C X (q := 0) (k := 99) rfl (m_c99 g cI cS sa S) (ci := 12) rfl m_in 30 (by decide) m_l30 rfl hdg kk
theorem m_p30 (C : gC p s m args meth c cc nL RX12 ret D (mtys cI cS) mord g Am) (O : gO (mcell g cI cS sa) mord g) (X : gX D (mcell g cI cS sa) mord g S s H locs) {x : Int32} (hS : S' = sU S 99 30 x) (hdg : decode cc pc = .ok (.putfield 282, 3)) (kk : ∀ (H1 : Heap) (locs1 : List Loc), gX D (mcell g cI cS sa) mord g S' s H1 locs1 → W p l e R s m args below meth c H1 locs1 cs sl Q (F0 m (pc + 3) ls rest)) : W p l e R s m args below meth c H locs cs sl Q (F0 m pc ls (.int x :: .ref (g 99) :: rest)) := by
  subst hS
  exact g_put C O X (q := 0) (k := 99) rfl (m_c99 g cI cS sa S) (ci := 12) rfl m_in tyX12 tyX12_ok nmX12 30 (by decide) m_l30 rfl rfl rfl (Nat.le_of_ble_eq_true rfl) (fun i h => sU_ne h) rfl hdg kk
theorem m_l31 : Cond.fieldLink RX12 235 "GrottoHoursModel" "ofCosting" "Z" ∈ gT := gT_c6 192 rfl rfl
theorem m_g31 (C : gC p s m args meth c cc nL RX12 ret D (mtys cI cS) mord g Am) (X : gX D (mcell g cI cS sa) mord g S s H locs) (hdg : decode cc pc = .ok (.getfield 235, 3)) (kk : W p l e R s m args below meth c H locs cs sl Q (F0 m (pc + 3) ls (.int (S 99 31) :: rest))) : W p l e R s m args below meth c H locs cs sl Q (F0 m pc ls (.ref (g 99) :: rest)) :=
  g_get C X (q := 0) (k := 99) rfl (m_c99 g cI cS sa S) (ci := 12) rfl m_in 31 (by decide) m_l31 rfl hdg kk
theorem m_p31 (C : gC p s m args meth c cc nL RX12 ret D (mtys cI cS) mord g Am) (O : gO (mcell g cI cS sa) mord g) (X : gX D (mcell g cI cS sa) mord g S s H locs) {x : Int32} (hz : zb x = true) (hS : S' = sU S 99 31 x) (hdg : decode cc pc = .ok (.putfield 235, 3)) (kk : ∀ (H1 : Heap) (locs1 : List Loc), gX D (mcell g cI cS sa) mord g S' s H1 locs1 → W p l e R s m args below meth c H1 locs1 cs sl Q (F0 m (pc + 3) ls rest)) : W p l e R s m args below meth c H locs cs sl Q (F0 m pc ls (.int x :: .ref (g 99) :: rest)) := by
  subst hS
  exact g_put C O X (q := 0) (k := 99) rfl (m_c99 g cI cS sa S) (ci := 12) rfl m_in tyX12 tyX12_ok nmX12 31 (by decide) m_l31 rfl (zb_narrow hz) (zb_fits hz) (Nat.le_of_ble_eq_true rfl) (fun i h => sU_ne h) rfl hdg kk
theorem m_l32 : Cond.fieldLink RX12 88 "GrottoHoursModel" "sin" "[I" ∈ gT := gT_c6 193 rfl rfl
theorem m_g32 (C : gC p s m args meth c cc nL RX12 ret D (mtys cI cS) mord g Am) (X : gX D (mcell g cI cS sa) mord g S s H locs) (hdg : decode cc pc = .ok (.getfield 88, 3)) (kk : W p l e R s m args below meth c H locs cs sl Q (F0 m (pc + 3) ls (.ref (g 32) :: rest))) : W p l e R s m args below meth c H locs cs sl Q (F0 m pc ls (.ref (g 99) :: rest)) :=
  g_get C X (q := 0) (k := 99) rfl (m_c99 g cI cS sa S) (ci := 12) rfl m_in 32 (by decide) m_l32 rfl hdg kk
theorem m_l33 : Cond.fieldLink RX12 90 "GrottoHoursModel" "purse" "[I" ∈ gT := gT_c6 194 rfl rfl
theorem m_g33 (C : gC p s m args meth c cc nL RX12 ret D (mtys cI cS) mord g Am) (X : gX D (mcell g cI cS sa) mord g S s H locs) (hdg : decode cc pc = .ok (.getfield 90, 3)) (kk : W p l e R s m args below meth c H locs cs sl Q (F0 m (pc + 3) ls (.ref (g 33) :: rest))) : W p l e R s m args below meth c H locs cs sl Q (F0 m pc ls (.ref (g 99) :: rest)) :=
  g_get C X (q := 0) (k := 99) rfl (m_c99 g cI cS sa S) (ci := 12) rfl m_in 33 (by decide) m_l33 rfl hdg kk
theorem m_l34 : Cond.fieldLink RX12 92 "GrottoHoursModel" "silences" "[I" ∈ gT := gT_c6 195 rfl rfl
theorem m_g34 (C : gC p s m args meth c cc nL RX12 ret D (mtys cI cS) mord g Am) (X : gX D (mcell g cI cS sa) mord g S s H locs) (hdg : decode cc pc = .ok (.getfield 92, 3)) (kk : W p l e R s m args below meth c H locs cs sl Q (F0 m (pc + 3) ls (.ref (g 34) :: rest))) : W p l e R s m args below meth c H locs cs sl Q (F0 m pc ls (.ref (g 99) :: rest)) :=
  g_get C X (q := 0) (k := 99) rfl (m_c99 g cI cS sa S) (ci := 12) rfl m_in 34 (by decide) m_l34 rfl hdg kk
theorem m_l35 : Cond.fieldLink RX12 95 "GrottoHoursModel" "hired" "[I" ∈ gT := gT_c6 196 rfl rfl
theorem m_g35 (C : gC p s m args meth c cc nL RX12 ret D (mtys cI cS) mord g Am) (X : gX D (mcell g cI cS sa) mord g S s H locs) (hdg : decode cc pc = .ok (.getfield 95, 3)) (kk : W p l e R s m args below meth c H locs cs sl Q (F0 m (pc + 3) ls (.ref (g 35) :: rest))) : W p l e R s m args below meth c H locs cs sl Q (F0 m pc ls (.ref (g 99) :: rest)) :=
  g_get C X (q := 0) (k := 99) rfl (m_c99 g cI cS sa S) (ci := 12) rfl m_in 35 (by decide) m_l35 rfl hdg kk
theorem m_l36 : Cond.fieldLink RX12 98 "GrottoHoursModel" "past" "[I" ∈ gT := gT_c6 197 rfl rfl
theorem m_g36 (C : gC p s m args meth c cc nL RX12 ret D (mtys cI cS) mord g Am) (X : gX D (mcell g cI cS sa) mord g S s H locs) (hdg : decode cc pc = .ok (.getfield 98, 3)) (kk : W p l e R s m args below meth c H locs cs sl Q (F0 m (pc + 3) ls (.ref (g 36) :: rest))) : W p l e R s m args below meth c H locs cs sl Q (F0 m pc ls (.ref (g 99) :: rest)) :=
  g_get C X (q := 0) (k := 99) rfl (m_c99 g cI cS sa S) (ci := 12) rfl m_in 36 (by decide) m_l36 rfl hdg kk
theorem m_l37 : Cond.fieldLink RX12 321 "GrottoHoursModel" "hourNow" "I" ∈ gT := gT_c6 198 rfl rfl
theorem m_g37 (C : gC p s m args meth c cc nL RX12 ret D (mtys cI cS) mord g Am) (X : gX D (mcell g cI cS sa) mord g S s H locs) (hdg : decode cc pc = .ok (.getfield 321, 3)) (kk : W p l e R s m args below meth c H locs cs sl Q (F0 m (pc + 3) ls (.int (S 99 37) :: rest))) : W p l e R s m args below meth c H locs cs sl Q (F0 m pc ls (.ref (g 99) :: rest)) :=
  g_get C X (q := 0) (k := 99) rfl (m_c99 g cI cS sa S) (ci := 12) rfl m_in 37 (by decide) m_l37 rfl hdg kk
theorem m_p37 (C : gC p s m args meth c cc nL RX12 ret D (mtys cI cS) mord g Am) (O : gO (mcell g cI cS sa) mord g) (X : gX D (mcell g cI cS sa) mord g S s H locs) {x : Int32} (hS : S' = sU S 99 37 x) (hdg : decode cc pc = .ok (.putfield 321, 3)) (kk : ∀ (H1 : Heap) (locs1 : List Loc), gX D (mcell g cI cS sa) mord g S' s H1 locs1 → W p l e R s m args below meth c H1 locs1 cs sl Q (F0 m (pc + 3) ls rest)) : W p l e R s m args below meth c H locs cs sl Q (F0 m pc ls (.int x :: .ref (g 99) :: rest)) := by
  subst hS
  exact g_put C O X (q := 0) (k := 99) rfl (m_c99 g cI cS sa S) (ci := 12) rfl m_in tyX12 tyX12_ok nmX12 37 (by decide) m_l37 rfl rfl rfl (Nat.le_of_ble_eq_true rfl) (fun i h => sU_ne h) rfl hdg kk
theorem m_l38 : Cond.fieldLink RX12 324 "GrottoHoursModel" "drained" "I" ∈ gT := gT_c6 199 rfl rfl
theorem m_g38 (C : gC p s m args meth c cc nL RX12 ret D (mtys cI cS) mord g Am) (X : gX D (mcell g cI cS sa) mord g S s H locs) (hdg : decode cc pc = .ok (.getfield 324, 3)) (kk : W p l e R s m args below meth c H locs cs sl Q (F0 m (pc + 3) ls (.int (S 99 38) :: rest))) : W p l e R s m args below meth c H locs cs sl Q (F0 m pc ls (.ref (g 99) :: rest)) :=
  g_get C X (q := 0) (k := 99) rfl (m_c99 g cI cS sa S) (ci := 12) rfl m_in 38 (by decide) m_l38 rfl hdg kk
theorem m_p38 (C : gC p s m args meth c cc nL RX12 ret D (mtys cI cS) mord g Am) (O : gO (mcell g cI cS sa) mord g) (X : gX D (mcell g cI cS sa) mord g S s H locs) {x : Int32} (hS : S' = sU S 99 38 x) (hdg : decode cc pc = .ok (.putfield 324, 3)) (kk : ∀ (H1 : Heap) (locs1 : List Loc), gX D (mcell g cI cS sa) mord g S' s H1 locs1 → W p l e R s m args below meth c H1 locs1 cs sl Q (F0 m (pc + 3) ls rest)) : W p l e R s m args below meth c H locs cs sl Q (F0 m pc ls (.int x :: .ref (g 99) :: rest)) := by
  subst hS
  exact g_put C O X (q := 0) (k := 99) rfl (m_c99 g cI cS sa S) (ci := 12) rfl m_in tyX12 tyX12_ok nmX12 38 (by decide) m_l38 rfl rfl rfl (Nat.le_of_ble_eq_true rfl) (fun i h => sU_ne h) rfl hdg kk
theorem m_l39 : Cond.fieldLink RX12 327 "GrottoHoursModel" "acts" "I" ∈ gT := gT_c6 200 rfl rfl
theorem m_g39 (C : gC p s m args meth c cc nL RX12 ret D (mtys cI cS) mord g Am) (X : gX D (mcell g cI cS sa) mord g S s H locs) (hdg : decode cc pc = .ok (.getfield 327, 3)) (kk : W p l e R s m args below meth c H locs cs sl Q (F0 m (pc + 3) ls (.int (S 99 39) :: rest))) : W p l e R s m args below meth c H locs cs sl Q (F0 m pc ls (.ref (g 99) :: rest)) :=
  g_get C X (q := 0) (k := 99) rfl (m_c99 g cI cS sa S) (ci := 12) rfl m_in 39 (by decide) m_l39 rfl hdg kk
theorem m_p39 (C : gC p s m args meth c cc nL RX12 ret D (mtys cI cS) mord g Am) (O : gO (mcell g cI cS sa) mord g) (X : gX D (mcell g cI cS sa) mord g S s H locs) {x : Int32} (hS : S' = sU S 99 39 x) (hdg : decode cc pc = .ok (.putfield 327, 3)) (kk : ∀ (H1 : Heap) (locs1 : List Loc), gX D (mcell g cI cS sa) mord g S' s H1 locs1 → W p l e R s m args below meth c H1 locs1 cs sl Q (F0 m (pc + 3) ls rest)) : W p l e R s m args below meth c H locs cs sl Q (F0 m pc ls (.int x :: .ref (g 99) :: rest)) := by
  subst hS
  exact g_put C O X (q := 0) (k := 99) rfl (m_c99 g cI cS sa S) (ci := 12) rfl m_in tyX12 tyX12_ok nmX12 39 (by decide) m_l39 rfl rfl rfl (Nat.le_of_ble_eq_true rfl) (fun i h => sU_ne h) rfl hdg kk
theorem m_l40 : Cond.fieldLink RX12 330 "GrottoHoursModel" "seen" "I" ∈ gT := gT_c6 201 rfl rfl
theorem m_g40 (C : gC p s m args meth c cc nL RX12 ret D (mtys cI cS) mord g Am) (X : gX D (mcell g cI cS sa) mord g S s H locs) (hdg : decode cc pc = .ok (.getfield 330, 3)) (kk : W p l e R s m args below meth c H locs cs sl Q (F0 m (pc + 3) ls (.int (S 99 40) :: rest))) : W p l e R s m args below meth c H locs cs sl Q (F0 m pc ls (.ref (g 99) :: rest)) :=
  g_get C X (q := 0) (k := 99) rfl (m_c99 g cI cS sa S) (ci := 12) rfl m_in 40 (by decide) m_l40 rfl hdg kk
theorem m_p40 (C : gC p s m args meth c cc nL RX12 ret D (mtys cI cS) mord g Am) (O : gO (mcell g cI cS sa) mord g) (X : gX D (mcell g cI cS sa) mord g S s H locs) {x : Int32} (hS : S' = sU S 99 40 x) (hdg : decode cc pc = .ok (.putfield 330, 3)) (kk : ∀ (H1 : Heap) (locs1 : List Loc), gX D (mcell g cI cS sa) mord g S' s H1 locs1 → W p l e R s m args below meth c H1 locs1 cs sl Q (F0 m (pc + 3) ls rest)) : W p l e R s m args below meth c H locs cs sl Q (F0 m pc ls (.int x :: .ref (g 99) :: rest)) := by
  subst hS
  exact g_put C O X (q := 0) (k := 99) rfl (m_c99 g cI cS sa S) (ci := 12) rfl m_in tyX12 tyX12_ok nmX12 40 (by decide) m_l40 rfl rfl rfl (Nat.le_of_ble_eq_true rfl) (fun i h => sU_ne h) rfl hdg kk
theorem m_l41 : Cond.fieldLink RX12 101 "GrottoHoursModel" "wetNow" "I" ∈ gT := gT_c6 202 rfl rfl
theorem m_g41 (C : gC p s m args meth c cc nL RX12 ret D (mtys cI cS) mord g Am) (X : gX D (mcell g cI cS sa) mord g S s H locs) (hdg : decode cc pc = .ok (.getfield 101, 3)) (kk : W p l e R s m args below meth c H locs cs sl Q (F0 m (pc + 3) ls (.int (S 99 41) :: rest))) : W p l e R s m args below meth c H locs cs sl Q (F0 m pc ls (.ref (g 99) :: rest)) :=
  g_get C X (q := 0) (k := 99) rfl (m_c99 g cI cS sa S) (ci := 12) rfl m_in 41 (by decide) m_l41 rfl hdg kk
theorem m_p41 (C : gC p s m args meth c cc nL RX12 ret D (mtys cI cS) mord g Am) (O : gO (mcell g cI cS sa) mord g) (X : gX D (mcell g cI cS sa) mord g S s H locs) {x : Int32} (hS : S' = sU S 99 41 x) (hdg : decode cc pc = .ok (.putfield 101, 3)) (kk : ∀ (H1 : Heap) (locs1 : List Loc), gX D (mcell g cI cS sa) mord g S' s H1 locs1 → W p l e R s m args below meth c H1 locs1 cs sl Q (F0 m (pc + 3) ls rest)) : W p l e R s m args below meth c H locs cs sl Q (F0 m pc ls (.int x :: .ref (g 99) :: rest)) := by
  subst hS
  exact g_put C O X (q := 0) (k := 99) rfl (m_c99 g cI cS sa S) (ci := 12) rfl m_in tyX12 tyX12_ok nmX12 41 (by decide) m_l41 rfl rfl rfl (Nat.le_of_ble_eq_true rfl) (fun i h => sU_ne h) rfl hdg kk
theorem m_l42 : Cond.fieldLink RX12 104 "GrottoHoursModel" "asked" "[I" ∈ gT := gT_c6 203 rfl rfl
theorem m_g42 (C : gC p s m args meth c cc nL RX12 ret D (mtys cI cS) mord g Am) (X : gX D (mcell g cI cS sa) mord g S s H locs) (hdg : decode cc pc = .ok (.getfield 104, 3)) (kk : W p l e R s m args below meth c H locs cs sl Q (F0 m (pc + 3) ls (.ref (g 42) :: rest))) : W p l e R s m args below meth c H locs cs sl Q (F0 m pc ls (.ref (g 99) :: rest)) :=
  g_get C X (q := 0) (k := 99) rfl (m_c99 g cI cS sa S) (ci := 12) rfl m_in 42 (by decide) m_l42 rfl hdg kk
theorem m_l43 : Cond.fieldLink RX12 107 "GrottoHoursModel" "stack" "[I" ∈ gT := gT_c6 204 rfl rfl
theorem m_g43 (C : gC p s m args meth c cc nL RX12 ret D (mtys cI cS) mord g Am) (X : gX D (mcell g cI cS sa) mord g S s H locs) (hdg : decode cc pc = .ok (.getfield 107, 3)) (kk : W p l e R s m args below meth c H locs cs sl Q (F0 m (pc + 3) ls (.ref (g 43) :: rest))) : W p l e R s m args below meth c H locs cs sl Q (F0 m pc ls (.ref (g 99) :: rest)) :=
  g_get C X (q := 0) (k := 99) rfl (m_c99 g cI cS sa S) (ci := 12) rfl m_in 43 (by decide) m_l43 rfl hdg kk
theorem m_l44 : Cond.fieldLink RX12 363 "GrottoHoursModel" "drops" "I" ∈ gT := gT_c6 205 rfl rfl
theorem m_g44 (C : gC p s m args meth c cc nL RX12 ret D (mtys cI cS) mord g Am) (X : gX D (mcell g cI cS sa) mord g S s H locs) (hdg : decode cc pc = .ok (.getfield 363, 3)) (kk : W p l e R s m args below meth c H locs cs sl Q (F0 m (pc + 3) ls (.int (S 99 44) :: rest))) : W p l e R s m args below meth c H locs cs sl Q (F0 m pc ls (.ref (g 99) :: rest)) :=
  g_get C X (q := 0) (k := 99) rfl (m_c99 g cI cS sa S) (ci := 12) rfl m_in 44 (by decide) m_l44 rfl hdg kk
theorem m_p44 (C : gC p s m args meth c cc nL RX12 ret D (mtys cI cS) mord g Am) (O : gO (mcell g cI cS sa) mord g) (X : gX D (mcell g cI cS sa) mord g S s H locs) {x : Int32} (hS : S' = sU S 99 44 x) (hdg : decode cc pc = .ok (.putfield 363, 3)) (kk : ∀ (H1 : Heap) (locs1 : List Loc), gX D (mcell g cI cS sa) mord g S' s H1 locs1 → W p l e R s m args below meth c H1 locs1 cs sl Q (F0 m (pc + 3) ls rest)) : W p l e R s m args below meth c H locs cs sl Q (F0 m pc ls (.int x :: .ref (g 99) :: rest)) := by
  subst hS
  exact g_put C O X (q := 0) (k := 99) rfl (m_c99 g cI cS sa S) (ci := 12) rfl m_in tyX12 tyX12_ok nmX12 44 (by decide) m_l44 rfl rfl rfl (Nat.le_of_ble_eq_true rfl) (fun i h => sU_ne h) rfl hdg kk
theorem m_l45 : Cond.fieldLink RX12 366 "GrottoHoursModel" "silent" "I" ∈ gT := gT_c6 206 rfl rfl
theorem m_g45 (C : gC p s m args meth c cc nL RX12 ret D (mtys cI cS) mord g Am) (X : gX D (mcell g cI cS sa) mord g S s H locs) (hdg : decode cc pc = .ok (.getfield 366, 3)) (kk : W p l e R s m args below meth c H locs cs sl Q (F0 m (pc + 3) ls (.int (S 99 45) :: rest))) : W p l e R s m args below meth c H locs cs sl Q (F0 m pc ls (.ref (g 99) :: rest)) :=
  g_get C X (q := 0) (k := 99) rfl (m_c99 g cI cS sa S) (ci := 12) rfl m_in 45 (by decide) m_l45 rfl hdg kk
theorem m_p45 (C : gC p s m args meth c cc nL RX12 ret D (mtys cI cS) mord g Am) (O : gO (mcell g cI cS sa) mord g) (X : gX D (mcell g cI cS sa) mord g S s H locs) {x : Int32} (hS : S' = sU S 99 45 x) (hdg : decode cc pc = .ok (.putfield 366, 3)) (kk : ∀ (H1 : Heap) (locs1 : List Loc), gX D (mcell g cI cS sa) mord g S' s H1 locs1 → W p l e R s m args below meth c H1 locs1 cs sl Q (F0 m (pc + 3) ls rest)) : W p l e R s m args below meth c H locs cs sl Q (F0 m pc ls (.int x :: .ref (g 99) :: rest)) := by
  subst hS
  exact g_put C O X (q := 0) (k := 99) rfl (m_c99 g cI cS sa S) (ci := 12) rfl m_in tyX12 tyX12_ok nmX12 45 (by decide) m_l45 rfl rfl rfl (Nat.le_of_ble_eq_true rfl) (fun i h => sU_ne h) rfl hdg kk
theorem m_l46 : Cond.fieldLink RX12 110 "GrottoHoursModel" "rowThen" "[I" ∈ gT := gT_c6 207 rfl rfl
theorem m_g46 (C : gC p s m args meth c cc nL RX12 ret D (mtys cI cS) mord g Am) (X : gX D (mcell g cI cS sa) mord g S s H locs) (hdg : decode cc pc = .ok (.getfield 110, 3)) (kk : W p l e R s m args below meth c H locs cs sl Q (F0 m (pc + 3) ls (.ref (g 46) :: rest))) : W p l e R s m args below meth c H locs cs sl Q (F0 m pc ls (.ref (g 99) :: rest)) :=
  g_get C X (q := 0) (k := 99) rfl (m_c99 g cI cS sa S) (ci := 12) rfl m_in 46 (by decide) m_l46 rfl hdg kk
theorem m_l47 : Cond.fieldLink RX12 113 "GrottoHoursModel" "leastBy" "[I" ∈ gT := gT_c6 208 rfl rfl
theorem m_g47 (C : gC p s m args meth c cc nL RX12 ret D (mtys cI cS) mord g Am) (X : gX D (mcell g cI cS sa) mord g S s H locs) (hdg : decode cc pc = .ok (.getfield 113, 3)) (kk : W p l e R s m args below meth c H locs cs sl Q (F0 m (pc + 3) ls (.ref (g 47) :: rest))) : W p l e R s m args below meth c H locs cs sl Q (F0 m pc ls (.ref (g 99) :: rest)) :=
  g_get C X (q := 0) (k := 99) rfl (m_c99 g cI cS sa S) (ci := 12) rfl m_in 47 (by decide) m_l47 rfl hdg kk
theorem m_l48 : Cond.fieldLink RX12 116 "GrottoHoursModel" "seenGuild" "[I" ∈ gT := gT_c6 209 rfl rfl
theorem m_g48 (C : gC p s m args meth c cc nL RX12 ret D (mtys cI cS) mord g Am) (X : gX D (mcell g cI cS sa) mord g S s H locs) (hdg : decode cc pc = .ok (.getfield 116, 3)) (kk : W p l e R s m args below meth c H locs cs sl Q (F0 m (pc + 3) ls (.ref (g 48) :: rest))) : W p l e R s m args below meth c H locs cs sl Q (F0 m pc ls (.ref (g 99) :: rest)) :=
  g_get C X (q := 0) (k := 99) rfl (m_c99 g cI cS sa S) (ci := 12) rfl m_in 48 (by decide) m_l48 rfl hdg kk
theorem m_l49 : Cond.fieldLink RX12 119 "GrottoHoursModel" "seenIn" "[I" ∈ gT := gT_c6 210 rfl rfl
theorem m_g49 (C : gC p s m args meth c cc nL RX12 ret D (mtys cI cS) mord g Am) (X : gX D (mcell g cI cS sa) mord g S s H locs) (hdg : decode cc pc = .ok (.getfield 119, 3)) (kk : W p l e R s m args below meth c H locs cs sl Q (F0 m (pc + 3) ls (.ref (g 49) :: rest))) : W p l e R s m args below meth c H locs cs sl Q (F0 m pc ls (.ref (g 99) :: rest)) :=
  g_get C X (q := 0) (k := 99) rfl (m_c99 g cI cS sa S) (ci := 12) rfl m_in 49 (by decide) m_l49 rfl hdg kk
theorem m_l50 : Cond.fieldLink RX12 122 "GrottoHoursModel" "seenSin" "[I" ∈ gT := gT_c6 211 rfl rfl
theorem m_g50 (C : gC p s m args meth c cc nL RX12 ret D (mtys cI cS) mord g Am) (X : gX D (mcell g cI cS sa) mord g S s H locs) (hdg : decode cc pc = .ok (.getfield 122, 3)) (kk : W p l e R s m args below meth c H locs cs sl Q (F0 m (pc + 3) ls (.ref (g 50) :: rest))) : W p l e R s m args below meth c H locs cs sl Q (F0 m pc ls (.ref (g 99) :: rest)) :=
  g_get C X (q := 0) (k := 99) rfl (m_c99 g cI cS sa S) (ci := 12) rfl m_in 50 (by decide) m_l50 rfl hdg kk
theorem m_l51 : Cond.fieldLink RX12 125 "GrottoHoursModel" "rowSeen" "[I" ∈ gT := gT_c6 212 rfl rfl
theorem m_g51 (C : gC p s m args meth c cc nL RX12 ret D (mtys cI cS) mord g Am) (X : gX D (mcell g cI cS sa) mord g S s H locs) (hdg : decode cc pc = .ok (.getfield 125, 3)) (kk : W p l e R s m args below meth c H locs cs sl Q (F0 m (pc + 3) ls (.ref (g 51) :: rest))) : W p l e R s m args below meth c H locs cs sl Q (F0 m pc ls (.ref (g 99) :: rest)) :=
  g_get C X (q := 0) (k := 99) rfl (m_c99 g cI cS sa S) (ci := 12) rfl m_in 51 (by decide) m_l51 rfl hdg kk
theorem m_l52 : Cond.fieldLink RX12 128 "GrottoHoursModel" "fits" "[I" ∈ gT := gT_c6 213 rfl rfl
theorem m_g52 (C : gC p s m args meth c cc nL RX12 ret D (mtys cI cS) mord g Am) (X : gX D (mcell g cI cS sa) mord g S s H locs) (hdg : decode cc pc = .ok (.getfield 128, 3)) (kk : W p l e R s m args below meth c H locs cs sl Q (F0 m (pc + 3) ls (.ref (g 52) :: rest))) : W p l e R s m args below meth c H locs cs sl Q (F0 m pc ls (.ref (g 99) :: rest)) :=
  g_get C X (q := 0) (k := 99) rfl (m_c99 g cI cS sa S) (ci := 12) rfl m_in 52 (by decide) m_l52 rfl hdg kk
theorem m_l53 : Cond.fieldLink RX12 131 "GrottoHoursModel" "worstThen" "[I" ∈ gT := gT_c6 214 rfl rfl
theorem m_g53 (C : gC p s m args meth c cc nL RX12 ret D (mtys cI cS) mord g Am) (X : gX D (mcell g cI cS sa) mord g S s H locs) (hdg : decode cc pc = .ok (.getfield 131, 3)) (kk : W p l e R s m args below meth c H locs cs sl Q (F0 m (pc + 3) ls (.ref (g 53) :: rest))) : W p l e R s m args below meth c H locs cs sl Q (F0 m pc ls (.ref (g 99) :: rest)) :=
  g_get C X (q := 0) (k := 99) rfl (m_c99 g cI cS sa S) (ci := 12) rfl m_in 53 (by decide) m_l53 rfl hdg kk
theorem m_l54 : Cond.fieldLink RX12 455 "GrottoHoursModel" "fitMany" "I" ∈ gT := gT_c6 215 rfl rfl
theorem m_g54 (C : gC p s m args meth c cc nL RX12 ret D (mtys cI cS) mord g Am) (X : gX D (mcell g cI cS sa) mord g S s H locs) (hdg : decode cc pc = .ok (.getfield 455, 3)) (kk : W p l e R s m args below meth c H locs cs sl Q (F0 m (pc + 3) ls (.int (S 99 54) :: rest))) : W p l e R s m args below meth c H locs cs sl Q (F0 m pc ls (.ref (g 99) :: rest)) :=
  g_get C X (q := 0) (k := 99) rfl (m_c99 g cI cS sa S) (ci := 12) rfl m_in 54 (by decide) m_l54 rfl hdg kk
theorem m_p54 (C : gC p s m args meth c cc nL RX12 ret D (mtys cI cS) mord g Am) (O : gO (mcell g cI cS sa) mord g) (X : gX D (mcell g cI cS sa) mord g S s H locs) {x : Int32} (hS : S' = sU S 99 54 x) (hdg : decode cc pc = .ok (.putfield 455, 3)) (kk : ∀ (H1 : Heap) (locs1 : List Loc), gX D (mcell g cI cS sa) mord g S' s H1 locs1 → W p l e R s m args below meth c H1 locs1 cs sl Q (F0 m (pc + 3) ls rest)) : W p l e R s m args below meth c H locs cs sl Q (F0 m pc ls (.int x :: .ref (g 99) :: rest)) := by
  subst hS
  exact g_put C O X (q := 0) (k := 99) rfl (m_c99 g cI cS sa S) (ci := 12) rfl m_in tyX12 tyX12_ok nmX12 54 (by decide) m_l54 rfl rfl rfl (Nat.le_of_ble_eq_true rfl) (fun i h => sU_ne h) rfl hdg kk
theorem m_l55 : Cond.fieldLink RX12 134 "GrottoHoursModel" "gains" "[I" ∈ gT := gT_c6 216 rfl rfl
theorem m_g55 (C : gC p s m args meth c cc nL RX12 ret D (mtys cI cS) mord g Am) (X : gX D (mcell g cI cS sa) mord g S s H locs) (hdg : decode cc pc = .ok (.getfield 134, 3)) (kk : W p l e R s m args below meth c H locs cs sl Q (F0 m (pc + 3) ls (.ref (g 55) :: rest))) : W p l e R s m args below meth c H locs cs sl Q (F0 m pc ls (.ref (g 99) :: rest)) :=
  g_get C X (q := 0) (k := 99) rfl (m_c99 g cI cS sa S) (ci := 12) rfl m_in 55 (by decide) m_l55 rfl hdg kk
theorem m_l56 : Cond.fieldLink RX12 477 "GrottoHoursModel" "seedNow" "I" ∈ gT := gT_c6 217 rfl rfl
theorem m_g56 (C : gC p s m args meth c cc nL RX12 ret D (mtys cI cS) mord g Am) (X : gX D (mcell g cI cS sa) mord g S s H locs) (hdg : decode cc pc = .ok (.getfield 477, 3)) (kk : W p l e R s m args below meth c H locs cs sl Q (F0 m (pc + 3) ls (.int (S 99 56) :: rest))) : W p l e R s m args below meth c H locs cs sl Q (F0 m pc ls (.ref (g 99) :: rest)) :=
  g_get C X (q := 0) (k := 99) rfl (m_c99 g cI cS sa S) (ci := 12) rfl m_in 56 (by decide) m_l56 rfl hdg kk
theorem m_p56 (C : gC p s m args meth c cc nL RX12 ret D (mtys cI cS) mord g Am) (O : gO (mcell g cI cS sa) mord g) (X : gX D (mcell g cI cS sa) mord g S s H locs) {x : Int32} (hS : S' = sU S 99 56 x) (hdg : decode cc pc = .ok (.putfield 477, 3)) (kk : ∀ (H1 : Heap) (locs1 : List Loc), gX D (mcell g cI cS sa) mord g S' s H1 locs1 → W p l e R s m args below meth c H1 locs1 cs sl Q (F0 m (pc + 3) ls rest)) : W p l e R s m args below meth c H locs cs sl Q (F0 m pc ls (.int x :: .ref (g 99) :: rest)) := by
  subst hS
  exact g_put C O X (q := 0) (k := 99) rfl (m_c99 g cI cS sa S) (ci := 12) rfl m_in tyX12 tyX12_ok nmX12 56 (by decide) m_l56 rfl rfl rfl (Nat.le_of_ble_eq_true rfl) (fun i h => sU_ne h) rfl hdg kk
theorem m_l57 : Cond.fieldLink RX12 333 "GrottoHoursModel" "hasImage" "Z" ∈ gT := gT_c6 218 rfl rfl
theorem m_g57 (C : gC p s m args meth c cc nL RX12 ret D (mtys cI cS) mord g Am) (X : gX D (mcell g cI cS sa) mord g S s H locs) (hdg : decode cc pc = .ok (.getfield 333, 3)) (kk : W p l e R s m args below meth c H locs cs sl Q (F0 m (pc + 3) ls (.int (S 99 57) :: rest))) : W p l e R s m args below meth c H locs cs sl Q (F0 m pc ls (.ref (g 99) :: rest)) :=
  g_get C X (q := 0) (k := 99) rfl (m_c99 g cI cS sa S) (ci := 12) rfl m_in 57 (by decide) m_l57 rfl hdg kk
theorem m_p57 (C : gC p s m args meth c cc nL RX12 ret D (mtys cI cS) mord g Am) (O : gO (mcell g cI cS sa) mord g) (X : gX D (mcell g cI cS sa) mord g S s H locs) {x : Int32} (hz : zb x = true) (hS : S' = sU S 99 57 x) (hdg : decode cc pc = .ok (.putfield 333, 3)) (kk : ∀ (H1 : Heap) (locs1 : List Loc), gX D (mcell g cI cS sa) mord g S' s H1 locs1 → W p l e R s m args below meth c H1 locs1 cs sl Q (F0 m (pc + 3) ls rest)) : W p l e R s m args below meth c H locs cs sl Q (F0 m pc ls (.int x :: .ref (g 99) :: rest)) := by
  subst hS
  exact g_put C O X (q := 0) (k := 99) rfl (m_c99 g cI cS sa S) (ci := 12) rfl m_in tyX12 tyX12_ok nmX12 57 (by decide) m_l57 rfl (zb_narrow hz) (zb_fits hz) (Nat.le_of_ble_eq_true rfl) (fun i h => sU_ne h) rfl hdg kk
theorem m_l58 : Cond.fieldLink RX12 487 "GrottoHoursModel" "actsThen" "I" ∈ gT := gT_c6 219 rfl rfl
theorem m_g58 (C : gC p s m args meth c cc nL RX12 ret D (mtys cI cS) mord g Am) (X : gX D (mcell g cI cS sa) mord g S s H locs) (hdg : decode cc pc = .ok (.getfield 487, 3)) (kk : W p l e R s m args below meth c H locs cs sl Q (F0 m (pc + 3) ls (.int (S 99 58) :: rest))) : W p l e R s m args below meth c H locs cs sl Q (F0 m pc ls (.ref (g 99) :: rest)) :=
  g_get C X (q := 0) (k := 99) rfl (m_c99 g cI cS sa S) (ci := 12) rfl m_in 58 (by decide) m_l58 rfl hdg kk
theorem m_p58 (C : gC p s m args meth c cc nL RX12 ret D (mtys cI cS) mord g Am) (O : gO (mcell g cI cS sa) mord g) (X : gX D (mcell g cI cS sa) mord g S s H locs) {x : Int32} (hS : S' = sU S 99 58 x) (hdg : decode cc pc = .ok (.putfield 487, 3)) (kk : ∀ (H1 : Heap) (locs1 : List Loc), gX D (mcell g cI cS sa) mord g S' s H1 locs1 → W p l e R s m args below meth c H1 locs1 cs sl Q (F0 m (pc + 3) ls rest)) : W p l e R s m args below meth c H locs cs sl Q (F0 m pc ls (.int x :: .ref (g 99) :: rest)) := by
  subst hS
  exact g_put C O X (q := 0) (k := 99) rfl (m_c99 g cI cS sa S) (ci := 12) rfl m_in tyX12 tyX12_ok nmX12 58 (by decide) m_l58 rfl rfl rfl (Nat.le_of_ble_eq_true rfl) (fun i h => sU_ne h) rfl hdg kk
theorem m_l59 : Cond.fieldLink RX12 490 "GrottoHoursModel" "seenThen" "I" ∈ gT := gT_c6 220 rfl rfl
theorem m_g59 (C : gC p s m args meth c cc nL RX12 ret D (mtys cI cS) mord g Am) (X : gX D (mcell g cI cS sa) mord g S s H locs) (hdg : decode cc pc = .ok (.getfield 490, 3)) (kk : W p l e R s m args below meth c H locs cs sl Q (F0 m (pc + 3) ls (.int (S 99 59) :: rest))) : W p l e R s m args below meth c H locs cs sl Q (F0 m pc ls (.ref (g 99) :: rest)) :=
  g_get C X (q := 0) (k := 99) rfl (m_c99 g cI cS sa S) (ci := 12) rfl m_in 59 (by decide) m_l59 rfl hdg kk
theorem m_p59 (C : gC p s m args meth c cc nL RX12 ret D (mtys cI cS) mord g Am) (O : gO (mcell g cI cS sa) mord g) (X : gX D (mcell g cI cS sa) mord g S s H locs) {x : Int32} (hS : S' = sU S 99 59 x) (hdg : decode cc pc = .ok (.putfield 490, 3)) (kk : ∀ (H1 : Heap) (locs1 : List Loc), gX D (mcell g cI cS sa) mord g S' s H1 locs1 → W p l e R s m args below meth c H1 locs1 cs sl Q (F0 m (pc + 3) ls rest)) : W p l e R s m args below meth c H locs cs sl Q (F0 m pc ls (.int x :: .ref (g 99) :: rest)) := by
  subst hS
  exact g_put C O X (q := 0) (k := 99) rfl (m_c99 g cI cS sa S) (ci := 12) rfl m_in tyX12 tyX12_ok nmX12 59 (by decide) m_l59 rfl rfl rfl (Nat.le_of_ble_eq_true rfl) (fun i h => sU_ne h) rfl hdg kk
theorem m_l60 : Cond.fieldLink RX12 137 "GrottoHoursModel" "imageRow" "[I" ∈ gT := gT_c6 221 rfl rfl
theorem m_g60 (C : gC p s m args meth c cc nL RX12 ret D (mtys cI cS) mord g Am) (X : gX D (mcell g cI cS sa) mord g S s H locs) (hdg : decode cc pc = .ok (.getfield 137, 3)) (kk : W p l e R s m args below meth c H locs cs sl Q (F0 m (pc + 3) ls (.ref (g 60) :: rest))) : W p l e R s m args below meth c H locs cs sl Q (F0 m pc ls (.ref (g 99) :: rest)) :=
  g_get C X (q := 0) (k := 99) rfl (m_c99 g cI cS sa S) (ci := 12) rfl m_in 60 (by decide) m_l60 rfl hdg kk
theorem m_l61 : Cond.fieldLink RX12 140 "GrottoHoursModel" "pastThen" "[I" ∈ gT := gT_c6 222 rfl rfl
theorem m_g61 (C : gC p s m args meth c cc nL RX12 ret D (mtys cI cS) mord g Am) (X : gX D (mcell g cI cS sa) mord g S s H locs) (hdg : decode cc pc = .ok (.getfield 140, 3)) (kk : W p l e R s m args below meth c H locs cs sl Q (F0 m (pc + 3) ls (.ref (g 61) :: rest))) : W p l e R s m args below meth c H locs cs sl Q (F0 m pc ls (.ref (g 99) :: rest)) :=
  g_get C X (q := 0) (k := 99) rfl (m_c99 g cI cS sa S) (ci := 12) rfl m_in 61 (by decide) m_l61 rfl hdg kk
theorem m_l62 : Cond.fieldLink RX12 143 "GrottoHoursModel" "seenGuildThen" "[I" ∈ gT := gT_c6 223 rfl rfl
theorem m_g62 (C : gC p s m args meth c cc nL RX12 ret D (mtys cI cS) mord g Am) (X : gX D (mcell g cI cS sa) mord g S s H locs) (hdg : decode cc pc = .ok (.getfield 143, 3)) (kk : W p l e R s m args below meth c H locs cs sl Q (F0 m (pc + 3) ls (.ref (g 62) :: rest))) : W p l e R s m args below meth c H locs cs sl Q (F0 m pc ls (.ref (g 99) :: rest)) :=
  g_get C X (q := 0) (k := 99) rfl (m_c99 g cI cS sa S) (ci := 12) rfl m_in 62 (by decide) m_l62 rfl hdg kk
theorem m_l63 : Cond.fieldLink RX12 146 "GrottoHoursModel" "seenInThen" "[I" ∈ gT := gT_c6 224 rfl rfl
theorem m_g63 (C : gC p s m args meth c cc nL RX12 ret D (mtys cI cS) mord g Am) (X : gX D (mcell g cI cS sa) mord g S s H locs) (hdg : decode cc pc = .ok (.getfield 146, 3)) (kk : W p l e R s m args below meth c H locs cs sl Q (F0 m (pc + 3) ls (.ref (g 63) :: rest))) : W p l e R s m args below meth c H locs cs sl Q (F0 m pc ls (.ref (g 99) :: rest)) :=
  g_get C X (q := 0) (k := 99) rfl (m_c99 g cI cS sa S) (ci := 12) rfl m_in 63 (by decide) m_l63 rfl hdg kk
theorem m_l64 : Cond.fieldLink RX12 149 "GrottoHoursModel" "seenSinThen" "[I" ∈ gT := gT_c6 225 rfl rfl
theorem m_g64 (C : gC p s m args meth c cc nL RX12 ret D (mtys cI cS) mord g Am) (X : gX D (mcell g cI cS sa) mord g S s H locs) (hdg : decode cc pc = .ok (.getfield 149, 3)) (kk : W p l e R s m args below meth c H locs cs sl Q (F0 m (pc + 3) ls (.ref (g 64) :: rest))) : W p l e R s m args below meth c H locs cs sl Q (F0 m pc ls (.ref (g 99) :: rest)) :=
  g_get C X (q := 0) (k := 99) rfl (m_c99 g cI cS sa S) (ci := 12) rfl m_in 64 (by decide) m_l64 rfl hdg kk
theorem m_l65 : Cond.fieldLink RX12 152 "GrottoHoursModel" "statusThen" "[I" ∈ gT := gT_c6 226 rfl rfl
theorem m_g65 (C : gC p s m args meth c cc nL RX12 ret D (mtys cI cS) mord g Am) (X : gX D (mcell g cI cS sa) mord g S s H locs) (hdg : decode cc pc = .ok (.getfield 152, 3)) (kk : W p l e R s m args below meth c H locs cs sl Q (F0 m (pc + 3) ls (.ref (g 65) :: rest))) : W p l e R s m args below meth c H locs cs sl Q (F0 m pc ls (.ref (g 99) :: rest)) :=
  g_get C X (q := 0) (k := 99) rfl (m_c99 g cI cS sa S) (ci := 12) rfl m_in 65 (by decide) m_l65 rfl hdg kk
theorem m_r5 (C : gC p s m args meth c cc nL RX12 ret D (mtys cI cS) mord g Am) (X : gX D (mcell g cI cS sa) mord g S s H locs) {i : Int32} {j : Nat} (hin : vp_in i 12) (hj : i.toNatClampNeg = j) (hdg : decode cc pc = .ok (.iaload, 1)) (kk : W p l e R s m args below meth c H locs cs sl Q (F0 m (pc + 1) ls (.int (S 5 j) :: rest))) : W p l e R s m args below meth c H locs cs sl Q (F0 m pc ls (.int i :: .ref (g 5) :: rest)) :=
  g_iald C X (q := 1) (k := 5) rfl (m_cA g cI cS sa S (k := 5) rfl) (t0 := 0) rfl hin hj hdg kk
theorem m_w5 (C : gC p s m args meth c cc nL RX12 ret D (mtys cI cS) mord g Am) (O : gO (mcell g cI cS sa) mord g) (X : gX D (mcell g cI cS sa) mord g S s H locs) {i x : Int32} {j : Nat} (hin : vp_in i 12) (hj : i.toNatClampNeg = j) (hS : S' = sU S 5 j x) (hdg : decode cc pc = .ok (.iastore, 1)) (kk : ∀ (H1 : Heap) (locs1 : List Loc), gX D (mcell g cI cS sa) mord g S' s H1 locs1 → W p l e R s m args below meth c H1 locs1 cs sl Q (F0 m (pc + 1) ls rest)) : W p l e R s m args below meth c H locs cs sl Q (F0 m pc ls (.int x :: .int i :: .ref (g 5) :: rest)) := by
  subst hS
  exact g_iast C O X (q := 1) (k := 5) rfl (m_cA g cI cS sa S (k := 5) rfl) (t0 := 0) rfl hin hj (fun i h => sU_ne h) (by rw [m_cA g cI cS sa _ (k := 5) rfl, sU_eq]) hdg kk
theorem m_r6 (C : gC p s m args meth c cc nL RX12 ret D (mtys cI cS) mord g Am) (X : gX D (mcell g cI cS sa) mord g S s H locs) {i : Int32} {j : Nat} (hin : vp_in i 16) (hj : i.toNatClampNeg = j) (hdg : decode cc pc = .ok (.iaload, 1)) (kk : W p l e R s m args below meth c H locs cs sl Q (F0 m (pc + 1) ls (.int (S 6 j) :: rest))) : W p l e R s m args below meth c H locs cs sl Q (F0 m pc ls (.int i :: .ref (g 6) :: rest)) :=
  g_iald C X (q := 2) (k := 6) rfl (m_cA g cI cS sa S (k := 6) rfl) (t0 := 0) rfl hin hj hdg kk
theorem m_w6 (C : gC p s m args meth c cc nL RX12 ret D (mtys cI cS) mord g Am) (O : gO (mcell g cI cS sa) mord g) (X : gX D (mcell g cI cS sa) mord g S s H locs) {i x : Int32} {j : Nat} (hin : vp_in i 16) (hj : i.toNatClampNeg = j) (hS : S' = sU S 6 j x) (hdg : decode cc pc = .ok (.iastore, 1)) (kk : ∀ (H1 : Heap) (locs1 : List Loc), gX D (mcell g cI cS sa) mord g S' s H1 locs1 → W p l e R s m args below meth c H1 locs1 cs sl Q (F0 m (pc + 1) ls rest)) : W p l e R s m args below meth c H locs cs sl Q (F0 m pc ls (.int x :: .int i :: .ref (g 6) :: rest)) := by
  subst hS
  exact g_iast C O X (q := 2) (k := 6) rfl (m_cA g cI cS sa S (k := 6) rfl) (t0 := 0) rfl hin hj (fun i h => sU_ne h) (by rw [m_cA g cI cS sa _ (k := 6) rfl, sU_eq]) hdg kk
theorem m_r7 (C : gC p s m args meth c cc nL RX12 ret D (mtys cI cS) mord g Am) (X : gX D (mcell g cI cS sa) mord g S s H locs) {i : Int32} {j : Nat} (hin : vp_in i 16) (hj : i.toNatClampNeg = j) (hdg : decode cc pc = .ok (.iaload, 1)) (kk : W p l e R s m args below meth c H locs cs sl Q (F0 m (pc + 1) ls (.int (S 7 j) :: rest))) : W p l e R s m args below meth c H locs cs sl Q (F0 m pc ls (.int i :: .ref (g 7) :: rest)) :=
  g_iald C X (q := 3) (k := 7) rfl (m_cA g cI cS sa S (k := 7) rfl) (t0 := 0) rfl hin hj hdg kk
theorem m_w7 (C : gC p s m args meth c cc nL RX12 ret D (mtys cI cS) mord g Am) (O : gO (mcell g cI cS sa) mord g) (X : gX D (mcell g cI cS sa) mord g S s H locs) {i x : Int32} {j : Nat} (hin : vp_in i 16) (hj : i.toNatClampNeg = j) (hS : S' = sU S 7 j x) (hdg : decode cc pc = .ok (.iastore, 1)) (kk : ∀ (H1 : Heap) (locs1 : List Loc), gX D (mcell g cI cS sa) mord g S' s H1 locs1 → W p l e R s m args below meth c H1 locs1 cs sl Q (F0 m (pc + 1) ls rest)) : W p l e R s m args below meth c H locs cs sl Q (F0 m pc ls (.int x :: .int i :: .ref (g 7) :: rest)) := by
  subst hS
  exact g_iast C O X (q := 3) (k := 7) rfl (m_cA g cI cS sa S (k := 7) rfl) (t0 := 0) rfl hin hj (fun i h => sU_ne h) (by rw [m_cA g cI cS sa _ (k := 7) rfl, sU_eq]) hdg kk
theorem m_r8 (C : gC p s m args meth c cc nL RX12 ret D (mtys cI cS) mord g Am) (X : gX D (mcell g cI cS sa) mord g S s H locs) {i : Int32} {j : Nat} (hin : vp_in i 16) (hj : i.toNatClampNeg = j) (hdg : decode cc pc = .ok (.iaload, 1)) (kk : W p l e R s m args below meth c H locs cs sl Q (F0 m (pc + 1) ls (.int (S 8 j) :: rest))) : W p l e R s m args below meth c H locs cs sl Q (F0 m pc ls (.int i :: .ref (g 8) :: rest)) :=
  g_iald C X (q := 4) (k := 8) rfl (m_cA g cI cS sa S (k := 8) rfl) (t0 := 0) rfl hin hj hdg kk
theorem m_w8 (C : gC p s m args meth c cc nL RX12 ret D (mtys cI cS) mord g Am) (O : gO (mcell g cI cS sa) mord g) (X : gX D (mcell g cI cS sa) mord g S s H locs) {i x : Int32} {j : Nat} (hin : vp_in i 16) (hj : i.toNatClampNeg = j) (hS : S' = sU S 8 j x) (hdg : decode cc pc = .ok (.iastore, 1)) (kk : ∀ (H1 : Heap) (locs1 : List Loc), gX D (mcell g cI cS sa) mord g S' s H1 locs1 → W p l e R s m args below meth c H1 locs1 cs sl Q (F0 m (pc + 1) ls rest)) : W p l e R s m args below meth c H locs cs sl Q (F0 m pc ls (.int x :: .int i :: .ref (g 8) :: rest)) := by
  subst hS
  exact g_iast C O X (q := 4) (k := 8) rfl (m_cA g cI cS sa S (k := 8) rfl) (t0 := 0) rfl hin hj (fun i h => sU_ne h) (by rw [m_cA g cI cS sa _ (k := 8) rfl, sU_eq]) hdg kk
theorem m_r9 (C : gC p s m args meth c cc nL RX12 ret D (mtys cI cS) mord g Am) (X : gX D (mcell g cI cS sa) mord g S s H locs) {i : Int32} {j : Nat} (hin : vp_in i 16) (hj : i.toNatClampNeg = j) (hdg : decode cc pc = .ok (.iaload, 1)) (kk : W p l e R s m args below meth c H locs cs sl Q (F0 m (pc + 1) ls (.int (S 9 j) :: rest))) : W p l e R s m args below meth c H locs cs sl Q (F0 m pc ls (.int i :: .ref (g 9) :: rest)) :=
  g_iald C X (q := 5) (k := 9) rfl (m_cA g cI cS sa S (k := 9) rfl) (t0 := 0) rfl hin hj hdg kk
theorem m_w9 (C : gC p s m args meth c cc nL RX12 ret D (mtys cI cS) mord g Am) (O : gO (mcell g cI cS sa) mord g) (X : gX D (mcell g cI cS sa) mord g S s H locs) {i x : Int32} {j : Nat} (hin : vp_in i 16) (hj : i.toNatClampNeg = j) (hS : S' = sU S 9 j x) (hdg : decode cc pc = .ok (.iastore, 1)) (kk : ∀ (H1 : Heap) (locs1 : List Loc), gX D (mcell g cI cS sa) mord g S' s H1 locs1 → W p l e R s m args below meth c H1 locs1 cs sl Q (F0 m (pc + 1) ls rest)) : W p l e R s m args below meth c H locs cs sl Q (F0 m pc ls (.int x :: .int i :: .ref (g 9) :: rest)) := by
  subst hS
  exact g_iast C O X (q := 5) (k := 9) rfl (m_cA g cI cS sa S (k := 9) rfl) (t0 := 0) rfl hin hj (fun i h => sU_ne h) (by rw [m_cA g cI cS sa _ (k := 9) rfl, sU_eq]) hdg kk
theorem m_r10 (C : gC p s m args meth c cc nL RX12 ret D (mtys cI cS) mord g Am) (X : gX D (mcell g cI cS sa) mord g S s H locs) {i : Int32} {j : Nat} (hin : vp_in i 12) (hj : i.toNatClampNeg = j) (hdg : decode cc pc = .ok (.iaload, 1)) (kk : W p l e R s m args below meth c H locs cs sl Q (F0 m (pc + 1) ls (.int (S 10 j) :: rest))) : W p l e R s m args below meth c H locs cs sl Q (F0 m pc ls (.int i :: .ref (g 10) :: rest)) :=
  g_iald C X (q := 6) (k := 10) rfl (m_cA g cI cS sa S (k := 10) rfl) (t0 := 0) rfl hin hj hdg kk
theorem m_w10 (C : gC p s m args meth c cc nL RX12 ret D (mtys cI cS) mord g Am) (O : gO (mcell g cI cS sa) mord g) (X : gX D (mcell g cI cS sa) mord g S s H locs) {i x : Int32} {j : Nat} (hin : vp_in i 12) (hj : i.toNatClampNeg = j) (hS : S' = sU S 10 j x) (hdg : decode cc pc = .ok (.iastore, 1)) (kk : ∀ (H1 : Heap) (locs1 : List Loc), gX D (mcell g cI cS sa) mord g S' s H1 locs1 → W p l e R s m args below meth c H1 locs1 cs sl Q (F0 m (pc + 1) ls rest)) : W p l e R s m args below meth c H locs cs sl Q (F0 m pc ls (.int x :: .int i :: .ref (g 10) :: rest)) := by
  subst hS
  exact g_iast C O X (q := 6) (k := 10) rfl (m_cA g cI cS sa S (k := 10) rfl) (t0 := 0) rfl hin hj (fun i h => sU_ne h) (by rw [m_cA g cI cS sa _ (k := 10) rfl, sU_eq]) hdg kk
theorem m_r11 (C : gC p s m args meth c cc nL RX12 ret D (mtys cI cS) mord g Am) (X : gX D (mcell g cI cS sa) mord g S s H locs) {i : Int32} {j : Nat} (hin : vp_in i 12) (hj : i.toNatClampNeg = j) (hdg : decode cc pc = .ok (.iaload, 1)) (kk : W p l e R s m args below meth c H locs cs sl Q (F0 m (pc + 1) ls (.int (S 11 j) :: rest))) : W p l e R s m args below meth c H locs cs sl Q (F0 m pc ls (.int i :: .ref (g 11) :: rest)) :=
  g_iald C X (q := 7) (k := 11) rfl (m_cA g cI cS sa S (k := 11) rfl) (t0 := 0) rfl hin hj hdg kk
theorem m_w11 (C : gC p s m args meth c cc nL RX12 ret D (mtys cI cS) mord g Am) (O : gO (mcell g cI cS sa) mord g) (X : gX D (mcell g cI cS sa) mord g S s H locs) {i x : Int32} {j : Nat} (hin : vp_in i 12) (hj : i.toNatClampNeg = j) (hS : S' = sU S 11 j x) (hdg : decode cc pc = .ok (.iastore, 1)) (kk : ∀ (H1 : Heap) (locs1 : List Loc), gX D (mcell g cI cS sa) mord g S' s H1 locs1 → W p l e R s m args below meth c H1 locs1 cs sl Q (F0 m (pc + 1) ls rest)) : W p l e R s m args below meth c H locs cs sl Q (F0 m pc ls (.int x :: .int i :: .ref (g 11) :: rest)) := by
  subst hS
  exact g_iast C O X (q := 7) (k := 11) rfl (m_cA g cI cS sa S (k := 11) rfl) (t0 := 0) rfl hin hj (fun i h => sU_ne h) (by rw [m_cA g cI cS sa _ (k := 11) rfl, sU_eq]) hdg kk
theorem m_r12 (C : gC p s m args meth c cc nL RX12 ret D (mtys cI cS) mord g Am) (X : gX D (mcell g cI cS sa) mord g S s H locs) {i : Int32} {j : Nat} (hin : vp_in i 12) (hj : i.toNatClampNeg = j) (hdg : decode cc pc = .ok (.iaload, 1)) (kk : W p l e R s m args below meth c H locs cs sl Q (F0 m (pc + 1) ls (.int (S 12 j) :: rest))) : W p l e R s m args below meth c H locs cs sl Q (F0 m pc ls (.int i :: .ref (g 12) :: rest)) :=
  g_iald C X (q := 8) (k := 12) rfl (m_cA g cI cS sa S (k := 12) rfl) (t0 := 0) rfl hin hj hdg kk
theorem m_w12 (C : gC p s m args meth c cc nL RX12 ret D (mtys cI cS) mord g Am) (O : gO (mcell g cI cS sa) mord g) (X : gX D (mcell g cI cS sa) mord g S s H locs) {i x : Int32} {j : Nat} (hin : vp_in i 12) (hj : i.toNatClampNeg = j) (hS : S' = sU S 12 j x) (hdg : decode cc pc = .ok (.iastore, 1)) (kk : ∀ (H1 : Heap) (locs1 : List Loc), gX D (mcell g cI cS sa) mord g S' s H1 locs1 → W p l e R s m args below meth c H1 locs1 cs sl Q (F0 m (pc + 1) ls rest)) : W p l e R s m args below meth c H locs cs sl Q (F0 m pc ls (.int x :: .int i :: .ref (g 12) :: rest)) := by
  subst hS
  exact g_iast C O X (q := 8) (k := 12) rfl (m_cA g cI cS sa S (k := 12) rfl) (t0 := 0) rfl hin hj (fun i h => sU_ne h) (by rw [m_cA g cI cS sa _ (k := 12) rfl, sU_eq]) hdg kk
theorem m_r13 (C : gC p s m args meth c cc nL RX12 ret D (mtys cI cS) mord g Am) (X : gX D (mcell g cI cS sa) mord g S s H locs) {i : Int32} {j : Nat} (hin : vp_in i 12) (hj : i.toNatClampNeg = j) (hdg : decode cc pc = .ok (.iaload, 1)) (kk : W p l e R s m args below meth c H locs cs sl Q (F0 m (pc + 1) ls (.int (S 13 j) :: rest))) : W p l e R s m args below meth c H locs cs sl Q (F0 m pc ls (.int i :: .ref (g 13) :: rest)) :=
  g_iald C X (q := 9) (k := 13) rfl (m_cA g cI cS sa S (k := 13) rfl) (t0 := 0) rfl hin hj hdg kk
theorem m_w13 (C : gC p s m args meth c cc nL RX12 ret D (mtys cI cS) mord g Am) (O : gO (mcell g cI cS sa) mord g) (X : gX D (mcell g cI cS sa) mord g S s H locs) {i x : Int32} {j : Nat} (hin : vp_in i 12) (hj : i.toNatClampNeg = j) (hS : S' = sU S 13 j x) (hdg : decode cc pc = .ok (.iastore, 1)) (kk : ∀ (H1 : Heap) (locs1 : List Loc), gX D (mcell g cI cS sa) mord g S' s H1 locs1 → W p l e R s m args below meth c H1 locs1 cs sl Q (F0 m (pc + 1) ls rest)) : W p l e R s m args below meth c H locs cs sl Q (F0 m pc ls (.int x :: .int i :: .ref (g 13) :: rest)) := by
  subst hS
  exact g_iast C O X (q := 9) (k := 13) rfl (m_cA g cI cS sa S (k := 13) rfl) (t0 := 0) rfl hin hj (fun i h => sU_ne h) (by rw [m_cA g cI cS sa _ (k := 13) rfl, sU_eq]) hdg kk
theorem m_r14 (C : gC p s m args meth c cc nL RX12 ret D (mtys cI cS) mord g Am) (X : gX D (mcell g cI cS sa) mord g S s H locs) {i : Int32} {j : Nat} (hin : vp_in i 16) (hj : i.toNatClampNeg = j) (hdg : decode cc pc = .ok (.iaload, 1)) (kk : W p l e R s m args below meth c H locs cs sl Q (F0 m (pc + 1) ls (.int (S 14 j) :: rest))) : W p l e R s m args below meth c H locs cs sl Q (F0 m pc ls (.int i :: .ref (g 14) :: rest)) :=
  g_iald C X (q := 10) (k := 14) rfl (m_cA g cI cS sa S (k := 14) rfl) (t0 := 0) rfl hin hj hdg kk
theorem m_w14 (C : gC p s m args meth c cc nL RX12 ret D (mtys cI cS) mord g Am) (O : gO (mcell g cI cS sa) mord g) (X : gX D (mcell g cI cS sa) mord g S s H locs) {i x : Int32} {j : Nat} (hin : vp_in i 16) (hj : i.toNatClampNeg = j) (hS : S' = sU S 14 j x) (hdg : decode cc pc = .ok (.iastore, 1)) (kk : ∀ (H1 : Heap) (locs1 : List Loc), gX D (mcell g cI cS sa) mord g S' s H1 locs1 → W p l e R s m args below meth c H1 locs1 cs sl Q (F0 m (pc + 1) ls rest)) : W p l e R s m args below meth c H locs cs sl Q (F0 m pc ls (.int x :: .int i :: .ref (g 14) :: rest)) := by
  subst hS
  exact g_iast C O X (q := 10) (k := 14) rfl (m_cA g cI cS sa S (k := 14) rfl) (t0 := 0) rfl hin hj (fun i h => sU_ne h) (by rw [m_cA g cI cS sa _ (k := 14) rfl, sU_eq]) hdg kk
theorem m_r15 (C : gC p s m args meth c cc nL RX12 ret D (mtys cI cS) mord g Am) (X : gX D (mcell g cI cS sa) mord g S s H locs) {i : Int32} {j : Nat} (hin : vp_in i 1400) (hj : i.toNatClampNeg = j) (hdg : decode cc pc = .ok (.iaload, 1)) (kk : W p l e R s m args below meth c H locs cs sl Q (F0 m (pc + 1) ls (.int (S 15 j) :: rest))) : W p l e R s m args below meth c H locs cs sl Q (F0 m pc ls (.int i :: .ref (g 15) :: rest)) :=
  g_iald C X (q := 11) (k := 15) rfl (m_cA g cI cS sa S (k := 15) rfl) (t0 := 0) rfl hin hj hdg kk
theorem m_w15 (C : gC p s m args meth c cc nL RX12 ret D (mtys cI cS) mord g Am) (O : gO (mcell g cI cS sa) mord g) (X : gX D (mcell g cI cS sa) mord g S s H locs) {i x : Int32} {j : Nat} (hin : vp_in i 1400) (hj : i.toNatClampNeg = j) (hS : S' = sU S 15 j x) (hdg : decode cc pc = .ok (.iastore, 1)) (kk : ∀ (H1 : Heap) (locs1 : List Loc), gX D (mcell g cI cS sa) mord g S' s H1 locs1 → W p l e R s m args below meth c H1 locs1 cs sl Q (F0 m (pc + 1) ls rest)) : W p l e R s m args below meth c H locs cs sl Q (F0 m pc ls (.int x :: .int i :: .ref (g 15) :: rest)) := by
  subst hS
  exact g_iast C O X (q := 11) (k := 15) rfl (m_cA g cI cS sa S (k := 15) rfl) (t0 := 0) rfl hin hj (fun i h => sU_ne h) (by rw [m_cA g cI cS sa _ (k := 15) rfl, sU_eq]) hdg kk
theorem m_r16 (C : gC p s m args meth c cc nL RX12 ret D (mtys cI cS) mord g Am) (X : gX D (mcell g cI cS sa) mord g S s H locs) {i : Int32} {j : Nat} (hin : vp_in i 1400) (hj : i.toNatClampNeg = j) (hdg : decode cc pc = .ok (.iaload, 1)) (kk : W p l e R s m args below meth c H locs cs sl Q (F0 m (pc + 1) ls (.int (S 16 j) :: rest))) : W p l e R s m args below meth c H locs cs sl Q (F0 m pc ls (.int i :: .ref (g 16) :: rest)) :=
  g_iald C X (q := 12) (k := 16) rfl (m_cA g cI cS sa S (k := 16) rfl) (t0 := 0) rfl hin hj hdg kk
theorem m_w16 (C : gC p s m args meth c cc nL RX12 ret D (mtys cI cS) mord g Am) (O : gO (mcell g cI cS sa) mord g) (X : gX D (mcell g cI cS sa) mord g S s H locs) {i x : Int32} {j : Nat} (hin : vp_in i 1400) (hj : i.toNatClampNeg = j) (hS : S' = sU S 16 j x) (hdg : decode cc pc = .ok (.iastore, 1)) (kk : ∀ (H1 : Heap) (locs1 : List Loc), gX D (mcell g cI cS sa) mord g S' s H1 locs1 → W p l e R s m args below meth c H1 locs1 cs sl Q (F0 m (pc + 1) ls rest)) : W p l e R s m args below meth c H locs cs sl Q (F0 m pc ls (.int x :: .int i :: .ref (g 16) :: rest)) := by
  subst hS
  exact g_iast C O X (q := 12) (k := 16) rfl (m_cA g cI cS sa S (k := 16) rfl) (t0 := 0) rfl hin hj (fun i h => sU_ne h) (by rw [m_cA g cI cS sa _ (k := 16) rfl, sU_eq]) hdg kk
theorem m_r17 (C : gC p s m args meth c cc nL RX12 ret D (mtys cI cS) mord g Am) (X : gX D (mcell g cI cS sa) mord g S s H locs) {i : Int32} {j : Nat} (hin : vp_in i 3) (hj : i.toNatClampNeg = j) (hdg : decode cc pc = .ok (.iaload, 1)) (kk : W p l e R s m args below meth c H locs cs sl Q (F0 m (pc + 1) ls (.int (S 17 j) :: rest))) : W p l e R s m args below meth c H locs cs sl Q (F0 m pc ls (.int i :: .ref (g 17) :: rest)) :=
  g_iald C X (q := 13) (k := 17) rfl (m_cA g cI cS sa S (k := 17) rfl) (t0 := 0) rfl hin hj hdg kk
theorem m_w17 (C : gC p s m args meth c cc nL RX12 ret D (mtys cI cS) mord g Am) (O : gO (mcell g cI cS sa) mord g) (X : gX D (mcell g cI cS sa) mord g S s H locs) {i x : Int32} {j : Nat} (hin : vp_in i 3) (hj : i.toNatClampNeg = j) (hS : S' = sU S 17 j x) (hdg : decode cc pc = .ok (.iastore, 1)) (kk : ∀ (H1 : Heap) (locs1 : List Loc), gX D (mcell g cI cS sa) mord g S' s H1 locs1 → W p l e R s m args below meth c H1 locs1 cs sl Q (F0 m (pc + 1) ls rest)) : W p l e R s m args below meth c H locs cs sl Q (F0 m pc ls (.int x :: .int i :: .ref (g 17) :: rest)) := by
  subst hS
  exact g_iast C O X (q := 13) (k := 17) rfl (m_cA g cI cS sa S (k := 17) rfl) (t0 := 0) rfl hin hj (fun i h => sU_ne h) (by rw [m_cA g cI cS sa _ (k := 17) rfl, sU_eq]) hdg kk
theorem m_r18 (C : gC p s m args meth c cc nL RX12 ret D (mtys cI cS) mord g Am) (X : gX D (mcell g cI cS sa) mord g S s H locs) {i : Int32} {j : Nat} (hin : vp_in i 6) (hj : i.toNatClampNeg = j) (hdg : decode cc pc = .ok (.iaload, 1)) (kk : W p l e R s m args below meth c H locs cs sl Q (F0 m (pc + 1) ls (.int (S 18 j) :: rest))) : W p l e R s m args below meth c H locs cs sl Q (F0 m pc ls (.int i :: .ref (g 18) :: rest)) :=
  g_iald C X (q := 14) (k := 18) rfl (m_cA g cI cS sa S (k := 18) rfl) (t0 := 0) rfl hin hj hdg kk
theorem m_w18 (C : gC p s m args meth c cc nL RX12 ret D (mtys cI cS) mord g Am) (O : gO (mcell g cI cS sa) mord g) (X : gX D (mcell g cI cS sa) mord g S s H locs) {i x : Int32} {j : Nat} (hin : vp_in i 6) (hj : i.toNatClampNeg = j) (hS : S' = sU S 18 j x) (hdg : decode cc pc = .ok (.iastore, 1)) (kk : ∀ (H1 : Heap) (locs1 : List Loc), gX D (mcell g cI cS sa) mord g S' s H1 locs1 → W p l e R s m args below meth c H1 locs1 cs sl Q (F0 m (pc + 1) ls rest)) : W p l e R s m args below meth c H locs cs sl Q (F0 m pc ls (.int x :: .int i :: .ref (g 18) :: rest)) := by
  subst hS
  exact g_iast C O X (q := 14) (k := 18) rfl (m_cA g cI cS sa S (k := 18) rfl) (t0 := 0) rfl hin hj (fun i h => sU_ne h) (by rw [m_cA g cI cS sa _ (k := 18) rfl, sU_eq]) hdg kk
theorem m_r19 (C : gC p s m args meth c cc nL RX12 ret D (mtys cI cS) mord g Am) (X : gX D (mcell g cI cS sa) mord g S s H locs) {i : Int32} {j : Nat} (hin : vp_in i 700) (hj : i.toNatClampNeg = j) (hdg : decode cc pc = .ok (.iaload, 1)) (kk : W p l e R s m args below meth c H locs cs sl Q (F0 m (pc + 1) ls (.int (S 19 j) :: rest))) : W p l e R s m args below meth c H locs cs sl Q (F0 m pc ls (.int i :: .ref (g 19) :: rest)) :=
  g_iald C X (q := 15) (k := 19) rfl (m_cA g cI cS sa S (k := 19) rfl) (t0 := 0) rfl hin hj hdg kk
theorem m_w19 (C : gC p s m args meth c cc nL RX12 ret D (mtys cI cS) mord g Am) (O : gO (mcell g cI cS sa) mord g) (X : gX D (mcell g cI cS sa) mord g S s H locs) {i x : Int32} {j : Nat} (hin : vp_in i 700) (hj : i.toNatClampNeg = j) (hS : S' = sU S 19 j x) (hdg : decode cc pc = .ok (.iastore, 1)) (kk : ∀ (H1 : Heap) (locs1 : List Loc), gX D (mcell g cI cS sa) mord g S' s H1 locs1 → W p l e R s m args below meth c H1 locs1 cs sl Q (F0 m (pc + 1) ls rest)) : W p l e R s m args below meth c H locs cs sl Q (F0 m pc ls (.int x :: .int i :: .ref (g 19) :: rest)) := by
  subst hS
  exact g_iast C O X (q := 15) (k := 19) rfl (m_cA g cI cS sa S (k := 19) rfl) (t0 := 0) rfl hin hj (fun i h => sU_ne h) (by rw [m_cA g cI cS sa _ (k := 19) rfl, sU_eq]) hdg kk
theorem m_r32 (C : gC p s m args meth c cc nL RX12 ret D (mtys cI cS) mord g Am) (X : gX D (mcell g cI cS sa) mord g S s H locs) {i : Int32} {j : Nat} (hin : vp_in i 6) (hj : i.toNatClampNeg = j) (hdg : decode cc pc = .ok (.iaload, 1)) (kk : W p l e R s m args below meth c H locs cs sl Q (F0 m (pc + 1) ls (.int (S 32 j) :: rest))) : W p l e R s m args below meth c H locs cs sl Q (F0 m pc ls (.int i :: .ref (g 32) :: rest)) :=
  g_iald C X (q := 16) (k := 32) rfl (m_cA g cI cS sa S (k := 32) rfl) (t0 := 0) rfl hin hj hdg kk
theorem m_w32 (C : gC p s m args meth c cc nL RX12 ret D (mtys cI cS) mord g Am) (O : gO (mcell g cI cS sa) mord g) (X : gX D (mcell g cI cS sa) mord g S s H locs) {i x : Int32} {j : Nat} (hin : vp_in i 6) (hj : i.toNatClampNeg = j) (hS : S' = sU S 32 j x) (hdg : decode cc pc = .ok (.iastore, 1)) (kk : ∀ (H1 : Heap) (locs1 : List Loc), gX D (mcell g cI cS sa) mord g S' s H1 locs1 → W p l e R s m args below meth c H1 locs1 cs sl Q (F0 m (pc + 1) ls rest)) : W p l e R s m args below meth c H locs cs sl Q (F0 m pc ls (.int x :: .int i :: .ref (g 32) :: rest)) := by
  subst hS
  exact g_iast C O X (q := 16) (k := 32) rfl (m_cA g cI cS sa S (k := 32) rfl) (t0 := 0) rfl hin hj (fun i h => sU_ne h) (by rw [m_cA g cI cS sa _ (k := 32) rfl, sU_eq]) hdg kk
theorem m_r33 (C : gC p s m args meth c cc nL RX12 ret D (mtys cI cS) mord g Am) (X : gX D (mcell g cI cS sa) mord g S s H locs) {i : Int32} {j : Nat} (hin : vp_in i 6) (hj : i.toNatClampNeg = j) (hdg : decode cc pc = .ok (.iaload, 1)) (kk : W p l e R s m args below meth c H locs cs sl Q (F0 m (pc + 1) ls (.int (S 33 j) :: rest))) : W p l e R s m args below meth c H locs cs sl Q (F0 m pc ls (.int i :: .ref (g 33) :: rest)) :=
  g_iald C X (q := 17) (k := 33) rfl (m_cA g cI cS sa S (k := 33) rfl) (t0 := 0) rfl hin hj hdg kk
theorem m_w33 (C : gC p s m args meth c cc nL RX12 ret D (mtys cI cS) mord g Am) (O : gO (mcell g cI cS sa) mord g) (X : gX D (mcell g cI cS sa) mord g S s H locs) {i x : Int32} {j : Nat} (hin : vp_in i 6) (hj : i.toNatClampNeg = j) (hS : S' = sU S 33 j x) (hdg : decode cc pc = .ok (.iastore, 1)) (kk : ∀ (H1 : Heap) (locs1 : List Loc), gX D (mcell g cI cS sa) mord g S' s H1 locs1 → W p l e R s m args below meth c H1 locs1 cs sl Q (F0 m (pc + 1) ls rest)) : W p l e R s m args below meth c H locs cs sl Q (F0 m pc ls (.int x :: .int i :: .ref (g 33) :: rest)) := by
  subst hS
  exact g_iast C O X (q := 17) (k := 33) rfl (m_cA g cI cS sa S (k := 33) rfl) (t0 := 0) rfl hin hj (fun i h => sU_ne h) (by rw [m_cA g cI cS sa _ (k := 33) rfl, sU_eq]) hdg kk
theorem m_r34 (C : gC p s m args meth c cc nL RX12 ret D (mtys cI cS) mord g Am) (X : gX D (mcell g cI cS sa) mord g S s H locs) {i : Int32} {j : Nat} (hin : vp_in i 6) (hj : i.toNatClampNeg = j) (hdg : decode cc pc = .ok (.iaload, 1)) (kk : W p l e R s m args below meth c H locs cs sl Q (F0 m (pc + 1) ls (.int (S 34 j) :: rest))) : W p l e R s m args below meth c H locs cs sl Q (F0 m pc ls (.int i :: .ref (g 34) :: rest)) :=
  g_iald C X (q := 18) (k := 34) rfl (m_cA g cI cS sa S (k := 34) rfl) (t0 := 0) rfl hin hj hdg kk
theorem m_w34 (C : gC p s m args meth c cc nL RX12 ret D (mtys cI cS) mord g Am) (O : gO (mcell g cI cS sa) mord g) (X : gX D (mcell g cI cS sa) mord g S s H locs) {i x : Int32} {j : Nat} (hin : vp_in i 6) (hj : i.toNatClampNeg = j) (hS : S' = sU S 34 j x) (hdg : decode cc pc = .ok (.iastore, 1)) (kk : ∀ (H1 : Heap) (locs1 : List Loc), gX D (mcell g cI cS sa) mord g S' s H1 locs1 → W p l e R s m args below meth c H1 locs1 cs sl Q (F0 m (pc + 1) ls rest)) : W p l e R s m args below meth c H locs cs sl Q (F0 m pc ls (.int x :: .int i :: .ref (g 34) :: rest)) := by
  subst hS
  exact g_iast C O X (q := 18) (k := 34) rfl (m_cA g cI cS sa S (k := 34) rfl) (t0 := 0) rfl hin hj (fun i h => sU_ne h) (by rw [m_cA g cI cS sa _ (k := 34) rfl, sU_eq]) hdg kk
theorem m_r35 (C : gC p s m args meth c cc nL RX12 ret D (mtys cI cS) mord g Am) (X : gX D (mcell g cI cS sa) mord g S s H locs) {i : Int32} {j : Nat} (hin : vp_in i 6) (hj : i.toNatClampNeg = j) (hdg : decode cc pc = .ok (.iaload, 1)) (kk : W p l e R s m args below meth c H locs cs sl Q (F0 m (pc + 1) ls (.int (S 35 j) :: rest))) : W p l e R s m args below meth c H locs cs sl Q (F0 m pc ls (.int i :: .ref (g 35) :: rest)) :=
  g_iald C X (q := 19) (k := 35) rfl (m_cA g cI cS sa S (k := 35) rfl) (t0 := 0) rfl hin hj hdg kk
theorem m_w35 (C : gC p s m args meth c cc nL RX12 ret D (mtys cI cS) mord g Am) (O : gO (mcell g cI cS sa) mord g) (X : gX D (mcell g cI cS sa) mord g S s H locs) {i x : Int32} {j : Nat} (hin : vp_in i 6) (hj : i.toNatClampNeg = j) (hS : S' = sU S 35 j x) (hdg : decode cc pc = .ok (.iastore, 1)) (kk : ∀ (H1 : Heap) (locs1 : List Loc), gX D (mcell g cI cS sa) mord g S' s H1 locs1 → W p l e R s m args below meth c H1 locs1 cs sl Q (F0 m (pc + 1) ls rest)) : W p l e R s m args below meth c H locs cs sl Q (F0 m pc ls (.int x :: .int i :: .ref (g 35) :: rest)) := by
  subst hS
  exact g_iast C O X (q := 19) (k := 35) rfl (m_cA g cI cS sa S (k := 35) rfl) (t0 := 0) rfl hin hj (fun i h => sU_ne h) (by rw [m_cA g cI cS sa _ (k := 35) rfl, sU_eq]) hdg kk
theorem m_r36 (C : gC p s m args meth c cc nL RX12 ret D (mtys cI cS) mord g Am) (X : gX D (mcell g cI cS sa) mord g S s H locs) {i : Int32} {j : Nat} (hin : vp_in i 1040) (hj : i.toNatClampNeg = j) (hdg : decode cc pc = .ok (.iaload, 1)) (kk : W p l e R s m args below meth c H locs cs sl Q (F0 m (pc + 1) ls (.int (S 36 j) :: rest))) : W p l e R s m args below meth c H locs cs sl Q (F0 m pc ls (.int i :: .ref (g 36) :: rest)) :=
  g_iald C X (q := 20) (k := 36) rfl (m_cA g cI cS sa S (k := 36) rfl) (t0 := 0) rfl hin hj hdg kk
theorem m_w36 (C : gC p s m args meth c cc nL RX12 ret D (mtys cI cS) mord g Am) (O : gO (mcell g cI cS sa) mord g) (X : gX D (mcell g cI cS sa) mord g S s H locs) {i x : Int32} {j : Nat} (hin : vp_in i 1040) (hj : i.toNatClampNeg = j) (hS : S' = sU S 36 j x) (hdg : decode cc pc = .ok (.iastore, 1)) (kk : ∀ (H1 : Heap) (locs1 : List Loc), gX D (mcell g cI cS sa) mord g S' s H1 locs1 → W p l e R s m args below meth c H1 locs1 cs sl Q (F0 m (pc + 1) ls rest)) : W p l e R s m args below meth c H locs cs sl Q (F0 m pc ls (.int x :: .int i :: .ref (g 36) :: rest)) := by
  subst hS
  exact g_iast C O X (q := 20) (k := 36) rfl (m_cA g cI cS sa S (k := 36) rfl) (t0 := 0) rfl hin hj (fun i h => sU_ne h) (by rw [m_cA g cI cS sa _ (k := 36) rfl, sU_eq]) hdg kk
theorem m_r42 (C : gC p s m args meth c cc nL RX12 ret D (mtys cI cS) mord g Am) (X : gX D (mcell g cI cS sa) mord g S s H locs) {i : Int32} {j : Nat} (hin : vp_in i 7) (hj : i.toNatClampNeg = j) (hdg : decode cc pc = .ok (.iaload, 1)) (kk : W p l e R s m args below meth c H locs cs sl Q (F0 m (pc + 1) ls (.int (S 42 j) :: rest))) : W p l e R s m args below meth c H locs cs sl Q (F0 m pc ls (.int i :: .ref (g 42) :: rest)) :=
  g_iald C X (q := 21) (k := 42) rfl (m_cA g cI cS sa S (k := 42) rfl) (t0 := 0) rfl hin hj hdg kk
theorem m_w42 (C : gC p s m args meth c cc nL RX12 ret D (mtys cI cS) mord g Am) (O : gO (mcell g cI cS sa) mord g) (X : gX D (mcell g cI cS sa) mord g S s H locs) {i x : Int32} {j : Nat} (hin : vp_in i 7) (hj : i.toNatClampNeg = j) (hS : S' = sU S 42 j x) (hdg : decode cc pc = .ok (.iastore, 1)) (kk : ∀ (H1 : Heap) (locs1 : List Loc), gX D (mcell g cI cS sa) mord g S' s H1 locs1 → W p l e R s m args below meth c H1 locs1 cs sl Q (F0 m (pc + 1) ls rest)) : W p l e R s m args below meth c H locs cs sl Q (F0 m pc ls (.int x :: .int i :: .ref (g 42) :: rest)) := by
  subst hS
  exact g_iast C O X (q := 21) (k := 42) rfl (m_cA g cI cS sa S (k := 42) rfl) (t0 := 0) rfl hin hj (fun i h => sU_ne h) (by rw [m_cA g cI cS sa _ (k := 42) rfl, sU_eq]) hdg kk
theorem m_r43 (C : gC p s m args meth c cc nL RX12 ret D (mtys cI cS) mord g Am) (X : gX D (mcell g cI cS sa) mord g S s H locs) {i : Int32} {j : Nat} (hin : vp_in i 64) (hj : i.toNatClampNeg = j) (hdg : decode cc pc = .ok (.iaload, 1)) (kk : W p l e R s m args below meth c H locs cs sl Q (F0 m (pc + 1) ls (.int (S 43 j) :: rest))) : W p l e R s m args below meth c H locs cs sl Q (F0 m pc ls (.int i :: .ref (g 43) :: rest)) :=
  g_iald C X (q := 22) (k := 43) rfl (m_cA g cI cS sa S (k := 43) rfl) (t0 := 0) rfl hin hj hdg kk
theorem m_w43 (C : gC p s m args meth c cc nL RX12 ret D (mtys cI cS) mord g Am) (O : gO (mcell g cI cS sa) mord g) (X : gX D (mcell g cI cS sa) mord g S s H locs) {i x : Int32} {j : Nat} (hin : vp_in i 64) (hj : i.toNatClampNeg = j) (hS : S' = sU S 43 j x) (hdg : decode cc pc = .ok (.iastore, 1)) (kk : ∀ (H1 : Heap) (locs1 : List Loc), gX D (mcell g cI cS sa) mord g S' s H1 locs1 → W p l e R s m args below meth c H1 locs1 cs sl Q (F0 m (pc + 1) ls rest)) : W p l e R s m args below meth c H locs cs sl Q (F0 m pc ls (.int x :: .int i :: .ref (g 43) :: rest)) := by
  subst hS
  exact g_iast C O X (q := 22) (k := 43) rfl (m_cA g cI cS sa S (k := 43) rfl) (t0 := 0) rfl hin hj (fun i h => sU_ne h) (by rw [m_cA g cI cS sa _ (k := 43) rfl, sU_eq]) hdg kk
theorem m_r46 (C : gC p s m args meth c cc nL RX12 ret D (mtys cI cS) mord g Am) (X : gX D (mcell g cI cS sa) mord g S s H locs) {i : Int32} {j : Nat} (hin : vp_in i 26) (hj : i.toNatClampNeg = j) (hdg : decode cc pc = .ok (.iaload, 1)) (kk : W p l e R s m args below meth c H locs cs sl Q (F0 m (pc + 1) ls (.int (S 46 j) :: rest))) : W p l e R s m args below meth c H locs cs sl Q (F0 m pc ls (.int i :: .ref (g 46) :: rest)) :=
  g_iald C X (q := 23) (k := 46) rfl (m_cA g cI cS sa S (k := 46) rfl) (t0 := 0) rfl hin hj hdg kk
theorem m_w46 (C : gC p s m args meth c cc nL RX12 ret D (mtys cI cS) mord g Am) (O : gO (mcell g cI cS sa) mord g) (X : gX D (mcell g cI cS sa) mord g S s H locs) {i x : Int32} {j : Nat} (hin : vp_in i 26) (hj : i.toNatClampNeg = j) (hS : S' = sU S 46 j x) (hdg : decode cc pc = .ok (.iastore, 1)) (kk : ∀ (H1 : Heap) (locs1 : List Loc), gX D (mcell g cI cS sa) mord g S' s H1 locs1 → W p l e R s m args below meth c H1 locs1 cs sl Q (F0 m (pc + 1) ls rest)) : W p l e R s m args below meth c H locs cs sl Q (F0 m pc ls (.int x :: .int i :: .ref (g 46) :: rest)) := by
  subst hS
  exact g_iast C O X (q := 23) (k := 46) rfl (m_cA g cI cS sa S (k := 46) rfl) (t0 := 0) rfl hin hj (fun i h => sU_ne h) (by rw [m_cA g cI cS sa _ (k := 46) rfl, sU_eq]) hdg kk
theorem m_r47 (C : gC p s m args meth c cc nL RX12 ret D (mtys cI cS) mord g Am) (X : gX D (mcell g cI cS sa) mord g S s H locs) {i : Int32} {j : Nat} (hin : vp_in i 1792) (hj : i.toNatClampNeg = j) (hdg : decode cc pc = .ok (.iaload, 1)) (kk : W p l e R s m args below meth c H locs cs sl Q (F0 m (pc + 1) ls (.int (S 47 j) :: rest))) : W p l e R s m args below meth c H locs cs sl Q (F0 m pc ls (.int i :: .ref (g 47) :: rest)) :=
  g_iald C X (q := 24) (k := 47) rfl (m_cA g cI cS sa S (k := 47) rfl) (t0 := 0) rfl hin hj hdg kk
theorem m_w47 (C : gC p s m args meth c cc nL RX12 ret D (mtys cI cS) mord g Am) (O : gO (mcell g cI cS sa) mord g) (X : gX D (mcell g cI cS sa) mord g S s H locs) {i x : Int32} {j : Nat} (hin : vp_in i 1792) (hj : i.toNatClampNeg = j) (hS : S' = sU S 47 j x) (hdg : decode cc pc = .ok (.iastore, 1)) (kk : ∀ (H1 : Heap) (locs1 : List Loc), gX D (mcell g cI cS sa) mord g S' s H1 locs1 → W p l e R s m args below meth c H1 locs1 cs sl Q (F0 m (pc + 1) ls rest)) : W p l e R s m args below meth c H locs cs sl Q (F0 m pc ls (.int x :: .int i :: .ref (g 47) :: rest)) := by
  subst hS
  exact g_iast C O X (q := 24) (k := 47) rfl (m_cA g cI cS sa S (k := 47) rfl) (t0 := 0) rfl hin hj (fun i h => sU_ne h) (by rw [m_cA g cI cS sa _ (k := 47) rfl, sU_eq]) hdg kk
theorem m_r48 (C : gC p s m args meth c cc nL RX12 ret D (mtys cI cS) mord g Am) (X : gX D (mcell g cI cS sa) mord g S s H locs) {i : Int32} {j : Nat} (hin : vp_in i 8) (hj : i.toNatClampNeg = j) (hdg : decode cc pc = .ok (.iaload, 1)) (kk : W p l e R s m args below meth c H locs cs sl Q (F0 m (pc + 1) ls (.int (S 48 j) :: rest))) : W p l e R s m args below meth c H locs cs sl Q (F0 m pc ls (.int i :: .ref (g 48) :: rest)) :=
  g_iald C X (q := 25) (k := 48) rfl (m_cA g cI cS sa S (k := 48) rfl) (t0 := 0) rfl hin hj hdg kk
theorem m_w48 (C : gC p s m args meth c cc nL RX12 ret D (mtys cI cS) mord g Am) (O : gO (mcell g cI cS sa) mord g) (X : gX D (mcell g cI cS sa) mord g S s H locs) {i x : Int32} {j : Nat} (hin : vp_in i 8) (hj : i.toNatClampNeg = j) (hS : S' = sU S 48 j x) (hdg : decode cc pc = .ok (.iastore, 1)) (kk : ∀ (H1 : Heap) (locs1 : List Loc), gX D (mcell g cI cS sa) mord g S' s H1 locs1 → W p l e R s m args below meth c H1 locs1 cs sl Q (F0 m (pc + 1) ls rest)) : W p l e R s m args below meth c H locs cs sl Q (F0 m pc ls (.int x :: .int i :: .ref (g 48) :: rest)) := by
  subst hS
  exact g_iast C O X (q := 25) (k := 48) rfl (m_cA g cI cS sa S (k := 48) rfl) (t0 := 0) rfl hin hj (fun i h => sU_ne h) (by rw [m_cA g cI cS sa _ (k := 48) rfl, sU_eq]) hdg kk
theorem m_r49 (C : gC p s m args meth c cc nL RX12 ret D (mtys cI cS) mord g Am) (X : gX D (mcell g cI cS sa) mord g S s H locs) {i : Int32} {j : Nat} (hin : vp_in i 8) (hj : i.toNatClampNeg = j) (hdg : decode cc pc = .ok (.iaload, 1)) (kk : W p l e R s m args below meth c H locs cs sl Q (F0 m (pc + 1) ls (.int (S 49 j) :: rest))) : W p l e R s m args below meth c H locs cs sl Q (F0 m pc ls (.int i :: .ref (g 49) :: rest)) :=
  g_iald C X (q := 26) (k := 49) rfl (m_cA g cI cS sa S (k := 49) rfl) (t0 := 0) rfl hin hj hdg kk
theorem m_w49 (C : gC p s m args meth c cc nL RX12 ret D (mtys cI cS) mord g Am) (O : gO (mcell g cI cS sa) mord g) (X : gX D (mcell g cI cS sa) mord g S s H locs) {i x : Int32} {j : Nat} (hin : vp_in i 8) (hj : i.toNatClampNeg = j) (hS : S' = sU S 49 j x) (hdg : decode cc pc = .ok (.iastore, 1)) (kk : ∀ (H1 : Heap) (locs1 : List Loc), gX D (mcell g cI cS sa) mord g S' s H1 locs1 → W p l e R s m args below meth c H1 locs1 cs sl Q (F0 m (pc + 1) ls rest)) : W p l e R s m args below meth c H locs cs sl Q (F0 m pc ls (.int x :: .int i :: .ref (g 49) :: rest)) := by
  subst hS
  exact g_iast C O X (q := 26) (k := 49) rfl (m_cA g cI cS sa S (k := 49) rfl) (t0 := 0) rfl hin hj (fun i h => sU_ne h) (by rw [m_cA g cI cS sa _ (k := 49) rfl, sU_eq]) hdg kk
theorem m_r50 (C : gC p s m args meth c cc nL RX12 ret D (mtys cI cS) mord g Am) (X : gX D (mcell g cI cS sa) mord g S s H locs) {i : Int32} {j : Nat} (hin : vp_in i 8) (hj : i.toNatClampNeg = j) (hdg : decode cc pc = .ok (.iaload, 1)) (kk : W p l e R s m args below meth c H locs cs sl Q (F0 m (pc + 1) ls (.int (S 50 j) :: rest))) : W p l e R s m args below meth c H locs cs sl Q (F0 m pc ls (.int i :: .ref (g 50) :: rest)) :=
  g_iald C X (q := 27) (k := 50) rfl (m_cA g cI cS sa S (k := 50) rfl) (t0 := 0) rfl hin hj hdg kk
theorem m_w50 (C : gC p s m args meth c cc nL RX12 ret D (mtys cI cS) mord g Am) (O : gO (mcell g cI cS sa) mord g) (X : gX D (mcell g cI cS sa) mord g S s H locs) {i x : Int32} {j : Nat} (hin : vp_in i 8) (hj : i.toNatClampNeg = j) (hS : S' = sU S 50 j x) (hdg : decode cc pc = .ok (.iastore, 1)) (kk : ∀ (H1 : Heap) (locs1 : List Loc), gX D (mcell g cI cS sa) mord g S' s H1 locs1 → W p l e R s m args below meth c H1 locs1 cs sl Q (F0 m (pc + 1) ls rest)) : W p l e R s m args below meth c H locs cs sl Q (F0 m pc ls (.int x :: .int i :: .ref (g 50) :: rest)) := by
  subst hS
  exact g_iast C O X (q := 27) (k := 50) rfl (m_cA g cI cS sa S (k := 50) rfl) (t0 := 0) rfl hin hj (fun i h => sU_ne h) (by rw [m_cA g cI cS sa _ (k := 50) rfl, sU_eq]) hdg kk
theorem m_r51 (C : gC p s m args meth c cc nL RX12 ret D (mtys cI cS) mord g Am) (X : gX D (mcell g cI cS sa) mord g S s H locs) {i : Int32} {j : Nat} (hin : vp_in i 26) (hj : i.toNatClampNeg = j) (hdg : decode cc pc = .ok (.iaload, 1)) (kk : W p l e R s m args below meth c H locs cs sl Q (F0 m (pc + 1) ls (.int (S 51 j) :: rest))) : W p l e R s m args below meth c H locs cs sl Q (F0 m pc ls (.int i :: .ref (g 51) :: rest)) :=
  g_iald C X (q := 28) (k := 51) rfl (m_cA g cI cS sa S (k := 51) rfl) (t0 := 0) rfl hin hj hdg kk
theorem m_w51 (C : gC p s m args meth c cc nL RX12 ret D (mtys cI cS) mord g Am) (O : gO (mcell g cI cS sa) mord g) (X : gX D (mcell g cI cS sa) mord g S s H locs) {i x : Int32} {j : Nat} (hin : vp_in i 26) (hj : i.toNatClampNeg = j) (hS : S' = sU S 51 j x) (hdg : decode cc pc = .ok (.iastore, 1)) (kk : ∀ (H1 : Heap) (locs1 : List Loc), gX D (mcell g cI cS sa) mord g S' s H1 locs1 → W p l e R s m args below meth c H1 locs1 cs sl Q (F0 m (pc + 1) ls rest)) : W p l e R s m args below meth c H locs cs sl Q (F0 m pc ls (.int x :: .int i :: .ref (g 51) :: rest)) := by
  subst hS
  exact g_iast C O X (q := 28) (k := 51) rfl (m_cA g cI cS sa S (k := 51) rfl) (t0 := 0) rfl hin hj (fun i h => sU_ne h) (by rw [m_cA g cI cS sa _ (k := 51) rfl, sU_eq]) hdg kk
theorem m_r52 (C : gC p s m args meth c cc nL RX12 ret D (mtys cI cS) mord g Am) (X : gX D (mcell g cI cS sa) mord g S s H locs) {i : Int32} {j : Nat} (hin : vp_in i 60) (hj : i.toNatClampNeg = j) (hdg : decode cc pc = .ok (.iaload, 1)) (kk : W p l e R s m args below meth c H locs cs sl Q (F0 m (pc + 1) ls (.int (S 52 j) :: rest))) : W p l e R s m args below meth c H locs cs sl Q (F0 m pc ls (.int i :: .ref (g 52) :: rest)) :=
  g_iald C X (q := 29) (k := 52) rfl (m_cA g cI cS sa S (k := 52) rfl) (t0 := 0) rfl hin hj hdg kk
theorem m_w52 (C : gC p s m args meth c cc nL RX12 ret D (mtys cI cS) mord g Am) (O : gO (mcell g cI cS sa) mord g) (X : gX D (mcell g cI cS sa) mord g S s H locs) {i x : Int32} {j : Nat} (hin : vp_in i 60) (hj : i.toNatClampNeg = j) (hS : S' = sU S 52 j x) (hdg : decode cc pc = .ok (.iastore, 1)) (kk : ∀ (H1 : Heap) (locs1 : List Loc), gX D (mcell g cI cS sa) mord g S' s H1 locs1 → W p l e R s m args below meth c H1 locs1 cs sl Q (F0 m (pc + 1) ls rest)) : W p l e R s m args below meth c H locs cs sl Q (F0 m pc ls (.int x :: .int i :: .ref (g 52) :: rest)) := by
  subst hS
  exact g_iast C O X (q := 29) (k := 52) rfl (m_cA g cI cS sa S (k := 52) rfl) (t0 := 0) rfl hin hj (fun i h => sU_ne h) (by rw [m_cA g cI cS sa _ (k := 52) rfl, sU_eq]) hdg kk
theorem m_r53 (C : gC p s m args meth c cc nL RX12 ret D (mtys cI cS) mord g Am) (X : gX D (mcell g cI cS sa) mord g S s H locs) {i : Int32} {j : Nat} (hin : vp_in i 1200) (hj : i.toNatClampNeg = j) (hdg : decode cc pc = .ok (.iaload, 1)) (kk : W p l e R s m args below meth c H locs cs sl Q (F0 m (pc + 1) ls (.int (S 53 j) :: rest))) : W p l e R s m args below meth c H locs cs sl Q (F0 m pc ls (.int i :: .ref (g 53) :: rest)) :=
  g_iald C X (q := 30) (k := 53) rfl (m_cA g cI cS sa S (k := 53) rfl) (t0 := 0) rfl hin hj hdg kk
theorem m_w53 (C : gC p s m args meth c cc nL RX12 ret D (mtys cI cS) mord g Am) (O : gO (mcell g cI cS sa) mord g) (X : gX D (mcell g cI cS sa) mord g S s H locs) {i x : Int32} {j : Nat} (hin : vp_in i 1200) (hj : i.toNatClampNeg = j) (hS : S' = sU S 53 j x) (hdg : decode cc pc = .ok (.iastore, 1)) (kk : ∀ (H1 : Heap) (locs1 : List Loc), gX D (mcell g cI cS sa) mord g S' s H1 locs1 → W p l e R s m args below meth c H1 locs1 cs sl Q (F0 m (pc + 1) ls rest)) : W p l e R s m args below meth c H locs cs sl Q (F0 m pc ls (.int x :: .int i :: .ref (g 53) :: rest)) := by
  subst hS
  exact g_iast C O X (q := 30) (k := 53) rfl (m_cA g cI cS sa S (k := 53) rfl) (t0 := 0) rfl hin hj (fun i h => sU_ne h) (by rw [m_cA g cI cS sa _ (k := 53) rfl, sU_eq]) hdg kk
theorem m_r55 (C : gC p s m args meth c cc nL RX12 ret D (mtys cI cS) mord g Am) (X : gX D (mcell g cI cS sa) mord g S s H locs) {i : Int32} {j : Nat} (hin : vp_in i 8) (hj : i.toNatClampNeg = j) (hdg : decode cc pc = .ok (.iaload, 1)) (kk : W p l e R s m args below meth c H locs cs sl Q (F0 m (pc + 1) ls (.int (S 55 j) :: rest))) : W p l e R s m args below meth c H locs cs sl Q (F0 m pc ls (.int i :: .ref (g 55) :: rest)) :=
  g_iald C X (q := 31) (k := 55) rfl (m_cA g cI cS sa S (k := 55) rfl) (t0 := 0) rfl hin hj hdg kk
theorem m_w55 (C : gC p s m args meth c cc nL RX12 ret D (mtys cI cS) mord g Am) (O : gO (mcell g cI cS sa) mord g) (X : gX D (mcell g cI cS sa) mord g S s H locs) {i x : Int32} {j : Nat} (hin : vp_in i 8) (hj : i.toNatClampNeg = j) (hS : S' = sU S 55 j x) (hdg : decode cc pc = .ok (.iastore, 1)) (kk : ∀ (H1 : Heap) (locs1 : List Loc), gX D (mcell g cI cS sa) mord g S' s H1 locs1 → W p l e R s m args below meth c H1 locs1 cs sl Q (F0 m (pc + 1) ls rest)) : W p l e R s m args below meth c H locs cs sl Q (F0 m pc ls (.int x :: .int i :: .ref (g 55) :: rest)) := by
  subst hS
  exact g_iast C O X (q := 31) (k := 55) rfl (m_cA g cI cS sa S (k := 55) rfl) (t0 := 0) rfl hin hj (fun i h => sU_ne h) (by rw [m_cA g cI cS sa _ (k := 55) rfl, sU_eq]) hdg kk
theorem m_r60 (C : gC p s m args meth c cc nL RX12 ret D (mtys cI cS) mord g Am) (X : gX D (mcell g cI cS sa) mord g S s H locs) {i : Int32} {j : Nat} (hin : vp_in i 26) (hj : i.toNatClampNeg = j) (hdg : decode cc pc = .ok (.iaload, 1)) (kk : W p l e R s m args below meth c H locs cs sl Q (F0 m (pc + 1) ls (.int (S 60 j) :: rest))) : W p l e R s m args below meth c H locs cs sl Q (F0 m pc ls (.int i :: .ref (g 60) :: rest)) :=
  g_iald C X (q := 32) (k := 60) rfl (m_cA g cI cS sa S (k := 60) rfl) (t0 := 0) rfl hin hj hdg kk
theorem m_w60 (C : gC p s m args meth c cc nL RX12 ret D (mtys cI cS) mord g Am) (O : gO (mcell g cI cS sa) mord g) (X : gX D (mcell g cI cS sa) mord g S s H locs) {i x : Int32} {j : Nat} (hin : vp_in i 26) (hj : i.toNatClampNeg = j) (hS : S' = sU S 60 j x) (hdg : decode cc pc = .ok (.iastore, 1)) (kk : ∀ (H1 : Heap) (locs1 : List Loc), gX D (mcell g cI cS sa) mord g S' s H1 locs1 → W p l e R s m args below meth c H1 locs1 cs sl Q (F0 m (pc + 1) ls rest)) : W p l e R s m args below meth c H locs cs sl Q (F0 m pc ls (.int x :: .int i :: .ref (g 60) :: rest)) := by
  subst hS
  exact g_iast C O X (q := 32) (k := 60) rfl (m_cA g cI cS sa S (k := 60) rfl) (t0 := 0) rfl hin hj (fun i h => sU_ne h) (by rw [m_cA g cI cS sa _ (k := 60) rfl, sU_eq]) hdg kk
theorem m_r61 (C : gC p s m args meth c cc nL RX12 ret D (mtys cI cS) mord g Am) (X : gX D (mcell g cI cS sa) mord g S s H locs) {i : Int32} {j : Nat} (hin : vp_in i 1040) (hj : i.toNatClampNeg = j) (hdg : decode cc pc = .ok (.iaload, 1)) (kk : W p l e R s m args below meth c H locs cs sl Q (F0 m (pc + 1) ls (.int (S 61 j) :: rest))) : W p l e R s m args below meth c H locs cs sl Q (F0 m pc ls (.int i :: .ref (g 61) :: rest)) :=
  g_iald C X (q := 33) (k := 61) rfl (m_cA g cI cS sa S (k := 61) rfl) (t0 := 0) rfl hin hj hdg kk
theorem m_w61 (C : gC p s m args meth c cc nL RX12 ret D (mtys cI cS) mord g Am) (O : gO (mcell g cI cS sa) mord g) (X : gX D (mcell g cI cS sa) mord g S s H locs) {i x : Int32} {j : Nat} (hin : vp_in i 1040) (hj : i.toNatClampNeg = j) (hS : S' = sU S 61 j x) (hdg : decode cc pc = .ok (.iastore, 1)) (kk : ∀ (H1 : Heap) (locs1 : List Loc), gX D (mcell g cI cS sa) mord g S' s H1 locs1 → W p l e R s m args below meth c H1 locs1 cs sl Q (F0 m (pc + 1) ls rest)) : W p l e R s m args below meth c H locs cs sl Q (F0 m pc ls (.int x :: .int i :: .ref (g 61) :: rest)) := by
  subst hS
  exact g_iast C O X (q := 33) (k := 61) rfl (m_cA g cI cS sa S (k := 61) rfl) (t0 := 0) rfl hin hj (fun i h => sU_ne h) (by rw [m_cA g cI cS sa _ (k := 61) rfl, sU_eq]) hdg kk
theorem m_r62 (C : gC p s m args meth c cc nL RX12 ret D (mtys cI cS) mord g Am) (X : gX D (mcell g cI cS sa) mord g S s H locs) {i : Int32} {j : Nat} (hin : vp_in i 8) (hj : i.toNatClampNeg = j) (hdg : decode cc pc = .ok (.iaload, 1)) (kk : W p l e R s m args below meth c H locs cs sl Q (F0 m (pc + 1) ls (.int (S 62 j) :: rest))) : W p l e R s m args below meth c H locs cs sl Q (F0 m pc ls (.int i :: .ref (g 62) :: rest)) :=
  g_iald C X (q := 34) (k := 62) rfl (m_cA g cI cS sa S (k := 62) rfl) (t0 := 0) rfl hin hj hdg kk
theorem m_w62 (C : gC p s m args meth c cc nL RX12 ret D (mtys cI cS) mord g Am) (O : gO (mcell g cI cS sa) mord g) (X : gX D (mcell g cI cS sa) mord g S s H locs) {i x : Int32} {j : Nat} (hin : vp_in i 8) (hj : i.toNatClampNeg = j) (hS : S' = sU S 62 j x) (hdg : decode cc pc = .ok (.iastore, 1)) (kk : ∀ (H1 : Heap) (locs1 : List Loc), gX D (mcell g cI cS sa) mord g S' s H1 locs1 → W p l e R s m args below meth c H1 locs1 cs sl Q (F0 m (pc + 1) ls rest)) : W p l e R s m args below meth c H locs cs sl Q (F0 m pc ls (.int x :: .int i :: .ref (g 62) :: rest)) := by
  subst hS
  exact g_iast C O X (q := 34) (k := 62) rfl (m_cA g cI cS sa S (k := 62) rfl) (t0 := 0) rfl hin hj (fun i h => sU_ne h) (by rw [m_cA g cI cS sa _ (k := 62) rfl, sU_eq]) hdg kk
theorem m_r63 (C : gC p s m args meth c cc nL RX12 ret D (mtys cI cS) mord g Am) (X : gX D (mcell g cI cS sa) mord g S s H locs) {i : Int32} {j : Nat} (hin : vp_in i 8) (hj : i.toNatClampNeg = j) (hdg : decode cc pc = .ok (.iaload, 1)) (kk : W p l e R s m args below meth c H locs cs sl Q (F0 m (pc + 1) ls (.int (S 63 j) :: rest))) : W p l e R s m args below meth c H locs cs sl Q (F0 m pc ls (.int i :: .ref (g 63) :: rest)) :=
  g_iald C X (q := 35) (k := 63) rfl (m_cA g cI cS sa S (k := 63) rfl) (t0 := 0) rfl hin hj hdg kk
theorem m_w63 (C : gC p s m args meth c cc nL RX12 ret D (mtys cI cS) mord g Am) (O : gO (mcell g cI cS sa) mord g) (X : gX D (mcell g cI cS sa) mord g S s H locs) {i x : Int32} {j : Nat} (hin : vp_in i 8) (hj : i.toNatClampNeg = j) (hS : S' = sU S 63 j x) (hdg : decode cc pc = .ok (.iastore, 1)) (kk : ∀ (H1 : Heap) (locs1 : List Loc), gX D (mcell g cI cS sa) mord g S' s H1 locs1 → W p l e R s m args below meth c H1 locs1 cs sl Q (F0 m (pc + 1) ls rest)) : W p l e R s m args below meth c H locs cs sl Q (F0 m pc ls (.int x :: .int i :: .ref (g 63) :: rest)) := by
  subst hS
  exact g_iast C O X (q := 35) (k := 63) rfl (m_cA g cI cS sa S (k := 63) rfl) (t0 := 0) rfl hin hj (fun i h => sU_ne h) (by rw [m_cA g cI cS sa _ (k := 63) rfl, sU_eq]) hdg kk
theorem m_r64 (C : gC p s m args meth c cc nL RX12 ret D (mtys cI cS) mord g Am) (X : gX D (mcell g cI cS sa) mord g S s H locs) {i : Int32} {j : Nat} (hin : vp_in i 8) (hj : i.toNatClampNeg = j) (hdg : decode cc pc = .ok (.iaload, 1)) (kk : W p l e R s m args below meth c H locs cs sl Q (F0 m (pc + 1) ls (.int (S 64 j) :: rest))) : W p l e R s m args below meth c H locs cs sl Q (F0 m pc ls (.int i :: .ref (g 64) :: rest)) :=
  g_iald C X (q := 36) (k := 64) rfl (m_cA g cI cS sa S (k := 64) rfl) (t0 := 0) rfl hin hj hdg kk
theorem m_w64 (C : gC p s m args meth c cc nL RX12 ret D (mtys cI cS) mord g Am) (O : gO (mcell g cI cS sa) mord g) (X : gX D (mcell g cI cS sa) mord g S s H locs) {i x : Int32} {j : Nat} (hin : vp_in i 8) (hj : i.toNatClampNeg = j) (hS : S' = sU S 64 j x) (hdg : decode cc pc = .ok (.iastore, 1)) (kk : ∀ (H1 : Heap) (locs1 : List Loc), gX D (mcell g cI cS sa) mord g S' s H1 locs1 → W p l e R s m args below meth c H1 locs1 cs sl Q (F0 m (pc + 1) ls rest)) : W p l e R s m args below meth c H locs cs sl Q (F0 m pc ls (.int x :: .int i :: .ref (g 64) :: rest)) := by
  subst hS
  exact g_iast C O X (q := 36) (k := 64) rfl (m_cA g cI cS sa S (k := 64) rfl) (t0 := 0) rfl hin hj (fun i h => sU_ne h) (by rw [m_cA g cI cS sa _ (k := 64) rfl, sU_eq]) hdg kk
theorem m_r65 (C : gC p s m args meth c cc nL RX12 ret D (mtys cI cS) mord g Am) (X : gX D (mcell g cI cS sa) mord g S s H locs) {i : Int32} {j : Nat} (hin : vp_in i 3) (hj : i.toNatClampNeg = j) (hdg : decode cc pc = .ok (.iaload, 1)) (kk : W p l e R s m args below meth c H locs cs sl Q (F0 m (pc + 1) ls (.int (S 65 j) :: rest))) : W p l e R s m args below meth c H locs cs sl Q (F0 m pc ls (.int i :: .ref (g 65) :: rest)) :=
  g_iald C X (q := 37) (k := 65) rfl (m_cA g cI cS sa S (k := 65) rfl) (t0 := 0) rfl hin hj hdg kk
theorem m_w65 (C : gC p s m args meth c cc nL RX12 ret D (mtys cI cS) mord g Am) (O : gO (mcell g cI cS sa) mord g) (X : gX D (mcell g cI cS sa) mord g S s H locs) {i x : Int32} {j : Nat} (hin : vp_in i 3) (hj : i.toNatClampNeg = j) (hS : S' = sU S 65 j x) (hdg : decode cc pc = .ok (.iastore, 1)) (kk : ∀ (H1 : Heap) (locs1 : List Loc), gX D (mcell g cI cS sa) mord g S' s H1 locs1 → W p l e R s m args below meth c H1 locs1 cs sl Q (F0 m (pc + 1) ls rest)) : W p l e R s m args below meth c H locs cs sl Q (F0 m pc ls (.int x :: .int i :: .ref (g 65) :: rest)) := by
  subst hS
  exact g_iast C O X (q := 37) (k := 65) rfl (m_cA g cI cS sa S (k := 65) rfl) (t0 := 0) rfl hin hj (fun i h => sU_ne h) (by rw [m_cA g cI cS sa _ (k := 65) rfl, sU_eq]) hdg kk
theorem m_rv (C : gC p s m args meth c cc nL RX12 ret D (mtys cI cS) mord g Am) (X : gX D (mcell g cI cS sa) mord g S s H locs) {k : Nat} (hk : mI k = true) {i : Int32} {j : Nat} (hin : vp_in i (mN k)) (hj : i.toNatClampNeg = j) (hdg : decode cc pc = .ok (.iaload, 1)) (kk : W p l e R s m args below meth c H locs cs sl Q (F0 m (pc + 1) ls (.int (S k j) :: rest))) : W p l e R s m args below meth c H locs cs sl Q (F0 m pc ls (.int i :: .ref (g k) :: rest)) := by
  obtain ⟨q, hq⟩ := m_pos hk
  exact g_iald C X hq (m_cA g cI cS sa S hk) (t0 := 0) rfl hin hj hdg kk
theorem m_wv (C : gC p s m args meth c cc nL RX12 ret D (mtys cI cS) mord g Am) (O : gO (mcell g cI cS sa) mord g) (X : gX D (mcell g cI cS sa) mord g S s H locs) {k : Nat} (hk : mI k = true) {i x : Int32} {j : Nat} (hin : vp_in i (mN k)) (hj : i.toNatClampNeg = j) (hS : S' = sU S k j x) (hdg : decode cc pc = .ok (.iastore, 1)) (kk : ∀ (H1 : Heap) (locs1 : List Loc), gX D (mcell g cI cS sa) mord g S' s H1 locs1 → W p l e R s m args below meth c H1 locs1 cs sl Q (F0 m (pc + 1) ls rest)) : W p l e R s m args below meth c H locs cs sl Q (F0 m pc ls (.int x :: .int i :: .ref (g k) :: rest)) := by
  subst hS
  obtain ⟨q, hq⟩ := m_pos hk
  exact g_iast C O X hq (m_cA g cI cS sa S hk) (t0 := 0) rfl hin hj (fun i h => sU_ne h) (by rw [m_cA g cI cS sa _ hk, sU_eq]) hdg kk
theorem m_lv (C : gC p s m args meth c cc nL RX12 ret D (mtys cI cS) mord g Am) (X : gX D (mcell g cI cS sa) mord g S s H locs) {k : Nat} (hk : mI k = true) {x : Int32} (hx : Int32.ofNat (mN k) = x) (hdg : decode cc pc = .ok (.arraylength, 1)) (kk : W p l e R s m args below meth c H locs cs sl Q (F0 m (pc + 1) ls (.int x :: rest))) : W p l e R s m args below meth c H locs cs sl Q (F0 m pc ls (.ref (g k) :: rest)) := by
  obtain ⟨q, hq⟩ := m_pos hk
  exact g_alen C X hq (m_cA g cI cS sa S hk) (t0 := 0) rfl hx hdg kk
theorem m_callV (C : gC p s m args meth c cc nL RX12 ret D (mtys cI cS) mord g Am) (X : gX D (mcell g cI cS sa) mord g S s H locs) {y : MethodName} {cy : ByteArray} {mL n index d : Nat} {rt : Option FieldType} {As : List Value} (w : gWV RX12 index y cy mL rt n) (hy : RX12 = y.cls) (hM : gM l y cy mL rt d D (mtys cI cS) (mcell g cI cS sa) mord g Am (.ref (g 99) :: As) S none S') (hR : d + 1 ≤ R.frames) (hR2 : 8 + (mL + 11) + (40 * d + 13) ≤ R.locals) (hcs : cs ≤ R.cells) (hsl : sl ≤ R.slots) (hn : As.length = n) (hls : ls.size = nL) {st : List Value} (hst : st = As.reverse ++ .ref (g 99) :: rest) (hrest : (rest.map fun v => v.category).sum ≤ 8) (hdg : decode cc pc = .ok (.invokevirtual index, 3))
    (kk : ∀ (H1 : Heap) (locs1 : List Loc), gX D (mcell g cI cS sa) mord g S' s H1 locs1 → W p l e R s m args below meth c H1 locs1 cs sl Q (F0 m (pc + 3) ls rest)) : W p l e R s m args below meth c H locs cs sl Q (F0 m pc ls st) :=
  g_callV C X w (ci := 12) rfl hy (gw_get (q := 0) (k := 99) rfl (m_c99 g cI cS sa S)) hM hR hR2 hcs hsl hn hls hst hrest hdg kk
theorem m_callVi (C : gC p s m args meth c cc nL RX12 ret D (mtys cI cS) mord g Am) (X : gX D (mcell g cI cS sa) mord g S s H locs) {y : MethodName} {cy : ByteArray} {mL n index d : Nat} {rt : Option FieldType} {As : List Value} {x : Int32} (w : gWV RX12 index y cy mL rt n) (hy : RX12 = y.cls) (hM : gM l y cy mL rt d D (mtys cI cS) (mcell g cI cS sa) mord g Am (.ref (g 99) :: As) S (some (.int x)) S') (hR : d + 1 ≤ R.frames) (hR2 : 8 + (mL + 11) + (40 * d + 13) ≤ R.locals) (hcs : cs ≤ R.cells) (hsl : sl ≤ R.slots) (hn : As.length = n) (hls : ls.size = nL) {st : List Value} (hst : st = As.reverse ++ .ref (g 99) :: rest) (hrest : (rest.map fun v => v.category).sum ≤ 8) (hdg : decode cc pc = .ok (.invokevirtual index, 3))
    (kk : ∀ (H1 : Heap) (locs1 : List Loc), gX D (mcell g cI cS sa) mord g S' s H1 locs1 → W p l e R s m args below meth c H1 locs1 cs sl Q (F0 m (pc + 3) ls (.int x :: rest))) : W p l e R s m args below meth c H locs cs sl Q (F0 m pc ls st) :=
  g_callV C X w (ci := 12) rfl hy (gw_get (q := 0) (k := 99) rfl (m_c99 g cI cS sa S)) hM hR hR2 hcs hsl hn hls hst hrest hdg kk
end MROWS
end

/-! part 07.mwords -/
section
/-! words of the reference's calls and constants (printed by wip/whole/mkwords.py) -/
theorem vmi : Cond.initialized RX12 ∈ gT := gT_c1 13 rfl rfl
theorem vX12_isIn : gWS RX12 158 yX12_isIn cX12_isIn 6 ((some .boolean)) 3 := ⟨gT_c8 43 rfl rfl, gT_c8 44 rfl rfl, vmi, gT_c8 45 rfl rfl, rfl, by decide +kernel, by decide +kernel, by decide +kernel⟩
theorem vX12_byteAt : gWV RX12 171 yX12_byteAt cX12_byteAt 2 ((some .int)) 1 := ⟨gT_c7 140 rfl rfl, gT_c7 142 rfl rfl, gT_of 49 (by decide +kernel) rfl, vmi, gT_c7 143 rfl rfl, by decide +kernel, by decide +kernel, by decide +kernel⟩
theorem vX12_isLetter : gWS RX12 181 yX12_isLetter cX12_isLetter 1 ((some .boolean)) 1 := ⟨gT_c7 144 rfl rfl, gT_c7 145 rfl rfl, vmi, gT_c7 146 rfl rfl, rfl, by decide +kernel, by decide +kernel, by decide +kernel⟩
theorem vX12_isDigit : gWS RX12 185 yX12_isDigit cX12_isDigit 1 ((some .boolean)) 1 := ⟨gT_c7 147 rfl rfl, gT_c7 148 rfl rfl, vmi, gT_c7 149 rfl rfl, rfl, by decide +kernel, by decide +kernel, by decide +kernel⟩
theorem mMmin192 : Cond.methodLink RX12 192 Lib.Math.min.name ∈ gT ∧ Cond.static Lib.Math.min.name ∈ gT ∧ Cond.initialized "java/lang/Math" ∈ gT ∧ Cond.code Lib.Math.min.name Lib.Math.min.code 2 (some .int) ∈ gT := ⟨gT_c7 151 rfl rfl, gT_c3 44 rfl rfl, gT_c1 18 rfl rfl, gT_c3 45 rfl rfl⟩
theorem vX12_isMark : gWS RX12 198 yX12_isMark cX12_isMark 1 ((some .boolean)) 1 := ⟨gT_c7 152 rfl rfl, gT_c7 153 rfl rfl, vmi, gT_c7 154 rfl rfl, rfl, by decide +kernel, by decide +kernel, by decide +kernel⟩
theorem vX12_is : gWV RX12 218 yX12_is cX12_is 4 ((some .boolean)) 1 := ⟨gT_c7 163 rfl rfl, gT_c7 165 rfl rfl, gT_of 52 (by decide +kernel) rfl, vmi, gT_c7 166 rfl rfl, by decide +kernel, by decide +kernel, by decide +kernel⟩
theorem vX12_isMarked : gWV RX12 222 yX12_isMarked cX12_isMarked 2 ((some .boolean)) 1 := ⟨gT_c7 196 rfl rfl, gT_c7 198 rfl rfl, gT_of 59 (by decide +kernel) rfl, vmi, gT_c7 199 rfl rfl, by decide +kernel, by decide +kernel, by decide +kernel⟩
theorem vX12_wrong : gWV RX12 225 yX12_wrong cX12_wrong 2 none 1 := ⟨gT_c7 172 rfl rfl, gT_c7 174 rfl rfl, gT_of 53 (by decide +kernel) rfl, vmi, gT_c7 175 rfl rfl, by decide +kernel, by decide +kernel, by decide +kernel⟩
theorem vX12_stepOn : gWV RX12 229 yX12_stepOn cX12_stepOn 2 none 0 := ⟨gT_c7 136 rfl rfl, gT_c7 138 rfl rfl, gT_of 48 (by decide +kernel) rfl, vmi, gT_c7 139 rfl rfl, by decide +kernel, by decide +kernel, by decide +kernel⟩
theorem vX12_numberNow : gWV RX12 232 yX12_numberNow cX12_numberNow 3 ((some .int)) 2 := ⟨gT_c7 188 rfl rfl, gT_c7 190 rfl rfl, gT_of 57 (by decide +kernel) rfl, vmi, gT_c7 191 rfl rfl, by decide +kernel, by decide +kernel, by decide +kernel⟩
theorem vX12_readNumber : gWV RX12 239 yX12_readNumber cX12_readNumber 4 ((some .int)) 2 := ⟨gT_c7 184 rfl rfl, gT_c7 186 rfl rfl, gT_of 56 (by decide +kernel) rfl, vmi, gT_c7 187 rfl rfl, by decide +kernel, by decide +kernel, by decide +kernel⟩
theorem vX12_lay : gWV RX12 242 yX12_lay cX12_lay 4 none 1 := ⟨gT_c7 221 rfl rfl, gT_c7 223 rfl rfl, gT_of 65 (by decide +kernel) rfl, vmi, gT_c7 224 rfl rfl, by decide +kernel, by decide +kernel, by decide +kernel⟩
theorem vX12_which : gWV RX12 245 yX12_which cX12_which 3 ((some .int)) 1 := ⟨gT_c7 159 rfl rfl, gT_c7 161 rfl rfl, gT_of 51 (by decide +kernel) rfl, vmi, gT_c7 162 rfl rfl, by decide +kernel, by decide +kernel, by decide +kernel⟩
theorem vX12_mark : gWV RX12 249 yX12_mark cX12_mark 2 none 1 := ⟨gT_c7 225 rfl rfl, gT_c7 227 rfl rfl, gT_of 66 (by decide +kernel) rfl, vmi, gT_c7 228 rfl rfl, by decide +kernel, by decide +kernel, by decide +kernel⟩
theorem vX12_readExpression : gWV RX12 252 yX12_readExpression cX12_readExpression 3 none 1 := ⟨gT_c7 192 rfl rfl, gT_c7 194 rfl rfl, gT_of 58 (by decide +kernel) rfl, vmi, gT_c7 195 rfl rfl, by decide +kernel, by decide +kernel, by decide +kernel⟩
theorem vX12_readPart : gWV RX12 255 yX12_readPart cX12_readPart 3 none 1 := ⟨gT_c7 217 rfl rfl, gT_c7 219 rfl rfl, gT_of 64 (by decide +kernel) rfl, vmi, gT_c7 220 rfl rfl, by decide +kernel, by decide +kernel, by decide +kernel⟩
theorem vX12_readProduct : gWV RX12 258 yX12_readProduct cX12_readProduct 3 none 1 := ⟨gT_c7 213 rfl rfl, gT_c7 215 rfl rfl, gT_of 63 (by decide +kernel) rfl, vmi, gT_c7 216 rfl rfl, by decide +kernel, by decide +kernel, by decide +kernel⟩
theorem vX12_readSum : gWV RX12 263 yX12_readSum cX12_readSum 3 none 1 := ⟨gT_c7 209 rfl rfl, gT_c7 211 rfl rfl, gT_of 62 (by decide +kernel) rfl, vmi, gT_c7 212 rfl rfl, by decide +kernel, by decide +kernel, by decide +kernel⟩
theorem vX12_readNot : gWV RX12 266 yX12_readNot cX12_readNot 4 none 1 := ⟨gT_c7 204 rfl rfl, gT_c7 206 rfl rfl, gT_of 61 (by decide +kernel) rfl, vmi, gT_c7 207 rfl rfl, by decide +kernel, by decide +kernel, by decide +kernel⟩
theorem vX12_readAnd : gWV RX12 271 yX12_readAnd cX12_readAnd 2 none 1 := ⟨gT_c7 200 rfl rfl, gT_c7 202 rfl rfl, gT_of 60 (by decide +kernel) rfl, vmi, gT_c7 203 rfl rfl, by decide +kernel, by decide +kernel, by decide +kernel⟩
theorem vX12_another : gWV RX12 276 yX12_another cX12_another 3 ((some .boolean)) 2 := ⟨gT_c7 235 rfl rfl, gT_c7 237 rfl rfl, gT_of 68 (by decide +kernel) rfl, vmi, gT_c7 238 rfl rfl, by decide +kernel, by decide +kernel, by decide +kernel⟩
theorem vX12_isOf : gWS RX12 285 yX12_isOf cX12_isOf 2 ((some .boolean)) 2 := ⟨gT_c8 5 rfl rfl, gT_c8 6 rfl rfl, vmi, gT_c8 7 rfl rfl, rfl, by decide +kernel, by decide +kernel, by decide +kernel⟩
theorem vX12_sayWets : gWV RX12 288 yX12_sayWets cX12_sayWets 3 none 0 := ⟨gT_c7 180 rfl rfl, gT_c7 182 rfl rfl, gT_of 55 (by decide +kernel) rfl, vmi, gT_c7 183 rfl rfl, by decide +kernel, by decide +kernel, by decide +kernel⟩
theorem vX12_sayOnce : gWV RX12 297 yX12_sayOnce cX12_sayOnce 2 none 1 := ⟨gT_c7 176 rfl rfl, gT_c7 178 rfl rfl, gT_of 54 (by decide +kernel) rfl, vmi, gT_c7 179 rfl rfl, by decide +kernel, by decide +kernel, by decide +kernel⟩
theorem vX12_sayCave : gWV RX12 300 yX12_sayCave cX12_sayCave 3 none 1 := ⟨gT_c7 231 rfl rfl, gT_c7 233 rfl rfl, gT_of 67 (by decide +kernel) rfl, vmi, gT_c7 234 rfl rfl, by decide +kernel, by decide +kernel, by decide +kernel⟩
theorem vX12_sayGuild : gWV RX12 305 yX12_sayGuild cX12_sayGuild 3 none 0 := ⟨gT_c8 0 rfl rfl, gT_c8 2 rfl rfl, gT_of 69 (by decide +kernel) rfl, vmi, gT_c8 3 rfl rfl, by decide +kernel, by decide +kernel, by decide +kernel⟩
theorem vX12_fail : gWV RX12 308 yX12_fail cX12_fail 2 ((some .int)) 1 := ⟨gT_c7 132 rfl rfl, gT_c7 134 rfl rfl, gT_of 47 (by decide +kernel) rfl, vmi, gT_c7 135 rfl rfl, by decide +kernel, by decide +kernel, by decide +kernel⟩
theorem vX12_readLine : gWV RX12 311 yX12_readLine cX12_readLine 4 ((some .int)) 1 := ⟨gT_c7 155 rfl rfl, gT_c7 157 rfl rfl, gT_of 50 (by decide +kernel) rfl, vmi, gT_c7 158 rfl rfl, by decide +kernel, by decide +kernel, by decide +kernel⟩
theorem vX12_takeOver : gWV RX12 314 yX12_takeOver cX12_takeOver 3 none 0 := ⟨gT_c8 8 rfl rfl, gT_c8 10 rfl rfl, gT_of 70 (by decide +kernel) rfl, vmi, gT_c8 11 rfl rfl, by decide +kernel, by decide +kernel, by decide +kernel⟩
theorem vX12_takeHalf : gWS RX12 317 yX12_takeHalf cX12_takeHalf 2 none 1 := ⟨gT_c8 12 rfl rfl, gT_c8 13 rfl rfl, vmi, gT_c8 14 rfl rfl, rfl, by decide +kernel, by decide +kernel, by decide +kernel⟩
theorem vX12_wetOf : gWV RX12 336 yX12_wetOf cX12_wetOf 1 ((some .int)) 0 := ⟨gT_c8 23 rfl rfl, gT_c8 25 rfl rfl, gT_of 71 (by decide +kernel) rfl, vmi, gT_c8 26 rfl rfl, by decide +kernel, by decide +kernel, by decide +kernel⟩
theorem vX12_comesAt : gWV RX12 339 yX12_comesAt cX12_comesAt 3 ((some .boolean)) 2 := ⟨gT_c8 62 rfl rfl, gT_c8 64 rfl rfl, gT_of 79 (by decide +kernel) rfl, vmi, gT_c8 65 rfl rfl, by decide +kernel, by decide +kernel, by decide +kernel⟩
theorem vX12_reckon : gWS RX12 342 yX12_reckon cX12_reckon 3 ((some .int)) 3 := ⟨gT_c8 90 rfl rfl, gT_c8 91 rfl rfl, vmi, gT_c8 92 rfl rfl, rfl, by decide +kernel, by decide +kernel, by decide +kernel⟩
theorem vX12_valueNow : gWV RX12 346 yX12_valueNow cX12_valueNow 6 ((some .int)) 2 := ⟨gT_c8 86 rfl rfl, gT_c8 88 rfl rfl, gT_of 84 (by decide +kernel) rfl, vmi, gT_c8 89 rfl rfl, by decide +kernel, by decide +kernel, by decide +kernel⟩
theorem vX12_ruleOf : gWV RX12 350 yX12_ruleOf cX12_ruleOf 4 ((some .int)) 3 := ⟨gT_c8 82 rfl rfl, gT_c8 84 rfl rfl, gT_of 83 (by decide +kernel) rfl, vmi, gT_c8 85 rfl rfl, by decide +kernel, by decide +kernel, by decide +kernel⟩
theorem mMmax354 : Cond.methodLink RX12 354 Lib.Math.max.name ∈ gT ∧ Cond.static Lib.Math.max.name ∈ gT ∧ Cond.initialized "java/lang/Math" ∈ gT ∧ Cond.code Lib.Math.max.name Lib.Math.max.code 2 (some .int) ∈ gT := ⟨gT_c8 93 rfl rfl, gT_c3 47 rfl rfl, gT_c1 18 rfl rfl, gT_c3 48 rfl rfl⟩
theorem vX12_costsOf : gWV RX12 357 yX12_costsOf cX12_costsOf 3 ((some .int)) 1 := ⟨gT_c8 78 rfl rfl, gT_c8 80 rfl rfl, gT_of 82 (by decide +kernel) rfl, vmi, gT_c8 81 rfl rfl, by decide +kernel, by decide +kernel, by decide +kernel⟩
theorem vX12_drippingNow : gWV RX12 360 yX12_drippingNow cX12_drippingNow 3 ((some .int)) 0 := ⟨gT_c8 58 rfl rfl, gT_c8 60 rfl rfl, gT_of 78 (by decide +kernel) rfl, vmi, gT_c8 61 rfl rfl, by decide +kernel, by decide +kernel, by decide +kernel⟩
theorem vX12_hirerOf : gWV RX12 369 yX12_hirerOf cX12_hirerOf 3 ((some .int)) 1 := ⟨gT_c8 46 rfl rfl, gT_c8 48 rfl rfl, gT_of 75 (by decide +kernel) rfl, vmi, gT_c8 49 rfl rfl, by decide +kernel, by decide +kernel, by decide +kernel⟩
theorem vX12_pray : gWV RX12 372 yX12_pray cX12_pray 3 none 1 := ⟨gT_c8 115 rfl rfl, gT_c8 117 rfl rfl, gT_of 89 (by decide +kernel) rfl, vmi, gT_c8 118 rfl rfl, by decide +kernel, by decide +kernel, by decide +kernel⟩
theorem vX12_pay : gWV RX12 375 yX12_pay cX12_pay 3 none 1 := ⟨gT_c8 119 rfl rfl, gT_c8 121 rfl rfl, gT_of 90 (by decide +kernel) rfl, vmi, gT_c8 122 rfl rfl, by decide +kernel, by decide +kernel, by decide +kernel⟩
theorem vX12_anHour : gWV RX12 378 yX12_anHour cX12_anHour 4 none 0 := ⟨gT_c8 111 rfl rfl, gT_c8 113 rfl rfl, gT_of 88 (by decide +kernel) rfl, vmi, gT_c8 114 rfl rfl, by decide +kernel, by decide +kernel, by decide +kernel⟩
theorem vX12_hiredNow : gWV RX12 381 yX12_hiredNow cX12_hiredNow 3 ((some .int)) 0 := ⟨gT_c8 27 rfl rfl, gT_c8 29 rfl rfl, gT_of 72 (by decide +kernel) rfl, vmi, gT_c8 30 rfl rfl, by decide +kernel, by decide +kernel, by decide +kernel⟩
theorem vX12_sumOf : gWV RX12 384 yX12_sumOf cX12_sumOf 4 ((some .int)) 1 := ⟨gT_c8 31 rfl rfl, gT_c8 33 rfl rfl, gT_of 73 (by decide +kernel) rfl, vmi, gT_c8 34 rfl rfl, by decide +kernel, by decide +kernel, by decide +kernel⟩
theorem vX12_pack : gWV RX12 388 yX12_pack cX12_pack 4 none 2 := ⟨gT_c8 54 rfl rfl, gT_c8 56 rfl rfl, gT_of 77 (by decide +kernel) rfl, vmi, gT_c8 57 rfl rfl, by decide +kernel, by decide +kernel, by decide +kernel⟩
theorem vX12_unpack : gWV RX12 392 yX12_unpack cX12_unpack 4 none 2 := ⟨gT_c8 66 rfl rfl, gT_c8 68 rfl rfl, gT_of 80 (by decide +kernel) rfl, vmi, gT_c8 69 rfl rfl, by decide +kernel, by decide +kernel, by decide +kernel⟩
theorem vX12_isGrotto : gWV RX12 395 yX12_isGrotto cX12_isGrotto 2 ((some .boolean)) 1 := ⟨gT_c8 39 rfl rfl, gT_c8 41 rfl rfl, gT_of 74 (by decide +kernel) rfl, vmi, gT_c8 42 rfl rfl, by decide +kernel, by decide +kernel, by decide +kernel⟩
theorem vX12_nextDrip : gWV RX12 398 yX12_nextDrip cX12_nextDrip 4 ((some .int)) 1 := ⟨gT_c8 50 rfl rfl, gT_c8 52 rfl rfl, gT_of 76 (by decide +kernel) rfl, vmi, gT_c8 53 rfl rfl, by decide +kernel, by decide +kernel, by decide +kernel⟩
theorem vX12_isGuild : gWV RX12 401 yX12_isGuild cX12_isGuild 2 ((some .boolean)) 1 := ⟨gT_c8 74 rfl rfl, gT_c8 76 rfl rfl, gT_of 81 (by decide +kernel) rfl, vmi, gT_c8 77 rfl rfl, by decide +kernel, by decide +kernel, by decide +kernel⟩
theorem vX12_refuse : gWV RX12 406 yX12_refuse cX12_refuse 2 ((some .int)) 1 := ⟨gT_c8 99 rfl rfl, gT_c8 101 rfl rfl, gT_of 85 (by decide +kernel) rfl, vmi, gT_c8 102 rfl rfl, by decide +kernel, by decide +kernel, by decide +kernel⟩
theorem vX12_keep : gWV RX12 409 yX12_keep cX12_keep 2 none 0 := ⟨gT_c8 103 rfl rfl, gT_c8 105 rfl rfl, gT_of 86 (by decide +kernel) rfl, vmi, gT_c8 106 rfl rfl, by decide +kernel, by decide +kernel, by decide +kernel⟩
theorem vX12_goOn : gWV RX12 412 yX12_goOn cX12_goOn 3 none 1 := ⟨gT_c8 107 rfl rfl, gT_c8 109 rfl rfl, gT_of 87 (by decide +kernel) rfl, vmi, gT_c8 110 rfl rfl, by decide +kernel, by decide +kernel, by decide +kernel⟩
theorem vX12_failing : gWV RX12 415 yX12_failing cX12_failing 2 ((some .boolean)) 1 := ⟨gT_c8 127 rfl rfl, gT_c8 129 rfl rfl, gT_of 91 (by decide +kernel) rfl, vmi, gT_c8 130 rfl rfl, by decide +kernel, by decide +kernel, by decide +kernel⟩
theorem vX12_refused : gWV RX12 418 yX12_refused cX12_refused 1 ((some .boolean)) 0 := ⟨gT_c8 131 rfl rfl, gT_c8 133 rfl rfl, gT_of 92 (by decide +kernel) rfl, vmi, gT_c8 134 rfl rfl, by decide +kernel, by decide +kernel, by decide +kernel⟩
theorem vX12_canConfess : gWV RX12 422 yX12_canConfess cX12_canConfess 2 ((some .boolean)) 1 := ⟨gT_c8 143 rfl rfl, gT_c8 145 rfl rfl, gT_of 93 (by decide +kernel) rfl, vmi, gT_c8 146 rfl rfl, by decide +kernel, by decide +kernel, by decide +kernel⟩
theorem vX12_doConfess : gWV RX12 425 yX12_doConfess cX12_doConfess 2 none 1 := ⟨gT_c8 147 rfl rfl, gT_c8 149 rfl rfl, gT_of 94 (by decide +kernel) rfl, vmi, gT_c8 150 rfl rfl, by decide +kernel, by decide +kernel, by decide +kernel⟩
theorem vX12_greatest : gWV RX12 434 yX12_greatest cX12_greatest 4 ((some .int)) 1 := ⟨gT_c8 186 rfl rfl, gT_c8 188 rfl rfl, gT_of 95 (by decide +kernel) rfl, vmi, gT_c8 189 rfl rfl, by decide +kernel, by decide +kernel, by decide +kernel⟩
theorem vX12_bitsOf : gWS RX12 437 yX12_bitsOf cX12_bitsOf 3 ((some .int)) 1 := ⟨gT_c8 198 rfl rfl, gT_c8 199 rfl rfl, vmi, gT_c8 200 rfl rfl, rfl, by decide +kernel, by decide +kernel, by decide +kernel⟩
theorem vX12_isSome : gWV RX12 440 yX12_isSome cX12_isSome 2 ((some .boolean)) 1 := ⟨gT_c8 209 rfl rfl, gT_c8 211 rfl rfl, gT_of 96 (by decide +kernel) rfl, vmi, gT_c8 212 rfl rfl, by decide +kernel, by decide +kernel, by decide +kernel⟩
theorem vX12_mayHave : gWV RX12 443 yX12_mayHave cX12_mayHave 4 ((some .boolean)) 3 := ⟨gT_c8 229 rfl rfl, gT_c8 231 rfl rfl, gT_of 98 (by decide +kernel) rfl, vmi, gT_c8 232 rfl rfl, by decide +kernel, by decide +kernel, by decide +kernel⟩
theorem vX12_with : gWV RX12 447 yX12_with cX12_with 4 ((some .int)) 3 := ⟨gT_c8 233 rfl rfl, gT_c8 235 rfl rfl, gT_of 99 (by decide +kernel) rfl, vmi, gT_c8 236 rfl rfl, by decide +kernel, by decide +kernel, by decide +kernel⟩
theorem vX12_tellLeast : gWV RX12 450 yX12_tellLeast cX12_tellLeast 6 none 0 := ⟨gT_c8 225 rfl rfl, gT_c8 227 rfl rfl, gT_of 97 (by decide +kernel) rfl, vmi, gT_c8 228 rfl rfl, by decide +kernel, by decide +kernel, by decide +kernel⟩
theorem vX12_isAsSeen : gWV RX12 458 yX12_isAsSeen cX12_isAsSeen 5 ((some .boolean)) 0 := ⟨gT_c9 19 rfl rfl, gT_c9 21 rfl rfl, gT_of 100 (by decide +kernel) rfl, vmi, gT_c9 22 rfl rfl, by decide +kernel, by decide +kernel, by decide +kernel⟩
theorem vX12_tellFits : gWV RX12 463 yX12_tellFits cX12_tellFits 4 none 0 := ⟨gT_c9 23 rfl rfl, gT_c9 25 rfl rfl, gT_of 101 (by decide +kernel) rfl, vmi, gT_c9 26 rfl rfl, by decide +kernel, by decide +kernel, by decide +kernel⟩
theorem vX12_unlike : gWV RX12 466 yX12_unlike cX12_unlike 4 ((some .int)) 1 := ⟨gT_c9 31 rfl rfl, gT_c9 33 rfl rfl, gT_of 102 (by decide +kernel) rfl, vmi, gT_c9 34 rfl rfl, by decide +kernel, by decide +kernel, by decide +kernel⟩
theorem vX12_tellGains : gWV RX12 473 yX12_tellGains cX12_tellGains 7 none 2 := ⟨gT_c9 49 rfl rfl, gT_c9 51 rfl rfl, gT_of 103 (by decide +kernel) rfl, vmi, gT_c9 52 rfl rfl, by decide +kernel, by decide +kernel, by decide +kernel⟩
theorem vX12_drawOf : gWV RX12 481 yX12_drawOf cX12_drawOf 2 ((some .int)) 1 := ⟨gT_c9 61 rfl rfl, gT_c9 63 rfl rfl, gT_of 105 (by decide +kernel) rfl, vmi, gT_c9 64 rfl rfl, by decide +kernel, by decide +kernel, by decide +kernel⟩
theorem vX12_something : gWV RX12 484 yX12_something cX12_something 5 none 0 := ⟨gT_c9 57 rfl rfl, gT_c9 59 rfl rfl, gT_of 104 (by decide +kernel) rfl, vmi, gT_c9 60 rfl rfl, by decide +kernel, by decide +kernel, by decide +kernel⟩
theorem vX12_copyTo : gWS RX12 493 yX12_copyTo cX12_copyTo 3 none 2 := ⟨gT_c9 70 rfl rfl, gT_c9 71 rfl rfl, vmi, gT_c9 72 rfl rfl, rfl, by decide +kernel, by decide +kernel, by decide +kernel⟩
theorem mKI191 : Cond.constant RX12 191 (100000) ∈ gT := gT_c7 150 rfl rfl
theorem mKL404 : Cond.constantLong RX12 404 20 ∈ gT := gT_c8 98 rfl rfl
theorem mKL428 : Cond.constantLong RX12 428 100 ∈ gT := gT_c8 159 rfl rfl
theorem mKL430 : Cond.constantLong RX12 430 3 ∈ gT := gT_c8 168 rfl rfl
theorem mKL432 : Cond.constantLong RX12 432 60 ∈ gT := gT_c8 169 rfl rfl
theorem mKL453 : Cond.constantLong RX12 453 99 ∈ gT := gT_c9 13 rfl rfl
theorem mKL461 : Cond.constantLong RX12 461 2 ∈ gT := gT_c9 18 rfl rfl
theorem mKL469 : Cond.constantLong RX12 469 5 ∈ gT := gT_c9 43 rfl rfl
theorem mKL471 : Cond.constantLong RX12 471 10 ∈ gT := gT_c9 44 rfl rfl
theorem mKI480 : Cond.constant RX12 480 (1103515245) ∈ gT := gT_c9 65 rfl rfl
end

/-! part 08.m01 -/
section
/-! the reference's methods as maps of states, and their walks (printed by wip/whole/mkm.py) -/
section
variable {p : Program} {l : Launch} {e : Env} {s : State} {m : MethodId} {args : Array Value} {below : List Frame} {meth : Method} {c : Code} {D : va_G} {g : Nat → Nat} {cI cS : ClassId} {sa : Nat → Nat → Option Nat} {Am : (Nat → Prop) → State → Heap → Prop}
-- thrown
noncomputable def fX12_thrown_b0 (N : Nat) (S : gS) : Option (Int32 × gS) := some (S 99 4, S)
theorem bX12_thrown_0 {N : Nat} {S : gS} {H : Heap} {locs : List Loc} {ls : Array Slot} {o : Int32 × gS} (C : gC p s m args meth c cX12_thrown 1 RX12 ((some .int)) D (mtys cI cS) mord g Am) (O : gO (mcell g cI cS sa) mord g) (X : gX D (mcell g cI cS sa) mord g S s H locs) (hl : lv_has ls 1 [(0, .ref (g 99))]) (hF : fX12_thrown_b0 N S = some o) : W p l e (rmd 0) s m args below meth c H locs 0 0 (gE below args s D (mtys cI cS) (mcell g cI cS sa) mord g (some (.int o.1)) o.2) (F0 m 0 ls []) := by
  unfold fX12_thrown_b0 at hF
  refine lv_aload_n C.1.1 C.1.2.1 dX12_thrown_0 rfl (lv_at hl 0 rfl) ?_
  refine m_g4 C X dX12_thrown_1 ?_
  cases hF
  exact g_iret C X dX12_thrown_4
noncomputable def fX12_thrown (N : Nat) (S : gS) : Option (Int32 × gS) := fX12_thrown_b0 N S
theorem kX12_thrown {l : Launch} {D : va_G} {g : Nat → Nat} {cI cS : ClassId} {sa : Nat → Nat → Option Nat} {Am : (Nat → Prop) → State → Heap → Prop} (O : gO (mcell g cI cS sa) mord g) (P : gAm Am) (N : Nat) (S : gS) (o : Int32 × gS) (hF : fX12_thrown N S = some o) : gM l yX12_thrown cX12_thrown 1 ((some .int)) 0 D (mtys cI cS) (mcell g cI cS sa) mord g Am [.ref (g 99)] S (some (.int o.1)) o.2 :=
  gM_of O P (by decide) (Nat.le_of_ble_eq_true rfl) (fun p e s m args below meth c ls C X hl => bX12_thrown_0 C O X (lv_sub hl [0] rfl) hF)
-- fail
noncomputable def fX12_fail_b0 (N : Nat) (x1 : Int32) (S : gS) : Option (Int32 × gS) := lt (sU S 99 4 x1) fun S1 => (some (0, S1))
theorem bX12_fail_0 {N : Nat} {x1 : Int32} {S : gS} {H : Heap} {locs : List Loc} {ls : Array Slot} {o : Int32 × gS} (C : gC p s m args meth c cX12_fail 2 RX12 ((some .int)) D (mtys cI cS) mord g Am) (O : gO (mcell g cI cS sa) mord g) (X : gX D (mcell g cI cS sa) mord g S s H locs) (hl : lv_has ls 2 [(0, .ref (g 99)), (1, .int x1)]) (hF : fX12_fail_b0 N x1 S = some o) : W p l e (rmd 0) s m args below meth c H locs 0 0 (gE below args s D (mtys cI cS) (mcell g cI cS sa) mord g (some (.int o.1)) o.2) (F0 m 0 ls []) := by
  unfold fX12_fail_b0 at hF
  refine lv_aload_n C.1.1 C.1.2.1 dX12_fail_0 rfl (lv_at hl 0 rfl) ?_
  refine lv_iload_n C.1.1 C.1.2.1 dX12_fail_1 rfl (lv_at hl 1 rfl) ?_
  obtain ⟨S1, eS1, hF⟩ := lt_some hF
  refine m_p4 C O X eS1 dX12_fail_2 (fun H locs X => ?_)
  refine lv_iconst (v := 0) C.1.1 C.1.2.1 dX12_fail_5 (by decide) ?_
  cases hF
  exact g_iret C X dX12_fail_6
noncomputable def fX12_fail (N : Nat) (x1 : Int32) (S : gS) : Option (Int32 × gS) := fX12_fail_b0 N x1 S
theorem kX12_fail {l : Launch} {D : va_G} {g : Nat → Nat} {cI cS : ClassId} {sa : Nat → Nat → Option Nat} {Am : (Nat → Prop) → State → Heap → Prop} (O : gO (mcell g cI cS sa) mord g) (P : gAm Am) (N : Nat) (x1 : Int32) (S : gS) (o : Int32 × gS) (hF : fX12_fail N x1 S = some o) : gM l yX12_fail cX12_fail 2 ((some .int)) 0 D (mtys cI cS) (mcell g cI cS sa) mord g Am [.ref (g 99), .int x1] S (some (.int o.1)) o.2 :=
  gM_of O P (by decide) (Nat.le_of_ble_eq_true rfl) (fun p e s m args below meth c ls C X hl => bX12_fail_0 C O X (lv_sub hl [0, 1] rfl) hF)
-- failing
noncomputable def fX12_failing_b0 (N : Nat) (x1 : Int32) (S : gS) : Option (Int32 × gS) := lt (sU S 99 4 x1) fun S1 => (some (0, S1))
theorem bX12_failing_0 {N : Nat} {x1 : Int32} {S : gS} {H : Heap} {locs : List Loc} {ls : Array Slot} {o : Int32 × gS} (C : gC p s m args meth c cX12_failing 2 RX12 ((some .boolean)) D (mtys cI cS) mord g Am) (O : gO (mcell g cI cS sa) mord g) (X : gX D (mcell g cI cS sa) mord g S s H locs) (hl : lv_has ls 2 [(0, .ref (g 99)), (1, .int x1)]) (hF : fX12_failing_b0 N x1 S = some o) : W p l e (rmd 0) s m args below meth c H locs 0 0 (gE below args s D (mtys cI cS) (mcell g cI cS sa) mord g (some (.int o.1)) o.2) (F0 m 0 ls []) := by
  unfold fX12_failing_b0 at hF
  refine lv_aload_n C.1.1 C.1.2.1 dX12_failing_0 rfl (lv_at hl 0 rfl) ?_
  refine lv_iload_n C.1.1 C.1.2.1 dX12_failing_1 rfl (lv_at hl 1 rfl) ?_
  obtain ⟨S1, eS1, hF⟩ := lt_some hF
  refine m_p4 C O X eS1 dX12_failing_2 (fun H locs X => ?_)
  refine lv_iconst (v := 0) C.1.1 C.1.2.1 dX12_failing_5 (by decide) ?_
  cases hF
  exact g_zret (x := 0) C X (by decide) dX12_failing_6
noncomputable def fX12_failing (N : Nat) (x1 : Int32) (S : gS) : Option (Int32 × gS) := fX12_failing_b0 N x1 S
theorem kX12_failing {l : Launch} {D : va_G} {g : Nat → Nat} {cI cS : ClassId} {sa : Nat → Nat → Option Nat} {Am : (Nat → Prop) → State → Heap → Prop} (O : gO (mcell g cI cS sa) mord g) (P : gAm Am) (N : Nat) (x1 : Int32) (S : gS) (o : Int32 × gS) (hF : fX12_failing N x1 S = some o) : gM l yX12_failing cX12_failing 2 ((some .boolean)) 0 D (mtys cI cS) (mcell g cI cS sa) mord g Am [.ref (g 99), .int x1] S (some (.int o.1)) o.2 :=
  gM_of O P (by decide) (Nat.le_of_ble_eq_true rfl) (fun p e s m args below meth c ls C X hl => bX12_failing_0 C O X (lv_sub hl [0, 1] rfl) hF)
-- isIn
noncomputable def fX12_isIn_b18 (N : Nat) (t0 : Int32) (S : gS) : Option (Int32 × gS) := chk (zb t0) (some (t0, S))
theorem bX12_isIn_18 {N : Nat} {t0 : Int32} {S : gS} {H : Heap} {locs : List Loc} {ls : Array Slot} {o : Int32 × gS} (C : gC p s m args meth c cX12_isIn 6 RX12 ((some .boolean)) D (mtys cI cS) mord g Am) (O : gO (mcell g cI cS sa) mord g) (X : gX D (mcell g cI cS sa) mord g S s H locs) (hl : lv_has ls 6 []) (hF : fX12_isIn_b18 N t0 S = some o) : W p l e (rmd 0) s m args below meth c H locs 0 0 (gE below args s D (mtys cI cS) (mcell g cI cS sa) mord g (some (.int o.1)) o.2) (F0 m 18 ls [.int t0]) := by
  unfold fX12_isIn_b18 at hF
  obtain ⟨h_1, hF⟩ := chk_some hF
  cases hF
  exact g_zret C X h_1 dX12_isIn_18
noncomputable def fX12_isIn_b17 (N : Nat) (S : gS) : Option (Int32 × gS) := fX12_isIn_b18 N 0 S
theorem bX12_isIn_17 {N : Nat} {S : gS} {H : Heap} {locs : List Loc} {ls : Array Slot} {o : Int32 × gS} (C : gC p s m args meth c cX12_isIn 6 RX12 ((some .boolean)) D (mtys cI cS) mord g Am) (O : gO (mcell g cI cS sa) mord g) (X : gX D (mcell g cI cS sa) mord g S s H locs) (hl : lv_has ls 6 []) (hF : fX12_isIn_b17 N S = some o) : W p l e (rmd 0) s m args below meth c H locs 0 0 (gE below args s D (mtys cI cS) (mcell g cI cS sa) mord g (some (.int o.1)) o.2) (F0 m 17 ls []) := by
  unfold fX12_isIn_b17 at hF
  refine lv_iconst (v := 0) C.1.1 C.1.2.1 dX12_isIn_17 (by decide) ?_
  exact bX12_isIn_18 C O X (lv_sub hl [] rfl) hF
noncomputable def fX12_isIn_b13 (N : Nat) (S : gS) : Option (Int32 × gS) := fX12_isIn_b18 N 1 S
theorem bX12_isIn_13 {N : Nat} {S : gS} {H : Heap} {locs : List Loc} {ls : Array Slot} {o : Int32 × gS} (C : gC p s m args meth c cX12_isIn 6 RX12 ((some .boolean)) D (mtys cI cS) mord g Am) (O : gO (mcell g cI cS sa) mord g) (X : gX D (mcell g cI cS sa) mord g S s H locs) (hl : lv_has ls 6 []) (hF : fX12_isIn_b13 N S = some o) : W p l e (rmd 0) s m args below meth c H locs 0 0 (gE below args s D (mtys cI cS) (mcell g cI cS sa) mord g (some (.int o.1)) o.2) (F0 m 13 ls []) := by
  unfold fX12_isIn_b13 at hF
  refine lv_iconst (v := 1) C.1.1 C.1.2.1 dX12_isIn_13 (by decide) ?_
  refine lv_goto (tgt := 18) C.1.1 C.1.2.1 dX12_isIn_14 (by decide) ?_
  exact bX12_isIn_18 C O X (lv_sub hl [] rfl) hF
noncomputable def fX12_isIn_b6 (N : Nat) (x0 : Int64) (x4 : Int64) (S : gS) : Option (Int32 × gS) := if 0 < (lg_cmp x0 x4) then fX12_isIn_b17 N S else fX12_isIn_b13 N S
theorem bX12_isIn_6 {N : Nat} {x0 : Int64} {x4 : Int64} {S : gS} {H : Heap} {locs : List Loc} {ls : Array Slot} {o : Int32 × gS} (C : gC p s m args meth c cX12_isIn 6 RX12 ((some .boolean)) D (mtys cI cS) mord g Am) (O : gO (mcell g cI cS sa) mord g) (X : gX D (mcell g cI cS sa) mord g S s H locs) (hl : lv_has ls 6 [(0, .long x0), (4, .long x4)]) (hF : fX12_isIn_b6 N x0 x4 S = some o) : W p l e (rmd 0) s m args below meth c H locs 0 0 (gE below args s D (mtys cI cS) (mcell g cI cS sa) mord g (some (.int o.1)) o.2) (F0 m 6 ls []) := by
  unfold fX12_isIn_b6 at hF
  refine lv_lload_n C.1.1 C.1.2.1 dX12_isIn_6 rfl (lv_at hl 0 rfl) ?_
  refine lv_lload C.1.1 C.1.2.1 dX12_isIn_7 (lv_at hl 1 rfl) ?_
  refine W.lcmp C.1.1 C.1.2.1 dX12_isIn_9 ?_
  refine lv_if_gt (tgt := 17) C.1.1 C.1.2.1 dX12_isIn_10 (by decide) (fun h_z => ?_) (fun h_z => ?_)
  · rw [if_pos h_z] at hF
    exact bX12_isIn_17 C O X (lv_sub hl [] rfl) hF
  · rw [if_neg h_z] at hF
    exact bX12_isIn_13 C O X (lv_sub hl [] rfl) hF
noncomputable def fX12_isIn_b0 (N : Nat) (x0 : Int64) (x2 : Int64) (x4 : Int64) (S : gS) : Option (Int32 × gS) := if (lg_cmp x0 x2) < 0 then fX12_isIn_b17 N S else fX12_isIn_b6 N x0 x4 S
theorem bX12_isIn_0 {N : Nat} {x0 : Int64} {x2 : Int64} {x4 : Int64} {S : gS} {H : Heap} {locs : List Loc} {ls : Array Slot} {o : Int32 × gS} (C : gC p s m args meth c cX12_isIn 6 RX12 ((some .boolean)) D (mtys cI cS) mord g Am) (O : gO (mcell g cI cS sa) mord g) (X : gX D (mcell g cI cS sa) mord g S s H locs) (hl : lv_has ls 6 [(0, .long x0), (2, .long x2), (4, .long x4)]) (hF : fX12_isIn_b0 N x0 x2 x4 S = some o) : W p l e (rmd 0) s m args below meth c H locs 0 0 (gE below args s D (mtys cI cS) (mcell g cI cS sa) mord g (some (.int o.1)) o.2) (F0 m 0 ls []) := by
  unfold fX12_isIn_b0 at hF
  refine lv_lload_n C.1.1 C.1.2.1 dX12_isIn_0 rfl (lv_at hl 0 rfl) ?_
  refine lv_lload_n C.1.1 C.1.2.1 dX12_isIn_1 rfl (lv_at hl 1 rfl) ?_
  refine W.lcmp C.1.1 C.1.2.1 dX12_isIn_2 ?_
  refine lv_if_lt (tgt := 17) C.1.1 C.1.2.1 dX12_isIn_3 (by decide) (fun h_z => ?_) (fun h_z => ?_)
  · rw [if_pos h_z] at hF
    exact bX12_isIn_17 C O X (lv_sub hl [] rfl) hF
  · rw [if_neg h_z] at hF
    exact bX12_isIn_6 C O X (lv_sub hl [0, 2] rfl) hF
noncomputable def fX12_isIn (N : Nat) (x0 : Int64) (x2 : Int64) (x4 : Int64) (S : gS) : Option (Int32 × gS) := fX12_isIn_b0 N x0 x2 x4 S
theorem kX12_isIn {l : Launch} {D : va_G} {g : Nat → Nat} {cI cS : ClassId} {sa : Nat → Nat → Option Nat} {Am : (Nat → Prop) → State → Heap → Prop} (O : gO (mcell g cI cS sa) mord g) (P : gAm Am) (N : Nat) (x0 : Int64) (x2 : Int64) (x4 : Int64) (S : gS) (o : Int32 × gS) (hF : fX12_isIn N x0 x2 x4 S = some o) : gM l yX12_isIn cX12_isIn 6 ((some .boolean)) 0 D (mtys cI cS) (mcell g cI cS sa) mord g Am [.long x0, .long x2, .long x4] S (some (.int o.1)) o.2 :=
  gM_of O P (by decide) (Nat.le_of_ble_eq_true rfl) (fun p e s m args below meth c ls C X hl => bX12_isIn_0 C O X (lv_sub hl [0, 1, 2] rfl) hF)
-- isOf
noncomputable def fX12_isOf_b14 (N : Nat) (t0 : Int32) (S : gS) : Option (Int32 × gS) := chk (zb t0) (some (t0, S))
theorem bX12_isOf_14 {N : Nat} {t0 : Int32} {S : gS} {H : Heap} {locs : List Loc} {ls : Array Slot} {o : Int32 × gS} (C : gC p s m args meth c cX12_isOf 2 RX12 ((some .boolean)) D (mtys cI cS) mord g Am) (O : gO (mcell g cI cS sa) mord g) (X : gX D (mcell g cI cS sa) mord g S s H locs) (hl : lv_has ls 2 []) (hF : fX12_isOf_b14 N t0 S = some o) : W p l e (rmd 0) s m args below meth c H locs 0 0 (gE below args s D (mtys cI cS) (mcell g cI cS sa) mord g (some (.int o.1)) o.2) (F0 m 14 ls [.int t0]) := by
  unfold fX12_isOf_b14 at hF
  obtain ⟨h_1, hF⟩ := chk_some hF
  cases hF
  exact g_zret C X h_1 dX12_isOf_14
noncomputable def fX12_isOf_b13 (N : Nat) (S : gS) : Option (Int32 × gS) := fX12_isOf_b14 N 0 S
theorem bX12_isOf_13 {N : Nat} {S : gS} {H : Heap} {locs : List Loc} {ls : Array Slot} {o : Int32 × gS} (C : gC p s m args meth c cX12_isOf 2 RX12 ((some .boolean)) D (mtys cI cS) mord g Am) (O : gO (mcell g cI cS sa) mord g) (X : gX D (mcell g cI cS sa) mord g S s H locs) (hl : lv_has ls 2 []) (hF : fX12_isOf_b13 N S = some o) : W p l e (rmd 0) s m args below meth c H locs 0 0 (gE below args s D (mtys cI cS) (mcell g cI cS sa) mord g (some (.int o.1)) o.2) (F0 m 13 ls []) := by
  unfold fX12_isOf_b13 at hF
  refine lv_iconst (v := 0) C.1.1 C.1.2.1 dX12_isOf_13 (by decide) ?_
  exact bX12_isOf_14 C O X (lv_sub hl [] rfl) hF
noncomputable def fX12_isOf_b9 (N : Nat) (S : gS) : Option (Int32 × gS) := fX12_isOf_b14 N 1 S
theorem bX12_isOf_9 {N : Nat} {S : gS} {H : Heap} {locs : List Loc} {ls : Array Slot} {o : Int32 × gS} (C : gC p s m args meth c cX12_isOf 2 RX12 ((some .boolean)) D (mtys cI cS) mord g Am) (O : gO (mcell g cI cS sa) mord g) (X : gX D (mcell g cI cS sa) mord g S s H locs) (hl : lv_has ls 2 []) (hF : fX12_isOf_b9 N S = some o) : W p l e (rmd 0) s m args below meth c H locs 0 0 (gE below args s D (mtys cI cS) (mcell g cI cS sa) mord g (some (.int o.1)) o.2) (F0 m 9 ls []) := by
  unfold fX12_isOf_b9 at hF
  refine lv_iconst (v := 1) C.1.1 C.1.2.1 dX12_isOf_9 (by decide) ?_
  refine lv_goto (tgt := 14) C.1.1 C.1.2.1 dX12_isOf_10 (by decide) ?_
  exact bX12_isOf_14 C O X (lv_sub hl [] rfl) hF
noncomputable def fX12_isOf_b0 (N : Nat) (x0 : Int32) (x1 : Int32) (S : gS) : Option (Int32 × gS) := if ((((x0 >>> (x1 &&& 31) : Int32)) &&& 1 : Int32)) = 1 then fX12_isOf_b9 N S else fX12_isOf_b13 N S
theorem bX12_isOf_0 {N : Nat} {x0 : Int32} {x1 : Int32} {S : gS} {H : Heap} {locs : List Loc} {ls : Array Slot} {o : Int32 × gS} (C : gC p s m args meth c cX12_isOf 2 RX12 ((some .boolean)) D (mtys cI cS) mord g Am) (O : gO (mcell g cI cS sa) mord g) (X : gX D (mcell g cI cS sa) mord g S s H locs) (hl : lv_has ls 2 [(0, .int x0), (1, .int x1)]) (hF : fX12_isOf_b0 N x0 x1 S = some o) : W p l e (rmd 0) s m args below meth c H locs 0 0 (gE below args s D (mtys cI cS) (mcell g cI cS sa) mord g (some (.int o.1)) o.2) (F0 m 0 ls []) := by
  unfold fX12_isOf_b0 at hF
  refine lv_iload_n C.1.1 C.1.2.1 dX12_isOf_0 rfl (lv_at hl 0 rfl) ?_
  refine lv_iload_n C.1.1 C.1.2.1 dX12_isOf_1 rfl (lv_at hl 1 rfl) ?_
  refine lv_ishr C.1.1 C.1.2.1 dX12_isOf_2 ?_
  refine lv_iconst (v := 1) C.1.1 C.1.2.1 dX12_isOf_3 (by decide) ?_
  refine lv_iand C.1.1 C.1.2.1 dX12_isOf_4 ?_
  refine lv_iconst (v := 1) C.1.1 C.1.2.1 dX12_isOf_5 (by decide) ?_
  refine lv_icmp_ne (tgt := 13) C.1.1 C.1.2.1 dX12_isOf_6 (by decide) (fun h_z => ?_) (fun h_z => ?_)
  · rw [if_neg h_z] at hF
    exact bX12_isOf_13 C O X (lv_sub hl [] rfl) hF
  · rw [if_pos h_z] at hF
    exact bX12_isOf_9 C O X (lv_sub hl [] rfl) hF
noncomputable def fX12_isOf (N : Nat) (x0 : Int32) (x1 : Int32) (S : gS) : Option (Int32 × gS) := fX12_isOf_b0 N x0 x1 S
theorem kX12_isOf {l : Launch} {D : va_G} {g : Nat → Nat} {cI cS : ClassId} {sa : Nat → Nat → Option Nat} {Am : (Nat → Prop) → State → Heap → Prop} (O : gO (mcell g cI cS sa) mord g) (P : gAm Am) (N : Nat) (x0 : Int32) (x1 : Int32) (S : gS) (o : Int32 × gS) (hF : fX12_isOf N x0 x1 S = some o) : gM l yX12_isOf cX12_isOf 2 ((some .boolean)) 0 D (mtys cI cS) (mcell g cI cS sa) mord g Am [.int x0, .int x1] S (some (.int o.1)) o.2 :=
  gM_of O P (by decide) (Nat.le_of_ble_eq_true rfl) (fun p e s m args below meth c ls C X hl => bX12_isOf_0 C O X (lv_sub hl [0, 1] rfl) hF)
-- bitsOf
noncomputable def fX12_bitsOf_b20 (N : Nat) (x1 : Int32) (S : gS) : Option (Int32 × gS) := some (x1, S)
theorem bX12_bitsOf_20 {N : Nat} {x1 : Int32} {S : gS} {H : Heap} {locs : List Loc} {ls : Array Slot} {o : Int32 × gS} (C : gC p s m args meth c cX12_bitsOf 3 RX12 ((some .int)) D (mtys cI cS) mord g Am) (O : gO (mcell g cI cS sa) mord g) (X : gX D (mcell g cI cS sa) mord g S s H locs) (hl : lv_has ls 3 [(1, .int x1)]) (hF : fX12_bitsOf_b20 N x1 S = some o) : W p l e (rmd 0) s m args below meth c H locs 0 0 (gE below args s D (mtys cI cS) (mcell g cI cS sa) mord g (some (.int o.1)) o.2) (F0 m 20 ls []) := by
  unfold fX12_bitsOf_b20 at hF
  refine lv_iload_n C.1.1 C.1.2.1 dX12_bitsOf_20 rfl (lv_at hl 0 rfl) ?_
  cases hF
  exact g_iret C X dX12_bitsOf_21
noncomputable def fX12_bitsOf_b8 (N : Nat) (r4 : Int32 → Int32 → gS → Option (Int32 × gS)) (x1 : Int32) (x2 : Int32) (S : gS) : Option (Int32 × gS) := r4 ((x1 + 1 : Int32)) ((x2 &&& ((x2 - 1 : Int32)) : Int32)) S
theorem bX12_bitsOf_8 {N : Nat} {r4 : Int32 → Int32 → gS → Option (Int32 × gS)} {x1 : Int32} {x2 : Int32} {S : gS} {H : Heap} {locs : List Loc} {ls : Array Slot} {o : Int32 × gS} (C : gC p s m args meth c cX12_bitsOf 3 RX12 ((some .int)) D (mtys cI cS) mord g Am) (O : gO (mcell g cI cS sa) mord g) (K4 : ∀ (x1 : Int32) (x2 : Int32) (S : gS) (H : Heap) (locs : List Loc) (ls : Array Slot), gX D (mcell g cI cS sa) mord g S s H locs → lv_has ls 3 [(1, .int x1), (2, .int x2)] → r4 x1 x2 S = some o → W p l e (rmd 0) s m args below meth c H locs 0 0 (gE below args s D (mtys cI cS) (mcell g cI cS sa) mord g (some (.int o.1)) o.2) (F0 m 4 ls [])) (X : gX D (mcell g cI cS sa) mord g S s H locs) (hl : lv_has ls 3 [(1, .int x1), (2, .int x2)]) (hF : fX12_bitsOf_b8 N r4 x1 x2 S = some o) : W p l e (rmd 0) s m args below meth c H locs 0 0 (gE below args s D (mtys cI cS) (mcell g cI cS sa) mord g (some (.int o.1)) o.2) (F0 m 8 ls []) := by
  unfold fX12_bitsOf_b8 at hF
  refine lv_iinc (v := (x1 + 1 : Int32)) (lv' := [(1, .int ((x1 + 1 : Int32))), (2, .int x2)]) C.1.1 C.1.2.1 dX12_bitsOf_8 hl (k := 0) rfl rfl (by decide) rfl (fun ls hl => ?_)
  refine lv_iload_n C.1.1 C.1.2.1 dX12_bitsOf_11 rfl (lv_at hl 1 rfl) ?_
  refine lv_iload_n C.1.1 C.1.2.1 dX12_bitsOf_12 rfl (lv_at hl 1 rfl) ?_
  refine lv_iconst (v := 1) C.1.1 C.1.2.1 dX12_bitsOf_13 (by decide) ?_
  refine lv_isub C.1.1 C.1.2.1 dX12_bitsOf_14 ?_
  refine lv_iand C.1.1 C.1.2.1 dX12_bitsOf_15 ?_
  refine lv_istore_n (lv' := [(2, .int ((x2 &&& ((x2 - 1 : Int32)) : Int32))), (1, .int ((x1 + 1 : Int32)))]) C.1.1 C.1.2.1 dX12_bitsOf_16 rfl hl (by decide) rfl (fun ls hl => ?_)
  refine lv_goto (tgt := 4) C.1.1 C.1.2.1 dX12_bitsOf_17 (by decide) ?_
  exact K4 _ _ _ _ _ _ X (lv_sub hl [1, 0] rfl) hF
noncomputable def fX12_bitsOf_b4 (N : Nat) (r4 : Int32 → Int32 → gS → Option (Int32 × gS)) (x1 : Int32) (x2 : Int32) (S : gS) : Option (Int32 × gS) := if x2 = 0 then fX12_bitsOf_b20 N x1 S else fX12_bitsOf_b8 N r4 x1 x2 S
theorem bX12_bitsOf_4 {N : Nat} {r4 : Int32 → Int32 → gS → Option (Int32 × gS)} {x1 : Int32} {x2 : Int32} {S : gS} {H : Heap} {locs : List Loc} {ls : Array Slot} {o : Int32 × gS} (C : gC p s m args meth c cX12_bitsOf 3 RX12 ((some .int)) D (mtys cI cS) mord g Am) (O : gO (mcell g cI cS sa) mord g) (K4 : ∀ (x1 : Int32) (x2 : Int32) (S : gS) (H : Heap) (locs : List Loc) (ls : Array Slot), gX D (mcell g cI cS sa) mord g S s H locs → lv_has ls 3 [(1, .int x1), (2, .int x2)] → r4 x1 x2 S = some o → W p l e (rmd 0) s m args below meth c H locs 0 0 (gE below args s D (mtys cI cS) (mcell g cI cS sa) mord g (some (.int o.1)) o.2) (F0 m 4 ls [])) (X : gX D (mcell g cI cS sa) mord g S s H locs) (hl : lv_has ls 3 [(1, .int x1), (2, .int x2)]) (hF : fX12_bitsOf_b4 N r4 x1 x2 S = some o) : W p l e (rmd 0) s m args below meth c H locs 0 0 (gE below args s D (mtys cI cS) (mcell g cI cS sa) mord g (some (.int o.1)) o.2) (F0 m 4 ls []) := by
  unfold fX12_bitsOf_b4 at hF
  refine lv_iload_n C.1.1 C.1.2.1 dX12_bitsOf_4 rfl (lv_at hl 1 rfl) ?_
  refine lv_if_eq (tgt := 20) C.1.1 C.1.2.1 dX12_bitsOf_5 (by decide) (fun h_z => ?_) (fun h_z => ?_)
  · rw [if_pos h_z] at hF
    exact bX12_bitsOf_20 C O X (lv_sub hl [0] rfl) hF
  · rw [if_neg h_z] at hF
    exact bX12_bitsOf_8 C O K4 X (lv_sub hl [0, 1] rfl) hF
noncomputable def fX12_bitsOf_h4 (N : Nat) : Nat → Int32 → Int32 → gS → Option (Int32 × gS)
  | 0, _, _, _ => none
  | n + 1, x1, x2, S => fX12_bitsOf_b4 N (fX12_bitsOf_h4 N n) x1 x2 S
theorem hX12_bitsOf_4 {N : Nat} {o : Int32 × gS} (C : gC p s m args meth c cX12_bitsOf 3 RX12 ((some .int)) D (mtys cI cS) mord g Am) (O : gO (mcell g cI cS sa) mord g) : ∀ (n : Nat) (x1 : Int32) (x2 : Int32) (S : gS) (H : Heap) (locs : List Loc) (ls : Array Slot), gX D (mcell g cI cS sa) mord g S s H locs → lv_has ls 3 [(1, .int x1), (2, .int x2)] → fX12_bitsOf_h4 N n x1 x2 S = some o → W p l e (rmd 0) s m args below meth c H locs 0 0 (gE below args s D (mtys cI cS) (mcell g cI cS sa) mord g (some (.int o.1)) o.2) (F0 m 4 ls []) := by
  intro n
  induction n with
  | zero =>
    intro x1 x2 S H locs ls X hl hF
    exact absurd (show (none : Option (Int32 × gS)) = some o from hF) (by simp)
  | succ n ih =>
    intro x1 x2 S H locs ls X hl hF
    have hF : fX12_bitsOf_b4 N (fX12_bitsOf_h4 N n) x1 x2 S = some o := hF
    exact bX12_bitsOf_4 C O ih X hl hF
noncomputable def fX12_bitsOf_b0 (N : Nat) (x0 : Int32) (S : gS) : Option (Int32 × gS) := fX12_bitsOf_h4 N N 0 x0 S
theorem bX12_bitsOf_0 {N : Nat} {x0 : Int32} {S : gS} {H : Heap} {locs : List Loc} {ls : Array Slot} {o : Int32 × gS} (C : gC p s m args meth c cX12_bitsOf 3 RX12 ((some .int)) D (mtys cI cS) mord g Am) (O : gO (mcell g cI cS sa) mord g) (X : gX D (mcell g cI cS sa) mord g S s H locs) (hl : lv_has ls 3 [(0, .int x0)]) (hF : fX12_bitsOf_b0 N x0 S = some o) : W p l e (rmd 0) s m args below meth c H locs 0 0 (gE below args s D (mtys cI cS) (mcell g cI cS sa) mord g (some (.int o.1)) o.2) (F0 m 0 ls []) := by
  unfold fX12_bitsOf_b0 at hF
  refine lv_iconst (v := 0) C.1.1 C.1.2.1 dX12_bitsOf_0 (by decide) ?_
  refine lv_istore_n (lv' := [(1, .int 0), (0, .int x0)]) C.1.1 C.1.2.1 dX12_bitsOf_1 rfl hl (by decide) rfl (fun ls hl => ?_)
  refine lv_iload_n C.1.1 C.1.2.1 dX12_bitsOf_2 rfl (lv_at hl 1 rfl) ?_
  refine lv_istore_n (lv' := [(2, .int x0), (1, .int 0), (0, .int x0)]) C.1.1 C.1.2.1 dX12_bitsOf_3 rfl hl (by decide) rfl (fun ls hl => ?_)
  exact hX12_bitsOf_4 C O N _ _ _ _ _ _ X (lv_sub hl [1, 0] rfl) hF
noncomputable def fX12_bitsOf (N : Nat) (x0 : Int32) (S : gS) : Option (Int32 × gS) := fX12_bitsOf_b0 N x0 S
theorem kX12_bitsOf {l : Launch} {D : va_G} {g : Nat → Nat} {cI cS : ClassId} {sa : Nat → Nat → Option Nat} {Am : (Nat → Prop) → State → Heap → Prop} (O : gO (mcell g cI cS sa) mord g) (P : gAm Am) (N : Nat) (x0 : Int32) (S : gS) (o : Int32 × gS) (hF : fX12_bitsOf N x0 S = some o) : gM l yX12_bitsOf cX12_bitsOf 3 ((some .int)) 0 D (mtys cI cS) (mcell g cI cS sa) mord g Am [.int x0] S (some (.int o.1)) o.2 :=
  gM_of O P (by decide) (Nat.le_of_ble_eq_true rfl) (fun p e s m args below meth c ls C X hl => bX12_bitsOf_0 C O X (lv_sub hl [0] rfl) hF)
-- isGrotto
noncomputable def fX12_isGrotto_b0 (N : Nat) (x1 : Int32) (S : gS) : Option (Int32 × gS) := bnd (fX12_isIn N (Int32.toInt64 x1) 0 (Int32.toInt64 (((S 5 0) - 1 : Int32))) S) fun q1 => (chk (zb q1.1) (some (q1.1, q1.2)))
theorem bX12_isGrotto_0 {N : Nat} {x1 : Int32} {S : gS} {H : Heap} {locs : List Loc} {ls : Array Slot} {o : Int32 × gS} (C : gC p s m args meth c cX12_isGrotto 2 RX12 ((some .boolean)) D (mtys cI cS) mord g Am) (O : gO (mcell g cI cS sa) mord g) (X : gX D (mcell g cI cS sa) mord g S s H locs) (hl : lv_has ls 2 [(0, .ref (g 99)), (1, .int x1)]) (hF : fX12_isGrotto_b0 N x1 S = some o) : W p l e (rmd 1) s m args below meth c H locs 0 0 (gE below args s D (mtys cI cS) (mcell g cI cS sa) mord g (some (.int o.1)) o.2) (F0 m 0 ls []) := by
  unfold fX12_isGrotto_b0 at hF
  refine lv_iload_n C.1.1 C.1.2.1 dX12_isGrotto_0 rfl (lv_at hl 1 rfl) ?_
  refine lv_i2l (v := Int32.toInt64 x1) C.1.1 C.1.2.1 dX12_isGrotto_1 rfl ?_
  refine lv_lconst (v := 0) C.1.1 C.1.2.1 dX12_isGrotto_2 (by decide) ?_
  refine lv_aload_n C.1.1 C.1.2.1 dX12_isGrotto_3 rfl (lv_at hl 0 rfl) ?_
  refine m_g5 C X dX12_isGrotto_4 ?_
  refine lv_iconst (v := 0) C.1.1 C.1.2.1 dX12_isGrotto_7 (by decide) ?_
  refine m_r5 C X (j := 0) (inb_vp (by decide)) (by decide) dX12_isGrotto_8 ?_
  refine lv_iconst (v := 1) C.1.1 C.1.2.1 dX12_isGrotto_9 (by decide) ?_
  refine lv_isub C.1.1 C.1.2.1 dX12_isGrotto_10 ?_
  refine lv_i2l (v := Int32.toInt64 (((S 5 0) - 1 : Int32))) C.1.1 C.1.2.1 dX12_isGrotto_11 rfl ?_
  obtain ⟨q1, hq1, hF⟩ := bnd_some hF
  refine g_callSi C X vX12_isIn (kX12_isIn O C.2.2.2.2.1 N (Int32.toInt64 x1) 0 (Int32.toInt64 (((S 5 0) - 1 : Int32)))  S q1 hq1) (Nat.le_of_ble_eq_true rfl) (Nat.le_of_ble_eq_true rfl) (Nat.le_of_ble_eq_true rfl) (Nat.le_of_ble_eq_true rfl) rfl hl.1 rfl (Nat.le_of_ble_eq_true rfl) dX12_isGrotto_12 (fun H locs X => ?_)
  obtain ⟨h_1, hF⟩ := chk_some hF
  cases hF
  exact g_zret C X h_1 dX12_isGrotto_15
noncomputable def fX12_isGrotto (N : Nat) (x1 : Int32) (S : gS) : Option (Int32 × gS) := fX12_isGrotto_b0 N x1 S
theorem kX12_isGrotto {l : Launch} {D : va_G} {g : Nat → Nat} {cI cS : ClassId} {sa : Nat → Nat → Option Nat} {Am : (Nat → Prop) → State → Heap → Prop} (O : gO (mcell g cI cS sa) mord g) (P : gAm Am) (N : Nat) (x1 : Int32) (S : gS) (o : Int32 × gS) (hF : fX12_isGrotto N x1 S = some o) : gM l yX12_isGrotto cX12_isGrotto 2 ((some .boolean)) 1 D (mtys cI cS) (mcell g cI cS sa) mord g Am [.ref (g 99), .int x1] S (some (.int o.1)) o.2 :=
  gM_of O P (by decide) (Nat.le_of_ble_eq_true rfl) (fun p e s m args below meth c ls C X hl => bX12_isGrotto_0 C O X (lv_sub hl [0, 1] rfl) hF)
-- isGuild
noncomputable def fX12_isGuild_b0 (N : Nat) (x1 : Int32) (S : gS) : Option (Int32 × gS) := bnd (fX12_isIn N (Int32.toInt64 x1) 0 (Int32.toInt64 (((S 5 1) - 1 : Int32))) S) fun q1 => (chk (zb q1.1) (some (q1.1, q1.2)))
theorem bX12_isGuild_0 {N : Nat} {x1 : Int32} {S : gS} {H : Heap} {locs : List Loc} {ls : Array Slot} {o : Int32 × gS} (C : gC p s m args meth c cX12_isGuild 2 RX12 ((some .boolean)) D (mtys cI cS) mord g Am) (O : gO (mcell g cI cS sa) mord g) (X : gX D (mcell g cI cS sa) mord g S s H locs) (hl : lv_has ls 2 [(0, .ref (g 99)), (1, .int x1)]) (hF : fX12_isGuild_b0 N x1 S = some o) : W p l e (rmd 1) s m args below meth c H locs 0 0 (gE below args s D (mtys cI cS) (mcell g cI cS sa) mord g (some (.int o.1)) o.2) (F0 m 0 ls []) := by
  unfold fX12_isGuild_b0 at hF
  refine lv_iload_n C.1.1 C.1.2.1 dX12_isGuild_0 rfl (lv_at hl 1 rfl) ?_
  refine lv_i2l (v := Int32.toInt64 x1) C.1.1 C.1.2.1 dX12_isGuild_1 rfl ?_
  refine lv_lconst (v := 0) C.1.1 C.1.2.1 dX12_isGuild_2 (by decide) ?_
  refine lv_aload_n C.1.1 C.1.2.1 dX12_isGuild_3 rfl (lv_at hl 0 rfl) ?_
  refine m_g5 C X dX12_isGuild_4 ?_
  refine lv_iconst (v := 1) C.1.1 C.1.2.1 dX12_isGuild_7 (by decide) ?_
  refine m_r5 C X (j := 1) (inb_vp (by decide)) (by decide) dX12_isGuild_8 ?_
  refine lv_iconst (v := 1) C.1.1 C.1.2.1 dX12_isGuild_9 (by decide) ?_
  refine lv_isub C.1.1 C.1.2.1 dX12_isGuild_10 ?_
  refine lv_i2l (v := Int32.toInt64 (((S 5 1) - 1 : Int32))) C.1.1 C.1.2.1 dX12_isGuild_11 rfl ?_
  obtain ⟨q1, hq1, hF⟩ := bnd_some hF
  refine g_callSi C X vX12_isIn (kX12_isIn O C.2.2.2.2.1 N (Int32.toInt64 x1) 0 (Int32.toInt64 (((S 5 1) - 1 : Int32)))  S q1 hq1) (Nat.le_of_ble_eq_true rfl) (Nat.le_of_ble_eq_true rfl) (Nat.le_of_ble_eq_true rfl) (Nat.le_of_ble_eq_true rfl) rfl hl.1 rfl (Nat.le_of_ble_eq_true rfl) dX12_isGuild_12 (fun H locs X => ?_)
  obtain ⟨h_1, hF⟩ := chk_some hF
  cases hF
  exact g_zret C X h_1 dX12_isGuild_15
noncomputable def fX12_isGuild (N : Nat) (x1 : Int32) (S : gS) : Option (Int32 × gS) := fX12_isGuild_b0 N x1 S
theorem kX12_isGuild {l : Launch} {D : va_G} {g : Nat → Nat} {cI cS : ClassId} {sa : Nat → Nat → Option Nat} {Am : (Nat → Prop) → State → Heap → Prop} (O : gO (mcell g cI cS sa) mord g) (P : gAm Am) (N : Nat) (x1 : Int32) (S : gS) (o : Int32 × gS) (hF : fX12_isGuild N x1 S = some o) : gM l yX12_isGuild cX12_isGuild 2 ((some .boolean)) 1 D (mtys cI cS) (mcell g cI cS sa) mord g Am [.ref (g 99), .int x1] S (some (.int o.1)) o.2 :=
  gM_of O P (by decide) (Nat.le_of_ble_eq_true rfl) (fun p e s m args below meth c ls C X hl => bX12_isGuild_0 C O X (lv_sub hl [0, 1] rfl) hF)
-- feed
noncomputable def fX12_feed_b120 (N : Nat) (S : gS) : Option (Int32 × gS) := some (S 99 20, S)
theorem bX12_feed_120 {N : Nat} {S : gS} {H : Heap} {locs : List Loc} {ls : Array Slot} {o : Int32 × gS} (C : gC p s m args meth c cX12_feed 8 RX12 ((some .int)) D (mtys cI cS) mord g Am) (O : gO (mcell g cI cS sa) mord g) (X : gX D (mcell g cI cS sa) mord g S s H locs) (hl : lv_has ls 8 [(0, .ref (g 99))]) (hF : fX12_feed_b120 N S = some o) : W p l e (rmd 0) s m args below meth c H locs 0 0 (gE below args s D (mtys cI cS) (mcell g cI cS sa) mord g (some (.int o.1)) o.2) (F0 m 120 ls []) := by
  unfold fX12_feed_b120 at hF
  refine lv_aload_n C.1.1 C.1.2.1 dX12_feed_120 rfl (lv_at hl 0 rfl) ?_
  refine m_g20 C X dX12_feed_121 ?_
  cases hF
  exact g_iret C X dX12_feed_124
noncomputable def fX12_feed_b76 (N : Nat) (r23 : Int32 → Int32 → Int32 → Int32 → Int32 → Int32 → gS → Option (Int32 × gS)) (x1 : Int32) (x2 : Int32) (x3 : Int32) (x4 : Int32) (x5 : Int32) (x6 : Int32) (t0 : Int32) (S : gS) : Option (Int32 × gS) := chk (inb (S 99 20) (700)) (lt (sU S 19 (Int32.toNatClampNeg (S 99 20)) ((((t0 >>> (((24 - ((8 * ((x6 - x6 / 4 * 4 : Int32)) : Int32)) : Int32)) &&& 31) : Int32)) &&& 255 : Int32))) fun S1 => (lt (sU S1 99 20 (((S1 99 20) + 1 : Int32))) fun S2 => (r23 x1 x2 x3 x4 x5 ((x6 + 1 : Int32)) S2)))
theorem bX12_feed_76 {N : Nat} {r23 : Int32 → Int32 → Int32 → Int32 → Int32 → Int32 → gS → Option (Int32 × gS)} {x1 : Int32} {x2 : Int32} {x3 : Int32} {x4 : Int32} {x5 : Int32} {x6 : Int32} {t0 : Int32} {S : gS} {H : Heap} {locs : List Loc} {ls : Array Slot} {o : Int32 × gS} (C : gC p s m args meth c cX12_feed 8 RX12 ((some .int)) D (mtys cI cS) mord g Am) (O : gO (mcell g cI cS sa) mord g) (K23 : ∀ (x1 : Int32) (x2 : Int32) (x3 : Int32) (x4 : Int32) (x5 : Int32) (x6 : Int32) (S : gS) (H : Heap) (locs : List Loc) (ls : Array Slot), gX D (mcell g cI cS sa) mord g S s H locs → lv_has ls 8 [(0, .ref (g 99)), (1, .int x1), (2, .int x2), (3, .int x3), (4, .int x4), (5, .int x5), (6, .int x6)] → r23 x1 x2 x3 x4 x5 x6 S = some o → W p l e (rmd 0) s m args below meth c H locs 0 0 (gE below args s D (mtys cI cS) (mcell g cI cS sa) mord g (some (.int o.1)) o.2) (F0 m 23 ls [])) (X : gX D (mcell g cI cS sa) mord g S s H locs) (hl : lv_has ls 8 [(0, .ref (g 99)), (1, .int x1), (2, .int x2), (3, .int x3), (4, .int x4), (5, .int x5), (6, .int x6)]) (hF : fX12_feed_b76 N r23 x1 x2 x3 x4 x5 x6 t0 S = some o) : W p l e (rmd 0) s m args below meth c H locs 0 0 (gE below args s D (mtys cI cS) (mcell g cI cS sa) mord g (some (.int o.1)) o.2) (F0 m 76 ls [.int t0]) := by
  unfold fX12_feed_b76 at hF
  refine lv_istore (lv' := [(7, .int t0), (0, .ref (g 99)), (1, .int x1), (2, .int x2), (3, .int x3), (4, .int x4), (5, .int x5), (6, .int x6)]) C.1.1 C.1.2.1 dX12_feed_76 hl (by decide) rfl (fun ls hl => ?_)
  refine lv_aload_n C.1.1 C.1.2.1 dX12_feed_78 rfl (lv_at hl 1 rfl) ?_
  refine m_g19 C X dX12_feed_79 ?_
  refine lv_aload_n C.1.1 C.1.2.1 dX12_feed_82 rfl (lv_at hl 1 rfl) ?_
  refine m_g20 C X dX12_feed_83 ?_
  refine lv_iload C.1.1 C.1.2.1 dX12_feed_86 (lv_at hl 0 rfl) ?_
  refine lv_bipush (v := 24) C.1.1 C.1.2.1 dX12_feed_88 (by decide) ?_
  refine lv_bipush (v := 8) C.1.1 C.1.2.1 dX12_feed_90 (by decide) ?_
  refine lv_iload C.1.1 C.1.2.1 dX12_feed_92 (lv_at hl 7 rfl) ?_
  refine lv_iconst (v := 4) C.1.1 C.1.2.1 dX12_feed_94 (by decide) ?_
  refine lv_irem C.1.1 C.1.2.1 dX12_feed_95 (by decide) ?_
  refine lv_imul C.1.1 C.1.2.1 dX12_feed_96 ?_
  refine lv_isub C.1.1 C.1.2.1 dX12_feed_97 ?_
  refine lv_ishr C.1.1 C.1.2.1 dX12_feed_98 ?_
  refine lv_sipush (v := 255) C.1.1 C.1.2.1 dX12_feed_99 (by decide) ?_
  refine lv_iand C.1.1 C.1.2.1 dX12_feed_102 ?_
  obtain ⟨h_1, hF⟩ := chk_some hF
  obtain ⟨S1, eS1, hF⟩ := lt_some hF
  refine m_w19 C O X  (inb_vp h_1) rfl eS1 dX12_feed_103 (fun H locs X => ?_)
  refine lv_aload_n C.1.1 C.1.2.1 dX12_feed_104 rfl (lv_at hl 1 rfl) ?_
  refine lv_dup C.1.1 C.1.2.1 dX12_feed_105 rfl ?_
  refine m_g20 C X dX12_feed_106 ?_
  refine lv_iconst (v := 1) C.1.1 C.1.2.1 dX12_feed_109 (by decide) ?_
  refine lv_iadd C.1.1 C.1.2.1 dX12_feed_110 ?_
  obtain ⟨S2, eS2, hF⟩ := lt_some hF
  refine m_p20 C O X eS2 dX12_feed_111 (fun H locs X => ?_)
  refine lv_iinc (v := (x6 + 1 : Int32)) (lv' := [(6, .int ((x6 + 1 : Int32))), (7, .int t0), (0, .ref (g 99)), (1, .int x1), (2, .int x2), (3, .int x3), (4, .int x4), (5, .int x5)]) C.1.1 C.1.2.1 dX12_feed_114 hl (k := 7) rfl rfl (by decide) rfl (fun ls hl => ?_)
  refine lv_goto (tgt := 23) C.1.1 C.1.2.1 dX12_feed_117 (by decide) ?_
  exact K23 _ _ _ _ _ _ _ _ _ _ X (lv_sub hl [2, 3, 4, 5, 6, 7, 0] rfl) hF
noncomputable def fX12_feed_b74 (N : Nat) (r23 : Int32 → Int32 → Int32 → Int32 → Int32 → Int32 → gS → Option (Int32 × gS)) (x1 : Int32) (x2 : Int32) (x3 : Int32) (x4 : Int32) (x5 : Int32) (x6 : Int32) (S : gS) : Option (Int32 × gS) := fX12_feed_b76 N r23 x1 x2 x3 x4 x5 x6 x5 S
theorem bX12_feed_74 {N : Nat} {r23 : Int32 → Int32 → Int32 → Int32 → Int32 → Int32 → gS → Option (Int32 × gS)} {x1 : Int32} {x2 : Int32} {x3 : Int32} {x4 : Int32} {x5 : Int32} {x6 : Int32} {S : gS} {H : Heap} {locs : List Loc} {ls : Array Slot} {o : Int32 × gS} (C : gC p s m args meth c cX12_feed 8 RX12 ((some .int)) D (mtys cI cS) mord g Am) (O : gO (mcell g cI cS sa) mord g) (K23 : ∀ (x1 : Int32) (x2 : Int32) (x3 : Int32) (x4 : Int32) (x5 : Int32) (x6 : Int32) (S : gS) (H : Heap) (locs : List Loc) (ls : Array Slot), gX D (mcell g cI cS sa) mord g S s H locs → lv_has ls 8 [(0, .ref (g 99)), (1, .int x1), (2, .int x2), (3, .int x3), (4, .int x4), (5, .int x5), (6, .int x6)] → r23 x1 x2 x3 x4 x5 x6 S = some o → W p l e (rmd 0) s m args below meth c H locs 0 0 (gE below args s D (mtys cI cS) (mcell g cI cS sa) mord g (some (.int o.1)) o.2) (F0 m 23 ls [])) (X : gX D (mcell g cI cS sa) mord g S s H locs) (hl : lv_has ls 8 [(0, .ref (g 99)), (1, .int x1), (2, .int x2), (3, .int x3), (4, .int x4), (5, .int x5), (6, .int x6)]) (hF : fX12_feed_b74 N r23 x1 x2 x3 x4 x5 x6 S = some o) : W p l e (rmd 0) s m args below meth c H locs 0 0 (gE below args s D (mtys cI cS) (mcell g cI cS sa) mord g (some (.int o.1)) o.2) (F0 m 74 ls []) := by
  unfold fX12_feed_b74 at hF
  refine lv_iload C.1.1 C.1.2.1 dX12_feed_74 (lv_at hl 5 rfl) ?_
  exact bX12_feed_76 C O K23 X (lv_sub hl [0, 1, 2, 3, 4, 5, 6] rfl) hF
noncomputable def fX12_feed_b69 (N : Nat) (r23 : Int32 → Int32 → Int32 → Int32 → Int32 → Int32 → gS → Option (Int32 × gS)) (x1 : Int32) (x2 : Int32) (x3 : Int32) (x4 : Int32) (x5 : Int32) (x6 : Int32) (S : gS) : Option (Int32 × gS) := fX12_feed_b76 N r23 x1 x2 x3 x4 x5 x6 x4 S
theorem bX12_feed_69 {N : Nat} {r23 : Int32 → Int32 → Int32 → Int32 → Int32 → Int32 → gS → Option (Int32 × gS)} {x1 : Int32} {x2 : Int32} {x3 : Int32} {x4 : Int32} {x5 : Int32} {x6 : Int32} {S : gS} {H : Heap} {locs : List Loc} {ls : Array Slot} {o : Int32 × gS} (C : gC p s m args meth c cX12_feed 8 RX12 ((some .int)) D (mtys cI cS) mord g Am) (O : gO (mcell g cI cS sa) mord g) (K23 : ∀ (x1 : Int32) (x2 : Int32) (x3 : Int32) (x4 : Int32) (x5 : Int32) (x6 : Int32) (S : gS) (H : Heap) (locs : List Loc) (ls : Array Slot), gX D (mcell g cI cS sa) mord g S s H locs → lv_has ls 8 [(0, .ref (g 99)), (1, .int x1), (2, .int x2), (3, .int x3), (4, .int x4), (5, .int x5), (6, .int x6)] → r23 x1 x2 x3 x4 x5 x6 S = some o → W p l e (rmd 0) s m args below meth c H locs 0 0 (gE below args s D (mtys cI cS) (mcell g cI cS sa) mord g (some (.int o.1)) o.2) (F0 m 23 ls [])) (X : gX D (mcell g cI cS sa) mord g S s H locs) (hl : lv_has ls 8 [(0, .ref (g 99)), (1, .int x1), (2, .int x2), (3, .int x3), (4, .int x4), (5, .int x5), (6, .int x6)]) (hF : fX12_feed_b69 N r23 x1 x2 x3 x4 x5 x6 S = some o) : W p l e (rmd 0) s m args below meth c H locs 0 0 (gE below args s D (mtys cI cS) (mcell g cI cS sa) mord g (some (.int o.1)) o.2) (F0 m 69 ls []) := by
  unfold fX12_feed_b69 at hF
  refine lv_iload C.1.1 C.1.2.1 dX12_feed_69 (lv_at hl 4 rfl) ?_
  refine lv_goto (tgt := 76) C.1.1 C.1.2.1 dX12_feed_71 (by decide) ?_
  exact bX12_feed_76 C O K23 X (lv_sub hl [0, 1, 2, 3, 4, 5, 6] rfl) hF
noncomputable def fX12_feed_b62 (N : Nat) (r23 : Int32 → Int32 → Int32 → Int32 → Int32 → Int32 → gS → Option (Int32 × gS)) (x1 : Int32) (x2 : Int32) (x3 : Int32) (x4 : Int32) (x5 : Int32) (x6 : Int32) (S : gS) : Option (Int32 × gS) := if 16 ≤ x6 then fX12_feed_b74 N r23 x1 x2 x3 x4 x5 x6 S else fX12_feed_b69 N r23 x1 x2 x3 x4 x5 x6 S
theorem bX12_feed_62 {N : Nat} {r23 : Int32 → Int32 → Int32 → Int32 → Int32 → Int32 → gS → Option (Int32 × gS)} {x1 : Int32} {x2 : Int32} {x3 : Int32} {x4 : Int32} {x5 : Int32} {x6 : Int32} {S : gS} {H : Heap} {locs : List Loc} {ls : Array Slot} {o : Int32 × gS} (C : gC p s m args meth c cX12_feed 8 RX12 ((some .int)) D (mtys cI cS) mord g Am) (O : gO (mcell g cI cS sa) mord g) (K23 : ∀ (x1 : Int32) (x2 : Int32) (x3 : Int32) (x4 : Int32) (x5 : Int32) (x6 : Int32) (S : gS) (H : Heap) (locs : List Loc) (ls : Array Slot), gX D (mcell g cI cS sa) mord g S s H locs → lv_has ls 8 [(0, .ref (g 99)), (1, .int x1), (2, .int x2), (3, .int x3), (4, .int x4), (5, .int x5), (6, .int x6)] → r23 x1 x2 x3 x4 x5 x6 S = some o → W p l e (rmd 0) s m args below meth c H locs 0 0 (gE below args s D (mtys cI cS) (mcell g cI cS sa) mord g (some (.int o.1)) o.2) (F0 m 23 ls [])) (X : gX D (mcell g cI cS sa) mord g S s H locs) (hl : lv_has ls 8 [(0, .ref (g 99)), (1, .int x1), (2, .int x2), (3, .int x3), (4, .int x4), (5, .int x5), (6, .int x6)]) (hF : fX12_feed_b62 N r23 x1 x2 x3 x4 x5 x6 S = some o) : W p l e (rmd 0) s m args below meth c H locs 0 0 (gE below args s D (mtys cI cS) (mcell g cI cS sa) mord g (some (.int o.1)) o.2) (F0 m 62 ls []) := by
  unfold fX12_feed_b62 at hF
  refine lv_iload C.1.1 C.1.2.1 dX12_feed_62 (lv_at hl 6 rfl) ?_
  refine lv_bipush (v := 16) C.1.1 C.1.2.1 dX12_feed_64 (by decide) ?_
  refine lv_icmp_ge (tgt := 74) C.1.1 C.1.2.1 dX12_feed_66 (by decide) (fun h_z => ?_) (fun h_z => ?_)
  · rw [if_pos h_z] at hF
    exact bX12_feed_74 C O K23 X (lv_sub hl [0, 1, 2, 3, 4, 5, 6] rfl) hF
  · rw [if_neg h_z] at hF
    exact bX12_feed_69 C O K23 X (lv_sub hl [0, 1, 2, 3, 4, 5, 6] rfl) hF
noncomputable def fX12_feed_b58 (N : Nat) (r23 : Int32 → Int32 → Int32 → Int32 → Int32 → Int32 → gS → Option (Int32 × gS)) (x1 : Int32) (x2 : Int32) (x3 : Int32) (x4 : Int32) (x5 : Int32) (x6 : Int32) (S : gS) : Option (Int32 × gS) := fX12_feed_b76 N r23 x1 x2 x3 x4 x5 x6 x3 S
theorem bX12_feed_58 {N : Nat} {r23 : Int32 → Int32 → Int32 → Int32 → Int32 → Int32 → gS → Option (Int32 × gS)} {x1 : Int32} {x2 : Int32} {x3 : Int32} {x4 : Int32} {x5 : Int32} {x6 : Int32} {S : gS} {H : Heap} {locs : List Loc} {ls : Array Slot} {o : Int32 × gS} (C : gC p s m args meth c cX12_feed 8 RX12 ((some .int)) D (mtys cI cS) mord g Am) (O : gO (mcell g cI cS sa) mord g) (K23 : ∀ (x1 : Int32) (x2 : Int32) (x3 : Int32) (x4 : Int32) (x5 : Int32) (x6 : Int32) (S : gS) (H : Heap) (locs : List Loc) (ls : Array Slot), gX D (mcell g cI cS sa) mord g S s H locs → lv_has ls 8 [(0, .ref (g 99)), (1, .int x1), (2, .int x2), (3, .int x3), (4, .int x4), (5, .int x5), (6, .int x6)] → r23 x1 x2 x3 x4 x5 x6 S = some o → W p l e (rmd 0) s m args below meth c H locs 0 0 (gE below args s D (mtys cI cS) (mcell g cI cS sa) mord g (some (.int o.1)) o.2) (F0 m 23 ls [])) (X : gX D (mcell g cI cS sa) mord g S s H locs) (hl : lv_has ls 8 [(0, .ref (g 99)), (1, .int x1), (2, .int x2), (3, .int x3), (4, .int x4), (5, .int x5), (6, .int x6)]) (hF : fX12_feed_b58 N r23 x1 x2 x3 x4 x5 x6 S = some o) : W p l e (rmd 0) s m args below meth c H locs 0 0 (gE below args s D (mtys cI cS) (mcell g cI cS sa) mord g (some (.int o.1)) o.2) (F0 m 58 ls []) := by
  unfold fX12_feed_b58 at hF
  refine lv_iload_n C.1.1 C.1.2.1 dX12_feed_58 rfl (lv_at hl 3 rfl) ?_
  refine lv_goto (tgt := 76) C.1.1 C.1.2.1 dX12_feed_59 (by decide) ?_
  exact bX12_feed_76 C O K23 X (lv_sub hl [0, 1, 2, 3, 4, 5, 6] rfl) hF
noncomputable def fX12_feed_b51 (N : Nat) (r23 : Int32 → Int32 → Int32 → Int32 → Int32 → Int32 → gS → Option (Int32 × gS)) (x1 : Int32) (x2 : Int32) (x3 : Int32) (x4 : Int32) (x5 : Int32) (x6 : Int32) (S : gS) : Option (Int32 × gS) := if 12 ≤ x6 then fX12_feed_b62 N r23 x1 x2 x3 x4 x5 x6 S else fX12_feed_b58 N r23 x1 x2 x3 x4 x5 x6 S
theorem bX12_feed_51 {N : Nat} {r23 : Int32 → Int32 → Int32 → Int32 → Int32 → Int32 → gS → Option (Int32 × gS)} {x1 : Int32} {x2 : Int32} {x3 : Int32} {x4 : Int32} {x5 : Int32} {x6 : Int32} {S : gS} {H : Heap} {locs : List Loc} {ls : Array Slot} {o : Int32 × gS} (C : gC p s m args meth c cX12_feed 8 RX12 ((some .int)) D (mtys cI cS) mord g Am) (O : gO (mcell g cI cS sa) mord g) (K23 : ∀ (x1 : Int32) (x2 : Int32) (x3 : Int32) (x4 : Int32) (x5 : Int32) (x6 : Int32) (S : gS) (H : Heap) (locs : List Loc) (ls : Array Slot), gX D (mcell g cI cS sa) mord g S s H locs → lv_has ls 8 [(0, .ref (g 99)), (1, .int x1), (2, .int x2), (3, .int x3), (4, .int x4), (5, .int x5), (6, .int x6)] → r23 x1 x2 x3 x4 x5 x6 S = some o → W p l e (rmd 0) s m args below meth c H locs 0 0 (gE below args s D (mtys cI cS) (mcell g cI cS sa) mord g (some (.int o.1)) o.2) (F0 m 23 ls [])) (X : gX D (mcell g cI cS sa) mord g S s H locs) (hl : lv_has ls 8 [(0, .ref (g 99)), (1, .int x1), (2, .int x2), (3, .int x3), (4, .int x4), (5, .int x5), (6, .int x6)]) (hF : fX12_feed_b51 N r23 x1 x2 x3 x4 x5 x6 S = some o) : W p l e (rmd 0) s m args below meth c H locs 0 0 (gE below args s D (mtys cI cS) (mcell g cI cS sa) mord g (some (.int o.1)) o.2) (F0 m 51 ls []) := by
  unfold fX12_feed_b51 at hF
  refine lv_iload C.1.1 C.1.2.1 dX12_feed_51 (lv_at hl 6 rfl) ?_
  refine lv_bipush (v := 12) C.1.1 C.1.2.1 dX12_feed_53 (by decide) ?_
  refine lv_icmp_ge (tgt := 62) C.1.1 C.1.2.1 dX12_feed_55 (by decide) (fun h_z => ?_) (fun h_z => ?_)
  · rw [if_pos h_z] at hF
    exact bX12_feed_62 C O K23 X (lv_sub hl [0, 1, 2, 3, 4, 5, 6] rfl) hF
  · rw [if_neg h_z] at hF
    exact bX12_feed_58 C O K23 X (lv_sub hl [0, 1, 2, 3, 4, 5, 6] rfl) hF
noncomputable def fX12_feed_b47 (N : Nat) (r23 : Int32 → Int32 → Int32 → Int32 → Int32 → Int32 → gS → Option (Int32 × gS)) (x1 : Int32) (x2 : Int32) (x3 : Int32) (x4 : Int32) (x5 : Int32) (x6 : Int32) (S : gS) : Option (Int32 × gS) := fX12_feed_b76 N r23 x1 x2 x3 x4 x5 x6 x2 S
theorem bX12_feed_47 {N : Nat} {r23 : Int32 → Int32 → Int32 → Int32 → Int32 → Int32 → gS → Option (Int32 × gS)} {x1 : Int32} {x2 : Int32} {x3 : Int32} {x4 : Int32} {x5 : Int32} {x6 : Int32} {S : gS} {H : Heap} {locs : List Loc} {ls : Array Slot} {o : Int32 × gS} (C : gC p s m args meth c cX12_feed 8 RX12 ((some .int)) D (mtys cI cS) mord g Am) (O : gO (mcell g cI cS sa) mord g) (K23 : ∀ (x1 : Int32) (x2 : Int32) (x3 : Int32) (x4 : Int32) (x5 : Int32) (x6 : Int32) (S : gS) (H : Heap) (locs : List Loc) (ls : Array Slot), gX D (mcell g cI cS sa) mord g S s H locs → lv_has ls 8 [(0, .ref (g 99)), (1, .int x1), (2, .int x2), (3, .int x3), (4, .int x4), (5, .int x5), (6, .int x6)] → r23 x1 x2 x3 x4 x5 x6 S = some o → W p l e (rmd 0) s m args below meth c H locs 0 0 (gE below args s D (mtys cI cS) (mcell g cI cS sa) mord g (some (.int o.1)) o.2) (F0 m 23 ls [])) (X : gX D (mcell g cI cS sa) mord g S s H locs) (hl : lv_has ls 8 [(0, .ref (g 99)), (1, .int x1), (2, .int x2), (3, .int x3), (4, .int x4), (5, .int x5), (6, .int x6)]) (hF : fX12_feed_b47 N r23 x1 x2 x3 x4 x5 x6 S = some o) : W p l e (rmd 0) s m args below meth c H locs 0 0 (gE below args s D (mtys cI cS) (mcell g cI cS sa) mord g (some (.int o.1)) o.2) (F0 m 47 ls []) := by
  unfold fX12_feed_b47 at hF
  refine lv_iload_n C.1.1 C.1.2.1 dX12_feed_47 rfl (lv_at hl 2 rfl) ?_
  refine lv_goto (tgt := 76) C.1.1 C.1.2.1 dX12_feed_48 (by decide) ?_
  exact bX12_feed_76 C O K23 X (lv_sub hl [0, 1, 2, 3, 4, 5, 6] rfl) hF
noncomputable def fX12_feed_b40 (N : Nat) (r23 : Int32 → Int32 → Int32 → Int32 → Int32 → Int32 → gS → Option (Int32 × gS)) (x1 : Int32) (x2 : Int32) (x3 : Int32) (x4 : Int32) (x5 : Int32) (x6 : Int32) (S : gS) : Option (Int32 × gS) := if 8 ≤ x6 then fX12_feed_b51 N r23 x1 x2 x3 x4 x5 x6 S else fX12_feed_b47 N r23 x1 x2 x3 x4 x5 x6 S
theorem bX12_feed_40 {N : Nat} {r23 : Int32 → Int32 → Int32 → Int32 → Int32 → Int32 → gS → Option (Int32 × gS)} {x1 : Int32} {x2 : Int32} {x3 : Int32} {x4 : Int32} {x5 : Int32} {x6 : Int32} {S : gS} {H : Heap} {locs : List Loc} {ls : Array Slot} {o : Int32 × gS} (C : gC p s m args meth c cX12_feed 8 RX12 ((some .int)) D (mtys cI cS) mord g Am) (O : gO (mcell g cI cS sa) mord g) (K23 : ∀ (x1 : Int32) (x2 : Int32) (x3 : Int32) (x4 : Int32) (x5 : Int32) (x6 : Int32) (S : gS) (H : Heap) (locs : List Loc) (ls : Array Slot), gX D (mcell g cI cS sa) mord g S s H locs → lv_has ls 8 [(0, .ref (g 99)), (1, .int x1), (2, .int x2), (3, .int x3), (4, .int x4), (5, .int x5), (6, .int x6)] → r23 x1 x2 x3 x4 x5 x6 S = some o → W p l e (rmd 0) s m args below meth c H locs 0 0 (gE below args s D (mtys cI cS) (mcell g cI cS sa) mord g (some (.int o.1)) o.2) (F0 m 23 ls [])) (X : gX D (mcell g cI cS sa) mord g S s H locs) (hl : lv_has ls 8 [(0, .ref (g 99)), (1, .int x1), (2, .int x2), (3, .int x3), (4, .int x4), (5, .int x5), (6, .int x6)]) (hF : fX12_feed_b40 N r23 x1 x2 x3 x4 x5 x6 S = some o) : W p l e (rmd 0) s m args below meth c H locs 0 0 (gE below args s D (mtys cI cS) (mcell g cI cS sa) mord g (some (.int o.1)) o.2) (F0 m 40 ls []) := by
  unfold fX12_feed_b40 at hF
  refine lv_iload C.1.1 C.1.2.1 dX12_feed_40 (lv_at hl 6 rfl) ?_
  refine lv_bipush (v := 8) C.1.1 C.1.2.1 dX12_feed_42 (by decide) ?_
  refine lv_icmp_ge (tgt := 51) C.1.1 C.1.2.1 dX12_feed_44 (by decide) (fun h_z => ?_) (fun h_z => ?_)
  · rw [if_pos h_z] at hF
    exact bX12_feed_51 C O K23 X (lv_sub hl [0, 1, 2, 3, 4, 5, 6] rfl) hF
  · rw [if_neg h_z] at hF
    exact bX12_feed_47 C O K23 X (lv_sub hl [0, 1, 2, 3, 4, 5, 6] rfl) hF
noncomputable def fX12_feed_b36 (N : Nat) (r23 : Int32 → Int32 → Int32 → Int32 → Int32 → Int32 → gS → Option (Int32 × gS)) (x1 : Int32) (x2 : Int32) (x3 : Int32) (x4 : Int32) (x5 : Int32) (x6 : Int32) (S : gS) : Option (Int32 × gS) := fX12_feed_b76 N r23 x1 x2 x3 x4 x5 x6 x1 S
theorem bX12_feed_36 {N : Nat} {r23 : Int32 → Int32 → Int32 → Int32 → Int32 → Int32 → gS → Option (Int32 × gS)} {x1 : Int32} {x2 : Int32} {x3 : Int32} {x4 : Int32} {x5 : Int32} {x6 : Int32} {S : gS} {H : Heap} {locs : List Loc} {ls : Array Slot} {o : Int32 × gS} (C : gC p s m args meth c cX12_feed 8 RX12 ((some .int)) D (mtys cI cS) mord g Am) (O : gO (mcell g cI cS sa) mord g) (K23 : ∀ (x1 : Int32) (x2 : Int32) (x3 : Int32) (x4 : Int32) (x5 : Int32) (x6 : Int32) (S : gS) (H : Heap) (locs : List Loc) (ls : Array Slot), gX D (mcell g cI cS sa) mord g S s H locs → lv_has ls 8 [(0, .ref (g 99)), (1, .int x1), (2, .int x2), (3, .int x3), (4, .int x4), (5, .int x5), (6, .int x6)] → r23 x1 x2 x3 x4 x5 x6 S = some o → W p l e (rmd 0) s m args below meth c H locs 0 0 (gE below args s D (mtys cI cS) (mcell g cI cS sa) mord g (some (.int o.1)) o.2) (F0 m 23 ls [])) (X : gX D (mcell g cI cS sa) mord g S s H locs) (hl : lv_has ls 8 [(0, .ref (g 99)), (1, .int x1), (2, .int x2), (3, .int x3), (4, .int x4), (5, .int x5), (6, .int x6)]) (hF : fX12_feed_b36 N r23 x1 x2 x3 x4 x5 x6 S = some o) : W p l e (rmd 0) s m args below meth c H locs 0 0 (gE below args s D (mtys cI cS) (mcell g cI cS sa) mord g (some (.int o.1)) o.2) (F0 m 36 ls []) := by
  unfold fX12_feed_b36 at hF
  refine lv_iload_n C.1.1 C.1.2.1 dX12_feed_36 rfl (lv_at hl 1 rfl) ?_
  refine lv_goto (tgt := 76) C.1.1 C.1.2.1 dX12_feed_37 (by decide) ?_
  exact bX12_feed_76 C O K23 X (lv_sub hl [0, 1, 2, 3, 4, 5, 6] rfl) hF
noncomputable def fX12_feed_b30 (N : Nat) (r23 : Int32 → Int32 → Int32 → Int32 → Int32 → Int32 → gS → Option (Int32 × gS)) (x1 : Int32) (x2 : Int32) (x3 : Int32) (x4 : Int32) (x5 : Int32) (x6 : Int32) (S : gS) : Option (Int32 × gS) := if 4 ≤ x6 then fX12_feed_b40 N r23 x1 x2 x3 x4 x5 x6 S else fX12_feed_b36 N r23 x1 x2 x3 x4 x5 x6 S
theorem bX12_feed_30 {N : Nat} {r23 : Int32 → Int32 → Int32 → Int32 → Int32 → Int32 → gS → Option (Int32 × gS)} {x1 : Int32} {x2 : Int32} {x3 : Int32} {x4 : Int32} {x5 : Int32} {x6 : Int32} {S : gS} {H : Heap} {locs : List Loc} {ls : Array Slot} {o : Int32 × gS} (C : gC p s m args meth c cX12_feed 8 RX12 ((some .int)) D (mtys cI cS) mord g Am) (O : gO (mcell g cI cS sa) mord g) (K23 : ∀ (x1 : Int32) (x2 : Int32) (x3 : Int32) (x4 : Int32) (x5 : Int32) (x6 : Int32) (S : gS) (H : Heap) (locs : List Loc) (ls : Array Slot), gX D (mcell g cI cS sa) mord g S s H locs → lv_has ls 8 [(0, .ref (g 99)), (1, .int x1), (2, .int x2), (3, .int x3), (4, .int x4), (5, .int x5), (6, .int x6)] → r23 x1 x2 x3 x4 x5 x6 S = some o → W p l e (rmd 0) s m args below meth c H locs 0 0 (gE below args s D (mtys cI cS) (mcell g cI cS sa) mord g (some (.int o.1)) o.2) (F0 m 23 ls [])) (X : gX D (mcell g cI cS sa) mord g S s H locs) (hl : lv_has ls 8 [(0, .ref (g 99)), (1, .int x1), (2, .int x2), (3, .int x3), (4, .int x4), (5, .int x5), (6, .int x6)]) (hF : fX12_feed_b30 N r23 x1 x2 x3 x4 x5 x6 S = some o) : W p l e (rmd 0) s m args below meth c H locs 0 0 (gE below args s D (mtys cI cS) (mcell g cI cS sa) mord g (some (.int o.1)) o.2) (F0 m 30 ls []) := by
  unfold fX12_feed_b30 at hF
  refine lv_iload C.1.1 C.1.2.1 dX12_feed_30 (lv_at hl 6 rfl) ?_
  refine lv_iconst (v := 4) C.1.1 C.1.2.1 dX12_feed_32 (by decide) ?_
  refine lv_icmp_ge (tgt := 40) C.1.1 C.1.2.1 dX12_feed_33 (by decide) (fun h_z => ?_) (fun h_z => ?_)
  · rw [if_pos h_z] at hF
    exact bX12_feed_40 C O K23 X (lv_sub hl [0, 1, 2, 3, 4, 5, 6] rfl) hF
  · rw [if_neg h_z] at hF
    exact bX12_feed_36 C O K23 X (lv_sub hl [0, 1, 2, 3, 4, 5, 6] rfl) hF
noncomputable def fX12_feed_b23 (N : Nat) (r23 : Int32 → Int32 → Int32 → Int32 → Int32 → Int32 → gS → Option (Int32 × gS)) (x1 : Int32) (x2 : Int32) (x3 : Int32) (x4 : Int32) (x5 : Int32) (x6 : Int32) (S : gS) : Option (Int32 × gS) := if 20 ≤ x6 then fX12_feed_b120 N S else fX12_feed_b30 N r23 x1 x2 x3 x4 x5 x6 S
theorem bX12_feed_23 {N : Nat} {r23 : Int32 → Int32 → Int32 → Int32 → Int32 → Int32 → gS → Option (Int32 × gS)} {x1 : Int32} {x2 : Int32} {x3 : Int32} {x4 : Int32} {x5 : Int32} {x6 : Int32} {S : gS} {H : Heap} {locs : List Loc} {ls : Array Slot} {o : Int32 × gS} (C : gC p s m args meth c cX12_feed 8 RX12 ((some .int)) D (mtys cI cS) mord g Am) (O : gO (mcell g cI cS sa) mord g) (K23 : ∀ (x1 : Int32) (x2 : Int32) (x3 : Int32) (x4 : Int32) (x5 : Int32) (x6 : Int32) (S : gS) (H : Heap) (locs : List Loc) (ls : Array Slot), gX D (mcell g cI cS sa) mord g S s H locs → lv_has ls 8 [(0, .ref (g 99)), (1, .int x1), (2, .int x2), (3, .int x3), (4, .int x4), (5, .int x5), (6, .int x6)] → r23 x1 x2 x3 x4 x5 x6 S = some o → W p l e (rmd 0) s m args below meth c H locs 0 0 (gE below args s D (mtys cI cS) (mcell g cI cS sa) mord g (some (.int o.1)) o.2) (F0 m 23 ls [])) (X : gX D (mcell g cI cS sa) mord g S s H locs) (hl : lv_has ls 8 [(0, .ref (g 99)), (1, .int x1), (2, .int x2), (3, .int x3), (4, .int x4), (5, .int x5), (6, .int x6)]) (hF : fX12_feed_b23 N r23 x1 x2 x3 x4 x5 x6 S = some o) : W p l e (rmd 0) s m args below meth c H locs 0 0 (gE below args s D (mtys cI cS) (mcell g cI cS sa) mord g (some (.int o.1)) o.2) (F0 m 23 ls []) := by
  unfold fX12_feed_b23 at hF
  refine lv_iload C.1.1 C.1.2.1 dX12_feed_23 (lv_at hl 6 rfl) ?_
  refine lv_bipush (v := 20) C.1.1 C.1.2.1 dX12_feed_25 (by decide) ?_
  refine lv_icmp_ge (tgt := 120) C.1.1 C.1.2.1 dX12_feed_27 (by decide) (fun h_z => ?_) (fun h_z => ?_)
  · rw [if_pos h_z] at hF
    exact bX12_feed_120 C O X (lv_sub hl [0] rfl) hF
  · rw [if_neg h_z] at hF
    exact bX12_feed_30 C O K23 X (lv_sub hl [0, 1, 2, 3, 4, 5, 6] rfl) hF
noncomputable def fX12_feed_h23 (N : Nat) : Nat → Int32 → Int32 → Int32 → Int32 → Int32 → Int32 → gS → Option (Int32 × gS)
  | 0, _, _, _, _, _, _, _ => none
  | n + 1, x1, x2, x3, x4, x5, x6, S => fX12_feed_b23 N (fX12_feed_h23 N n) x1 x2 x3 x4 x5 x6 S
theorem hX12_feed_23 {N : Nat} {o : Int32 × gS} (C : gC p s m args meth c cX12_feed 8 RX12 ((some .int)) D (mtys cI cS) mord g Am) (O : gO (mcell g cI cS sa) mord g) : ∀ (n : Nat) (x1 : Int32) (x2 : Int32) (x3 : Int32) (x4 : Int32) (x5 : Int32) (x6 : Int32) (S : gS) (H : Heap) (locs : List Loc) (ls : Array Slot), gX D (mcell g cI cS sa) mord g S s H locs → lv_has ls 8 [(0, .ref (g 99)), (1, .int x1), (2, .int x2), (3, .int x3), (4, .int x4), (5, .int x5), (6, .int x6)] → fX12_feed_h23 N n x1 x2 x3 x4 x5 x6 S = some o → W p l e (rmd 0) s m args below meth c H locs 0 0 (gE below args s D (mtys cI cS) (mcell g cI cS sa) mord g (some (.int o.1)) o.2) (F0 m 23 ls []) := by
  intro n
  induction n with
  | zero =>
    intro x1 x2 x3 x4 x5 x6 S H locs ls X hl hF
    exact absurd (show (none : Option (Int32 × gS)) = some o from hF) (by simp)
  | succ n ih =>
    intro x1 x2 x3 x4 x5 x6 S H locs ls X hl hF
    have hF : fX12_feed_b23 N (fX12_feed_h23 N n) x1 x2 x3 x4 x5 x6 S = some o := hF
    exact bX12_feed_23 C O ih X hl hF
noncomputable def fX12_feed_b20 (N : Nat) (x1 : Int32) (x2 : Int32) (x3 : Int32) (x4 : Int32) (x5 : Int32) (S : gS) : Option (Int32 × gS) := fX12_feed_h23 N N x1 x2 x3 x4 x5 0 S
theorem bX12_feed_20 {N : Nat} {x1 : Int32} {x2 : Int32} {x3 : Int32} {x4 : Int32} {x5 : Int32} {S : gS} {H : Heap} {locs : List Loc} {ls : Array Slot} {o : Int32 × gS} (C : gC p s m args meth c cX12_feed 8 RX12 ((some .int)) D (mtys cI cS) mord g Am) (O : gO (mcell g cI cS sa) mord g) (X : gX D (mcell g cI cS sa) mord g S s H locs) (hl : lv_has ls 8 [(0, .ref (g 99)), (1, .int x1), (2, .int x2), (3, .int x3), (4, .int x4), (5, .int x5)]) (hF : fX12_feed_b20 N x1 x2 x3 x4 x5 S = some o) : W p l e (rmd 0) s m args below meth c H locs 0 0 (gE below args s D (mtys cI cS) (mcell g cI cS sa) mord g (some (.int o.1)) o.2) (F0 m 20 ls []) := by
  unfold fX12_feed_b20 at hF
  refine lv_iconst (v := 0) C.1.1 C.1.2.1 dX12_feed_20 (by decide) ?_
  refine lv_istore (lv' := [(6, .int 0), (0, .ref (g 99)), (1, .int x1), (2, .int x2), (3, .int x3), (4, .int x4), (5, .int x5)]) C.1.1 C.1.2.1 dX12_feed_21 hl (by decide) rfl (fun ls hl => ?_)
  exact hX12_feed_23 C O N _ _ _ _ _ _ _ _ _ _ X (lv_sub hl [1, 2, 3, 4, 5, 6, 0] rfl) hF
noncomputable def fX12_feed_b18 (N : Nat) (S : gS) : Option (Int32 × gS) := some ((-1), S)
theorem bX12_feed_18 {N : Nat} {S : gS} {H : Heap} {locs : List Loc} {ls : Array Slot} {o : Int32 × gS} (C : gC p s m args meth c cX12_feed 8 RX12 ((some .int)) D (mtys cI cS) mord g Am) (O : gO (mcell g cI cS sa) mord g) (X : gX D (mcell g cI cS sa) mord g S s H locs) (hl : lv_has ls 8 []) (hF : fX12_feed_b18 N S = some o) : W p l e (rmd 0) s m args below meth c H locs 0 0 (gE below args s D (mtys cI cS) (mcell g cI cS sa) mord g (some (.int o.1)) o.2) (F0 m 18 ls []) := by
  unfold fX12_feed_b18 at hF
  refine lv_iconst (v := (-1)) C.1.1 C.1.2.1 dX12_feed_18 (by decide) ?_
  cases hF
  exact g_iret C X dX12_feed_19
noncomputable def fX12_feed_b0 (N : Nat) (x1 : Int32) (x2 : Int32) (x3 : Int32) (x4 : Int32) (x5 : Int32) (S : gS) : Option (Int32 × gS) := lt (sU S 99 4 0) fun S1 => (if (((S1 99 20) + 20 : Int32)) ≤ 700 then fX12_feed_b20 N x1 x2 x3 x4 x5 S1 else fX12_feed_b18 N S1)
theorem bX12_feed_0 {N : Nat} {x1 : Int32} {x2 : Int32} {x3 : Int32} {x4 : Int32} {x5 : Int32} {S : gS} {H : Heap} {locs : List Loc} {ls : Array Slot} {o : Int32 × gS} (C : gC p s m args meth c cX12_feed 8 RX12 ((some .int)) D (mtys cI cS) mord g Am) (O : gO (mcell g cI cS sa) mord g) (X : gX D (mcell g cI cS sa) mord g S s H locs) (hl : lv_has ls 8 [(0, .ref (g 99)), (1, .int x1), (2, .int x2), (3, .int x3), (4, .int x4), (5, .int x5)]) (hF : fX12_feed_b0 N x1 x2 x3 x4 x5 S = some o) : W p l e (rmd 0) s m args below meth c H locs 0 0 (gE below args s D (mtys cI cS) (mcell g cI cS sa) mord g (some (.int o.1)) o.2) (F0 m 0 ls []) := by
  unfold fX12_feed_b0 at hF
  refine lv_aload_n C.1.1 C.1.2.1 dX12_feed_0 rfl (lv_at hl 0 rfl) ?_
  refine lv_iconst (v := 0) C.1.1 C.1.2.1 dX12_feed_1 (by decide) ?_
  obtain ⟨S1, eS1, hF⟩ := lt_some hF
  refine m_p4 C O X eS1 dX12_feed_2 (fun H locs X => ?_)
  refine lv_aload_n C.1.1 C.1.2.1 dX12_feed_5 rfl (lv_at hl 0 rfl) ?_
  refine m_g20 C X dX12_feed_6 ?_
  refine lv_bipush (v := 20) C.1.1 C.1.2.1 dX12_feed_9 (by decide) ?_
  refine lv_iadd C.1.1 C.1.2.1 dX12_feed_11 ?_
  refine lv_sipush (v := 700) C.1.1 C.1.2.1 dX12_feed_12 (by decide) ?_
  refine lv_icmp_le (tgt := 20) C.1.1 C.1.2.1 dX12_feed_15 (by decide) (fun h_z => ?_) (fun h_z => ?_)
  · rw [if_pos h_z] at hF
    exact bX12_feed_20 C O X (lv_sub hl [0, 1, 2, 3, 4, 5] rfl) hF
  · rw [if_neg h_z] at hF
    exact bX12_feed_18 C O X (lv_sub hl [] rfl) hF
noncomputable def fX12_feed (N : Nat) (x1 : Int32) (x2 : Int32) (x3 : Int32) (x4 : Int32) (x5 : Int32) (S : gS) : Option (Int32 × gS) := fX12_feed_b0 N x1 x2 x3 x4 x5 S
theorem kX12_feed {l : Launch} {D : va_G} {g : Nat → Nat} {cI cS : ClassId} {sa : Nat → Nat → Option Nat} {Am : (Nat → Prop) → State → Heap → Prop} (O : gO (mcell g cI cS sa) mord g) (P : gAm Am) (N : Nat) (x1 : Int32) (x2 : Int32) (x3 : Int32) (x4 : Int32) (x5 : Int32) (S : gS) (o : Int32 × gS) (hF : fX12_feed N x1 x2 x3 x4 x5 S = some o) : gM l yX12_feed cX12_feed 8 ((some .int)) 0 D (mtys cI cS) (mcell g cI cS sa) mord g Am [.ref (g 99), .int x1, .int x2, .int x3, .int x4, .int x5] S (some (.int o.1)) o.2 :=
  gM_of O P (by decide) (Nat.le_of_ble_eq_true rfl) (fun p e s m args below meth c ls C X hl => bX12_feed_0 C O X (lv_sub hl [0, 1, 2, 3, 4, 5] rfl) hF)
-- byteAt
noncomputable def fX12_byteAt_b18 (N : Nat) (t0 : Int32) (S : gS) : Option (Int32 × gS) := some (t0, S)
theorem bX12_byteAt_18 {N : Nat} {t0 : Int32} {S : gS} {H : Heap} {locs : List Loc} {ls : Array Slot} {o : Int32 × gS} (C : gC p s m args meth c cX12_byteAt 2 RX12 ((some .int)) D (mtys cI cS) mord g Am) (O : gO (mcell g cI cS sa) mord g) (X : gX D (mcell g cI cS sa) mord g S s H locs) (hl : lv_has ls 2 []) (hF : fX12_byteAt_b18 N t0 S = some o) : W p l e (rmd 0) s m args below meth c H locs 0 0 (gE below args s D (mtys cI cS) (mcell g cI cS sa) mord g (some (.int o.1)) o.2) (F0 m 18 ls [.int t0]) := by
  unfold fX12_byteAt_b18 at hF
  cases hF
  exact g_iret C X dX12_byteAt_18
noncomputable def fX12_byteAt_b17 (N : Nat) (S : gS) : Option (Int32 × gS) := fX12_byteAt_b18 N ((-1)) S
theorem bX12_byteAt_17 {N : Nat} {S : gS} {H : Heap} {locs : List Loc} {ls : Array Slot} {o : Int32 × gS} (C : gC p s m args meth c cX12_byteAt 2 RX12 ((some .int)) D (mtys cI cS) mord g Am) (O : gO (mcell g cI cS sa) mord g) (X : gX D (mcell g cI cS sa) mord g S s H locs) (hl : lv_has ls 2 []) (hF : fX12_byteAt_b17 N S = some o) : W p l e (rmd 0) s m args below meth c H locs 0 0 (gE below args s D (mtys cI cS) (mcell g cI cS sa) mord g (some (.int o.1)) o.2) (F0 m 17 ls []) := by
  unfold fX12_byteAt_b17 at hF
  refine lv_iconst (v := (-1)) C.1.1 C.1.2.1 dX12_byteAt_17 (by decide) ?_
  exact bX12_byteAt_18 C O X (lv_sub hl [] rfl) hF
noncomputable def fX12_byteAt_b8 (N : Nat) (x1 : Int32) (S : gS) : Option (Int32 × gS) := chk (inb x1 (700)) (fX12_byteAt_b18 N (S 19 (Int32.toNatClampNeg x1)) S)
theorem bX12_byteAt_8 {N : Nat} {x1 : Int32} {S : gS} {H : Heap} {locs : List Loc} {ls : Array Slot} {o : Int32 × gS} (C : gC p s m args meth c cX12_byteAt 2 RX12 ((some .int)) D (mtys cI cS) mord g Am) (O : gO (mcell g cI cS sa) mord g) (X : gX D (mcell g cI cS sa) mord g S s H locs) (hl : lv_has ls 2 [(0, .ref (g 99)), (1, .int x1)]) (hF : fX12_byteAt_b8 N x1 S = some o) : W p l e (rmd 0) s m args below meth c H locs 0 0 (gE below args s D (mtys cI cS) (mcell g cI cS sa) mord g (some (.int o.1)) o.2) (F0 m 8 ls []) := by
  unfold fX12_byteAt_b8 at hF
  refine lv_aload_n C.1.1 C.1.2.1 dX12_byteAt_8 rfl (lv_at hl 0 rfl) ?_
  refine m_g19 C X dX12_byteAt_9 ?_
  refine lv_iload_n C.1.1 C.1.2.1 dX12_byteAt_12 rfl (lv_at hl 1 rfl) ?_
  obtain ⟨h_1, hF⟩ := chk_some hF
  refine m_r19 C X  (inb_vp h_1) rfl dX12_byteAt_13 ?_
  refine lv_goto (tgt := 18) C.1.1 C.1.2.1 dX12_byteAt_14 (by decide) ?_
  exact bX12_byteAt_18 C O X (lv_sub hl [] rfl) hF
noncomputable def fX12_byteAt_b0 (N : Nat) (x1 : Int32) (S : gS) : Option (Int32 × gS) := if (S 99 22) ≤ x1 then fX12_byteAt_b17 N S else fX12_byteAt_b8 N x1 S
theorem bX12_byteAt_0 {N : Nat} {x1 : Int32} {S : gS} {H : Heap} {locs : List Loc} {ls : Array Slot} {o : Int32 × gS} (C : gC p s m args meth c cX12_byteAt 2 RX12 ((some .int)) D (mtys cI cS) mord g Am) (O : gO (mcell g cI cS sa) mord g) (X : gX D (mcell g cI cS sa) mord g S s H locs) (hl : lv_has ls 2 [(0, .ref (g 99)), (1, .int x1)]) (hF : fX12_byteAt_b0 N x1 S = some o) : W p l e (rmd 0) s m args below meth c H locs 0 0 (gE below args s D (mtys cI cS) (mcell g cI cS sa) mord g (some (.int o.1)) o.2) (F0 m 0 ls []) := by
  unfold fX12_byteAt_b0 at hF
  refine lv_iload_n C.1.1 C.1.2.1 dX12_byteAt_0 rfl (lv_at hl 1 rfl) ?_
  refine lv_aload_n C.1.1 C.1.2.1 dX12_byteAt_1 rfl (lv_at hl 0 rfl) ?_
  refine m_g22 C X dX12_byteAt_2 ?_
  refine lv_icmp_ge (tgt := 17) C.1.1 C.1.2.1 dX12_byteAt_5 (by decide) (fun h_z => ?_) (fun h_z => ?_)
  · rw [if_pos h_z] at hF
    exact bX12_byteAt_17 C O X (lv_sub hl [] rfl) hF
  · rw [if_neg h_z] at hF
    exact bX12_byteAt_8 C O X (lv_sub hl [0, 1] rfl) hF
noncomputable def fX12_byteAt (N : Nat) (x1 : Int32) (S : gS) : Option (Int32 × gS) := fX12_byteAt_b0 N x1 S
theorem kX12_byteAt {l : Launch} {D : va_G} {g : Nat → Nat} {cI cS : ClassId} {sa : Nat → Nat → Option Nat} {Am : (Nat → Prop) → State → Heap → Prop} (O : gO (mcell g cI cS sa) mord g) (P : gAm Am) (N : Nat) (x1 : Int32) (S : gS) (o : Int32 × gS) (hF : fX12_byteAt N x1 S = some o) : gM l yX12_byteAt cX12_byteAt 2 ((some .int)) 0 D (mtys cI cS) (mcell g cI cS sa) mord g Am [.ref (g 99), .int x1] S (some (.int o.1)) o.2 :=
  gM_of O P (by decide) (Nat.le_of_ble_eq_true rfl) (fun p e s m args below meth c ls C X hl => bX12_byteAt_0 C O X (lv_sub hl [0, 1] rfl) hF)
-- isLetter
noncomputable def fX12_isLetter_b17 (N : Nat) (t0 : Int32) (S : gS) : Option (Int32 × gS) := chk (zb t0) (some (t0, S))
theorem bX12_isLetter_17 {N : Nat} {t0 : Int32} {S : gS} {H : Heap} {locs : List Loc} {ls : Array Slot} {o : Int32 × gS} (C : gC p s m args meth c cX12_isLetter 1 RX12 ((some .boolean)) D (mtys cI cS) mord g Am) (O : gO (mcell g cI cS sa) mord g) (X : gX D (mcell g cI cS sa) mord g S s H locs) (hl : lv_has ls 1 []) (hF : fX12_isLetter_b17 N t0 S = some o) : W p l e (rmd 0) s m args below meth c H locs 0 0 (gE below args s D (mtys cI cS) (mcell g cI cS sa) mord g (some (.int o.1)) o.2) (F0 m 17 ls [.int t0]) := by
  unfold fX12_isLetter_b17 at hF
  obtain ⟨h_1, hF⟩ := chk_some hF
  cases hF
  exact g_zret C X h_1 dX12_isLetter_17
noncomputable def fX12_isLetter_b16 (N : Nat) (S : gS) : Option (Int32 × gS) := fX12_isLetter_b17 N 0 S
theorem bX12_isLetter_16 {N : Nat} {S : gS} {H : Heap} {locs : List Loc} {ls : Array Slot} {o : Int32 × gS} (C : gC p s m args meth c cX12_isLetter 1 RX12 ((some .boolean)) D (mtys cI cS) mord g Am) (O : gO (mcell g cI cS sa) mord g) (X : gX D (mcell g cI cS sa) mord g S s H locs) (hl : lv_has ls 1 []) (hF : fX12_isLetter_b16 N S = some o) : W p l e (rmd 0) s m args below meth c H locs 0 0 (gE below args s D (mtys cI cS) (mcell g cI cS sa) mord g (some (.int o.1)) o.2) (F0 m 16 ls []) := by
  unfold fX12_isLetter_b16 at hF
  refine lv_iconst (v := 0) C.1.1 C.1.2.1 dX12_isLetter_16 (by decide) ?_
  exact bX12_isLetter_17 C O X (lv_sub hl [] rfl) hF
noncomputable def fX12_isLetter_b12 (N : Nat) (S : gS) : Option (Int32 × gS) := fX12_isLetter_b17 N 1 S
theorem bX12_isLetter_12 {N : Nat} {S : gS} {H : Heap} {locs : List Loc} {ls : Array Slot} {o : Int32 × gS} (C : gC p s m args meth c cX12_isLetter 1 RX12 ((some .boolean)) D (mtys cI cS) mord g Am) (O : gO (mcell g cI cS sa) mord g) (X : gX D (mcell g cI cS sa) mord g S s H locs) (hl : lv_has ls 1 []) (hF : fX12_isLetter_b12 N S = some o) : W p l e (rmd 0) s m args below meth c H locs 0 0 (gE below args s D (mtys cI cS) (mcell g cI cS sa) mord g (some (.int o.1)) o.2) (F0 m 12 ls []) := by
  unfold fX12_isLetter_b12 at hF
  refine lv_iconst (v := 1) C.1.1 C.1.2.1 dX12_isLetter_12 (by decide) ?_
  refine lv_goto (tgt := 17) C.1.1 C.1.2.1 dX12_isLetter_13 (by decide) ?_
  exact bX12_isLetter_17 C O X (lv_sub hl [] rfl) hF
noncomputable def fX12_isLetter_b6 (N : Nat) (x0 : Int32) (S : gS) : Option (Int32 × gS) := if 122 < x0 then fX12_isLetter_b16 N S else fX12_isLetter_b12 N S
theorem bX12_isLetter_6 {N : Nat} {x0 : Int32} {S : gS} {H : Heap} {locs : List Loc} {ls : Array Slot} {o : Int32 × gS} (C : gC p s m args meth c cX12_isLetter 1 RX12 ((some .boolean)) D (mtys cI cS) mord g Am) (O : gO (mcell g cI cS sa) mord g) (X : gX D (mcell g cI cS sa) mord g S s H locs) (hl : lv_has ls 1 [(0, .int x0)]) (hF : fX12_isLetter_b6 N x0 S = some o) : W p l e (rmd 0) s m args below meth c H locs 0 0 (gE below args s D (mtys cI cS) (mcell g cI cS sa) mord g (some (.int o.1)) o.2) (F0 m 6 ls []) := by
  unfold fX12_isLetter_b6 at hF
  refine lv_iload_n C.1.1 C.1.2.1 dX12_isLetter_6 rfl (lv_at hl 0 rfl) ?_
  refine lv_bipush (v := 122) C.1.1 C.1.2.1 dX12_isLetter_7 (by decide) ?_
  refine lv_icmp_gt (tgt := 16) C.1.1 C.1.2.1 dX12_isLetter_9 (by decide) (fun h_z => ?_) (fun h_z => ?_)
  · rw [if_pos h_z] at hF
    exact bX12_isLetter_16 C O X (lv_sub hl [] rfl) hF
  · rw [if_neg h_z] at hF
    exact bX12_isLetter_12 C O X (lv_sub hl [] rfl) hF
noncomputable def fX12_isLetter_b0 (N : Nat) (x0 : Int32) (S : gS) : Option (Int32 × gS) := if x0 < 97 then fX12_isLetter_b16 N S else fX12_isLetter_b6 N x0 S
theorem bX12_isLetter_0 {N : Nat} {x0 : Int32} {S : gS} {H : Heap} {locs : List Loc} {ls : Array Slot} {o : Int32 × gS} (C : gC p s m args meth c cX12_isLetter 1 RX12 ((some .boolean)) D (mtys cI cS) mord g Am) (O : gO (mcell g cI cS sa) mord g) (X : gX D (mcell g cI cS sa) mord g S s H locs) (hl : lv_has ls 1 [(0, .int x0)]) (hF : fX12_isLetter_b0 N x0 S = some o) : W p l e (rmd 0) s m args below meth c H locs 0 0 (gE below args s D (mtys cI cS) (mcell g cI cS sa) mord g (some (.int o.1)) o.2) (F0 m 0 ls []) := by
  unfold fX12_isLetter_b0 at hF
  refine lv_iload_n C.1.1 C.1.2.1 dX12_isLetter_0 rfl (lv_at hl 0 rfl) ?_
  refine lv_bipush (v := 97) C.1.1 C.1.2.1 dX12_isLetter_1 (by decide) ?_
  refine lv_icmp_lt (tgt := 16) C.1.1 C.1.2.1 dX12_isLetter_3 (by decide) (fun h_z => ?_) (fun h_z => ?_)
  · rw [if_pos h_z] at hF
    exact bX12_isLetter_16 C O X (lv_sub hl [] rfl) hF
  · rw [if_neg h_z] at hF
    exact bX12_isLetter_6 C O X (lv_sub hl [0] rfl) hF
noncomputable def fX12_isLetter (N : Nat) (x0 : Int32) (S : gS) : Option (Int32 × gS) := fX12_isLetter_b0 N x0 S
theorem kX12_isLetter {l : Launch} {D : va_G} {g : Nat → Nat} {cI cS : ClassId} {sa : Nat → Nat → Option Nat} {Am : (Nat → Prop) → State → Heap → Prop} (O : gO (mcell g cI cS sa) mord g) (P : gAm Am) (N : Nat) (x0 : Int32) (S : gS) (o : Int32 × gS) (hF : fX12_isLetter N x0 S = some o) : gM l yX12_isLetter cX12_isLetter 1 ((some .boolean)) 0 D (mtys cI cS) (mcell g cI cS sa) mord g Am [.int x0] S (some (.int o.1)) o.2 :=
  gM_of O P (by decide) (Nat.le_of_ble_eq_true rfl) (fun p e s m args below meth c ls C X hl => bX12_isLetter_0 C O X (lv_sub hl [0] rfl) hF)
-- isDigit
noncomputable def fX12_isDigit_b17 (N : Nat) (t0 : Int32) (S : gS) : Option (Int32 × gS) := chk (zb t0) (some (t0, S))
theorem bX12_isDigit_17 {N : Nat} {t0 : Int32} {S : gS} {H : Heap} {locs : List Loc} {ls : Array Slot} {o : Int32 × gS} (C : gC p s m args meth c cX12_isDigit 1 RX12 ((some .boolean)) D (mtys cI cS) mord g Am) (O : gO (mcell g cI cS sa) mord g) (X : gX D (mcell g cI cS sa) mord g S s H locs) (hl : lv_has ls 1 []) (hF : fX12_isDigit_b17 N t0 S = some o) : W p l e (rmd 0) s m args below meth c H locs 0 0 (gE below args s D (mtys cI cS) (mcell g cI cS sa) mord g (some (.int o.1)) o.2) (F0 m 17 ls [.int t0]) := by
  unfold fX12_isDigit_b17 at hF
  obtain ⟨h_1, hF⟩ := chk_some hF
  cases hF
  exact g_zret C X h_1 dX12_isDigit_17
noncomputable def fX12_isDigit_b16 (N : Nat) (S : gS) : Option (Int32 × gS) := fX12_isDigit_b17 N 0 S
theorem bX12_isDigit_16 {N : Nat} {S : gS} {H : Heap} {locs : List Loc} {ls : Array Slot} {o : Int32 × gS} (C : gC p s m args meth c cX12_isDigit 1 RX12 ((some .boolean)) D (mtys cI cS) mord g Am) (O : gO (mcell g cI cS sa) mord g) (X : gX D (mcell g cI cS sa) mord g S s H locs) (hl : lv_has ls 1 []) (hF : fX12_isDigit_b16 N S = some o) : W p l e (rmd 0) s m args below meth c H locs 0 0 (gE below args s D (mtys cI cS) (mcell g cI cS sa) mord g (some (.int o.1)) o.2) (F0 m 16 ls []) := by
  unfold fX12_isDigit_b16 at hF
  refine lv_iconst (v := 0) C.1.1 C.1.2.1 dX12_isDigit_16 (by decide) ?_
  exact bX12_isDigit_17 C O X (lv_sub hl [] rfl) hF
noncomputable def fX12_isDigit_b12 (N : Nat) (S : gS) : Option (Int32 × gS) := fX12_isDigit_b17 N 1 S
theorem bX12_isDigit_12 {N : Nat} {S : gS} {H : Heap} {locs : List Loc} {ls : Array Slot} {o : Int32 × gS} (C : gC p s m args meth c cX12_isDigit 1 RX12 ((some .boolean)) D (mtys cI cS) mord g Am) (O : gO (mcell g cI cS sa) mord g) (X : gX D (mcell g cI cS sa) mord g S s H locs) (hl : lv_has ls 1 []) (hF : fX12_isDigit_b12 N S = some o) : W p l e (rmd 0) s m args below meth c H locs 0 0 (gE below args s D (mtys cI cS) (mcell g cI cS sa) mord g (some (.int o.1)) o.2) (F0 m 12 ls []) := by
  unfold fX12_isDigit_b12 at hF
  refine lv_iconst (v := 1) C.1.1 C.1.2.1 dX12_isDigit_12 (by decide) ?_
  refine lv_goto (tgt := 17) C.1.1 C.1.2.1 dX12_isDigit_13 (by decide) ?_
  exact bX12_isDigit_17 C O X (lv_sub hl [] rfl) hF
noncomputable def fX12_isDigit_b6 (N : Nat) (x0 : Int32) (S : gS) : Option (Int32 × gS) := if 57 < x0 then fX12_isDigit_b16 N S else fX12_isDigit_b12 N S
theorem bX12_isDigit_6 {N : Nat} {x0 : Int32} {S : gS} {H : Heap} {locs : List Loc} {ls : Array Slot} {o : Int32 × gS} (C : gC p s m args meth c cX12_isDigit 1 RX12 ((some .boolean)) D (mtys cI cS) mord g Am) (O : gO (mcell g cI cS sa) mord g) (X : gX D (mcell g cI cS sa) mord g S s H locs) (hl : lv_has ls 1 [(0, .int x0)]) (hF : fX12_isDigit_b6 N x0 S = some o) : W p l e (rmd 0) s m args below meth c H locs 0 0 (gE below args s D (mtys cI cS) (mcell g cI cS sa) mord g (some (.int o.1)) o.2) (F0 m 6 ls []) := by
  unfold fX12_isDigit_b6 at hF
  refine lv_iload_n C.1.1 C.1.2.1 dX12_isDigit_6 rfl (lv_at hl 0 rfl) ?_
  refine lv_bipush (v := 57) C.1.1 C.1.2.1 dX12_isDigit_7 (by decide) ?_
  refine lv_icmp_gt (tgt := 16) C.1.1 C.1.2.1 dX12_isDigit_9 (by decide) (fun h_z => ?_) (fun h_z => ?_)
  · rw [if_pos h_z] at hF
    exact bX12_isDigit_16 C O X (lv_sub hl [] rfl) hF
  · rw [if_neg h_z] at hF
    exact bX12_isDigit_12 C O X (lv_sub hl [] rfl) hF
noncomputable def fX12_isDigit_b0 (N : Nat) (x0 : Int32) (S : gS) : Option (Int32 × gS) := if x0 < 48 then fX12_isDigit_b16 N S else fX12_isDigit_b6 N x0 S
theorem bX12_isDigit_0 {N : Nat} {x0 : Int32} {S : gS} {H : Heap} {locs : List Loc} {ls : Array Slot} {o : Int32 × gS} (C : gC p s m args meth c cX12_isDigit 1 RX12 ((some .boolean)) D (mtys cI cS) mord g Am) (O : gO (mcell g cI cS sa) mord g) (X : gX D (mcell g cI cS sa) mord g S s H locs) (hl : lv_has ls 1 [(0, .int x0)]) (hF : fX12_isDigit_b0 N x0 S = some o) : W p l e (rmd 0) s m args below meth c H locs 0 0 (gE below args s D (mtys cI cS) (mcell g cI cS sa) mord g (some (.int o.1)) o.2) (F0 m 0 ls []) := by
  unfold fX12_isDigit_b0 at hF
  refine lv_iload_n C.1.1 C.1.2.1 dX12_isDigit_0 rfl (lv_at hl 0 rfl) ?_
  refine lv_bipush (v := 48) C.1.1 C.1.2.1 dX12_isDigit_1 (by decide) ?_
  refine lv_icmp_lt (tgt := 16) C.1.1 C.1.2.1 dX12_isDigit_3 (by decide) (fun h_z => ?_) (fun h_z => ?_)
  · rw [if_pos h_z] at hF
    exact bX12_isDigit_16 C O X (lv_sub hl [] rfl) hF
  · rw [if_neg h_z] at hF
    exact bX12_isDigit_6 C O X (lv_sub hl [0] rfl) hF
noncomputable def fX12_isDigit (N : Nat) (x0 : Int32) (S : gS) : Option (Int32 × gS) := fX12_isDigit_b0 N x0 S
theorem kX12_isDigit {l : Launch} {D : va_G} {g : Nat → Nat} {cI cS : ClassId} {sa : Nat → Nat → Option Nat} {Am : (Nat → Prop) → State → Heap → Prop} (O : gO (mcell g cI cS sa) mord g) (P : gAm Am) (N : Nat) (x0 : Int32) (S : gS) (o : Int32 × gS) (hF : fX12_isDigit N x0 S = some o) : gM l yX12_isDigit cX12_isDigit 1 ((some .boolean)) 0 D (mtys cI cS) (mcell g cI cS sa) mord g Am [.int x0] S (some (.int o.1)) o.2 :=
  gM_of O P (by decide) (Nat.le_of_ble_eq_true rfl) (fun p e s m args below meth c ls C X hl => bX12_isDigit_0 C O X (lv_sub hl [0] rfl) hF)
-- isMark
noncomputable def fX12_isMark_b59 (N : Nat) (t0 : Int32) (S : gS) : Option (Int32 × gS) := chk (zb t0) (some (t0, S))
theorem bX12_isMark_59 {N : Nat} {t0 : Int32} {S : gS} {H : Heap} {locs : List Loc} {ls : Array Slot} {o : Int32 × gS} (C : gC p s m args meth c cX12_isMark 1 RX12 ((some .boolean)) D (mtys cI cS) mord g Am) (O : gO (mcell g cI cS sa) mord g) (X : gX D (mcell g cI cS sa) mord g S s H locs) (hl : lv_has ls 1 []) (hF : fX12_isMark_b59 N t0 S = some o) : W p l e (rmd 0) s m args below meth c H locs 0 0 (gE below args s D (mtys cI cS) (mcell g cI cS sa) mord g (some (.int o.1)) o.2) (F0 m 59 ls [.int t0]) := by
  unfold fX12_isMark_b59 at hF
  obtain ⟨h_1, hF⟩ := chk_some hF
  cases hF
  exact g_zret C X h_1 dX12_isMark_59
noncomputable def fX12_isMark_b58 (N : Nat) (S : gS) : Option (Int32 × gS) := fX12_isMark_b59 N 0 S
theorem bX12_isMark_58 {N : Nat} {S : gS} {H : Heap} {locs : List Loc} {ls : Array Slot} {o : Int32 × gS} (C : gC p s m args meth c cX12_isMark 1 RX12 ((some .boolean)) D (mtys cI cS) mord g Am) (O : gO (mcell g cI cS sa) mord g) (X : gX D (mcell g cI cS sa) mord g S s H locs) (hl : lv_has ls 1 []) (hF : fX12_isMark_b58 N S = some o) : W p l e (rmd 0) s m args below meth c H locs 0 0 (gE below args s D (mtys cI cS) (mcell g cI cS sa) mord g (some (.int o.1)) o.2) (F0 m 58 ls []) := by
  unfold fX12_isMark_b58 at hF
  refine lv_iconst (v := 0) C.1.1 C.1.2.1 dX12_isMark_58 (by decide) ?_
  exact bX12_isMark_59 C O X (lv_sub hl [] rfl) hF
noncomputable def fX12_isMark_b54 (N : Nat) (S : gS) : Option (Int32 × gS) := fX12_isMark_b59 N 1 S
theorem bX12_isMark_54 {N : Nat} {S : gS} {H : Heap} {locs : List Loc} {ls : Array Slot} {o : Int32 × gS} (C : gC p s m args meth c cX12_isMark 1 RX12 ((some .boolean)) D (mtys cI cS) mord g Am) (O : gO (mcell g cI cS sa) mord g) (X : gX D (mcell g cI cS sa) mord g S s H locs) (hl : lv_has ls 1 []) (hF : fX12_isMark_b54 N S = some o) : W p l e (rmd 0) s m args below meth c H locs 0 0 (gE below args s D (mtys cI cS) (mcell g cI cS sa) mord g (some (.int o.1)) o.2) (F0 m 54 ls []) := by
  unfold fX12_isMark_b54 at hF
  refine lv_iconst (v := 1) C.1.1 C.1.2.1 dX12_isMark_54 (by decide) ?_
  refine lv_goto (tgt := 59) C.1.1 C.1.2.1 dX12_isMark_55 (by decide) ?_
  exact bX12_isMark_59 C O X (lv_sub hl [] rfl) hF
noncomputable def fX12_isMark_b48 (N : Nat) (x0 : Int32) (S : gS) : Option (Int32 × gS) := if x0 = 61 then fX12_isMark_b54 N S else fX12_isMark_b58 N S
theorem bX12_isMark_48 {N : Nat} {x0 : Int32} {S : gS} {H : Heap} {locs : List Loc} {ls : Array Slot} {o : Int32 × gS} (C : gC p s m args meth c cX12_isMark 1 RX12 ((some .boolean)) D (mtys cI cS) mord g Am) (O : gO (mcell g cI cS sa) mord g) (X : gX D (mcell g cI cS sa) mord g S s H locs) (hl : lv_has ls 1 [(0, .int x0)]) (hF : fX12_isMark_b48 N x0 S = some o) : W p l e (rmd 0) s m args below meth c H locs 0 0 (gE below args s D (mtys cI cS) (mcell g cI cS sa) mord g (some (.int o.1)) o.2) (F0 m 48 ls []) := by
  unfold fX12_isMark_b48 at hF
  refine lv_iload_n C.1.1 C.1.2.1 dX12_isMark_48 rfl (lv_at hl 0 rfl) ?_
  refine lv_bipush (v := 61) C.1.1 C.1.2.1 dX12_isMark_49 (by decide) ?_
  refine lv_icmp_ne (tgt := 58) C.1.1 C.1.2.1 dX12_isMark_51 (by decide) (fun h_z => ?_) (fun h_z => ?_)
  · rw [if_neg h_z] at hF
    exact bX12_isMark_58 C O X (lv_sub hl [] rfl) hF
  · rw [if_pos h_z] at hF
    exact bX12_isMark_54 C O X (lv_sub hl [] rfl) hF
noncomputable def fX12_isMark_b42 (N : Nat) (x0 : Int32) (S : gS) : Option (Int32 × gS) := if x0 = 60 then fX12_isMark_b54 N S else fX12_isMark_b48 N x0 S
theorem bX12_isMark_42 {N : Nat} {x0 : Int32} {S : gS} {H : Heap} {locs : List Loc} {ls : Array Slot} {o : Int32 × gS} (C : gC p s m args meth c cX12_isMark 1 RX12 ((some .boolean)) D (mtys cI cS) mord g Am) (O : gO (mcell g cI cS sa) mord g) (X : gX D (mcell g cI cS sa) mord g S s H locs) (hl : lv_has ls 1 [(0, .int x0)]) (hF : fX12_isMark_b42 N x0 S = some o) : W p l e (rmd 0) s m args below meth c H locs 0 0 (gE below args s D (mtys cI cS) (mcell g cI cS sa) mord g (some (.int o.1)) o.2) (F0 m 42 ls []) := by
  unfold fX12_isMark_b42 at hF
  refine lv_iload_n C.1.1 C.1.2.1 dX12_isMark_42 rfl (lv_at hl 0 rfl) ?_
  refine lv_bipush (v := 60) C.1.1 C.1.2.1 dX12_isMark_43 (by decide) ?_
  refine lv_icmp_eq (tgt := 54) C.1.1 C.1.2.1 dX12_isMark_45 (by decide) (fun h_z => ?_) (fun h_z => ?_)
  · rw [if_pos h_z] at hF
    exact bX12_isMark_54 C O X (lv_sub hl [] rfl) hF
  · rw [if_neg h_z] at hF
    exact bX12_isMark_48 C O X (lv_sub hl [0] rfl) hF
noncomputable def fX12_isMark_b36 (N : Nat) (x0 : Int32) (S : gS) : Option (Int32 × gS) := if x0 = 47 then fX12_isMark_b54 N S else fX12_isMark_b42 N x0 S
theorem bX12_isMark_36 {N : Nat} {x0 : Int32} {S : gS} {H : Heap} {locs : List Loc} {ls : Array Slot} {o : Int32 × gS} (C : gC p s m args meth c cX12_isMark 1 RX12 ((some .boolean)) D (mtys cI cS) mord g Am) (O : gO (mcell g cI cS sa) mord g) (X : gX D (mcell g cI cS sa) mord g S s H locs) (hl : lv_has ls 1 [(0, .int x0)]) (hF : fX12_isMark_b36 N x0 S = some o) : W p l e (rmd 0) s m args below meth c H locs 0 0 (gE below args s D (mtys cI cS) (mcell g cI cS sa) mord g (some (.int o.1)) o.2) (F0 m 36 ls []) := by
  unfold fX12_isMark_b36 at hF
  refine lv_iload_n C.1.1 C.1.2.1 dX12_isMark_36 rfl (lv_at hl 0 rfl) ?_
  refine lv_bipush (v := 47) C.1.1 C.1.2.1 dX12_isMark_37 (by decide) ?_
  refine lv_icmp_eq (tgt := 54) C.1.1 C.1.2.1 dX12_isMark_39 (by decide) (fun h_z => ?_) (fun h_z => ?_)
  · rw [if_pos h_z] at hF
    exact bX12_isMark_54 C O X (lv_sub hl [] rfl) hF
  · rw [if_neg h_z] at hF
    exact bX12_isMark_42 C O X (lv_sub hl [0] rfl) hF
noncomputable def fX12_isMark_b30 (N : Nat) (x0 : Int32) (S : gS) : Option (Int32 × gS) := if x0 = 42 then fX12_isMark_b54 N S else fX12_isMark_b36 N x0 S
theorem bX12_isMark_30 {N : Nat} {x0 : Int32} {S : gS} {H : Heap} {locs : List Loc} {ls : Array Slot} {o : Int32 × gS} (C : gC p s m args meth c cX12_isMark 1 RX12 ((some .boolean)) D (mtys cI cS) mord g Am) (O : gO (mcell g cI cS sa) mord g) (X : gX D (mcell g cI cS sa) mord g S s H locs) (hl : lv_has ls 1 [(0, .int x0)]) (hF : fX12_isMark_b30 N x0 S = some o) : W p l e (rmd 0) s m args below meth c H locs 0 0 (gE below args s D (mtys cI cS) (mcell g cI cS sa) mord g (some (.int o.1)) o.2) (F0 m 30 ls []) := by
  unfold fX12_isMark_b30 at hF
  refine lv_iload_n C.1.1 C.1.2.1 dX12_isMark_30 rfl (lv_at hl 0 rfl) ?_
  refine lv_bipush (v := 42) C.1.1 C.1.2.1 dX12_isMark_31 (by decide) ?_
  refine lv_icmp_eq (tgt := 54) C.1.1 C.1.2.1 dX12_isMark_33 (by decide) (fun h_z => ?_) (fun h_z => ?_)
  · rw [if_pos h_z] at hF
    exact bX12_isMark_54 C O X (lv_sub hl [] rfl) hF
  · rw [if_neg h_z] at hF
    exact bX12_isMark_36 C O X (lv_sub hl [0] rfl) hF
noncomputable def fX12_isMark_b24 (N : Nat) (x0 : Int32) (S : gS) : Option (Int32 × gS) := if x0 = 45 then fX12_isMark_b54 N S else fX12_isMark_b30 N x0 S
theorem bX12_isMark_24 {N : Nat} {x0 : Int32} {S : gS} {H : Heap} {locs : List Loc} {ls : Array Slot} {o : Int32 × gS} (C : gC p s m args meth c cX12_isMark 1 RX12 ((some .boolean)) D (mtys cI cS) mord g Am) (O : gO (mcell g cI cS sa) mord g) (X : gX D (mcell g cI cS sa) mord g S s H locs) (hl : lv_has ls 1 [(0, .int x0)]) (hF : fX12_isMark_b24 N x0 S = some o) : W p l e (rmd 0) s m args below meth c H locs 0 0 (gE below args s D (mtys cI cS) (mcell g cI cS sa) mord g (some (.int o.1)) o.2) (F0 m 24 ls []) := by
  unfold fX12_isMark_b24 at hF
  refine lv_iload_n C.1.1 C.1.2.1 dX12_isMark_24 rfl (lv_at hl 0 rfl) ?_
  refine lv_bipush (v := 45) C.1.1 C.1.2.1 dX12_isMark_25 (by decide) ?_
  refine lv_icmp_eq (tgt := 54) C.1.1 C.1.2.1 dX12_isMark_27 (by decide) (fun h_z => ?_) (fun h_z => ?_)
  · rw [if_pos h_z] at hF
    exact bX12_isMark_54 C O X (lv_sub hl [] rfl) hF
  · rw [if_neg h_z] at hF
    exact bX12_isMark_30 C O X (lv_sub hl [0] rfl) hF
noncomputable def fX12_isMark_b18 (N : Nat) (x0 : Int32) (S : gS) : Option (Int32 × gS) := if x0 = 43 then fX12_isMark_b54 N S else fX12_isMark_b24 N x0 S
theorem bX12_isMark_18 {N : Nat} {x0 : Int32} {S : gS} {H : Heap} {locs : List Loc} {ls : Array Slot} {o : Int32 × gS} (C : gC p s m args meth c cX12_isMark 1 RX12 ((some .boolean)) D (mtys cI cS) mord g Am) (O : gO (mcell g cI cS sa) mord g) (X : gX D (mcell g cI cS sa) mord g S s H locs) (hl : lv_has ls 1 [(0, .int x0)]) (hF : fX12_isMark_b18 N x0 S = some o) : W p l e (rmd 0) s m args below meth c H locs 0 0 (gE below args s D (mtys cI cS) (mcell g cI cS sa) mord g (some (.int o.1)) o.2) (F0 m 18 ls []) := by
  unfold fX12_isMark_b18 at hF
  refine lv_iload_n C.1.1 C.1.2.1 dX12_isMark_18 rfl (lv_at hl 0 rfl) ?_
  refine lv_bipush (v := 43) C.1.1 C.1.2.1 dX12_isMark_19 (by decide) ?_
  refine lv_icmp_eq (tgt := 54) C.1.1 C.1.2.1 dX12_isMark_21 (by decide) (fun h_z => ?_) (fun h_z => ?_)
  · rw [if_pos h_z] at hF
    exact bX12_isMark_54 C O X (lv_sub hl [] rfl) hF
  · rw [if_neg h_z] at hF
    exact bX12_isMark_24 C O X (lv_sub hl [0] rfl) hF
noncomputable def fX12_isMark_b12 (N : Nat) (x0 : Int32) (S : gS) : Option (Int32 × gS) := if x0 = 41 then fX12_isMark_b54 N S else fX12_isMark_b18 N x0 S
theorem bX12_isMark_12 {N : Nat} {x0 : Int32} {S : gS} {H : Heap} {locs : List Loc} {ls : Array Slot} {o : Int32 × gS} (C : gC p s m args meth c cX12_isMark 1 RX12 ((some .boolean)) D (mtys cI cS) mord g Am) (O : gO (mcell g cI cS sa) mord g) (X : gX D (mcell g cI cS sa) mord g S s H locs) (hl : lv_has ls 1 [(0, .int x0)]) (hF : fX12_isMark_b12 N x0 S = some o) : W p l e (rmd 0) s m args below meth c H locs 0 0 (gE below args s D (mtys cI cS) (mcell g cI cS sa) mord g (some (.int o.1)) o.2) (F0 m 12 ls []) := by
  unfold fX12_isMark_b12 at hF
  refine lv_iload_n C.1.1 C.1.2.1 dX12_isMark_12 rfl (lv_at hl 0 rfl) ?_
  refine lv_bipush (v := 41) C.1.1 C.1.2.1 dX12_isMark_13 (by decide) ?_
  refine lv_icmp_eq (tgt := 54) C.1.1 C.1.2.1 dX12_isMark_15 (by decide) (fun h_z => ?_) (fun h_z => ?_)
  · rw [if_pos h_z] at hF
    exact bX12_isMark_54 C O X (lv_sub hl [] rfl) hF
  · rw [if_neg h_z] at hF
    exact bX12_isMark_18 C O X (lv_sub hl [0] rfl) hF
noncomputable def fX12_isMark_b6 (N : Nat) (x0 : Int32) (S : gS) : Option (Int32 × gS) := if x0 = 40 then fX12_isMark_b54 N S else fX12_isMark_b12 N x0 S
theorem bX12_isMark_6 {N : Nat} {x0 : Int32} {S : gS} {H : Heap} {locs : List Loc} {ls : Array Slot} {o : Int32 × gS} (C : gC p s m args meth c cX12_isMark 1 RX12 ((some .boolean)) D (mtys cI cS) mord g Am) (O : gO (mcell g cI cS sa) mord g) (X : gX D (mcell g cI cS sa) mord g S s H locs) (hl : lv_has ls 1 [(0, .int x0)]) (hF : fX12_isMark_b6 N x0 S = some o) : W p l e (rmd 0) s m args below meth c H locs 0 0 (gE below args s D (mtys cI cS) (mcell g cI cS sa) mord g (some (.int o.1)) o.2) (F0 m 6 ls []) := by
  unfold fX12_isMark_b6 at hF
  refine lv_iload_n C.1.1 C.1.2.1 dX12_isMark_6 rfl (lv_at hl 0 rfl) ?_
  refine lv_bipush (v := 40) C.1.1 C.1.2.1 dX12_isMark_7 (by decide) ?_
  refine lv_icmp_eq (tgt := 54) C.1.1 C.1.2.1 dX12_isMark_9 (by decide) (fun h_z => ?_) (fun h_z => ?_)
  · rw [if_pos h_z] at hF
    exact bX12_isMark_54 C O X (lv_sub hl [] rfl) hF
  · rw [if_neg h_z] at hF
    exact bX12_isMark_12 C O X (lv_sub hl [0] rfl) hF
noncomputable def fX12_isMark_b0 (N : Nat) (x0 : Int32) (S : gS) : Option (Int32 × gS) := if x0 = 59 then fX12_isMark_b54 N S else fX12_isMark_b6 N x0 S
theorem bX12_isMark_0 {N : Nat} {x0 : Int32} {S : gS} {H : Heap} {locs : List Loc} {ls : Array Slot} {o : Int32 × gS} (C : gC p s m args meth c cX12_isMark 1 RX12 ((some .boolean)) D (mtys cI cS) mord g Am) (O : gO (mcell g cI cS sa) mord g) (X : gX D (mcell g cI cS sa) mord g S s H locs) (hl : lv_has ls 1 [(0, .int x0)]) (hF : fX12_isMark_b0 N x0 S = some o) : W p l e (rmd 0) s m args below meth c H locs 0 0 (gE below args s D (mtys cI cS) (mcell g cI cS sa) mord g (some (.int o.1)) o.2) (F0 m 0 ls []) := by
  unfold fX12_isMark_b0 at hF
  refine lv_iload_n C.1.1 C.1.2.1 dX12_isMark_0 rfl (lv_at hl 0 rfl) ?_
  refine lv_bipush (v := 59) C.1.1 C.1.2.1 dX12_isMark_1 (by decide) ?_
  refine lv_icmp_eq (tgt := 54) C.1.1 C.1.2.1 dX12_isMark_3 (by decide) (fun h_z => ?_) (fun h_z => ?_)
  · rw [if_pos h_z] at hF
    exact bX12_isMark_54 C O X (lv_sub hl [] rfl) hF
  · rw [if_neg h_z] at hF
    exact bX12_isMark_6 C O X (lv_sub hl [0] rfl) hF
noncomputable def fX12_isMark (N : Nat) (x0 : Int32) (S : gS) : Option (Int32 × gS) := fX12_isMark_b0 N x0 S
theorem kX12_isMark {l : Launch} {D : va_G} {g : Nat → Nat} {cI cS : ClassId} {sa : Nat → Nat → Option Nat} {Am : (Nat → Prop) → State → Heap → Prop} (O : gO (mcell g cI cS sa) mord g) (P : gAm Am) (N : Nat) (x0 : Int32) (S : gS) (o : Int32 × gS) (hF : fX12_isMark N x0 S = some o) : gM l yX12_isMark cX12_isMark 1 ((some .boolean)) 0 D (mtys cI cS) (mcell g cI cS sa) mord g Am [.int x0] S (some (.int o.1)) o.2 :=
  gM_of O P (by decide) (Nat.le_of_ble_eq_true rfl) (fun p e s m args below meth c ls C X hl => bX12_isMark_0 C O X (lv_sub hl [0] rfl) hF)
-- stepOn
noncomputable def fX12_stepOn_b212 (N : Nat) (S : gS) : Option (Int32 × gS) := lt (sU S 99 26 (S 99 21)) fun S1 => (some (0, S1))
theorem bX12_stepOn_212 {N : Nat} {S : gS} {H : Heap} {locs : List Loc} {ls : Array Slot} {o : Int32 × gS} (C : gC p s m args meth c cX12_stepOn 2 RX12 none D (mtys cI cS) mord g Am) (O : gO (mcell g cI cS sa) mord g) (X : gX D (mcell g cI cS sa) mord g S s H locs) (hl : lv_has ls 2 [(0, .ref (g 99))]) (hF : fX12_stepOn_b212 N S = some o) : W p l e (rmd 1) s m args below meth c H locs 0 0 (gE below args s D (mtys cI cS) (mcell g cI cS sa) mord g none o.2) (F0 m 212 ls []) := by
  unfold fX12_stepOn_b212 at hF
  refine lv_aload_n C.1.1 C.1.2.1 dX12_stepOn_212 rfl (lv_at hl 0 rfl) ?_
  refine lv_aload_n C.1.1 C.1.2.1 dX12_stepOn_213 rfl (lv_at hl 0 rfl) ?_
  refine m_g21 C X dX12_stepOn_214 ?_
  obtain ⟨S1, eS1, hF⟩ := lt_some hF
  refine m_p26 C O X eS1 dX12_stepOn_217 (fun H locs X => ?_)
  cases hF
  exact g_vret C X dX12_stepOn_220
noncomputable def fX12_stepOn_b209 (N : Nat) (t1 : Int32) (S : gS) : Option (Int32 × gS) := lt (sU S 99 23 t1) fun S1 => (fX12_stepOn_b212 N S1)
theorem bX12_stepOn_209 {N : Nat} {t1 : Int32} {S : gS} {H : Heap} {locs : List Loc} {ls : Array Slot} {o : Int32 × gS} (C : gC p s m args meth c cX12_stepOn 2 RX12 none D (mtys cI cS) mord g Am) (O : gO (mcell g cI cS sa) mord g) (X : gX D (mcell g cI cS sa) mord g S s H locs) (hl : lv_has ls 2 [(0, .ref (g 99))]) (hF : fX12_stepOn_b209 N t1 S = some o) : W p l e (rmd 1) s m args below meth c H locs 0 0 (gE below args s D (mtys cI cS) (mcell g cI cS sa) mord g none o.2) (F0 m 209 ls [.int t1, .ref (g 99)]) := by
  unfold fX12_stepOn_b209 at hF
  obtain ⟨S1, eS1, hF⟩ := lt_some hF
  refine m_p23 C O X eS1 dX12_stepOn_209 (fun H locs X => ?_)
  exact bX12_stepOn_212 C O X (lv_sub hl [0] rfl) hF
noncomputable def fX12_stepOn_b208 (N : Nat) (S : gS) : Option (Int32 × gS) := fX12_stepOn_b209 N 4 S
theorem bX12_stepOn_208 {N : Nat} {S : gS} {H : Heap} {locs : List Loc} {ls : Array Slot} {o : Int32 × gS} (C : gC p s m args meth c cX12_stepOn 2 RX12 none D (mtys cI cS) mord g Am) (O : gO (mcell g cI cS sa) mord g) (X : gX D (mcell g cI cS sa) mord g S s H locs) (hl : lv_has ls 2 [(0, .ref (g 99))]) (hF : fX12_stepOn_b208 N S = some o) : W p l e (rmd 1) s m args below meth c H locs 0 0 (gE below args s D (mtys cI cS) (mcell g cI cS sa) mord g none o.2) (F0 m 208 ls [.ref (g 99)]) := by
  unfold fX12_stepOn_b208 at hF
  refine lv_iconst (v := 4) C.1.1 C.1.2.1 dX12_stepOn_208 (by decide) ?_
  exact bX12_stepOn_209 C O X (lv_sub hl [0] rfl) hF
noncomputable def fX12_stepOn_b204 (N : Nat) (S : gS) : Option (Int32 × gS) := fX12_stepOn_b209 N 3 S
theorem bX12_stepOn_204 {N : Nat} {S : gS} {H : Heap} {locs : List Loc} {ls : Array Slot} {o : Int32 × gS} (C : gC p s m args meth c cX12_stepOn 2 RX12 none D (mtys cI cS) mord g Am) (O : gO (mcell g cI cS sa) mord g) (X : gX D (mcell g cI cS sa) mord g S s H locs) (hl : lv_has ls 2 [(0, .ref (g 99))]) (hF : fX12_stepOn_b204 N S = some o) : W p l e (rmd 1) s m args below meth c H locs 0 0 (gE below args s D (mtys cI cS) (mcell g cI cS sa) mord g none o.2) (F0 m 204 ls [.ref (g 99)]) := by
  unfold fX12_stepOn_b204 at hF
  refine lv_iconst (v := 3) C.1.1 C.1.2.1 dX12_stepOn_204 (by decide) ?_
  refine lv_goto (tgt := 209) C.1.1 C.1.2.1 dX12_stepOn_205 (by decide) ?_
  exact bX12_stepOn_209 C O X (lv_sub hl [0] rfl) hF
noncomputable def fX12_stepOn_b186 (N : Nat) (x1 : Int32) (S : gS) : Option (Int32 × gS) := lt (sU S 99 21 (((S 99 21) + 1 : Int32))) fun S1 => (bnd (fX12_isMark N x1 S1) fun q1 => (if q1.1 = 0 then fX12_stepOn_b208 N q1.2 else fX12_stepOn_b204 N q1.2))
theorem bX12_stepOn_186 {N : Nat} {x1 : Int32} {S : gS} {H : Heap} {locs : List Loc} {ls : Array Slot} {o : Int32 × gS} (C : gC p s m args meth c cX12_stepOn 2 RX12 none D (mtys cI cS) mord g Am) (O : gO (mcell g cI cS sa) mord g) (X : gX D (mcell g cI cS sa) mord g S s H locs) (hl : lv_has ls 2 [(0, .ref (g 99)), (1, .int x1)]) (hF : fX12_stepOn_b186 N x1 S = some o) : W p l e (rmd 1) s m args below meth c H locs 0 0 (gE below args s D (mtys cI cS) (mcell g cI cS sa) mord g none o.2) (F0 m 186 ls []) := by
  unfold fX12_stepOn_b186 at hF
  refine lv_aload_n C.1.1 C.1.2.1 dX12_stepOn_186 rfl (lv_at hl 0 rfl) ?_
  refine lv_dup C.1.1 C.1.2.1 dX12_stepOn_187 rfl ?_
  refine m_g21 C X dX12_stepOn_188 ?_
  refine lv_iconst (v := 1) C.1.1 C.1.2.1 dX12_stepOn_191 (by decide) ?_
  refine lv_iadd C.1.1 C.1.2.1 dX12_stepOn_192 ?_
  obtain ⟨S1, eS1, hF⟩ := lt_some hF
  refine m_p21 C O X eS1 dX12_stepOn_193 (fun H locs X => ?_)
  refine lv_aload_n C.1.1 C.1.2.1 dX12_stepOn_196 rfl (lv_at hl 0 rfl) ?_
  refine lv_iload_n C.1.1 C.1.2.1 dX12_stepOn_197 rfl (lv_at hl 1 rfl) ?_
  obtain ⟨q1, hq1, hF⟩ := bnd_some hF
  refine g_callSi C X vX12_isMark (kX12_isMark O C.2.2.2.2.1 N x1  S1 q1 hq1) (Nat.le_of_ble_eq_true rfl) (Nat.le_of_ble_eq_true rfl) (Nat.le_of_ble_eq_true rfl) (Nat.le_of_ble_eq_true rfl) rfl hl.1 rfl (Nat.le_of_ble_eq_true rfl) dX12_stepOn_198 (fun H locs X => ?_)
  refine lv_if_eq (tgt := 208) C.1.1 C.1.2.1 dX12_stepOn_201 (by decide) (fun h_z => ?_) (fun h_z => ?_)
  · rw [if_pos h_z] at hF
    exact bX12_stepOn_208 C O X (lv_sub hl [0] rfl) hF
  · rw [if_neg h_z] at hF
    exact bX12_stepOn_204 C O X (lv_sub hl [0] rfl) hF
noncomputable def fX12_stepOn_b178 (N : Nat) (S : gS) : Option (Int32 × gS) := lt (sU S 99 23 2) fun S1 => (fX12_stepOn_b212 N S1)
theorem bX12_stepOn_178 {N : Nat} {S : gS} {H : Heap} {locs : List Loc} {ls : Array Slot} {o : Int32 × gS} (C : gC p s m args meth c cX12_stepOn 2 RX12 none D (mtys cI cS) mord g Am) (O : gO (mcell g cI cS sa) mord g) (X : gX D (mcell g cI cS sa) mord g S s H locs) (hl : lv_has ls 2 [(0, .ref (g 99))]) (hF : fX12_stepOn_b178 N S = some o) : W p l e (rmd 1) s m args below meth c H locs 0 0 (gE below args s D (mtys cI cS) (mcell g cI cS sa) mord g none o.2) (F0 m 178 ls []) := by
  unfold fX12_stepOn_b178 at hF
  refine lv_aload_n C.1.1 C.1.2.1 dX12_stepOn_178 rfl (lv_at hl 0 rfl) ?_
  refine lv_iconst (v := 2) C.1.1 C.1.2.1 dX12_stepOn_179 (by decide) ?_
  obtain ⟨S1, eS1, hF⟩ := lt_some hF
  refine m_p23 C O X eS1 dX12_stepOn_180 (fun H locs X => ?_)
  refine lv_goto (tgt := 212) C.1.1 C.1.2.1 dX12_stepOn_183 (by decide) ?_
  exact bX12_stepOn_212 C O X (lv_sub hl [0] rfl) hF
noncomputable def fX12_stepOn_b137 (N : Nat) (r123 : gS → Option (Int32 × gS)) (S : gS) : Option (Int32 × gS) := bnd (fX12_byteAt N (S 99 21) S) fun q1 => (lt (sU q1.2 99 24 (if ((((((10 * (S 99 24) : Int32)) + q1.1 : Int32)) - 48 : Int32)) < 100000 then ((((((10 * (S 99 24) : Int32)) + q1.1 : Int32)) - 48 : Int32)) else 100000)) fun S2 => (lt (sU S2 99 21 (((S2 99 21) + 1 : Int32))) fun S3 => (r123 S3)))
theorem bX12_stepOn_137 {N : Nat} {r123 : gS → Option (Int32 × gS)} {S : gS} {H : Heap} {locs : List Loc} {ls : Array Slot} {o : Int32 × gS} (C : gC p s m args meth c cX12_stepOn 2 RX12 none D (mtys cI cS) mord g Am) (O : gO (mcell g cI cS sa) mord g) (K123 : ∀ (S : gS) (H : Heap) (locs : List Loc) (ls : Array Slot), gX D (mcell g cI cS sa) mord g S s H locs → lv_has ls 2 [(0, .ref (g 99))] → r123 S = some o → W p l e (rmd 1) s m args below meth c H locs 0 0 (gE below args s D (mtys cI cS) (mcell g cI cS sa) mord g none o.2) (F0 m 123 ls [])) (X : gX D (mcell g cI cS sa) mord g S s H locs) (hl : lv_has ls 2 [(0, .ref (g 99))]) (hF : fX12_stepOn_b137 N r123 S = some o) : W p l e (rmd 1) s m args below meth c H locs 0 0 (gE below args s D (mtys cI cS) (mcell g cI cS sa) mord g none o.2) (F0 m 137 ls []) := by
  unfold fX12_stepOn_b137 at hF
  refine lv_aload_n C.1.1 C.1.2.1 dX12_stepOn_137 rfl (lv_at hl 0 rfl) ?_
  refine lv_ldc C.1.1 C.1.2.1 C.1.2.2.2.1 (C.1.2.2.2.2 _ mKI191) dX12_stepOn_138 ?_
  refine lv_bipush (v := 10) C.1.1 C.1.2.1 dX12_stepOn_140 (by decide) ?_
  refine lv_aload_n C.1.1 C.1.2.1 dX12_stepOn_142 rfl (lv_at hl 0 rfl) ?_
  refine m_g24 C X dX12_stepOn_143 ?_
  refine lv_imul C.1.1 C.1.2.1 dX12_stepOn_146 ?_
  refine lv_aload_n C.1.1 C.1.2.1 dX12_stepOn_147 rfl (lv_at hl 0 rfl) ?_
  refine lv_aload_n C.1.1 C.1.2.1 dX12_stepOn_148 rfl (lv_at hl 0 rfl) ?_
  refine m_g21 C X dX12_stepOn_149 ?_
  obtain ⟨q1, hq1, hF⟩ := bnd_some hF
  refine m_callVi C X vX12_byteAt rfl (kX12_byteAt O C.2.2.2.2.1 N (S 99 21)  S q1 hq1) (Nat.le_of_ble_eq_true rfl) (Nat.le_of_ble_eq_true rfl) (Nat.le_of_ble_eq_true rfl) (Nat.le_of_ble_eq_true rfl) rfl hl.1 rfl (Nat.le_of_ble_eq_true rfl) dX12_stepOn_152 (fun H locs X => ?_)
  refine lv_iadd C.1.1 C.1.2.1 dX12_stepOn_155 ?_
  refine lv_bipush (v := 48) C.1.1 C.1.2.1 dX12_stepOn_156 (by decide) ?_
  refine lv_isub C.1.1 C.1.2.1 dX12_stepOn_158 ?_
  refine g_min C hl.1 mMmin192 ⟨Nat.le_of_ble_eq_true rfl, Nat.le_of_ble_eq_true rfl⟩ (Nat.le_of_ble_eq_true rfl) (Nat.le_of_ble_eq_true rfl) dX12_stepOn_159 ?_
  obtain ⟨S2, eS2, hF⟩ := lt_some hF
  refine m_p24 C O X eS2 dX12_stepOn_162 (fun H locs X => ?_)
  refine lv_aload_n C.1.1 C.1.2.1 dX12_stepOn_165 rfl (lv_at hl 0 rfl) ?_
  refine lv_dup C.1.1 C.1.2.1 dX12_stepOn_166 rfl ?_
  refine m_g21 C X dX12_stepOn_167 ?_
  refine lv_iconst (v := 1) C.1.1 C.1.2.1 dX12_stepOn_170 (by decide) ?_
  refine lv_iadd C.1.1 C.1.2.1 dX12_stepOn_171 ?_
  obtain ⟨S3, eS3, hF⟩ := lt_some hF
  refine m_p21 C O X eS3 dX12_stepOn_172 (fun H locs X => ?_)
  refine lv_goto (tgt := 123) C.1.1 C.1.2.1 dX12_stepOn_175 (by decide) ?_
  exact K123 _ _ _ _ X (lv_sub hl [0] rfl) hF
noncomputable def fX12_stepOn_b123 (N : Nat) (r123 : gS → Option (Int32 × gS)) (S : gS) : Option (Int32 × gS) := bnd (fX12_byteAt N (S 99 21) S) fun q1 => (bnd (fX12_isDigit N q1.1 q1.2) fun q2 => (if q2.1 = 0 then fX12_stepOn_b178 N q2.2 else fX12_stepOn_b137 N r123 q2.2))
theorem bX12_stepOn_123 {N : Nat} {r123 : gS → Option (Int32 × gS)} {S : gS} {H : Heap} {locs : List Loc} {ls : Array Slot} {o : Int32 × gS} (C : gC p s m args meth c cX12_stepOn 2 RX12 none D (mtys cI cS) mord g Am) (O : gO (mcell g cI cS sa) mord g) (K123 : ∀ (S : gS) (H : Heap) (locs : List Loc) (ls : Array Slot), gX D (mcell g cI cS sa) mord g S s H locs → lv_has ls 2 [(0, .ref (g 99))] → r123 S = some o → W p l e (rmd 1) s m args below meth c H locs 0 0 (gE below args s D (mtys cI cS) (mcell g cI cS sa) mord g none o.2) (F0 m 123 ls [])) (X : gX D (mcell g cI cS sa) mord g S s H locs) (hl : lv_has ls 2 [(0, .ref (g 99))]) (hF : fX12_stepOn_b123 N r123 S = some o) : W p l e (rmd 1) s m args below meth c H locs 0 0 (gE below args s D (mtys cI cS) (mcell g cI cS sa) mord g none o.2) (F0 m 123 ls []) := by
  unfold fX12_stepOn_b123 at hF
  refine lv_aload_n C.1.1 C.1.2.1 dX12_stepOn_123 rfl (lv_at hl 0 rfl) ?_
  refine lv_aload_n C.1.1 C.1.2.1 dX12_stepOn_124 rfl (lv_at hl 0 rfl) ?_
  refine m_g21 C X dX12_stepOn_125 ?_
  obtain ⟨q1, hq1, hF⟩ := bnd_some hF
  refine m_callVi C X vX12_byteAt rfl (kX12_byteAt O C.2.2.2.2.1 N (S 99 21)  S q1 hq1) (Nat.le_of_ble_eq_true rfl) (Nat.le_of_ble_eq_true rfl) (Nat.le_of_ble_eq_true rfl) (Nat.le_of_ble_eq_true rfl) rfl hl.1 rfl (Nat.le_of_ble_eq_true rfl) dX12_stepOn_128 (fun H locs X => ?_)
  obtain ⟨q2, hq2, hF⟩ := bnd_some hF
  refine g_callSi C X vX12_isDigit (kX12_isDigit O C.2.2.2.2.1 N q1.1  q1.2 q2 hq2) (Nat.le_of_ble_eq_true rfl) (Nat.le_of_ble_eq_true rfl) (Nat.le_of_ble_eq_true rfl) (Nat.le_of_ble_eq_true rfl) rfl hl.1 rfl (Nat.le_of_ble_eq_true rfl) dX12_stepOn_131 (fun H locs X => ?_)
  refine lv_if_eq (tgt := 178) C.1.1 C.1.2.1 dX12_stepOn_134 (by decide) (fun h_z => ?_) (fun h_z => ?_)
  · rw [if_pos h_z] at hF
    exact bX12_stepOn_178 C O X (lv_sub hl [0] rfl) hF
  · rw [if_neg h_z] at hF
    exact bX12_stepOn_137 C O K123 X (lv_sub hl [0] rfl) hF
noncomputable def fX12_stepOn_h123 (N : Nat) : Nat → gS → Option (Int32 × gS)
  | 0, _ => none
  | n + 1, S => fX12_stepOn_b123 N (fX12_stepOn_h123 N n) S
theorem hX12_stepOn_123 {N : Nat} {o : Int32 × gS} (C : gC p s m args meth c cX12_stepOn 2 RX12 none D (mtys cI cS) mord g Am) (O : gO (mcell g cI cS sa) mord g) : ∀ (n : Nat) (S : gS) (H : Heap) (locs : List Loc) (ls : Array Slot), gX D (mcell g cI cS sa) mord g S s H locs → lv_has ls 2 [(0, .ref (g 99))] → fX12_stepOn_h123 N n S = some o → W p l e (rmd 1) s m args below meth c H locs 0 0 (gE below args s D (mtys cI cS) (mcell g cI cS sa) mord g none o.2) (F0 m 123 ls []) := by
  intro n
  induction n with
  | zero =>
    intro S H locs ls X hl hF
    exact absurd (show (none : Option (Int32 × gS)) = some o from hF) (by simp)
  | succ n ih =>
    intro S H locs ls X hl hF
    have hF : fX12_stepOn_b123 N (fX12_stepOn_h123 N n) S = some o := hF
    exact bX12_stepOn_123 C O ih X hl hF
noncomputable def fX12_stepOn_b118 (N : Nat) (S : gS) : Option (Int32 × gS) := lt (sU S 99 24 0) fun S1 => (fX12_stepOn_h123 N N S1)
theorem bX12_stepOn_118 {N : Nat} {S : gS} {H : Heap} {locs : List Loc} {ls : Array Slot} {o : Int32 × gS} (C : gC p s m args meth c cX12_stepOn 2 RX12 none D (mtys cI cS) mord g Am) (O : gO (mcell g cI cS sa) mord g) (X : gX D (mcell g cI cS sa) mord g S s H locs) (hl : lv_has ls 2 [(0, .ref (g 99))]) (hF : fX12_stepOn_b118 N S = some o) : W p l e (rmd 1) s m args below meth c H locs 0 0 (gE below args s D (mtys cI cS) (mcell g cI cS sa) mord g none o.2) (F0 m 118 ls []) := by
  unfold fX12_stepOn_b118 at hF
  refine lv_aload_n C.1.1 C.1.2.1 dX12_stepOn_118 rfl (lv_at hl 0 rfl) ?_
  refine lv_iconst (v := 0) C.1.1 C.1.2.1 dX12_stepOn_119 (by decide) ?_
  obtain ⟨S1, eS1, hF⟩ := lt_some hF
  refine m_p24 C O X eS1 dX12_stepOn_120 (fun H locs X => ?_)
  exact hX12_stepOn_123 C O N _ _ _ _ X (lv_sub hl [0] rfl) hF
noncomputable def fX12_stepOn_b111 (N : Nat) (x1 : Int32) (S : gS) : Option (Int32 × gS) := bnd (fX12_isDigit N x1 S) fun q1 => (if q1.1 = 0 then fX12_stepOn_b186 N x1 q1.2 else fX12_stepOn_b118 N q1.2)
theorem bX12_stepOn_111 {N : Nat} {x1 : Int32} {S : gS} {H : Heap} {locs : List Loc} {ls : Array Slot} {o : Int32 × gS} (C : gC p s m args meth c cX12_stepOn 2 RX12 none D (mtys cI cS) mord g Am) (O : gO (mcell g cI cS sa) mord g) (X : gX D (mcell g cI cS sa) mord g S s H locs) (hl : lv_has ls 2 [(0, .ref (g 99)), (1, .int x1)]) (hF : fX12_stepOn_b111 N x1 S = some o) : W p l e (rmd 1) s m args below meth c H locs 0 0 (gE below args s D (mtys cI cS) (mcell g cI cS sa) mord g none o.2) (F0 m 111 ls []) := by
  unfold fX12_stepOn_b111 at hF
  refine lv_iload_n C.1.1 C.1.2.1 dX12_stepOn_111 rfl (lv_at hl 1 rfl) ?_
  obtain ⟨q1, hq1, hF⟩ := bnd_some hF
  refine g_callSi C X vX12_isDigit (kX12_isDigit O C.2.2.2.2.1 N x1  S q1 hq1) (Nat.le_of_ble_eq_true rfl) (Nat.le_of_ble_eq_true rfl) (Nat.le_of_ble_eq_true rfl) (Nat.le_of_ble_eq_true rfl) rfl hl.1 rfl (Nat.le_of_ble_eq_true rfl) dX12_stepOn_112 (fun H locs X => ?_)
  refine lv_if_eq (tgt := 186) C.1.1 C.1.2.1 dX12_stepOn_115 (by decide) (fun h_z => ?_) (fun h_z => ?_)
  · rw [if_pos h_z] at hF
    exact bX12_stepOn_186 C O X (lv_sub hl [0, 1] rfl) hF
  · rw [if_neg h_z] at hF
    exact bX12_stepOn_118 C O X (lv_sub hl [0] rfl) hF
noncomputable def fX12_stepOn_b103 (N : Nat) (S : gS) : Option (Int32 × gS) := lt (sU S 99 23 1) fun S1 => (fX12_stepOn_b212 N S1)
theorem bX12_stepOn_103 {N : Nat} {S : gS} {H : Heap} {locs : List Loc} {ls : Array Slot} {o : Int32 × gS} (C : gC p s m args meth c cX12_stepOn 2 RX12 none D (mtys cI cS) mord g Am) (O : gO (mcell g cI cS sa) mord g) (X : gX D (mcell g cI cS sa) mord g S s H locs) (hl : lv_has ls 2 [(0, .ref (g 99))]) (hF : fX12_stepOn_b103 N S = some o) : W p l e (rmd 1) s m args below meth c H locs 0 0 (gE below args s D (mtys cI cS) (mcell g cI cS sa) mord g none o.2) (F0 m 103 ls []) := by
  unfold fX12_stepOn_b103 at hF
  refine lv_aload_n C.1.1 C.1.2.1 dX12_stepOn_103 rfl (lv_at hl 0 rfl) ?_
  refine lv_iconst (v := 1) C.1.1 C.1.2.1 dX12_stepOn_104 (by decide) ?_
  obtain ⟨S1, eS1, hF⟩ := lt_some hF
  refine m_p23 C O X eS1 dX12_stepOn_105 (fun H locs X => ?_)
  refine lv_goto (tgt := 212) C.1.1 C.1.2.1 dX12_stepOn_108 (by decide) ?_
  exact bX12_stepOn_212 C O X (lv_sub hl [0] rfl) hF
noncomputable def fX12_stepOn_b90 (N : Nat) (r76 : gS → Option (Int32 × gS)) (S : gS) : Option (Int32 × gS) := lt (sU S 99 21 (((S 99 21) + 1 : Int32))) fun S1 => (r76 S1)
theorem bX12_stepOn_90 {N : Nat} {r76 : gS → Option (Int32 × gS)} {S : gS} {H : Heap} {locs : List Loc} {ls : Array Slot} {o : Int32 × gS} (C : gC p s m args meth c cX12_stepOn 2 RX12 none D (mtys cI cS) mord g Am) (O : gO (mcell g cI cS sa) mord g) (K76 : ∀ (S : gS) (H : Heap) (locs : List Loc) (ls : Array Slot), gX D (mcell g cI cS sa) mord g S s H locs → lv_has ls 2 [(0, .ref (g 99))] → r76 S = some o → W p l e (rmd 1) s m args below meth c H locs 0 0 (gE below args s D (mtys cI cS) (mcell g cI cS sa) mord g none o.2) (F0 m 76 ls [])) (X : gX D (mcell g cI cS sa) mord g S s H locs) (hl : lv_has ls 2 [(0, .ref (g 99))]) (hF : fX12_stepOn_b90 N r76 S = some o) : W p l e (rmd 1) s m args below meth c H locs 0 0 (gE below args s D (mtys cI cS) (mcell g cI cS sa) mord g none o.2) (F0 m 90 ls []) := by
  unfold fX12_stepOn_b90 at hF
  refine lv_aload_n C.1.1 C.1.2.1 dX12_stepOn_90 rfl (lv_at hl 0 rfl) ?_
  refine lv_dup C.1.1 C.1.2.1 dX12_stepOn_91 rfl ?_
  refine m_g21 C X dX12_stepOn_92 ?_
  refine lv_iconst (v := 1) C.1.1 C.1.2.1 dX12_stepOn_95 (by decide) ?_
  refine lv_iadd C.1.1 C.1.2.1 dX12_stepOn_96 ?_
  obtain ⟨S1, eS1, hF⟩ := lt_some hF
  refine m_p21 C O X eS1 dX12_stepOn_97 (fun H locs X => ?_)
  refine lv_goto (tgt := 76) C.1.1 C.1.2.1 dX12_stepOn_100 (by decide) ?_
  exact K76 _ _ _ _ X (lv_sub hl [0] rfl) hF
noncomputable def fX12_stepOn_b76 (N : Nat) (r76 : gS → Option (Int32 × gS)) (S : gS) : Option (Int32 × gS) := bnd (fX12_byteAt N (S 99 21) S) fun q1 => (bnd (fX12_isLetter N q1.1 q1.2) fun q2 => (if q2.1 = 0 then fX12_stepOn_b103 N q2.2 else fX12_stepOn_b90 N r76 q2.2))
theorem bX12_stepOn_76 {N : Nat} {r76 : gS → Option (Int32 × gS)} {S : gS} {H : Heap} {locs : List Loc} {ls : Array Slot} {o : Int32 × gS} (C : gC p s m args meth c cX12_stepOn 2 RX12 none D (mtys cI cS) mord g Am) (O : gO (mcell g cI cS sa) mord g) (K76 : ∀ (S : gS) (H : Heap) (locs : List Loc) (ls : Array Slot), gX D (mcell g cI cS sa) mord g S s H locs → lv_has ls 2 [(0, .ref (g 99))] → r76 S = some o → W p l e (rmd 1) s m args below meth c H locs 0 0 (gE below args s D (mtys cI cS) (mcell g cI cS sa) mord g none o.2) (F0 m 76 ls [])) (X : gX D (mcell g cI cS sa) mord g S s H locs) (hl : lv_has ls 2 [(0, .ref (g 99))]) (hF : fX12_stepOn_b76 N r76 S = some o) : W p l e (rmd 1) s m args below meth c H locs 0 0 (gE below args s D (mtys cI cS) (mcell g cI cS sa) mord g none o.2) (F0 m 76 ls []) := by
  unfold fX12_stepOn_b76 at hF
  refine lv_aload_n C.1.1 C.1.2.1 dX12_stepOn_76 rfl (lv_at hl 0 rfl) ?_
  refine lv_aload_n C.1.1 C.1.2.1 dX12_stepOn_77 rfl (lv_at hl 0 rfl) ?_
  refine m_g21 C X dX12_stepOn_78 ?_
  obtain ⟨q1, hq1, hF⟩ := bnd_some hF
  refine m_callVi C X vX12_byteAt rfl (kX12_byteAt O C.2.2.2.2.1 N (S 99 21)  S q1 hq1) (Nat.le_of_ble_eq_true rfl) (Nat.le_of_ble_eq_true rfl) (Nat.le_of_ble_eq_true rfl) (Nat.le_of_ble_eq_true rfl) rfl hl.1 rfl (Nat.le_of_ble_eq_true rfl) dX12_stepOn_81 (fun H locs X => ?_)
  obtain ⟨q2, hq2, hF⟩ := bnd_some hF
  refine g_callSi C X vX12_isLetter (kX12_isLetter O C.2.2.2.2.1 N q1.1  q1.2 q2 hq2) (Nat.le_of_ble_eq_true rfl) (Nat.le_of_ble_eq_true rfl) (Nat.le_of_ble_eq_true rfl) (Nat.le_of_ble_eq_true rfl) rfl hl.1 rfl (Nat.le_of_ble_eq_true rfl) dX12_stepOn_84 (fun H locs X => ?_)
  refine lv_if_eq (tgt := 103) C.1.1 C.1.2.1 dX12_stepOn_87 (by decide) (fun h_z => ?_) (fun h_z => ?_)
  · rw [if_pos h_z] at hF
    exact bX12_stepOn_103 C O X (lv_sub hl [0] rfl) hF
  · rw [if_neg h_z] at hF
    exact bX12_stepOn_90 C O K76 X (lv_sub hl [0] rfl) hF
noncomputable def fX12_stepOn_h76 (N : Nat) : Nat → gS → Option (Int32 × gS)
  | 0, _ => none
  | n + 1, S => fX12_stepOn_b76 N (fX12_stepOn_h76 N n) S
theorem hX12_stepOn_76 {N : Nat} {o : Int32 × gS} (C : gC p s m args meth c cX12_stepOn 2 RX12 none D (mtys cI cS) mord g Am) (O : gO (mcell g cI cS sa) mord g) : ∀ (n : Nat) (S : gS) (H : Heap) (locs : List Loc) (ls : Array Slot), gX D (mcell g cI cS sa) mord g S s H locs → lv_has ls 2 [(0, .ref (g 99))] → fX12_stepOn_h76 N n S = some o → W p l e (rmd 1) s m args below meth c H locs 0 0 (gE below args s D (mtys cI cS) (mcell g cI cS sa) mord g none o.2) (F0 m 76 ls []) := by
  intro n
  induction n with
  | zero =>
    intro S H locs ls X hl hF
    exact absurd (show (none : Option (Int32 × gS)) = some o from hF) (by simp)
  | succ n ih =>
    intro S H locs ls X hl hF
    have hF : fX12_stepOn_b76 N (fX12_stepOn_h76 N n) S = some o := hF
    exact bX12_stepOn_76 C O ih X hl hF
noncomputable def fX12_stepOn_b69 (N : Nat) (x1 : Int32) (S : gS) : Option (Int32 × gS) := bnd (fX12_isLetter N x1 S) fun q1 => (if q1.1 = 0 then fX12_stepOn_b111 N x1 q1.2 else fX12_stepOn_h76 N N q1.2)
theorem bX12_stepOn_69 {N : Nat} {x1 : Int32} {S : gS} {H : Heap} {locs : List Loc} {ls : Array Slot} {o : Int32 × gS} (C : gC p s m args meth c cX12_stepOn 2 RX12 none D (mtys cI cS) mord g Am) (O : gO (mcell g cI cS sa) mord g) (X : gX D (mcell g cI cS sa) mord g S s H locs) (hl : lv_has ls 2 [(0, .ref (g 99)), (1, .int x1)]) (hF : fX12_stepOn_b69 N x1 S = some o) : W p l e (rmd 1) s m args below meth c H locs 0 0 (gE below args s D (mtys cI cS) (mcell g cI cS sa) mord g none o.2) (F0 m 69 ls []) := by
  unfold fX12_stepOn_b69 at hF
  refine lv_iload_n C.1.1 C.1.2.1 dX12_stepOn_69 rfl (lv_at hl 1 rfl) ?_
  obtain ⟨q1, hq1, hF⟩ := bnd_some hF
  refine g_callSi C X vX12_isLetter (kX12_isLetter O C.2.2.2.2.1 N x1  S q1 hq1) (Nat.le_of_ble_eq_true rfl) (Nat.le_of_ble_eq_true rfl) (Nat.le_of_ble_eq_true rfl) (Nat.le_of_ble_eq_true rfl) rfl hl.1 rfl (Nat.le_of_ble_eq_true rfl) dX12_stepOn_70 (fun H locs X => ?_)
  refine lv_if_eq (tgt := 111) C.1.1 C.1.2.1 dX12_stepOn_73 (by decide) (fun h_z => ?_) (fun h_z => ?_)
  · rw [if_pos h_z] at hF
    exact bX12_stepOn_111 C O X (lv_sub hl [0, 1] rfl) hF
  · rw [if_neg h_z] at hF
    exact hX12_stepOn_76 C O N _ _ _ _ X (lv_sub hl [0] rfl) hF
noncomputable def fX12_stepOn_b61 (N : Nat) (S : gS) : Option (Int32 × gS) := lt (sU S 99 23 0) fun S1 => (fX12_stepOn_b212 N S1)
theorem bX12_stepOn_61 {N : Nat} {S : gS} {H : Heap} {locs : List Loc} {ls : Array Slot} {o : Int32 × gS} (C : gC p s m args meth c cX12_stepOn 2 RX12 none D (mtys cI cS) mord g Am) (O : gO (mcell g cI cS sa) mord g) (X : gX D (mcell g cI cS sa) mord g S s H locs) (hl : lv_has ls 2 [(0, .ref (g 99))]) (hF : fX12_stepOn_b61 N S = some o) : W p l e (rmd 1) s m args below meth c H locs 0 0 (gE below args s D (mtys cI cS) (mcell g cI cS sa) mord g none o.2) (F0 m 61 ls []) := by
  unfold fX12_stepOn_b61 at hF
  refine lv_aload_n C.1.1 C.1.2.1 dX12_stepOn_61 rfl (lv_at hl 0 rfl) ?_
  refine lv_iconst (v := 0) C.1.1 C.1.2.1 dX12_stepOn_62 (by decide) ?_
  obtain ⟨S1, eS1, hF⟩ := lt_some hF
  refine m_p23 C O X eS1 dX12_stepOn_63 (fun H locs X => ?_)
  refine lv_goto (tgt := 212) C.1.1 C.1.2.1 dX12_stepOn_66 (by decide) ?_
  exact bX12_stepOn_212 C O X (lv_sub hl [0] rfl) hF
noncomputable def fX12_stepOn_b39 (N : Nat) (S : gS) : Option (Int32 × gS) := lt (sU S 99 25 (S 99 21)) fun S1 => (bnd (fX12_byteAt N (S1 99 21) S1) fun q1 => (if q1.1 = ((-1)) then fX12_stepOn_b61 N q1.2 else fX12_stepOn_b69 N q1.1 q1.2))
theorem bX12_stepOn_39 {N : Nat} {S : gS} {H : Heap} {locs : List Loc} {ls : Array Slot} {o : Int32 × gS} (C : gC p s m args meth c cX12_stepOn 2 RX12 none D (mtys cI cS) mord g Am) (O : gO (mcell g cI cS sa) mord g) (X : gX D (mcell g cI cS sa) mord g S s H locs) (hl : lv_has ls 2 [(0, .ref (g 99))]) (hF : fX12_stepOn_b39 N S = some o) : W p l e (rmd 1) s m args below meth c H locs 0 0 (gE below args s D (mtys cI cS) (mcell g cI cS sa) mord g none o.2) (F0 m 39 ls []) := by
  unfold fX12_stepOn_b39 at hF
  refine lv_aload_n C.1.1 C.1.2.1 dX12_stepOn_39 rfl (lv_at hl 0 rfl) ?_
  refine lv_aload_n C.1.1 C.1.2.1 dX12_stepOn_40 rfl (lv_at hl 0 rfl) ?_
  refine m_g21 C X dX12_stepOn_41 ?_
  obtain ⟨S1, eS1, hF⟩ := lt_some hF
  refine m_p25 C O X eS1 dX12_stepOn_44 (fun H locs X => ?_)
  refine lv_aload_n C.1.1 C.1.2.1 dX12_stepOn_47 rfl (lv_at hl 0 rfl) ?_
  refine lv_aload_n C.1.1 C.1.2.1 dX12_stepOn_48 rfl (lv_at hl 0 rfl) ?_
  refine m_g21 C X dX12_stepOn_49 ?_
  obtain ⟨q1, hq1, hF⟩ := bnd_some hF
  refine m_callVi C X vX12_byteAt rfl (kX12_byteAt O C.2.2.2.2.1 N (S1 99 21)  S1 q1 hq1) (Nat.le_of_ble_eq_true rfl) (Nat.le_of_ble_eq_true rfl) (Nat.le_of_ble_eq_true rfl) (Nat.le_of_ble_eq_true rfl) rfl hl.1 rfl (Nat.le_of_ble_eq_true rfl) dX12_stepOn_52 (fun H locs X => ?_)
  refine lv_istore_n (lv' := [(1, .int q1.1), (0, .ref (g 99))]) C.1.1 C.1.2.1 dX12_stepOn_55 rfl hl (by decide) rfl (fun ls hl => ?_)
  refine lv_iload_n C.1.1 C.1.2.1 dX12_stepOn_56 rfl (lv_at hl 0 rfl) ?_
  refine lv_iconst (v := (-1)) C.1.1 C.1.2.1 dX12_stepOn_57 (by decide) ?_
  refine lv_icmp_ne (tgt := 69) C.1.1 C.1.2.1 dX12_stepOn_58 (by decide) (fun h_z => ?_) (fun h_z => ?_)
  · rw [if_neg h_z] at hF
    exact bX12_stepOn_69 C O X (lv_sub hl [1, 0] rfl) hF
  · rw [if_pos h_z] at hF
    exact bX12_stepOn_61 C O X (lv_sub hl [1] rfl) hF
noncomputable def fX12_stepOn_b26 (N : Nat) (r0 : gS → Option (Int32 × gS)) (S : gS) : Option (Int32 × gS) := lt (sU S 99 21 (((S 99 21) + 1 : Int32))) fun S1 => (r0 S1)
theorem bX12_stepOn_26 {N : Nat} {r0 : gS → Option (Int32 × gS)} {S : gS} {H : Heap} {locs : List Loc} {ls : Array Slot} {o : Int32 × gS} (C : gC p s m args meth c cX12_stepOn 2 RX12 none D (mtys cI cS) mord g Am) (O : gO (mcell g cI cS sa) mord g) (K0 : ∀ (S : gS) (H : Heap) (locs : List Loc) (ls : Array Slot), gX D (mcell g cI cS sa) mord g S s H locs → lv_has ls 2 [(0, .ref (g 99))] → r0 S = some o → W p l e (rmd 1) s m args below meth c H locs 0 0 (gE below args s D (mtys cI cS) (mcell g cI cS sa) mord g none o.2) (F0 m 0 ls [])) (X : gX D (mcell g cI cS sa) mord g S s H locs) (hl : lv_has ls 2 [(0, .ref (g 99))]) (hF : fX12_stepOn_b26 N r0 S = some o) : W p l e (rmd 1) s m args below meth c H locs 0 0 (gE below args s D (mtys cI cS) (mcell g cI cS sa) mord g none o.2) (F0 m 26 ls []) := by
  unfold fX12_stepOn_b26 at hF
  refine lv_aload_n C.1.1 C.1.2.1 dX12_stepOn_26 rfl (lv_at hl 0 rfl) ?_
  refine lv_dup C.1.1 C.1.2.1 dX12_stepOn_27 rfl ?_
  refine m_g21 C X dX12_stepOn_28 ?_
  refine lv_iconst (v := 1) C.1.1 C.1.2.1 dX12_stepOn_31 (by decide) ?_
  refine lv_iadd C.1.1 C.1.2.1 dX12_stepOn_32 ?_
  obtain ⟨S1, eS1, hF⟩ := lt_some hF
  refine m_p21 C O X eS1 dX12_stepOn_33 (fun H locs X => ?_)
  refine lv_goto (tgt := 0) C.1.1 C.1.2.1 dX12_stepOn_36 (by decide) ?_
  exact K0 _ _ _ _ X (lv_sub hl [0] rfl) hF
noncomputable def fX12_stepOn_b13 (N : Nat) (r0 : gS → Option (Int32 × gS)) (S : gS) : Option (Int32 × gS) := bnd (fX12_byteAt N (S 99 21) S) fun q1 => (if q1.1 = 10 then fX12_stepOn_b26 N r0 q1.2 else fX12_stepOn_b39 N q1.2)
theorem bX12_stepOn_13 {N : Nat} {r0 : gS → Option (Int32 × gS)} {S : gS} {H : Heap} {locs : List Loc} {ls : Array Slot} {o : Int32 × gS} (C : gC p s m args meth c cX12_stepOn 2 RX12 none D (mtys cI cS) mord g Am) (O : gO (mcell g cI cS sa) mord g) (K0 : ∀ (S : gS) (H : Heap) (locs : List Loc) (ls : Array Slot), gX D (mcell g cI cS sa) mord g S s H locs → lv_has ls 2 [(0, .ref (g 99))] → r0 S = some o → W p l e (rmd 1) s m args below meth c H locs 0 0 (gE below args s D (mtys cI cS) (mcell g cI cS sa) mord g none o.2) (F0 m 0 ls [])) (X : gX D (mcell g cI cS sa) mord g S s H locs) (hl : lv_has ls 2 [(0, .ref (g 99))]) (hF : fX12_stepOn_b13 N r0 S = some o) : W p l e (rmd 1) s m args below meth c H locs 0 0 (gE below args s D (mtys cI cS) (mcell g cI cS sa) mord g none o.2) (F0 m 13 ls []) := by
  unfold fX12_stepOn_b13 at hF
  refine lv_aload_n C.1.1 C.1.2.1 dX12_stepOn_13 rfl (lv_at hl 0 rfl) ?_
  refine lv_aload_n C.1.1 C.1.2.1 dX12_stepOn_14 rfl (lv_at hl 0 rfl) ?_
  refine m_g21 C X dX12_stepOn_15 ?_
  obtain ⟨q1, hq1, hF⟩ := bnd_some hF
  refine m_callVi C X vX12_byteAt rfl (kX12_byteAt O C.2.2.2.2.1 N (S 99 21)  S q1 hq1) (Nat.le_of_ble_eq_true rfl) (Nat.le_of_ble_eq_true rfl) (Nat.le_of_ble_eq_true rfl) (Nat.le_of_ble_eq_true rfl) rfl hl.1 rfl (Nat.le_of_ble_eq_true rfl) dX12_stepOn_18 (fun H locs X => ?_)
  refine lv_bipush (v := 10) C.1.1 C.1.2.1 dX12_stepOn_21 (by decide) ?_
  refine lv_icmp_ne (tgt := 39) C.1.1 C.1.2.1 dX12_stepOn_23 (by decide) (fun h_z => ?_) (fun h_z => ?_)
  · rw [if_neg h_z] at hF
    exact bX12_stepOn_39 C O X (lv_sub hl [0] rfl) hF
  · rw [if_pos h_z] at hF
    exact bX12_stepOn_26 C O K0 X (lv_sub hl [0] rfl) hF
noncomputable def fX12_stepOn_b0 (N : Nat) (r0 : gS → Option (Int32 × gS)) (S : gS) : Option (Int32 × gS) := bnd (fX12_byteAt N (S 99 21) S) fun q1 => (if q1.1 = 32 then fX12_stepOn_b26 N r0 q1.2 else fX12_stepOn_b13 N r0 q1.2)
theorem bX12_stepOn_0 {N : Nat} {r0 : gS → Option (Int32 × gS)} {S : gS} {H : Heap} {locs : List Loc} {ls : Array Slot} {o : Int32 × gS} (C : gC p s m args meth c cX12_stepOn 2 RX12 none D (mtys cI cS) mord g Am) (O : gO (mcell g cI cS sa) mord g) (K0 : ∀ (S : gS) (H : Heap) (locs : List Loc) (ls : Array Slot), gX D (mcell g cI cS sa) mord g S s H locs → lv_has ls 2 [(0, .ref (g 99))] → r0 S = some o → W p l e (rmd 1) s m args below meth c H locs 0 0 (gE below args s D (mtys cI cS) (mcell g cI cS sa) mord g none o.2) (F0 m 0 ls [])) (X : gX D (mcell g cI cS sa) mord g S s H locs) (hl : lv_has ls 2 [(0, .ref (g 99))]) (hF : fX12_stepOn_b0 N r0 S = some o) : W p l e (rmd 1) s m args below meth c H locs 0 0 (gE below args s D (mtys cI cS) (mcell g cI cS sa) mord g none o.2) (F0 m 0 ls []) := by
  unfold fX12_stepOn_b0 at hF
  refine lv_aload_n C.1.1 C.1.2.1 dX12_stepOn_0 rfl (lv_at hl 0 rfl) ?_
  refine lv_aload_n C.1.1 C.1.2.1 dX12_stepOn_1 rfl (lv_at hl 0 rfl) ?_
  refine m_g21 C X dX12_stepOn_2 ?_
  obtain ⟨q1, hq1, hF⟩ := bnd_some hF
  refine m_callVi C X vX12_byteAt rfl (kX12_byteAt O C.2.2.2.2.1 N (S 99 21)  S q1 hq1) (Nat.le_of_ble_eq_true rfl) (Nat.le_of_ble_eq_true rfl) (Nat.le_of_ble_eq_true rfl) (Nat.le_of_ble_eq_true rfl) rfl hl.1 rfl (Nat.le_of_ble_eq_true rfl) dX12_stepOn_5 (fun H locs X => ?_)
  refine lv_bipush (v := 32) C.1.1 C.1.2.1 dX12_stepOn_8 (by decide) ?_
  refine lv_icmp_eq (tgt := 26) C.1.1 C.1.2.1 dX12_stepOn_10 (by decide) (fun h_z => ?_) (fun h_z => ?_)
  · rw [if_pos h_z] at hF
    exact bX12_stepOn_26 C O K0 X (lv_sub hl [0] rfl) hF
  · rw [if_neg h_z] at hF
    exact bX12_stepOn_13 C O K0 X (lv_sub hl [0] rfl) hF
noncomputable def fX12_stepOn_h0 (N : Nat) : Nat → gS → Option (Int32 × gS)
  | 0, _ => none
  | n + 1, S => fX12_stepOn_b0 N (fX12_stepOn_h0 N n) S
theorem hX12_stepOn_0 {N : Nat} {o : Int32 × gS} (C : gC p s m args meth c cX12_stepOn 2 RX12 none D (mtys cI cS) mord g Am) (O : gO (mcell g cI cS sa) mord g) : ∀ (n : Nat) (S : gS) (H : Heap) (locs : List Loc) (ls : Array Slot), gX D (mcell g cI cS sa) mord g S s H locs → lv_has ls 2 [(0, .ref (g 99))] → fX12_stepOn_h0 N n S = some o → W p l e (rmd 1) s m args below meth c H locs 0 0 (gE below args s D (mtys cI cS) (mcell g cI cS sa) mord g none o.2) (F0 m 0 ls []) := by
  intro n
  induction n with
  | zero =>
    intro S H locs ls X hl hF
    exact absurd (show (none : Option (Int32 × gS)) = some o from hF) (by simp)
  | succ n ih =>
    intro S H locs ls X hl hF
    have hF : fX12_stepOn_b0 N (fX12_stepOn_h0 N n) S = some o := hF
    exact bX12_stepOn_0 C O ih X hl hF
noncomputable def fX12_stepOn (N : Nat) (S : gS) : Option (Int32 × gS) := fX12_stepOn_h0 N N S
theorem kX12_stepOn {l : Launch} {D : va_G} {g : Nat → Nat} {cI cS : ClassId} {sa : Nat → Nat → Option Nat} {Am : (Nat → Prop) → State → Heap → Prop} (O : gO (mcell g cI cS sa) mord g) (P : gAm Am) (N : Nat) (S : gS) (o : Int32 × gS) (hF : fX12_stepOn N S = some o) : gM l yX12_stepOn cX12_stepOn 2 none 1 D (mtys cI cS) (mcell g cI cS sa) mord g Am [.ref (g 99)] S none o.2 :=
  gM_of O P (by decide) (Nat.le_of_ble_eq_true rfl) (fun p e s m args below meth c ls C X hl => hX12_stepOn_0 C O N _ _ _ _ X (lv_sub hl [0] rfl) hF)
-- wrong
noncomputable def fX12_wrong_b8 (N : Nat) (x1 : Int32) (S : gS) : Option (Int32 × gS) := lt (sU S 99 27 x1) fun S1 => (lt (sU S1 99 28 (S1 99 25)) fun S2 => (some (0, S2)))
theorem bX12_wrong_8 {N : Nat} {x1 : Int32} {S : gS} {H : Heap} {locs : List Loc} {ls : Array Slot} {o : Int32 × gS} (C : gC p s m args meth c cX12_wrong 2 RX12 none D (mtys cI cS) mord g Am) (O : gO (mcell g cI cS sa) mord g) (X : gX D (mcell g cI cS sa) mord g S s H locs) (hl : lv_has ls 2 [(0, .ref (g 99)), (1, .int x1)]) (hF : fX12_wrong_b8 N x1 S = some o) : W p l e (rmd 0) s m args below meth c H locs 0 0 (gE below args s D (mtys cI cS) (mcell g cI cS sa) mord g none o.2) (F0 m 8 ls []) := by
  unfold fX12_wrong_b8 at hF
  refine lv_aload_n C.1.1 C.1.2.1 dX12_wrong_8 rfl (lv_at hl 0 rfl) ?_
  refine lv_iload_n C.1.1 C.1.2.1 dX12_wrong_9 rfl (lv_at hl 1 rfl) ?_
  obtain ⟨S1, eS1, hF⟩ := lt_some hF
  refine m_p27 C O X eS1 dX12_wrong_10 (fun H locs X => ?_)
  refine lv_aload_n C.1.1 C.1.2.1 dX12_wrong_13 rfl (lv_at hl 0 rfl) ?_
  refine lv_aload_n C.1.1 C.1.2.1 dX12_wrong_14 rfl (lv_at hl 0 rfl) ?_
  refine m_g25 C X dX12_wrong_15 ?_
  obtain ⟨S2, eS2, hF⟩ := lt_some hF
  refine m_p28 C O X eS2 dX12_wrong_18 (fun H locs X => ?_)
  cases hF
  exact g_vret C X dX12_wrong_21
noncomputable def fX12_wrong_b7 (N : Nat) (S : gS) : Option (Int32 × gS) := some (0, S)
theorem bX12_wrong_7 {N : Nat} {S : gS} {H : Heap} {locs : List Loc} {ls : Array Slot} {o : Int32 × gS} (C : gC p s m args meth c cX12_wrong 2 RX12 none D (mtys cI cS) mord g Am) (O : gO (mcell g cI cS sa) mord g) (X : gX D (mcell g cI cS sa) mord g S s H locs) (hl : lv_has ls 2 []) (hF : fX12_wrong_b7 N S = some o) : W p l e (rmd 0) s m args below meth c H locs 0 0 (gE below args s D (mtys cI cS) (mcell g cI cS sa) mord g none o.2) (F0 m 7 ls []) := by
  unfold fX12_wrong_b7 at hF
  cases hF
  exact g_vret C X dX12_wrong_7
noncomputable def fX12_wrong_b0 (N : Nat) (x1 : Int32) (S : gS) : Option (Int32 × gS) := if (S 99 27) = 0 then fX12_wrong_b8 N x1 S else fX12_wrong_b7 N S
theorem bX12_wrong_0 {N : Nat} {x1 : Int32} {S : gS} {H : Heap} {locs : List Loc} {ls : Array Slot} {o : Int32 × gS} (C : gC p s m args meth c cX12_wrong 2 RX12 none D (mtys cI cS) mord g Am) (O : gO (mcell g cI cS sa) mord g) (X : gX D (mcell g cI cS sa) mord g S s H locs) (hl : lv_has ls 2 [(0, .ref (g 99)), (1, .int x1)]) (hF : fX12_wrong_b0 N x1 S = some o) : W p l e (rmd 0) s m args below meth c H locs 0 0 (gE below args s D (mtys cI cS) (mcell g cI cS sa) mord g none o.2) (F0 m 0 ls []) := by
  unfold fX12_wrong_b0 at hF
  refine lv_aload_n C.1.1 C.1.2.1 dX12_wrong_0 rfl (lv_at hl 0 rfl) ?_
  refine m_g27 C X dX12_wrong_1 ?_
  refine lv_if_eq (tgt := 8) C.1.1 C.1.2.1 dX12_wrong_4 (by decide) (fun h_z => ?_) (fun h_z => ?_)
  · rw [if_pos h_z] at hF
    exact bX12_wrong_8 C O X (lv_sub hl [0, 1] rfl) hF
  · rw [if_neg h_z] at hF
    exact bX12_wrong_7 C O X (lv_sub hl [] rfl) hF
noncomputable def fX12_wrong (N : Nat) (x1 : Int32) (S : gS) : Option (Int32 × gS) := fX12_wrong_b0 N x1 S
theorem kX12_wrong {l : Launch} {D : va_G} {g : Nat → Nat} {cI cS : ClassId} {sa : Nat → Nat → Option Nat} {Am : (Nat → Prop) → State → Heap → Prop} (O : gO (mcell g cI cS sa) mord g) (P : gAm Am) (N : Nat) (x1 : Int32) (S : gS) (o : Int32 × gS) (hF : fX12_wrong N x1 S = some o) : gM l yX12_wrong cX12_wrong 2 none 0 D (mtys cI cS) (mcell g cI cS sa) mord g Am [.ref (g 99), .int x1] S none o.2 :=
  gM_of O P (by decide) (Nat.le_of_ble_eq_true rfl) (fun p e s m args below meth c ls C X hl => bX12_wrong_0 C O X (lv_sub hl [0, 1] rfl) hF)
-- isMarked
noncomputable def fX12_isMarked_b33 (N : Nat) (t0 : Int32) (S : gS) : Option (Int32 × gS) := chk (zb t0) (some (t0, S))
theorem bX12_isMarked_33 {N : Nat} {t0 : Int32} {S : gS} {H : Heap} {locs : List Loc} {ls : Array Slot} {o : Int32 × gS} (C : gC p s m args meth c cX12_isMarked 2 RX12 ((some .boolean)) D (mtys cI cS) mord g Am) (O : gO (mcell g cI cS sa) mord g) (X : gX D (mcell g cI cS sa) mord g S s H locs) (hl : lv_has ls 2 []) (hF : fX12_isMarked_b33 N t0 S = some o) : W p l e (rmd 0) s m args below meth c H locs 0 0 (gE below args s D (mtys cI cS) (mcell g cI cS sa) mord g (some (.int o.1)) o.2) (F0 m 33 ls [.int t0]) := by
  unfold fX12_isMarked_b33 at hF
  obtain ⟨h_1, hF⟩ := chk_some hF
  cases hF
  exact g_zret C X h_1 dX12_isMarked_33
noncomputable def fX12_isMarked_b32 (N : Nat) (S : gS) : Option (Int32 × gS) := fX12_isMarked_b33 N 0 S
theorem bX12_isMarked_32 {N : Nat} {S : gS} {H : Heap} {locs : List Loc} {ls : Array Slot} {o : Int32 × gS} (C : gC p s m args meth c cX12_isMarked 2 RX12 ((some .boolean)) D (mtys cI cS) mord g Am) (O : gO (mcell g cI cS sa) mord g) (X : gX D (mcell g cI cS sa) mord g S s H locs) (hl : lv_has ls 2 []) (hF : fX12_isMarked_b32 N S = some o) : W p l e (rmd 0) s m args below meth c H locs 0 0 (gE below args s D (mtys cI cS) (mcell g cI cS sa) mord g (some (.int o.1)) o.2) (F0 m 32 ls []) := by
  unfold fX12_isMarked_b32 at hF
  refine lv_iconst (v := 0) C.1.1 C.1.2.1 dX12_isMarked_32 (by decide) ?_
  exact bX12_isMarked_33 C O X (lv_sub hl [] rfl) hF
noncomputable def fX12_isMarked_b28 (N : Nat) (S : gS) : Option (Int32 × gS) := fX12_isMarked_b33 N 1 S
theorem bX12_isMarked_28 {N : Nat} {S : gS} {H : Heap} {locs : List Loc} {ls : Array Slot} {o : Int32 × gS} (C : gC p s m args meth c cX12_isMarked 2 RX12 ((some .boolean)) D (mtys cI cS) mord g Am) (O : gO (mcell g cI cS sa) mord g) (X : gX D (mcell g cI cS sa) mord g S s H locs) (hl : lv_has ls 2 []) (hF : fX12_isMarked_b28 N S = some o) : W p l e (rmd 0) s m args below meth c H locs 0 0 (gE below args s D (mtys cI cS) (mcell g cI cS sa) mord g (some (.int o.1)) o.2) (F0 m 28 ls []) := by
  unfold fX12_isMarked_b28 at hF
  refine lv_iconst (v := 1) C.1.1 C.1.2.1 dX12_isMarked_28 (by decide) ?_
  refine lv_goto (tgt := 33) C.1.1 C.1.2.1 dX12_isMarked_29 (by decide) ?_
  exact bX12_isMarked_33 C O X (lv_sub hl [] rfl) hF
noncomputable def fX12_isMarked_b15 (N : Nat) (x1 : Int32) (S : gS) : Option (Int32 × gS) := chk (inb (S 99 25) (700)) (if (S 19 (Int32.toNatClampNeg (S 99 25))) = x1 then fX12_isMarked_b28 N S else fX12_isMarked_b32 N S)
theorem bX12_isMarked_15 {N : Nat} {x1 : Int32} {S : gS} {H : Heap} {locs : List Loc} {ls : Array Slot} {o : Int32 × gS} (C : gC p s m args meth c cX12_isMarked 2 RX12 ((some .boolean)) D (mtys cI cS) mord g Am) (O : gO (mcell g cI cS sa) mord g) (X : gX D (mcell g cI cS sa) mord g S s H locs) (hl : lv_has ls 2 [(0, .ref (g 99)), (1, .int x1)]) (hF : fX12_isMarked_b15 N x1 S = some o) : W p l e (rmd 0) s m args below meth c H locs 0 0 (gE below args s D (mtys cI cS) (mcell g cI cS sa) mord g (some (.int o.1)) o.2) (F0 m 15 ls []) := by
  unfold fX12_isMarked_b15 at hF
  refine lv_aload_n C.1.1 C.1.2.1 dX12_isMarked_15 rfl (lv_at hl 0 rfl) ?_
  refine m_g19 C X dX12_isMarked_16 ?_
  refine lv_aload_n C.1.1 C.1.2.1 dX12_isMarked_19 rfl (lv_at hl 0 rfl) ?_
  refine m_g25 C X dX12_isMarked_20 ?_
  obtain ⟨h_1, hF⟩ := chk_some hF
  refine m_r19 C X  (inb_vp h_1) rfl dX12_isMarked_23 ?_
  refine lv_iload_n C.1.1 C.1.2.1 dX12_isMarked_24 rfl (lv_at hl 1 rfl) ?_
  refine lv_icmp_ne (tgt := 32) C.1.1 C.1.2.1 dX12_isMarked_25 (by decide) (fun h_z => ?_) (fun h_z => ?_)
  · rw [if_neg h_z] at hF
    exact bX12_isMarked_32 C O X (lv_sub hl [] rfl) hF
  · rw [if_pos h_z] at hF
    exact bX12_isMarked_28 C O X (lv_sub hl [] rfl) hF
noncomputable def fX12_isMarked_b7 (N : Nat) (x1 : Int32) (S : gS) : Option (Int32 × gS) := if (S 99 23) = 3 then fX12_isMarked_b15 N x1 S else fX12_isMarked_b32 N S
theorem bX12_isMarked_7 {N : Nat} {x1 : Int32} {S : gS} {H : Heap} {locs : List Loc} {ls : Array Slot} {o : Int32 × gS} (C : gC p s m args meth c cX12_isMarked 2 RX12 ((some .boolean)) D (mtys cI cS) mord g Am) (O : gO (mcell g cI cS sa) mord g) (X : gX D (mcell g cI cS sa) mord g S s H locs) (hl : lv_has ls 2 [(0, .ref (g 99)), (1, .int x1)]) (hF : fX12_isMarked_b7 N x1 S = some o) : W p l e (rmd 0) s m args below meth c H locs 0 0 (gE below args s D (mtys cI cS) (mcell g cI cS sa) mord g (some (.int o.1)) o.2) (F0 m 7 ls []) := by
  unfold fX12_isMarked_b7 at hF
  refine lv_aload_n C.1.1 C.1.2.1 dX12_isMarked_7 rfl (lv_at hl 0 rfl) ?_
  refine m_g23 C X dX12_isMarked_8 ?_
  refine lv_iconst (v := 3) C.1.1 C.1.2.1 dX12_isMarked_11 (by decide) ?_
  refine lv_icmp_ne (tgt := 32) C.1.1 C.1.2.1 dX12_isMarked_12 (by decide) (fun h_z => ?_) (fun h_z => ?_)
  · rw [if_neg h_z] at hF
    exact bX12_isMarked_32 C O X (lv_sub hl [] rfl) hF
  · rw [if_pos h_z] at hF
    exact bX12_isMarked_15 C O X (lv_sub hl [0, 1] rfl) hF
noncomputable def fX12_isMarked_b0 (N : Nat) (x1 : Int32) (S : gS) : Option (Int32 × gS) := if (S 99 27) = 0 then fX12_isMarked_b7 N x1 S else fX12_isMarked_b32 N S
theorem bX12_isMarked_0 {N : Nat} {x1 : Int32} {S : gS} {H : Heap} {locs : List Loc} {ls : Array Slot} {o : Int32 × gS} (C : gC p s m args meth c cX12_isMarked 2 RX12 ((some .boolean)) D (mtys cI cS) mord g Am) (O : gO (mcell g cI cS sa) mord g) (X : gX D (mcell g cI cS sa) mord g S s H locs) (hl : lv_has ls 2 [(0, .ref (g 99)), (1, .int x1)]) (hF : fX12_isMarked_b0 N x1 S = some o) : W p l e (rmd 0) s m args below meth c H locs 0 0 (gE below args s D (mtys cI cS) (mcell g cI cS sa) mord g (some (.int o.1)) o.2) (F0 m 0 ls []) := by
  unfold fX12_isMarked_b0 at hF
  refine lv_aload_n C.1.1 C.1.2.1 dX12_isMarked_0 rfl (lv_at hl 0 rfl) ?_
  refine m_g27 C X dX12_isMarked_1 ?_
  refine lv_if_ne (tgt := 32) C.1.1 C.1.2.1 dX12_isMarked_4 (by decide) (fun h_z => ?_) (fun h_z => ?_)
  · rw [if_neg h_z] at hF
    exact bX12_isMarked_32 C O X (lv_sub hl [] rfl) hF
  · rw [if_pos h_z] at hF
    exact bX12_isMarked_7 C O X (lv_sub hl [0, 1] rfl) hF
noncomputable def fX12_isMarked (N : Nat) (x1 : Int32) (S : gS) : Option (Int32 × gS) := fX12_isMarked_b0 N x1 S
theorem kX12_isMarked {l : Launch} {D : va_G} {g : Nat → Nat} {cI cS : ClassId} {sa : Nat → Nat → Option Nat} {Am : (Nat → Prop) → State → Heap → Prop} (O : gO (mcell g cI cS sa) mord g) (P : gAm Am) (N : Nat) (x1 : Int32) (S : gS) (o : Int32 × gS) (hF : fX12_isMarked N x1 S = some o) : gM l yX12_isMarked cX12_isMarked 2 ((some .boolean)) 0 D (mtys cI cS) (mcell g cI cS sa) mord g Am [.ref (g 99), .int x1] S (some (.int o.1)) o.2 :=
  gM_of O P (by decide) (Nat.le_of_ble_eq_true rfl) (fun p e s m args below meth c ls C X hl => bX12_isMarked_0 C O X (lv_sub hl [0, 1] rfl) hF)
end
end

/-! part 08.m02 -/
section
/-! the reference's methods as maps of states, and their walks (printed by wip/whole/mkm.py) -/
section
variable {p : Program} {l : Launch} {e : Env} {s : State} {m : MethodId} {args : Array Value} {below : List Frame} {meth : Method} {c : Code} {D : va_G} {g : Nat → Nat} {cI cS : ClassId} {sa : Nat → Nat → Option Nat} {Am : (Nat → Prop) → State → Heap → Prop}
-- mark
noncomputable def fX12_mark_b31 (N : Nat) (S : gS) : Option (Int32 × gS) := some (0, S)
theorem bX12_mark_31 {N : Nat} {S : gS} {H : Heap} {locs : List Loc} {ls : Array Slot} {o : Int32 × gS} (C : gC p s m args meth c cX12_mark 2 RX12 none D (mtys cI cS) mord g Am) (O : gO (mcell g cI cS sa) mord g) (X : gX D (mcell g cI cS sa) mord g S s H locs) (hl : lv_has ls 2 []) (hF : fX12_mark_b31 N S = some o) : W p l e (rmd 2) s m args below meth c H locs 0 0 (gE below args s D (mtys cI cS) (mcell g cI cS sa) mord g none o.2) (F0 m 31 ls []) := by
  unfold fX12_mark_b31 at hF
  cases hF
  exact g_vret C X dX12_mark_31
noncomputable def fX12_mark_b27 (N : Nat) (S : gS) : Option (Int32 × gS) := bnd (fX12_stepOn N  S) fun q1 => (fX12_mark_b31 N q1.2)
theorem bX12_mark_27 {N : Nat} {S : gS} {H : Heap} {locs : List Loc} {ls : Array Slot} {o : Int32 × gS} (C : gC p s m args meth c cX12_mark 2 RX12 none D (mtys cI cS) mord g Am) (O : gO (mcell g cI cS sa) mord g) (X : gX D (mcell g cI cS sa) mord g S s H locs) (hl : lv_has ls 2 [(0, .ref (g 99))]) (hF : fX12_mark_b27 N S = some o) : W p l e (rmd 2) s m args below meth c H locs 0 0 (gE below args s D (mtys cI cS) (mcell g cI cS sa) mord g none o.2) (F0 m 27 ls []) := by
  unfold fX12_mark_b27 at hF
  refine lv_aload_n C.1.1 C.1.2.1 dX12_mark_27 rfl (lv_at hl 0 rfl) ?_
  obtain ⟨q1, hq1, hF⟩ := bnd_some hF
  refine m_callV C X vX12_stepOn rfl (kX12_stepOn O C.2.2.2.2.1 N   S q1 hq1) (Nat.le_of_ble_eq_true rfl) (Nat.le_of_ble_eq_true rfl) (Nat.le_of_ble_eq_true rfl) (Nat.le_of_ble_eq_true rfl) rfl hl.1 rfl (Nat.le_of_ble_eq_true rfl) dX12_mark_28 (fun H locs X => ?_)
  exact bX12_mark_31 C O X (lv_sub hl [] rfl) hF
noncomputable def fX12_mark_b20 (N : Nat) (S : gS) : Option (Int32 × gS) := if (S 99 27) = 0 then fX12_mark_b27 N S else fX12_mark_b31 N S
theorem bX12_mark_20 {N : Nat} {S : gS} {H : Heap} {locs : List Loc} {ls : Array Slot} {o : Int32 × gS} (C : gC p s m args meth c cX12_mark 2 RX12 none D (mtys cI cS) mord g Am) (O : gO (mcell g cI cS sa) mord g) (X : gX D (mcell g cI cS sa) mord g S s H locs) (hl : lv_has ls 2 [(0, .ref (g 99))]) (hF : fX12_mark_b20 N S = some o) : W p l e (rmd 2) s m args below meth c H locs 0 0 (gE below args s D (mtys cI cS) (mcell g cI cS sa) mord g none o.2) (F0 m 20 ls []) := by
  unfold fX12_mark_b20 at hF
  refine lv_aload_n C.1.1 C.1.2.1 dX12_mark_20 rfl (lv_at hl 0 rfl) ?_
  refine m_g27 C X dX12_mark_21 ?_
  refine lv_if_ne (tgt := 31) C.1.1 C.1.2.1 dX12_mark_24 (by decide) (fun h_z => ?_) (fun h_z => ?_)
  · rw [if_neg h_z] at hF
    exact bX12_mark_31 C O X (lv_sub hl [] rfl) hF
  · rw [if_pos h_z] at hF
    exact bX12_mark_27 C O X (lv_sub hl [0] rfl) hF
noncomputable def fX12_mark_b15 (N : Nat) (S : gS) : Option (Int32 × gS) := bnd (fX12_wrong N 1 S) fun q1 => (fX12_mark_b20 N q1.2)
theorem bX12_mark_15 {N : Nat} {S : gS} {H : Heap} {locs : List Loc} {ls : Array Slot} {o : Int32 × gS} (C : gC p s m args meth c cX12_mark 2 RX12 none D (mtys cI cS) mord g Am) (O : gO (mcell g cI cS sa) mord g) (X : gX D (mcell g cI cS sa) mord g S s H locs) (hl : lv_has ls 2 [(0, .ref (g 99))]) (hF : fX12_mark_b15 N S = some o) : W p l e (rmd 2) s m args below meth c H locs 0 0 (gE below args s D (mtys cI cS) (mcell g cI cS sa) mord g none o.2) (F0 m 15 ls []) := by
  unfold fX12_mark_b15 at hF
  refine lv_aload_n C.1.1 C.1.2.1 dX12_mark_15 rfl (lv_at hl 0 rfl) ?_
  refine lv_iconst (v := 1) C.1.1 C.1.2.1 dX12_mark_16 (by decide) ?_
  obtain ⟨q1, hq1, hF⟩ := bnd_some hF
  refine m_callV C X vX12_wrong rfl (kX12_wrong O C.2.2.2.2.1 N 1  S q1 hq1) (Nat.le_of_ble_eq_true rfl) (Nat.le_of_ble_eq_true rfl) (Nat.le_of_ble_eq_true rfl) (Nat.le_of_ble_eq_true rfl) rfl hl.1 rfl (Nat.le_of_ble_eq_true rfl) dX12_mark_17 (fun H locs X => ?_)
  exact bX12_mark_20 C O X (lv_sub hl [0] rfl) hF
noncomputable def fX12_mark_b7 (N : Nat) (x1 : Int32) (S : gS) : Option (Int32 × gS) := bnd (fX12_isMarked N x1 S) fun q1 => (if q1.1 = 0 then fX12_mark_b15 N q1.2 else fX12_mark_b20 N q1.2)
theorem bX12_mark_7 {N : Nat} {x1 : Int32} {S : gS} {H : Heap} {locs : List Loc} {ls : Array Slot} {o : Int32 × gS} (C : gC p s m args meth c cX12_mark 2 RX12 none D (mtys cI cS) mord g Am) (O : gO (mcell g cI cS sa) mord g) (X : gX D (mcell g cI cS sa) mord g S s H locs) (hl : lv_has ls 2 [(0, .ref (g 99)), (1, .int x1)]) (hF : fX12_mark_b7 N x1 S = some o) : W p l e (rmd 2) s m args below meth c H locs 0 0 (gE below args s D (mtys cI cS) (mcell g cI cS sa) mord g none o.2) (F0 m 7 ls []) := by
  unfold fX12_mark_b7 at hF
  refine lv_aload_n C.1.1 C.1.2.1 dX12_mark_7 rfl (lv_at hl 0 rfl) ?_
  refine lv_iload_n C.1.1 C.1.2.1 dX12_mark_8 rfl (lv_at hl 1 rfl) ?_
  obtain ⟨q1, hq1, hF⟩ := bnd_some hF
  refine m_callVi C X vX12_isMarked rfl (kX12_isMarked O C.2.2.2.2.1 N x1  S q1 hq1) (Nat.le_of_ble_eq_true rfl) (Nat.le_of_ble_eq_true rfl) (Nat.le_of_ble_eq_true rfl) (Nat.le_of_ble_eq_true rfl) rfl hl.1 rfl (Nat.le_of_ble_eq_true rfl) dX12_mark_9 (fun H locs X => ?_)
  refine lv_if_ne (tgt := 20) C.1.1 C.1.2.1 dX12_mark_12 (by decide) (fun h_z => ?_) (fun h_z => ?_)
  · rw [if_neg h_z] at hF
    exact bX12_mark_20 C O X (lv_sub hl [0] rfl) hF
  · rw [if_pos h_z] at hF
    exact bX12_mark_15 C O X (lv_sub hl [0] rfl) hF
noncomputable def fX12_mark_b0 (N : Nat) (x1 : Int32) (S : gS) : Option (Int32 × gS) := if (S 99 27) = 0 then fX12_mark_b7 N x1 S else fX12_mark_b20 N S
theorem bX12_mark_0 {N : Nat} {x1 : Int32} {S : gS} {H : Heap} {locs : List Loc} {ls : Array Slot} {o : Int32 × gS} (C : gC p s m args meth c cX12_mark 2 RX12 none D (mtys cI cS) mord g Am) (O : gO (mcell g cI cS sa) mord g) (X : gX D (mcell g cI cS sa) mord g S s H locs) (hl : lv_has ls 2 [(0, .ref (g 99)), (1, .int x1)]) (hF : fX12_mark_b0 N x1 S = some o) : W p l e (rmd 2) s m args below meth c H locs 0 0 (gE below args s D (mtys cI cS) (mcell g cI cS sa) mord g none o.2) (F0 m 0 ls []) := by
  unfold fX12_mark_b0 at hF
  refine lv_aload_n C.1.1 C.1.2.1 dX12_mark_0 rfl (lv_at hl 0 rfl) ?_
  refine m_g27 C X dX12_mark_1 ?_
  refine lv_if_ne (tgt := 20) C.1.1 C.1.2.1 dX12_mark_4 (by decide) (fun h_z => ?_) (fun h_z => ?_)
  · rw [if_neg h_z] at hF
    exact bX12_mark_20 C O X (lv_sub hl [0] rfl) hF
  · rw [if_pos h_z] at hF
    exact bX12_mark_7 C O X (lv_sub hl [0, 1] rfl) hF
noncomputable def fX12_mark (N : Nat) (x1 : Int32) (S : gS) : Option (Int32 × gS) := fX12_mark_b0 N x1 S
theorem kX12_mark {l : Launch} {D : va_G} {g : Nat → Nat} {cI cS : ClassId} {sa : Nat → Nat → Option Nat} {Am : (Nat → Prop) → State → Heap → Prop} (O : gO (mcell g cI cS sa) mord g) (P : gAm Am) (N : Nat) (x1 : Int32) (S : gS) (o : Int32 × gS) (hF : fX12_mark N x1 S = some o) : gM l yX12_mark cX12_mark 2 none 2 D (mtys cI cS) (mcell g cI cS sa) mord g Am [.ref (g 99), .int x1] S none o.2 :=
  gM_of O P (by decide) (Nat.le_of_ble_eq_true rfl) (fun p e s m args below meth c ls C X hl => bX12_mark_0 C O X (lv_sub hl [0, 1] rfl) hF)
-- numberNow
noncomputable def fX12_numberNow_b74 (N : Nat) (t0 : Int32) (S : gS) : Option (Int32 × gS) := some (t0, S)
theorem bX12_numberNow_74 {N : Nat} {t0 : Int32} {S : gS} {H : Heap} {locs : List Loc} {ls : Array Slot} {o : Int32 × gS} (C : gC p s m args meth c cX12_numberNow 3 RX12 ((some .int)) D (mtys cI cS) mord g Am) (O : gO (mcell g cI cS sa) mord g) (X : gX D (mcell g cI cS sa) mord g S s H locs) (hl : lv_has ls 3 []) (hF : fX12_numberNow_b74 N t0 S = some o) : W p l e (rmd 1) s m args below meth c H locs 0 0 (gE below args s D (mtys cI cS) (mcell g cI cS sa) mord g (some (.int o.1)) o.2) (F0 m 74 ls [.int t0]) := by
  unfold fX12_numberNow_b74 at hF
  cases hF
  exact g_iret C X dX12_numberNow_74
noncomputable def fX12_numberNow_b73 (N : Nat) (S : gS) : Option (Int32 × gS) := fX12_numberNow_b74 N 0 S
theorem bX12_numberNow_73 {N : Nat} {S : gS} {H : Heap} {locs : List Loc} {ls : Array Slot} {o : Int32 × gS} (C : gC p s m args meth c cX12_numberNow 3 RX12 ((some .int)) D (mtys cI cS) mord g Am) (O : gO (mcell g cI cS sa) mord g) (X : gX D (mcell g cI cS sa) mord g S s H locs) (hl : lv_has ls 3 []) (hF : fX12_numberNow_b73 N S = some o) : W p l e (rmd 1) s m args below meth c H locs 0 0 (gE below args s D (mtys cI cS) (mcell g cI cS sa) mord g (some (.int o.1)) o.2) (F0 m 73 ls []) := by
  unfold fX12_numberNow_b73 at hF
  refine lv_iconst (v := 0) C.1.1 C.1.2.1 dX12_numberNow_73 (by decide) ?_
  exact bX12_numberNow_74 C O X (lv_sub hl [] rfl) hF
noncomputable def fX12_numberNow_b66 (N : Nat) (S : gS) : Option (Int32 × gS) := fX12_numberNow_b74 N (S 99 24) S
theorem bX12_numberNow_66 {N : Nat} {S : gS} {H : Heap} {locs : List Loc} {ls : Array Slot} {o : Int32 × gS} (C : gC p s m args meth c cX12_numberNow 3 RX12 ((some .int)) D (mtys cI cS) mord g Am) (O : gO (mcell g cI cS sa) mord g) (X : gX D (mcell g cI cS sa) mord g S s H locs) (hl : lv_has ls 3 [(0, .ref (g 99))]) (hF : fX12_numberNow_b66 N S = some o) : W p l e (rmd 1) s m args below meth c H locs 0 0 (gE below args s D (mtys cI cS) (mcell g cI cS sa) mord g (some (.int o.1)) o.2) (F0 m 66 ls []) := by
  unfold fX12_numberNow_b66 at hF
  refine lv_aload_n C.1.1 C.1.2.1 dX12_numberNow_66 rfl (lv_at hl 0 rfl) ?_
  refine m_g24 C X dX12_numberNow_67 ?_
  refine lv_goto (tgt := 74) C.1.1 C.1.2.1 dX12_numberNow_70 (by decide) ?_
  exact bX12_numberNow_74 C O X (lv_sub hl [] rfl) hF
noncomputable def fX12_numberNow_b59 (N : Nat) (S : gS) : Option (Int32 × gS) := if (S 99 27) = 0 then fX12_numberNow_b66 N S else fX12_numberNow_b73 N S
theorem bX12_numberNow_59 {N : Nat} {S : gS} {H : Heap} {locs : List Loc} {ls : Array Slot} {o : Int32 × gS} (C : gC p s m args meth c cX12_numberNow 3 RX12 ((some .int)) D (mtys cI cS) mord g Am) (O : gO (mcell g cI cS sa) mord g) (X : gX D (mcell g cI cS sa) mord g S s H locs) (hl : lv_has ls 3 [(0, .ref (g 99))]) (hF : fX12_numberNow_b59 N S = some o) : W p l e (rmd 1) s m args below meth c H locs 0 0 (gE below args s D (mtys cI cS) (mcell g cI cS sa) mord g (some (.int o.1)) o.2) (F0 m 59 ls []) := by
  unfold fX12_numberNow_b59 at hF
  refine lv_aload_n C.1.1 C.1.2.1 dX12_numberNow_59 rfl (lv_at hl 0 rfl) ?_
  refine m_g27 C X dX12_numberNow_60 ?_
  refine lv_if_ne (tgt := 73) C.1.1 C.1.2.1 dX12_numberNow_63 (by decide) (fun h_z => ?_) (fun h_z => ?_)
  · rw [if_neg h_z] at hF
    exact bX12_numberNow_73 C O X (lv_sub hl [] rfl) hF
  · rw [if_pos h_z] at hF
    exact bX12_numberNow_66 C O X (lv_sub hl [0] rfl) hF
noncomputable def fX12_numberNow_b54 (N : Nat) (S : gS) : Option (Int32 × gS) := bnd (fX12_wrong N 2 S) fun q1 => (fX12_numberNow_b59 N q1.2)
theorem bX12_numberNow_54 {N : Nat} {S : gS} {H : Heap} {locs : List Loc} {ls : Array Slot} {o : Int32 × gS} (C : gC p s m args meth c cX12_numberNow 3 RX12 ((some .int)) D (mtys cI cS) mord g Am) (O : gO (mcell g cI cS sa) mord g) (X : gX D (mcell g cI cS sa) mord g S s H locs) (hl : lv_has ls 3 [(0, .ref (g 99))]) (hF : fX12_numberNow_b54 N S = some o) : W p l e (rmd 1) s m args below meth c H locs 0 0 (gE below args s D (mtys cI cS) (mcell g cI cS sa) mord g (some (.int o.1)) o.2) (F0 m 54 ls []) := by
  unfold fX12_numberNow_b54 at hF
  refine lv_aload_n C.1.1 C.1.2.1 dX12_numberNow_54 rfl (lv_at hl 0 rfl) ?_
  refine lv_iconst (v := 2) C.1.1 C.1.2.1 dX12_numberNow_55 (by decide) ?_
  obtain ⟨q1, hq1, hF⟩ := bnd_some hF
  refine m_callV C X vX12_wrong rfl (kX12_wrong O C.2.2.2.2.1 N 2  S q1 hq1) (Nat.le_of_ble_eq_true rfl) (Nat.le_of_ble_eq_true rfl) (Nat.le_of_ble_eq_true rfl) (Nat.le_of_ble_eq_true rfl) rfl hl.1 rfl (Nat.le_of_ble_eq_true rfl) dX12_numberNow_56 (fun H locs X => ?_)
  exact bX12_numberNow_59 C O X (lv_sub hl [0] rfl) hF
noncomputable def fX12_numberNow_b46 (N : Nat) (x2 : Int32) (S : gS) : Option (Int32 × gS) := if (S 99 24) ≤ x2 then fX12_numberNow_b59 N S else fX12_numberNow_b54 N S
theorem bX12_numberNow_46 {N : Nat} {x2 : Int32} {S : gS} {H : Heap} {locs : List Loc} {ls : Array Slot} {o : Int32 × gS} (C : gC p s m args meth c cX12_numberNow 3 RX12 ((some .int)) D (mtys cI cS) mord g Am) (O : gO (mcell g cI cS sa) mord g) (X : gX D (mcell g cI cS sa) mord g S s H locs) (hl : lv_has ls 3 [(0, .ref (g 99)), (2, .int x2)]) (hF : fX12_numberNow_b46 N x2 S = some o) : W p l e (rmd 1) s m args below meth c H locs 0 0 (gE below args s D (mtys cI cS) (mcell g cI cS sa) mord g (some (.int o.1)) o.2) (F0 m 46 ls []) := by
  unfold fX12_numberNow_b46 at hF
  refine lv_aload_n C.1.1 C.1.2.1 dX12_numberNow_46 rfl (lv_at hl 0 rfl) ?_
  refine m_g24 C X dX12_numberNow_47 ?_
  refine lv_iload_n C.1.1 C.1.2.1 dX12_numberNow_50 rfl (lv_at hl 1 rfl) ?_
  refine lv_icmp_le (tgt := 59) C.1.1 C.1.2.1 dX12_numberNow_51 (by decide) (fun h_z => ?_) (fun h_z => ?_)
  · rw [if_pos h_z] at hF
    exact bX12_numberNow_59 C O X (lv_sub hl [0] rfl) hF
  · rw [if_neg h_z] at hF
    exact bX12_numberNow_54 C O X (lv_sub hl [0] rfl) hF
noncomputable def fX12_numberNow_b38 (N : Nat) (x1 : Int32) (x2 : Int32) (S : gS) : Option (Int32 × gS) := if (S 99 24) < x1 then fX12_numberNow_b54 N S else fX12_numberNow_b46 N x2 S
theorem bX12_numberNow_38 {N : Nat} {x1 : Int32} {x2 : Int32} {S : gS} {H : Heap} {locs : List Loc} {ls : Array Slot} {o : Int32 × gS} (C : gC p s m args meth c cX12_numberNow 3 RX12 ((some .int)) D (mtys cI cS) mord g Am) (O : gO (mcell g cI cS sa) mord g) (X : gX D (mcell g cI cS sa) mord g S s H locs) (hl : lv_has ls 3 [(0, .ref (g 99)), (1, .int x1), (2, .int x2)]) (hF : fX12_numberNow_b38 N x1 x2 S = some o) : W p l e (rmd 1) s m args below meth c H locs 0 0 (gE below args s D (mtys cI cS) (mcell g cI cS sa) mord g (some (.int o.1)) o.2) (F0 m 38 ls []) := by
  unfold fX12_numberNow_b38 at hF
  refine lv_aload_n C.1.1 C.1.2.1 dX12_numberNow_38 rfl (lv_at hl 0 rfl) ?_
  refine m_g24 C X dX12_numberNow_39 ?_
  refine lv_iload_n C.1.1 C.1.2.1 dX12_numberNow_42 rfl (lv_at hl 1 rfl) ?_
  refine lv_icmp_lt (tgt := 54) C.1.1 C.1.2.1 dX12_numberNow_43 (by decide) (fun h_z => ?_) (fun h_z => ?_)
  · rw [if_pos h_z] at hF
    exact bX12_numberNow_54 C O X (lv_sub hl [0] rfl) hF
  · rw [if_neg h_z] at hF
    exact bX12_numberNow_46 C O X (lv_sub hl [0, 2] rfl) hF
noncomputable def fX12_numberNow_b25 (N : Nat) (x1 : Int32) (x2 : Int32) (S : gS) : Option (Int32 × gS) := if 4 < (((S 99 26) - (S 99 25) : Int32)) then fX12_numberNow_b54 N S else fX12_numberNow_b38 N x1 x2 S
theorem bX12_numberNow_25 {N : Nat} {x1 : Int32} {x2 : Int32} {S : gS} {H : Heap} {locs : List Loc} {ls : Array Slot} {o : Int32 × gS} (C : gC p s m args meth c cX12_numberNow 3 RX12 ((some .int)) D (mtys cI cS) mord g Am) (O : gO (mcell g cI cS sa) mord g) (X : gX D (mcell g cI cS sa) mord g S s H locs) (hl : lv_has ls 3 [(0, .ref (g 99)), (1, .int x1), (2, .int x2)]) (hF : fX12_numberNow_b25 N x1 x2 S = some o) : W p l e (rmd 1) s m args below meth c H locs 0 0 (gE below args s D (mtys cI cS) (mcell g cI cS sa) mord g (some (.int o.1)) o.2) (F0 m 25 ls []) := by
  unfold fX12_numberNow_b25 at hF
  refine lv_aload_n C.1.1 C.1.2.1 dX12_numberNow_25 rfl (lv_at hl 0 rfl) ?_
  refine m_g26 C X dX12_numberNow_26 ?_
  refine lv_aload_n C.1.1 C.1.2.1 dX12_numberNow_29 rfl (lv_at hl 0 rfl) ?_
  refine m_g25 C X dX12_numberNow_30 ?_
  refine lv_isub C.1.1 C.1.2.1 dX12_numberNow_33 ?_
  refine lv_iconst (v := 4) C.1.1 C.1.2.1 dX12_numberNow_34 (by decide) ?_
  refine lv_icmp_gt (tgt := 54) C.1.1 C.1.2.1 dX12_numberNow_35 (by decide) (fun h_z => ?_) (fun h_z => ?_)
  · rw [if_pos h_z] at hF
    exact bX12_numberNow_54 C O X (lv_sub hl [0] rfl) hF
  · rw [if_neg h_z] at hF
    exact bX12_numberNow_38 C O X (lv_sub hl [0, 1, 2] rfl) hF
noncomputable def fX12_numberNow_b17 (N : Nat) (S : gS) : Option (Int32 × gS) := bnd (fX12_wrong N 1 S) fun q1 => (fX12_numberNow_b59 N q1.2)
theorem bX12_numberNow_17 {N : Nat} {S : gS} {H : Heap} {locs : List Loc} {ls : Array Slot} {o : Int32 × gS} (C : gC p s m args meth c cX12_numberNow 3 RX12 ((some .int)) D (mtys cI cS) mord g Am) (O : gO (mcell g cI cS sa) mord g) (X : gX D (mcell g cI cS sa) mord g S s H locs) (hl : lv_has ls 3 [(0, .ref (g 99))]) (hF : fX12_numberNow_b17 N S = some o) : W p l e (rmd 1) s m args below meth c H locs 0 0 (gE below args s D (mtys cI cS) (mcell g cI cS sa) mord g (some (.int o.1)) o.2) (F0 m 17 ls []) := by
  unfold fX12_numberNow_b17 at hF
  refine lv_aload_n C.1.1 C.1.2.1 dX12_numberNow_17 rfl (lv_at hl 0 rfl) ?_
  refine lv_iconst (v := 1) C.1.1 C.1.2.1 dX12_numberNow_18 (by decide) ?_
  obtain ⟨q1, hq1, hF⟩ := bnd_some hF
  refine m_callV C X vX12_wrong rfl (kX12_wrong O C.2.2.2.2.1 N 1  S q1 hq1) (Nat.le_of_ble_eq_true rfl) (Nat.le_of_ble_eq_true rfl) (Nat.le_of_ble_eq_true rfl) (Nat.le_of_ble_eq_true rfl) rfl hl.1 rfl (Nat.le_of_ble_eq_true rfl) dX12_numberNow_19 (fun H locs X => ?_)
  refine lv_goto (tgt := 59) C.1.1 C.1.2.1 dX12_numberNow_22 (by decide) ?_
  exact bX12_numberNow_59 C O X (lv_sub hl [0] rfl) hF
noncomputable def fX12_numberNow_b9 (N : Nat) (x1 : Int32) (x2 : Int32) (S : gS) : Option (Int32 × gS) := if (S 99 23) = 2 then fX12_numberNow_b25 N x1 x2 S else fX12_numberNow_b17 N S
theorem bX12_numberNow_9 {N : Nat} {x1 : Int32} {x2 : Int32} {S : gS} {H : Heap} {locs : List Loc} {ls : Array Slot} {o : Int32 × gS} (C : gC p s m args meth c cX12_numberNow 3 RX12 ((some .int)) D (mtys cI cS) mord g Am) (O : gO (mcell g cI cS sa) mord g) (X : gX D (mcell g cI cS sa) mord g S s H locs) (hl : lv_has ls 3 [(0, .ref (g 99)), (1, .int x1), (2, .int x2)]) (hF : fX12_numberNow_b9 N x1 x2 S = some o) : W p l e (rmd 1) s m args below meth c H locs 0 0 (gE below args s D (mtys cI cS) (mcell g cI cS sa) mord g (some (.int o.1)) o.2) (F0 m 9 ls []) := by
  unfold fX12_numberNow_b9 at hF
  refine lv_aload_n C.1.1 C.1.2.1 dX12_numberNow_9 rfl (lv_at hl 0 rfl) ?_
  refine m_g23 C X dX12_numberNow_10 ?_
  refine lv_iconst (v := 2) C.1.1 C.1.2.1 dX12_numberNow_13 (by decide) ?_
  refine lv_icmp_eq (tgt := 25) C.1.1 C.1.2.1 dX12_numberNow_14 (by decide) (fun h_z => ?_) (fun h_z => ?_)
  · rw [if_pos h_z] at hF
    exact bX12_numberNow_25 C O X (lv_sub hl [0, 1, 2] rfl) hF
  · rw [if_neg h_z] at hF
    exact bX12_numberNow_17 C O X (lv_sub hl [0] rfl) hF
noncomputable def fX12_numberNow_b7 (N : Nat) (S : gS) : Option (Int32 × gS) := some (0, S)
theorem bX12_numberNow_7 {N : Nat} {S : gS} {H : Heap} {locs : List Loc} {ls : Array Slot} {o : Int32 × gS} (C : gC p s m args meth c cX12_numberNow 3 RX12 ((some .int)) D (mtys cI cS) mord g Am) (O : gO (mcell g cI cS sa) mord g) (X : gX D (mcell g cI cS sa) mord g S s H locs) (hl : lv_has ls 3 []) (hF : fX12_numberNow_b7 N S = some o) : W p l e (rmd 1) s m args below meth c H locs 0 0 (gE below args s D (mtys cI cS) (mcell g cI cS sa) mord g (some (.int o.1)) o.2) (F0 m 7 ls []) := by
  unfold fX12_numberNow_b7 at hF
  refine lv_iconst (v := 0) C.1.1 C.1.2.1 dX12_numberNow_7 (by decide) ?_
  cases hF
  exact g_iret C X dX12_numberNow_8
noncomputable def fX12_numberNow_b0 (N : Nat) (x1 : Int32) (x2 : Int32) (S : gS) : Option (Int32 × gS) := if (S 99 27) = 0 then fX12_numberNow_b9 N x1 x2 S else fX12_numberNow_b7 N S
theorem bX12_numberNow_0 {N : Nat} {x1 : Int32} {x2 : Int32} {S : gS} {H : Heap} {locs : List Loc} {ls : Array Slot} {o : Int32 × gS} (C : gC p s m args meth c cX12_numberNow 3 RX12 ((some .int)) D (mtys cI cS) mord g Am) (O : gO (mcell g cI cS sa) mord g) (X : gX D (mcell g cI cS sa) mord g S s H locs) (hl : lv_has ls 3 [(0, .ref (g 99)), (1, .int x1), (2, .int x2)]) (hF : fX12_numberNow_b0 N x1 x2 S = some o) : W p l e (rmd 1) s m args below meth c H locs 0 0 (gE below args s D (mtys cI cS) (mcell g cI cS sa) mord g (some (.int o.1)) o.2) (F0 m 0 ls []) := by
  unfold fX12_numberNow_b0 at hF
  refine lv_aload_n C.1.1 C.1.2.1 dX12_numberNow_0 rfl (lv_at hl 0 rfl) ?_
  refine m_g27 C X dX12_numberNow_1 ?_
  refine lv_if_eq (tgt := 9) C.1.1 C.1.2.1 dX12_numberNow_4 (by decide) (fun h_z => ?_) (fun h_z => ?_)
  · rw [if_pos h_z] at hF
    exact bX12_numberNow_9 C O X (lv_sub hl [0, 1, 2] rfl) hF
  · rw [if_neg h_z] at hF
    exact bX12_numberNow_7 C O X (lv_sub hl [] rfl) hF
noncomputable def fX12_numberNow (N : Nat) (x1 : Int32) (x2 : Int32) (S : gS) : Option (Int32 × gS) := fX12_numberNow_b0 N x1 x2 S
theorem kX12_numberNow {l : Launch} {D : va_G} {g : Nat → Nat} {cI cS : ClassId} {sa : Nat → Nat → Option Nat} {Am : (Nat → Prop) → State → Heap → Prop} (O : gO (mcell g cI cS sa) mord g) (P : gAm Am) (N : Nat) (x1 : Int32) (x2 : Int32) (S : gS) (o : Int32 × gS) (hF : fX12_numberNow N x1 x2 S = some o) : gM l yX12_numberNow cX12_numberNow 3 ((some .int)) 1 D (mtys cI cS) (mcell g cI cS sa) mord g Am [.ref (g 99), .int x1, .int x2] S (some (.int o.1)) o.2 :=
  gM_of O P (by decide) (Nat.le_of_ble_eq_true rfl) (fun p e s m args below meth c ls C X hl => bX12_numberNow_0 C O X (lv_sub hl [0, 1, 2] rfl) hF)
-- readNumber
noncomputable def fX12_readNumber_b18 (N : Nat) (x3 : Int32) (S : gS) : Option (Int32 × gS) := some (x3, S)
theorem bX12_readNumber_18 {N : Nat} {x3 : Int32} {S : gS} {H : Heap} {locs : List Loc} {ls : Array Slot} {o : Int32 × gS} (C : gC p s m args meth c cX12_readNumber 4 RX12 ((some .int)) D (mtys cI cS) mord g Am) (O : gO (mcell g cI cS sa) mord g) (X : gX D (mcell g cI cS sa) mord g S s H locs) (hl : lv_has ls 4 [(3, .int x3)]) (hF : fX12_readNumber_b18 N x3 S = some o) : W p l e (rmd 2) s m args below meth c H locs 0 0 (gE below args s D (mtys cI cS) (mcell g cI cS sa) mord g (some (.int o.1)) o.2) (F0 m 18 ls []) := by
  unfold fX12_readNumber_b18 at hF
  refine lv_iload_n C.1.1 C.1.2.1 dX12_readNumber_18 rfl (lv_at hl 0 rfl) ?_
  cases hF
  exact g_iret C X dX12_readNumber_19
noncomputable def fX12_readNumber_b14 (N : Nat) (x3 : Int32) (S : gS) : Option (Int32 × gS) := bnd (fX12_stepOn N  S) fun q1 => (fX12_readNumber_b18 N x3 q1.2)
theorem bX12_readNumber_14 {N : Nat} {x3 : Int32} {S : gS} {H : Heap} {locs : List Loc} {ls : Array Slot} {o : Int32 × gS} (C : gC p s m args meth c cX12_readNumber 4 RX12 ((some .int)) D (mtys cI cS) mord g Am) (O : gO (mcell g cI cS sa) mord g) (X : gX D (mcell g cI cS sa) mord g S s H locs) (hl : lv_has ls 4 [(0, .ref (g 99)), (3, .int x3)]) (hF : fX12_readNumber_b14 N x3 S = some o) : W p l e (rmd 2) s m args below meth c H locs 0 0 (gE below args s D (mtys cI cS) (mcell g cI cS sa) mord g (some (.int o.1)) o.2) (F0 m 14 ls []) := by
  unfold fX12_readNumber_b14 at hF
  refine lv_aload_n C.1.1 C.1.2.1 dX12_readNumber_14 rfl (lv_at hl 0 rfl) ?_
  obtain ⟨q1, hq1, hF⟩ := bnd_some hF
  refine m_callV C X vX12_stepOn rfl (kX12_stepOn O C.2.2.2.2.1 N   S q1 hq1) (Nat.le_of_ble_eq_true rfl) (Nat.le_of_ble_eq_true rfl) (Nat.le_of_ble_eq_true rfl) (Nat.le_of_ble_eq_true rfl) rfl hl.1 rfl (Nat.le_of_ble_eq_true rfl) dX12_readNumber_15 (fun H locs X => ?_)
  exact bX12_readNumber_18 C O X (lv_sub hl [1] rfl) hF
noncomputable def fX12_readNumber_b0 (N : Nat) (x1 : Int32) (x2 : Int32) (S : gS) : Option (Int32 × gS) := bnd (fX12_numberNow N x1 x2 S) fun q1 => (if (q1.2 99 27) = 0 then fX12_readNumber_b14 N q1.1 q1.2 else fX12_readNumber_b18 N q1.1 q1.2)
theorem bX12_readNumber_0 {N : Nat} {x1 : Int32} {x2 : Int32} {S : gS} {H : Heap} {locs : List Loc} {ls : Array Slot} {o : Int32 × gS} (C : gC p s m args meth c cX12_readNumber 4 RX12 ((some .int)) D (mtys cI cS) mord g Am) (O : gO (mcell g cI cS sa) mord g) (X : gX D (mcell g cI cS sa) mord g S s H locs) (hl : lv_has ls 4 [(0, .ref (g 99)), (1, .int x1), (2, .int x2)]) (hF : fX12_readNumber_b0 N x1 x2 S = some o) : W p l e (rmd 2) s m args below meth c H locs 0 0 (gE below args s D (mtys cI cS) (mcell g cI cS sa) mord g (some (.int o.1)) o.2) (F0 m 0 ls []) := by
  unfold fX12_readNumber_b0 at hF
  refine lv_aload_n C.1.1 C.1.2.1 dX12_readNumber_0 rfl (lv_at hl 0 rfl) ?_
  refine lv_iload_n C.1.1 C.1.2.1 dX12_readNumber_1 rfl (lv_at hl 1 rfl) ?_
  refine lv_iload_n C.1.1 C.1.2.1 dX12_readNumber_2 rfl (lv_at hl 2 rfl) ?_
  obtain ⟨q1, hq1, hF⟩ := bnd_some hF
  refine m_callVi C X vX12_numberNow rfl (kX12_numberNow O C.2.2.2.2.1 N x1 x2  S q1 hq1) (Nat.le_of_ble_eq_true rfl) (Nat.le_of_ble_eq_true rfl) (Nat.le_of_ble_eq_true rfl) (Nat.le_of_ble_eq_true rfl) rfl hl.1 rfl (Nat.le_of_ble_eq_true rfl) dX12_readNumber_3 (fun H locs X => ?_)
  refine lv_istore_n (lv' := [(3, .int q1.1), (0, .ref (g 99)), (1, .int x1), (2, .int x2)]) C.1.1 C.1.2.1 dX12_readNumber_6 rfl hl (by decide) rfl (fun ls hl => ?_)
  refine lv_aload_n C.1.1 C.1.2.1 dX12_readNumber_7 rfl (lv_at hl 1 rfl) ?_
  refine m_g27 C X dX12_readNumber_8 ?_
  refine lv_if_ne (tgt := 18) C.1.1 C.1.2.1 dX12_readNumber_11 (by decide) (fun h_z => ?_) (fun h_z => ?_)
  · rw [if_neg h_z] at hF
    exact bX12_readNumber_18 C O X (lv_sub hl [0] rfl) hF
  · rw [if_pos h_z] at hF
    exact bX12_readNumber_14 C O X (lv_sub hl [1, 0] rfl) hF
noncomputable def fX12_readNumber (N : Nat) (x1 : Int32) (x2 : Int32) (S : gS) : Option (Int32 × gS) := fX12_readNumber_b0 N x1 x2 S
theorem kX12_readNumber {l : Launch} {D : va_G} {g : Nat → Nat} {cI cS : ClassId} {sa : Nat → Nat → Option Nat} {Am : (Nat → Prop) → State → Heap → Prop} (O : gO (mcell g cI cS sa) mord g) (P : gAm Am) (N : Nat) (x1 : Int32) (x2 : Int32) (S : gS) (o : Int32 × gS) (hF : fX12_readNumber N x1 x2 S = some o) : gM l yX12_readNumber cX12_readNumber 4 ((some .int)) 2 D (mtys cI cS) (mcell g cI cS sa) mord g Am [.ref (g 99), .int x1, .int x2] S (some (.int o.1)) o.2 :=
  gM_of O P (by decide) (Nat.le_of_ble_eq_true rfl) (fun p e s m args below meth c ls C X hl => bX12_readNumber_0 C O X (lv_sub hl [0, 1, 2] rfl) hF)
-- lay
noncomputable def fX12_lay_b42 (N : Nat) (x1 : Int32) (x2 : Int32) (u0 : Nat) (S : gS) : Option (Int32 × gS) := chk (inb x2 (12)) (chk (inb ((700 + (S 5 (Int32.toNatClampNeg x2)) : Int32)) (mN u0)) (lt (sU S u0 (Int32.toNatClampNeg ((700 + (S 5 (Int32.toNatClampNeg x2)) : Int32))) x1) fun S1 => (chk (inb x2 (12)) (chk (inb x2 (12)) (lt (sU S1 5 (Int32.toNatClampNeg x2) (((S1 5 (Int32.toNatClampNeg x2)) + 1 : Int32))) fun S2 => (some (0, S2)))))))
theorem bX12_lay_42 {N : Nat} {x1 : Int32} {x2 : Int32} {u0 : Nat} {S : gS} {H : Heap} {locs : List Loc} {ls : Array Slot} {o : Int32 × gS} (C : gC p s m args meth c cX12_lay 4 RX12 none D (mtys cI cS) mord g Am) (O : gO (mcell g cI cS sa) mord g) (hk_u0 : mI u0 = true) (X : gX D (mcell g cI cS sa) mord g S s H locs) (hl : lv_has ls 4 [(0, .ref (g 99)), (1, .int x1), (2, .int x2)]) (hF : fX12_lay_b42 N x1 x2 u0 S = some o) : W p l e (rmd 0) s m args below meth c H locs 0 0 (gE below args s D (mtys cI cS) (mcell g cI cS sa) mord g none o.2) (F0 m 42 ls [.ref (g u0)]) := by
  unfold fX12_lay_b42 at hF
  refine lv_astore_n (lv' := [(3, .ref (g u0)), (0, .ref (g 99)), (1, .int x1), (2, .int x2)]) C.1.1 C.1.2.1 dX12_lay_42 rfl hl (by decide) rfl (fun ls hl => ?_)
  refine lv_aload_n C.1.1 C.1.2.1 dX12_lay_43 rfl (lv_at hl 0 rfl) ?_
  refine lv_sipush (v := 700) C.1.1 C.1.2.1 dX12_lay_44 (by decide) ?_
  refine lv_aload_n C.1.1 C.1.2.1 dX12_lay_47 rfl (lv_at hl 1 rfl) ?_
  refine m_g5 C X dX12_lay_48 ?_
  refine lv_iload_n C.1.1 C.1.2.1 dX12_lay_51 rfl (lv_at hl 3 rfl) ?_
  obtain ⟨h_1, hF⟩ := chk_some hF
  refine m_r5 C X  (inb_vp h_1) rfl dX12_lay_52 ?_
  refine lv_iadd C.1.1 C.1.2.1 dX12_lay_53 ?_
  refine lv_iload_n C.1.1 C.1.2.1 dX12_lay_54 rfl (lv_at hl 2 rfl) ?_
  obtain ⟨h_2, hF⟩ := chk_some hF
  obtain ⟨S1, eS1, hF⟩ := lt_some hF
  refine m_wv C O X (k := u0) hk_u0  (inb_vp h_2) rfl eS1 dX12_lay_55 (fun H locs X => ?_)
  refine lv_aload_n C.1.1 C.1.2.1 dX12_lay_56 rfl (lv_at hl 1 rfl) ?_
  refine m_g5 C X dX12_lay_57 ?_
  refine lv_iload_n C.1.1 C.1.2.1 dX12_lay_60 rfl (lv_at hl 3 rfl) ?_
  refine lv_dup2_11 C.1.1 C.1.2.1 dX12_lay_61 rfl rfl ?_
  obtain ⟨h_3, hF⟩ := chk_some hF
  refine m_r5 C X  (inb_vp h_3) rfl dX12_lay_62 ?_
  refine lv_iconst (v := 1) C.1.1 C.1.2.1 dX12_lay_63 (by decide) ?_
  refine lv_iadd C.1.1 C.1.2.1 dX12_lay_64 ?_
  obtain ⟨h_4, hF⟩ := chk_some hF
  obtain ⟨S2, eS2, hF⟩ := lt_some hF
  refine m_w5 C O X  (inb_vp h_4) rfl eS2 dX12_lay_65 (fun H locs X => ?_)
  cases hF
  exact g_vret C X dX12_lay_66
noncomputable def fX12_lay_b38 (N : Nat) (x1 : Int32) (x2 : Int32) (S : gS) : Option (Int32 × gS) := fX12_lay_b42 N x1 x2 15 S
theorem bX12_lay_38 {N : Nat} {x1 : Int32} {x2 : Int32} {S : gS} {H : Heap} {locs : List Loc} {ls : Array Slot} {o : Int32 × gS} (C : gC p s m args meth c cX12_lay 4 RX12 none D (mtys cI cS) mord g Am) (O : gO (mcell g cI cS sa) mord g) (X : gX D (mcell g cI cS sa) mord g S s H locs) (hl : lv_has ls 4 [(0, .ref (g 99)), (1, .int x1), (2, .int x2)]) (hF : fX12_lay_b38 N x1 x2 S = some o) : W p l e (rmd 0) s m args below meth c H locs 0 0 (gE below args s D (mtys cI cS) (mcell g cI cS sa) mord g none o.2) (F0 m 38 ls []) := by
  unfold fX12_lay_b38 at hF
  refine lv_aload_n C.1.1 C.1.2.1 dX12_lay_38 rfl (lv_at hl 0 rfl) ?_
  refine m_g15 C X dX12_lay_39 ?_
  exact bX12_lay_42 C O (rfl : mI 15 = true) X (lv_sub hl [0, 1, 2] rfl) hF
noncomputable def fX12_lay_b31 (N : Nat) (x1 : Int32) (x2 : Int32) (S : gS) : Option (Int32 × gS) := fX12_lay_b42 N x1 x2 16 S
theorem bX12_lay_31 {N : Nat} {x1 : Int32} {x2 : Int32} {S : gS} {H : Heap} {locs : List Loc} {ls : Array Slot} {o : Int32 × gS} (C : gC p s m args meth c cX12_lay 4 RX12 none D (mtys cI cS) mord g Am) (O : gO (mcell g cI cS sa) mord g) (X : gX D (mcell g cI cS sa) mord g S s H locs) (hl : lv_has ls 4 [(0, .ref (g 99)), (1, .int x1), (2, .int x2)]) (hF : fX12_lay_b31 N x1 x2 S = some o) : W p l e (rmd 0) s m args below meth c H locs 0 0 (gE below args s D (mtys cI cS) (mcell g cI cS sa) mord g none o.2) (F0 m 31 ls []) := by
  unfold fX12_lay_b31 at hF
  refine lv_aload_n C.1.1 C.1.2.1 dX12_lay_31 rfl (lv_at hl 0 rfl) ?_
  refine m_g16 C X dX12_lay_32 ?_
  refine lv_goto (tgt := 42) C.1.1 C.1.2.1 dX12_lay_35 (by decide) ?_
  exact bX12_lay_42 C O (rfl : mI 16 = true) X (lv_sub hl [0, 1, 2] rfl) hF
noncomputable def fX12_lay_b22 (N : Nat) (x1 : Int32) (t0 : Int32) (t1 : Int32) (S : gS) : Option (Int32 × gS) := if (S 99 31) = 0 then fX12_lay_b38 N x1 ((t0 + t1 : Int32)) S else fX12_lay_b31 N x1 ((t0 + t1 : Int32)) S
theorem bX12_lay_22 {N : Nat} {x1 : Int32} {t0 : Int32} {t1 : Int32} {S : gS} {H : Heap} {locs : List Loc} {ls : Array Slot} {o : Int32 × gS} (C : gC p s m args meth c cX12_lay 4 RX12 none D (mtys cI cS) mord g Am) (O : gO (mcell g cI cS sa) mord g) (X : gX D (mcell g cI cS sa) mord g S s H locs) (hl : lv_has ls 4 [(0, .ref (g 99)), (1, .int x1)]) (hF : fX12_lay_b22 N x1 t0 t1 S = some o) : W p l e (rmd 0) s m args below meth c H locs 0 0 (gE below args s D (mtys cI cS) (mcell g cI cS sa) mord g none o.2) (F0 m 22 ls [.int t1, .int t0]) := by
  unfold fX12_lay_b22 at hF
  refine lv_iadd C.1.1 C.1.2.1 dX12_lay_22 ?_
  refine lv_istore_n (lv' := [(2, .int ((t0 + t1 : Int32))), (0, .ref (g 99)), (1, .int x1)]) C.1.1 C.1.2.1 dX12_lay_23 rfl hl (by decide) rfl (fun ls hl => ?_)
  refine lv_aload_n C.1.1 C.1.2.1 dX12_lay_24 rfl (lv_at hl 1 rfl) ?_
  refine m_g31 C X dX12_lay_25 ?_
  refine lv_if_eq (tgt := 38) C.1.1 C.1.2.1 dX12_lay_28 (by decide) (fun h_z => ?_) (fun h_z => ?_)
  · rw [if_pos h_z] at hF
    exact bX12_lay_38 C O X (lv_sub hl [1, 2, 0] rfl) hF
  · rw [if_neg h_z] at hF
    exact bX12_lay_31 C O X (lv_sub hl [1, 2, 0] rfl) hF
noncomputable def fX12_lay_b21 (N : Nat) (x1 : Int32) (t0 : Int32) (S : gS) : Option (Int32 × gS) := fX12_lay_b22 N x1 t0 4 S
theorem bX12_lay_21 {N : Nat} {x1 : Int32} {t0 : Int32} {S : gS} {H : Heap} {locs : List Loc} {ls : Array Slot} {o : Int32 × gS} (C : gC p s m args meth c cX12_lay 4 RX12 none D (mtys cI cS) mord g Am) (O : gO (mcell g cI cS sa) mord g) (X : gX D (mcell g cI cS sa) mord g S s H locs) (hl : lv_has ls 4 [(0, .ref (g 99)), (1, .int x1)]) (hF : fX12_lay_b21 N x1 t0 S = some o) : W p l e (rmd 0) s m args below meth c H locs 0 0 (gE below args s D (mtys cI cS) (mcell g cI cS sa) mord g none o.2) (F0 m 21 ls [.int t0]) := by
  unfold fX12_lay_b21 at hF
  refine lv_iconst (v := 4) C.1.1 C.1.2.1 dX12_lay_21 (by decide) ?_
  exact bX12_lay_22 C O X (lv_sub hl [0, 1] rfl) hF
noncomputable def fX12_lay_b17 (N : Nat) (x1 : Int32) (t0 : Int32) (S : gS) : Option (Int32 × gS) := fX12_lay_b22 N x1 t0 5 S
theorem bX12_lay_17 {N : Nat} {x1 : Int32} {t0 : Int32} {S : gS} {H : Heap} {locs : List Loc} {ls : Array Slot} {o : Int32 × gS} (C : gC p s m args meth c cX12_lay 4 RX12 none D (mtys cI cS) mord g Am) (O : gO (mcell g cI cS sa) mord g) (X : gX D (mcell g cI cS sa) mord g S s H locs) (hl : lv_has ls 4 [(0, .ref (g 99)), (1, .int x1)]) (hF : fX12_lay_b17 N x1 t0 S = some o) : W p l e (rmd 0) s m args below meth c H locs 0 0 (gE below args s D (mtys cI cS) (mcell g cI cS sa) mord g none o.2) (F0 m 17 ls [.int t0]) := by
  unfold fX12_lay_b17 at hF
  refine lv_iconst (v := 5) C.1.1 C.1.2.1 dX12_lay_17 (by decide) ?_
  refine lv_goto (tgt := 22) C.1.1 C.1.2.1 dX12_lay_18 (by decide) ?_
  exact bX12_lay_22 C O X (lv_sub hl [0, 1] rfl) hF
noncomputable def fX12_lay_b8 (N : Nat) (x1 : Int32) (S : gS) : Option (Int32 × gS) := if (S 99 31) = 0 then fX12_lay_b21 N x1 6 S else fX12_lay_b17 N x1 6 S
theorem bX12_lay_8 {N : Nat} {x1 : Int32} {S : gS} {H : Heap} {locs : List Loc} {ls : Array Slot} {o : Int32 × gS} (C : gC p s m args meth c cX12_lay 4 RX12 none D (mtys cI cS) mord g Am) (O : gO (mcell g cI cS sa) mord g) (X : gX D (mcell g cI cS sa) mord g S s H locs) (hl : lv_has ls 4 [(0, .ref (g 99)), (1, .int x1)]) (hF : fX12_lay_b8 N x1 S = some o) : W p l e (rmd 0) s m args below meth c H locs 0 0 (gE below args s D (mtys cI cS) (mcell g cI cS sa) mord g none o.2) (F0 m 8 ls []) := by
  unfold fX12_lay_b8 at hF
  refine lv_bipush (v := 6) C.1.1 C.1.2.1 dX12_lay_8 (by decide) ?_
  refine lv_aload_n C.1.1 C.1.2.1 dX12_lay_10 rfl (lv_at hl 0 rfl) ?_
  refine m_g31 C X dX12_lay_11 ?_
  refine lv_if_eq (tgt := 21) C.1.1 C.1.2.1 dX12_lay_14 (by decide) (fun h_z => ?_) (fun h_z => ?_)
  · rw [if_pos h_z] at hF
    exact bX12_lay_21 C O X (lv_sub hl [0, 1] rfl) hF
  · rw [if_neg h_z] at hF
    exact bX12_lay_17 C O X (lv_sub hl [0, 1] rfl) hF
noncomputable def fX12_lay_b7 (N : Nat) (S : gS) : Option (Int32 × gS) := some (0, S)
theorem bX12_lay_7 {N : Nat} {S : gS} {H : Heap} {locs : List Loc} {ls : Array Slot} {o : Int32 × gS} (C : gC p s m args meth c cX12_lay 4 RX12 none D (mtys cI cS) mord g Am) (O : gO (mcell g cI cS sa) mord g) (X : gX D (mcell g cI cS sa) mord g S s H locs) (hl : lv_has ls 4 []) (hF : fX12_lay_b7 N S = some o) : W p l e (rmd 0) s m args below meth c H locs 0 0 (gE below args s D (mtys cI cS) (mcell g cI cS sa) mord g none o.2) (F0 m 7 ls []) := by
  unfold fX12_lay_b7 at hF
  cases hF
  exact g_vret C X dX12_lay_7
noncomputable def fX12_lay_b0 (N : Nat) (x1 : Int32) (S : gS) : Option (Int32 × gS) := if (S 99 27) = 0 then fX12_lay_b8 N x1 S else fX12_lay_b7 N S
theorem bX12_lay_0 {N : Nat} {x1 : Int32} {S : gS} {H : Heap} {locs : List Loc} {ls : Array Slot} {o : Int32 × gS} (C : gC p s m args meth c cX12_lay 4 RX12 none D (mtys cI cS) mord g Am) (O : gO (mcell g cI cS sa) mord g) (X : gX D (mcell g cI cS sa) mord g S s H locs) (hl : lv_has ls 4 [(0, .ref (g 99)), (1, .int x1)]) (hF : fX12_lay_b0 N x1 S = some o) : W p l e (rmd 0) s m args below meth c H locs 0 0 (gE below args s D (mtys cI cS) (mcell g cI cS sa) mord g none o.2) (F0 m 0 ls []) := by
  unfold fX12_lay_b0 at hF
  refine lv_aload_n C.1.1 C.1.2.1 dX12_lay_0 rfl (lv_at hl 0 rfl) ?_
  refine m_g27 C X dX12_lay_1 ?_
  refine lv_if_eq (tgt := 8) C.1.1 C.1.2.1 dX12_lay_4 (by decide) (fun h_z => ?_) (fun h_z => ?_)
  · rw [if_pos h_z] at hF
    exact bX12_lay_8 C O X (lv_sub hl [0, 1] rfl) hF
  · rw [if_neg h_z] at hF
    exact bX12_lay_7 C O X (lv_sub hl [] rfl) hF
noncomputable def fX12_lay (N : Nat) (x1 : Int32) (S : gS) : Option (Int32 × gS) := fX12_lay_b0 N x1 S
theorem kX12_lay {l : Launch} {D : va_G} {g : Nat → Nat} {cI cS : ClassId} {sa : Nat → Nat → Option Nat} {Am : (Nat → Prop) → State → Heap → Prop} (O : gO (mcell g cI cS sa) mord g) (P : gAm Am) (N : Nat) (x1 : Int32) (S : gS) (o : Int32 × gS) (hF : fX12_lay N x1 S = some o) : gM l yX12_lay cX12_lay 4 none 0 D (mtys cI cS) (mcell g cI cS sa) mord g Am [.ref (g 99), .int x1] S none o.2 :=
  gM_of O P (by decide) (Nat.le_of_ble_eq_true rfl) (fun p e s m args below meth c ls C X hl => bX12_lay_0 C O X (lv_sub hl [0, 1] rfl) hF)
-- another
noncomputable def fX12_another_b27 (N : Nat) (S : gS) : Option (Int32 × gS) := bnd (fX12_stepOn N  S) fun q1 => (some (1, q1.2))
theorem bX12_another_27 {N : Nat} {S : gS} {H : Heap} {locs : List Loc} {ls : Array Slot} {o : Int32 × gS} (C : gC p s m args meth c cX12_another 3 RX12 ((some .boolean)) D (mtys cI cS) mord g Am) (O : gO (mcell g cI cS sa) mord g) (X : gX D (mcell g cI cS sa) mord g S s H locs) (hl : lv_has ls 3 [(0, .ref (g 99))]) (hF : fX12_another_b27 N S = some o) : W p l e (rmd 2) s m args below meth c H locs 0 0 (gE below args s D (mtys cI cS) (mcell g cI cS sa) mord g (some (.int o.1)) o.2) (F0 m 27 ls []) := by
  unfold fX12_another_b27 at hF
  refine lv_aload_n C.1.1 C.1.2.1 dX12_another_27 rfl (lv_at hl 0 rfl) ?_
  obtain ⟨q1, hq1, hF⟩ := bnd_some hF
  refine m_callV C X vX12_stepOn rfl (kX12_stepOn O C.2.2.2.2.1 N   S q1 hq1) (Nat.le_of_ble_eq_true rfl) (Nat.le_of_ble_eq_true rfl) (Nat.le_of_ble_eq_true rfl) (Nat.le_of_ble_eq_true rfl) rfl hl.1 rfl (Nat.le_of_ble_eq_true rfl) dX12_another_28 (fun H locs X => ?_)
  refine lv_iconst (v := 1) C.1.1 C.1.2.1 dX12_another_31 (by decide) ?_
  cases hF
  exact g_zret (x := 1) C X (by decide) dX12_another_32
noncomputable def fX12_another_b25 (N : Nat) (S : gS) : Option (Int32 × gS) := some (0, S)
theorem bX12_another_25 {N : Nat} {S : gS} {H : Heap} {locs : List Loc} {ls : Array Slot} {o : Int32 × gS} (C : gC p s m args meth c cX12_another 3 RX12 ((some .boolean)) D (mtys cI cS) mord g Am) (O : gO (mcell g cI cS sa) mord g) (X : gX D (mcell g cI cS sa) mord g S s H locs) (hl : lv_has ls 3 []) (hF : fX12_another_b25 N S = some o) : W p l e (rmd 2) s m args below meth c H locs 0 0 (gE below args s D (mtys cI cS) (mcell g cI cS sa) mord g (some (.int o.1)) o.2) (F0 m 25 ls []) := by
  unfold fX12_another_b25 at hF
  refine lv_iconst (v := 0) C.1.1 C.1.2.1 dX12_another_25 (by decide) ?_
  cases hF
  exact g_zret (x := 0) C X (by decide) dX12_another_26
noncomputable def fX12_another_b18 (N : Nat) (S : gS) : Option (Int32 × gS) := if (S 99 27) = 0 then fX12_another_b27 N S else fX12_another_b25 N S
theorem bX12_another_18 {N : Nat} {S : gS} {H : Heap} {locs : List Loc} {ls : Array Slot} {o : Int32 × gS} (C : gC p s m args meth c cX12_another 3 RX12 ((some .boolean)) D (mtys cI cS) mord g Am) (O : gO (mcell g cI cS sa) mord g) (X : gX D (mcell g cI cS sa) mord g S s H locs) (hl : lv_has ls 3 [(0, .ref (g 99))]) (hF : fX12_another_b18 N S = some o) : W p l e (rmd 2) s m args below meth c H locs 0 0 (gE below args s D (mtys cI cS) (mcell g cI cS sa) mord g (some (.int o.1)) o.2) (F0 m 18 ls []) := by
  unfold fX12_another_b18 at hF
  refine lv_aload_n C.1.1 C.1.2.1 dX12_another_18 rfl (lv_at hl 0 rfl) ?_
  refine m_g27 C X dX12_another_19 ?_
  refine lv_if_eq (tgt := 27) C.1.1 C.1.2.1 dX12_another_22 (by decide) (fun h_z => ?_) (fun h_z => ?_)
  · rw [if_pos h_z] at hF
    exact bX12_another_27 C O X (lv_sub hl [0] rfl) hF
  · rw [if_neg h_z] at hF
    exact bX12_another_25 C O X (lv_sub hl [] rfl) hF
noncomputable def fX12_another_b13 (N : Nat) (S : gS) : Option (Int32 × gS) := bnd (fX12_wrong N 2 S) fun q1 => (fX12_another_b18 N q1.2)
theorem bX12_another_13 {N : Nat} {S : gS} {H : Heap} {locs : List Loc} {ls : Array Slot} {o : Int32 × gS} (C : gC p s m args meth c cX12_another 3 RX12 ((some .boolean)) D (mtys cI cS) mord g Am) (O : gO (mcell g cI cS sa) mord g) (X : gX D (mcell g cI cS sa) mord g S s H locs) (hl : lv_has ls 3 [(0, .ref (g 99))]) (hF : fX12_another_b13 N S = some o) : W p l e (rmd 2) s m args below meth c H locs 0 0 (gE below args s D (mtys cI cS) (mcell g cI cS sa) mord g (some (.int o.1)) o.2) (F0 m 13 ls []) := by
  unfold fX12_another_b13 at hF
  refine lv_aload_n C.1.1 C.1.2.1 dX12_another_13 rfl (lv_at hl 0 rfl) ?_
  refine lv_iconst (v := 2) C.1.1 C.1.2.1 dX12_another_14 (by decide) ?_
  obtain ⟨q1, hq1, hF⟩ := bnd_some hF
  refine m_callV C X vX12_wrong rfl (kX12_wrong O C.2.2.2.2.1 N 2  S q1 hq1) (Nat.le_of_ble_eq_true rfl) (Nat.le_of_ble_eq_true rfl) (Nat.le_of_ble_eq_true rfl) (Nat.le_of_ble_eq_true rfl) rfl hl.1 rfl (Nat.le_of_ble_eq_true rfl) dX12_another_15 (fun H locs X => ?_)
  exact bX12_another_18 C O X (lv_sub hl [0] rfl) hF
noncomputable def fX12_another_b0 (N : Nat) (x1 : Int32) (x2 : Int32) (S : gS) : Option (Int32 × gS) := chk (inb ((6 + x1 : Int32)) (12)) (if (S 5 (Int32.toNatClampNeg ((6 + x1 : Int32)))) = x2 then fX12_another_b13 N S else fX12_another_b18 N S)
theorem bX12_another_0 {N : Nat} {x1 : Int32} {x2 : Int32} {S : gS} {H : Heap} {locs : List Loc} {ls : Array Slot} {o : Int32 × gS} (C : gC p s m args meth c cX12_another 3 RX12 ((some .boolean)) D (mtys cI cS) mord g Am) (O : gO (mcell g cI cS sa) mord g) (X : gX D (mcell g cI cS sa) mord g S s H locs) (hl : lv_has ls 3 [(0, .ref (g 99)), (1, .int x1), (2, .int x2)]) (hF : fX12_another_b0 N x1 x2 S = some o) : W p l e (rmd 2) s m args below meth c H locs 0 0 (gE below args s D (mtys cI cS) (mcell g cI cS sa) mord g (some (.int o.1)) o.2) (F0 m 0 ls []) := by
  unfold fX12_another_b0 at hF
  refine lv_aload_n C.1.1 C.1.2.1 dX12_another_0 rfl (lv_at hl 0 rfl) ?_
  refine m_g5 C X dX12_another_1 ?_
  refine lv_bipush (v := 6) C.1.1 C.1.2.1 dX12_another_4 (by decide) ?_
  refine lv_iload_n C.1.1 C.1.2.1 dX12_another_6 rfl (lv_at hl 1 rfl) ?_
  refine lv_iadd C.1.1 C.1.2.1 dX12_another_7 ?_
  obtain ⟨h_1, hF⟩ := chk_some hF
  refine m_r5 C X  (inb_vp h_1) rfl dX12_another_8 ?_
  refine lv_iload_n C.1.1 C.1.2.1 dX12_another_9 rfl (lv_at hl 2 rfl) ?_
  refine lv_icmp_ne (tgt := 18) C.1.1 C.1.2.1 dX12_another_10 (by decide) (fun h_z => ?_) (fun h_z => ?_)
  · rw [if_neg h_z] at hF
    exact bX12_another_18 C O X (lv_sub hl [0] rfl) hF
  · rw [if_pos h_z] at hF
    exact bX12_another_13 C O X (lv_sub hl [0] rfl) hF
noncomputable def fX12_another (N : Nat) (x1 : Int32) (x2 : Int32) (S : gS) : Option (Int32 × gS) := fX12_another_b0 N x1 x2 S
theorem kX12_another {l : Launch} {D : va_G} {g : Nat → Nat} {cI cS : ClassId} {sa : Nat → Nat → Option Nat} {Am : (Nat → Prop) → State → Heap → Prop} (O : gO (mcell g cI cS sa) mord g) (P : gAm Am) (N : Nat) (x1 : Int32) (x2 : Int32) (S : gS) (o : Int32 × gS) (hF : fX12_another N x1 x2 S = some o) : gM l yX12_another cX12_another 3 ((some .boolean)) 2 D (mtys cI cS) (mcell g cI cS sa) mord g Am [.ref (g 99), .int x1, .int x2] S (some (.int o.1)) o.2 :=
  gM_of O P (by decide) (Nat.le_of_ble_eq_true rfl) (fun p e s m args below meth c ls C X hl => bX12_another_0 C O X (lv_sub hl [0, 1, 2] rfl) hF)
-- sayCave
noncomputable def fX12_sayCave_b11 (N : Nat) (x1 : Int32) (S : gS) : Option (Int32 × gS) := chk (inb ((8 + (S 5 6) : Int32)) (16)) (lt (sU S 6 (Int32.toNatClampNeg ((8 + (S 5 6) : Int32))) x1) fun S1 => (bnd (fX12_readNumber N 1 12 S1) fun q1 => (chk (inb ((8 + (S 5 6) : Int32)) (16)) (lt (sU q1.2 7 (Int32.toNatClampNeg ((8 + (S 5 6) : Int32))) q1.1) fun S3 => (bnd (fX12_readNumber N 0 11 S3) fun q2 => (chk (inb ((8 + (S 5 6) : Int32)) (16)) (lt (sU q2.2 8 (Int32.toNatClampNeg ((8 + (S 5 6) : Int32))) q2.1) fun S5 => (bnd (fX12_readNumber N 0 20 S5) fun q3 => (chk (inb ((8 + (S 5 6) : Int32)) (16)) (lt (sU q3.2 9 (Int32.toNatClampNeg ((8 + (S 5 6) : Int32))) q3.1) fun S7 => (lt (sU S7 5 6 (((S7 5 6) + 1 : Int32))) fun S8 => (some (0, S8)))))))))))))
theorem bX12_sayCave_11 {N : Nat} {x1 : Int32} {S : gS} {H : Heap} {locs : List Loc} {ls : Array Slot} {o : Int32 × gS} (C : gC p s m args meth c cX12_sayCave 3 RX12 none D (mtys cI cS) mord g Am) (O : gO (mcell g cI cS sa) mord g) (X : gX D (mcell g cI cS sa) mord g S s H locs) (hl : lv_has ls 3 [(0, .ref (g 99)), (1, .int x1)]) (hF : fX12_sayCave_b11 N x1 S = some o) : W p l e (rmd 3) s m args below meth c H locs 0 0 (gE below args s D (mtys cI cS) (mcell g cI cS sa) mord g none o.2) (F0 m 11 ls []) := by
  unfold fX12_sayCave_b11 at hF
  refine lv_bipush (v := 8) C.1.1 C.1.2.1 dX12_sayCave_11 (by decide) ?_
  refine lv_aload_n C.1.1 C.1.2.1 dX12_sayCave_13 rfl (lv_at hl 0 rfl) ?_
  refine m_g5 C X dX12_sayCave_14 ?_
  refine lv_bipush (v := 6) C.1.1 C.1.2.1 dX12_sayCave_17 (by decide) ?_
  refine m_r5 C X (j := 6) (inb_vp (by decide)) (by decide) dX12_sayCave_19 ?_
  refine lv_iadd C.1.1 C.1.2.1 dX12_sayCave_20 ?_
  refine lv_istore_n (lv' := [(2, .int ((8 + (S 5 6) : Int32))), (0, .ref (g 99)), (1, .int x1)]) C.1.1 C.1.2.1 dX12_sayCave_21 rfl hl (by decide) rfl (fun ls hl => ?_)
  refine lv_aload_n C.1.1 C.1.2.1 dX12_sayCave_22 rfl (lv_at hl 1 rfl) ?_
  refine m_g6 C X dX12_sayCave_23 ?_
  refine lv_iload_n C.1.1 C.1.2.1 dX12_sayCave_26 rfl (lv_at hl 0 rfl) ?_
  refine lv_iload_n C.1.1 C.1.2.1 dX12_sayCave_27 rfl (lv_at hl 2 rfl) ?_
  obtain ⟨h_1, hF⟩ := chk_some hF
  obtain ⟨S1, eS1, hF⟩ := lt_some hF
  refine m_w6 C O X  (inb_vp h_1) rfl eS1 dX12_sayCave_28 (fun H locs X => ?_)
  refine lv_aload_n C.1.1 C.1.2.1 dX12_sayCave_29 rfl (lv_at hl 1 rfl) ?_
  refine m_g7 C X dX12_sayCave_30 ?_
  refine lv_iload_n C.1.1 C.1.2.1 dX12_sayCave_33 rfl (lv_at hl 0 rfl) ?_
  refine lv_aload_n C.1.1 C.1.2.1 dX12_sayCave_34 rfl (lv_at hl 1 rfl) ?_
  refine lv_iconst (v := 1) C.1.1 C.1.2.1 dX12_sayCave_35 (by decide) ?_
  refine lv_bipush (v := 12) C.1.1 C.1.2.1 dX12_sayCave_36 (by decide) ?_
  obtain ⟨q1, hq1, hF⟩ := bnd_some hF
  refine m_callVi C X vX12_readNumber rfl (kX12_readNumber O C.2.2.2.2.1 N 1 12  S1 q1 hq1) (Nat.le_of_ble_eq_true rfl) (Nat.le_of_ble_eq_true rfl) (Nat.le_of_ble_eq_true rfl) (Nat.le_of_ble_eq_true rfl) rfl hl.1 rfl (Nat.le_of_ble_eq_true rfl) dX12_sayCave_38 (fun H locs X => ?_)
  obtain ⟨h_2, hF⟩ := chk_some hF
  obtain ⟨S3, eS3, hF⟩ := lt_some hF
  refine m_w7 C O X  (inb_vp h_2) rfl eS3 dX12_sayCave_41 (fun H locs X => ?_)
  refine lv_aload_n C.1.1 C.1.2.1 dX12_sayCave_42 rfl (lv_at hl 1 rfl) ?_
  refine m_g8 C X dX12_sayCave_43 ?_
  refine lv_iload_n C.1.1 C.1.2.1 dX12_sayCave_46 rfl (lv_at hl 0 rfl) ?_
  refine lv_aload_n C.1.1 C.1.2.1 dX12_sayCave_47 rfl (lv_at hl 1 rfl) ?_
  refine lv_iconst (v := 0) C.1.1 C.1.2.1 dX12_sayCave_48 (by decide) ?_
  refine lv_bipush (v := 11) C.1.1 C.1.2.1 dX12_sayCave_49 (by decide) ?_
  obtain ⟨q2, hq2, hF⟩ := bnd_some hF
  refine m_callVi C X vX12_readNumber rfl (kX12_readNumber O C.2.2.2.2.1 N 0 11  S3 q2 hq2) (Nat.le_of_ble_eq_true rfl) (Nat.le_of_ble_eq_true rfl) (Nat.le_of_ble_eq_true rfl) (Nat.le_of_ble_eq_true rfl) rfl hl.1 rfl (Nat.le_of_ble_eq_true rfl) dX12_sayCave_51 (fun H locs X => ?_)
  obtain ⟨h_3, hF⟩ := chk_some hF
  obtain ⟨S5, eS5, hF⟩ := lt_some hF
  refine m_w8 C O X  (inb_vp h_3) rfl eS5 dX12_sayCave_54 (fun H locs X => ?_)
  refine lv_aload_n C.1.1 C.1.2.1 dX12_sayCave_55 rfl (lv_at hl 1 rfl) ?_
  refine m_g9 C X dX12_sayCave_56 ?_
  refine lv_iload_n C.1.1 C.1.2.1 dX12_sayCave_59 rfl (lv_at hl 0 rfl) ?_
  refine lv_aload_n C.1.1 C.1.2.1 dX12_sayCave_60 rfl (lv_at hl 1 rfl) ?_
  refine lv_iconst (v := 0) C.1.1 C.1.2.1 dX12_sayCave_61 (by decide) ?_
  refine lv_bipush (v := 20) C.1.1 C.1.2.1 dX12_sayCave_62 (by decide) ?_
  obtain ⟨q3, hq3, hF⟩ := bnd_some hF
  refine m_callVi C X vX12_readNumber rfl (kX12_readNumber O C.2.2.2.2.1 N 0 20  S5 q3 hq3) (Nat.le_of_ble_eq_true rfl) (Nat.le_of_ble_eq_true rfl) (Nat.le_of_ble_eq_true rfl) (Nat.le_of_ble_eq_true rfl) rfl hl.1 rfl (Nat.le_of_ble_eq_true rfl) dX12_sayCave_64 (fun H locs X => ?_)
  obtain ⟨h_4, hF⟩ := chk_some hF
  obtain ⟨S7, eS7, hF⟩ := lt_some hF
  refine m_w9 C O X  (inb_vp h_4) rfl eS7 dX12_sayCave_67 (fun H locs X => ?_)
  refine lv_aload_n C.1.1 C.1.2.1 dX12_sayCave_68 rfl (lv_at hl 1 rfl) ?_
  refine m_g5 C X dX12_sayCave_69 ?_
  refine lv_bipush (v := 6) C.1.1 C.1.2.1 dX12_sayCave_72 (by decide) ?_
  refine lv_dup2_11 C.1.1 C.1.2.1 dX12_sayCave_74 rfl rfl ?_
  refine m_r5 C X (j := 6) (inb_vp (by decide)) (by decide) dX12_sayCave_75 ?_
  refine lv_iconst (v := 1) C.1.1 C.1.2.1 dX12_sayCave_76 (by decide) ?_
  refine lv_iadd C.1.1 C.1.2.1 dX12_sayCave_77 ?_
  obtain ⟨S8, eS8, hF⟩ := lt_some hF
  refine m_w5 C O X (j := 6) (inb_vp (by decide)) (by decide) eS8 dX12_sayCave_78 (fun H locs X => ?_)
  cases hF
  exact g_vret C X dX12_sayCave_79
noncomputable def fX12_sayCave_b10 (N : Nat) (S : gS) : Option (Int32 × gS) := some (0, S)
theorem bX12_sayCave_10 {N : Nat} {S : gS} {H : Heap} {locs : List Loc} {ls : Array Slot} {o : Int32 × gS} (C : gC p s m args meth c cX12_sayCave 3 RX12 none D (mtys cI cS) mord g Am) (O : gO (mcell g cI cS sa) mord g) (X : gX D (mcell g cI cS sa) mord g S s H locs) (hl : lv_has ls 3 []) (hF : fX12_sayCave_b10 N S = some o) : W p l e (rmd 3) s m args below meth c H locs 0 0 (gE below args s D (mtys cI cS) (mcell g cI cS sa) mord g none o.2) (F0 m 10 ls []) := by
  unfold fX12_sayCave_b10 at hF
  cases hF
  exact g_vret C X dX12_sayCave_10
noncomputable def fX12_sayCave_b0 (N : Nat) (x1 : Int32) (S : gS) : Option (Int32 × gS) := bnd (fX12_another N 0 8 S) fun q1 => (if q1.1 = 0 then fX12_sayCave_b10 N q1.2 else fX12_sayCave_b11 N x1 q1.2)
theorem bX12_sayCave_0 {N : Nat} {x1 : Int32} {S : gS} {H : Heap} {locs : List Loc} {ls : Array Slot} {o : Int32 × gS} (C : gC p s m args meth c cX12_sayCave 3 RX12 none D (mtys cI cS) mord g Am) (O : gO (mcell g cI cS sa) mord g) (X : gX D (mcell g cI cS sa) mord g S s H locs) (hl : lv_has ls 3 [(0, .ref (g 99)), (1, .int x1)]) (hF : fX12_sayCave_b0 N x1 S = some o) : W p l e (rmd 3) s m args below meth c H locs 0 0 (gE below args s D (mtys cI cS) (mcell g cI cS sa) mord g none o.2) (F0 m 0 ls []) := by
  unfold fX12_sayCave_b0 at hF
  refine lv_aload_n C.1.1 C.1.2.1 dX12_sayCave_0 rfl (lv_at hl 0 rfl) ?_
  refine lv_iconst (v := 0) C.1.1 C.1.2.1 dX12_sayCave_1 (by decide) ?_
  refine lv_bipush (v := 8) C.1.1 C.1.2.1 dX12_sayCave_2 (by decide) ?_
  obtain ⟨q1, hq1, hF⟩ := bnd_some hF
  refine m_callVi C X vX12_another rfl (kX12_another O C.2.2.2.2.1 N 0 8  S q1 hq1) (Nat.le_of_ble_eq_true rfl) (Nat.le_of_ble_eq_true rfl) (Nat.le_of_ble_eq_true rfl) (Nat.le_of_ble_eq_true rfl) rfl hl.1 rfl (Nat.le_of_ble_eq_true rfl) dX12_sayCave_4 (fun H locs X => ?_)
  refine lv_if_ne (tgt := 11) C.1.1 C.1.2.1 dX12_sayCave_7 (by decide) (fun h_z => ?_) (fun h_z => ?_)
  · rw [if_neg h_z] at hF
    exact bX12_sayCave_11 C O X (lv_sub hl [0, 1] rfl) hF
  · rw [if_pos h_z] at hF
    exact bX12_sayCave_10 C O X (lv_sub hl [] rfl) hF
noncomputable def fX12_sayCave (N : Nat) (x1 : Int32) (S : gS) : Option (Int32 × gS) := fX12_sayCave_b0 N x1 S
theorem kX12_sayCave {l : Launch} {D : va_G} {g : Nat → Nat} {cI cS : ClassId} {sa : Nat → Nat → Option Nat} {Am : (Nat → Prop) → State → Heap → Prop} (O : gO (mcell g cI cS sa) mord g) (P : gAm Am) (N : Nat) (x1 : Int32) (S : gS) (o : Int32 × gS) (hF : fX12_sayCave N x1 S = some o) : gM l yX12_sayCave cX12_sayCave 3 none 3 D (mtys cI cS) (mcell g cI cS sa) mord g Am [.ref (g 99), .int x1] S none o.2 :=
  gM_of O P (by decide) (Nat.le_of_ble_eq_true rfl) (fun p e s m args below meth c ls C X hl => bX12_sayCave_0 C O X (lv_sub hl [0, 1] rfl) hF)
-- sayWets
noncomputable def fX12_sayWets_b80 (N : Nat) (x1 : Int32) (S : gS) : Option (Int32 × gS) := lt (sU S 5 9 x1) fun S1 => (some (0, S1))
theorem bX12_sayWets_80 {N : Nat} {x1 : Int32} {S : gS} {H : Heap} {locs : List Loc} {ls : Array Slot} {o : Int32 × gS} (C : gC p s m args meth c cX12_sayWets 3 RX12 none D (mtys cI cS) mord g Am) (O : gO (mcell g cI cS sa) mord g) (X : gX D (mcell g cI cS sa) mord g S s H locs) (hl : lv_has ls 3 [(0, .ref (g 99)), (1, .int x1)]) (hF : fX12_sayWets_b80 N x1 S = some o) : W p l e (rmd 3) s m args below meth c H locs 0 0 (gE below args s D (mtys cI cS) (mcell g cI cS sa) mord g none o.2) (F0 m 80 ls []) := by
  unfold fX12_sayWets_b80 at hF
  refine lv_aload_n C.1.1 C.1.2.1 dX12_sayWets_80 rfl (lv_at hl 0 rfl) ?_
  refine m_g5 C X dX12_sayWets_81 ?_
  refine lv_bipush (v := 9) C.1.1 C.1.2.1 dX12_sayWets_84 (by decide) ?_
  refine lv_iload_n C.1.1 C.1.2.1 dX12_sayWets_86 rfl (lv_at hl 1 rfl) ?_
  obtain ⟨S1, eS1, hF⟩ := lt_some hF
  refine m_w5 C O X (j := 9) (inb_vp (by decide)) (by decide) eS1 dX12_sayWets_87 (fun H locs X => ?_)
  cases hF
  exact g_vret C X dX12_sayWets_88
noncomputable def fX12_sayWets_b64 (N : Nat) (r22 : Int32 → gS → Option (Int32 × gS)) (x1 : Int32) (x2 : Int32) (S : gS) : Option (Int32 × gS) := chk (inb ((8 + x1 : Int32)) (16)) (lt (sU S 14 (Int32.toNatClampNeg ((8 + x1 : Int32))) x2) fun S1 => (r22 ((x1 + 1 : Int32)) S1))
theorem bX12_sayWets_64 {N : Nat} {r22 : Int32 → gS → Option (Int32 × gS)} {x1 : Int32} {x2 : Int32} {S : gS} {H : Heap} {locs : List Loc} {ls : Array Slot} {o : Int32 × gS} (C : gC p s m args meth c cX12_sayWets 3 RX12 none D (mtys cI cS) mord g Am) (O : gO (mcell g cI cS sa) mord g) (K22 : ∀ (x1 : Int32) (S : gS) (H : Heap) (locs : List Loc) (ls : Array Slot), gX D (mcell g cI cS sa) mord g S s H locs → lv_has ls 3 [(0, .ref (g 99)), (1, .int x1)] → r22 x1 S = some o → W p l e (rmd 3) s m args below meth c H locs 0 0 (gE below args s D (mtys cI cS) (mcell g cI cS sa) mord g none o.2) (F0 m 22 ls [])) (X : gX D (mcell g cI cS sa) mord g S s H locs) (hl : lv_has ls 3 [(0, .ref (g 99)), (1, .int x1), (2, .int x2)]) (hF : fX12_sayWets_b64 N r22 x1 x2 S = some o) : W p l e (rmd 3) s m args below meth c H locs 0 0 (gE below args s D (mtys cI cS) (mcell g cI cS sa) mord g none o.2) (F0 m 64 ls []) := by
  unfold fX12_sayWets_b64 at hF
  refine lv_aload_n C.1.1 C.1.2.1 dX12_sayWets_64 rfl (lv_at hl 0 rfl) ?_
  refine m_g14 C X dX12_sayWets_65 ?_
  refine lv_bipush (v := 8) C.1.1 C.1.2.1 dX12_sayWets_68 (by decide) ?_
  refine lv_iload_n C.1.1 C.1.2.1 dX12_sayWets_70 rfl (lv_at hl 1 rfl) ?_
  refine lv_iadd C.1.1 C.1.2.1 dX12_sayWets_71 ?_
  refine lv_iload_n C.1.1 C.1.2.1 dX12_sayWets_72 rfl (lv_at hl 2 rfl) ?_
  obtain ⟨h_1, hF⟩ := chk_some hF
  obtain ⟨S1, eS1, hF⟩ := lt_some hF
  refine m_w14 C O X  (inb_vp h_1) rfl eS1 dX12_sayWets_73 (fun H locs X => ?_)
  refine lv_iinc (v := (x1 + 1 : Int32)) (lv' := [(1, .int ((x1 + 1 : Int32))), (0, .ref (g 99)), (2, .int x2)]) C.1.1 C.1.2.1 dX12_sayWets_74 hl (k := 1) rfl rfl (by decide) rfl (fun ls hl => ?_)
  refine lv_goto (tgt := 22) C.1.1 C.1.2.1 dX12_sayWets_77 (by decide) ?_
  exact K22 _ _ _ _ _ X (lv_sub hl [1, 0] rfl) hF
noncomputable def fX12_sayWets_b63 (N : Nat) (S : gS) : Option (Int32 × gS) := some (0, S)
theorem bX12_sayWets_63 {N : Nat} {S : gS} {H : Heap} {locs : List Loc} {ls : Array Slot} {o : Int32 × gS} (C : gC p s m args meth c cX12_sayWets 3 RX12 none D (mtys cI cS) mord g Am) (O : gO (mcell g cI cS sa) mord g) (X : gX D (mcell g cI cS sa) mord g S s H locs) (hl : lv_has ls 3 []) (hF : fX12_sayWets_b63 N S = some o) : W p l e (rmd 3) s m args below meth c H locs 0 0 (gE below args s D (mtys cI cS) (mcell g cI cS sa) mord g none o.2) (F0 m 63 ls []) := by
  unfold fX12_sayWets_b63 at hF
  cases hF
  exact g_vret C X dX12_sayWets_63
noncomputable def fX12_sayWets_b48 (N : Nat) (r22 : Int32 → gS → Option (Int32 × gS)) (x1 : Int32) (S : gS) : Option (Int32 × gS) := bnd (fX12_readNumber N 0 9 S) fun q1 => (if (q1.2 99 27) = 0 then fX12_sayWets_b64 N r22 x1 q1.1 q1.2 else fX12_sayWets_b63 N q1.2)
theorem bX12_sayWets_48 {N : Nat} {r22 : Int32 → gS → Option (Int32 × gS)} {x1 : Int32} {S : gS} {H : Heap} {locs : List Loc} {ls : Array Slot} {o : Int32 × gS} (C : gC p s m args meth c cX12_sayWets 3 RX12 none D (mtys cI cS) mord g Am) (O : gO (mcell g cI cS sa) mord g) (K22 : ∀ (x1 : Int32) (S : gS) (H : Heap) (locs : List Loc) (ls : Array Slot), gX D (mcell g cI cS sa) mord g S s H locs → lv_has ls 3 [(0, .ref (g 99)), (1, .int x1)] → r22 x1 S = some o → W p l e (rmd 3) s m args below meth c H locs 0 0 (gE below args s D (mtys cI cS) (mcell g cI cS sa) mord g none o.2) (F0 m 22 ls [])) (X : gX D (mcell g cI cS sa) mord g S s H locs) (hl : lv_has ls 3 [(0, .ref (g 99)), (1, .int x1)]) (hF : fX12_sayWets_b48 N r22 x1 S = some o) : W p l e (rmd 3) s m args below meth c H locs 0 0 (gE below args s D (mtys cI cS) (mcell g cI cS sa) mord g none o.2) (F0 m 48 ls []) := by
  unfold fX12_sayWets_b48 at hF
  refine lv_aload_n C.1.1 C.1.2.1 dX12_sayWets_48 rfl (lv_at hl 0 rfl) ?_
  refine lv_iconst (v := 0) C.1.1 C.1.2.1 dX12_sayWets_49 (by decide) ?_
  refine lv_bipush (v := 9) C.1.1 C.1.2.1 dX12_sayWets_50 (by decide) ?_
  obtain ⟨q1, hq1, hF⟩ := bnd_some hF
  refine m_callVi C X vX12_readNumber rfl (kX12_readNumber O C.2.2.2.2.1 N 0 9  S q1 hq1) (Nat.le_of_ble_eq_true rfl) (Nat.le_of_ble_eq_true rfl) (Nat.le_of_ble_eq_true rfl) (Nat.le_of_ble_eq_true rfl) rfl hl.1 rfl (Nat.le_of_ble_eq_true rfl) dX12_sayWets_52 (fun H locs X => ?_)
  refine lv_istore_n (lv' := [(2, .int q1.1), (0, .ref (g 99)), (1, .int x1)]) C.1.1 C.1.2.1 dX12_sayWets_55 rfl hl (by decide) rfl (fun ls hl => ?_)
  refine lv_aload_n C.1.1 C.1.2.1 dX12_sayWets_56 rfl (lv_at hl 1 rfl) ?_
  refine m_g27 C X dX12_sayWets_57 ?_
  refine lv_if_eq (tgt := 64) C.1.1 C.1.2.1 dX12_sayWets_60 (by decide) (fun h_z => ?_) (fun h_z => ?_)
  · rw [if_pos h_z] at hF
    exact bX12_sayWets_64 C O K22 X (lv_sub hl [1, 2, 0] rfl) hF
  · rw [if_neg h_z] at hF
    exact bX12_sayWets_63 C O X (lv_sub hl [] rfl) hF
noncomputable def fX12_sayWets_b43 (N : Nat) (r22 : Int32 → gS → Option (Int32 × gS)) (x1 : Int32) (S : gS) : Option (Int32 × gS) := bnd (fX12_wrong N 2 S) fun q1 => (fX12_sayWets_b48 N r22 x1 q1.2)
theorem bX12_sayWets_43 {N : Nat} {r22 : Int32 → gS → Option (Int32 × gS)} {x1 : Int32} {S : gS} {H : Heap} {locs : List Loc} {ls : Array Slot} {o : Int32 × gS} (C : gC p s m args meth c cX12_sayWets 3 RX12 none D (mtys cI cS) mord g Am) (O : gO (mcell g cI cS sa) mord g) (K22 : ∀ (x1 : Int32) (S : gS) (H : Heap) (locs : List Loc) (ls : Array Slot), gX D (mcell g cI cS sa) mord g S s H locs → lv_has ls 3 [(0, .ref (g 99)), (1, .int x1)] → r22 x1 S = some o → W p l e (rmd 3) s m args below meth c H locs 0 0 (gE below args s D (mtys cI cS) (mcell g cI cS sa) mord g none o.2) (F0 m 22 ls [])) (X : gX D (mcell g cI cS sa) mord g S s H locs) (hl : lv_has ls 3 [(0, .ref (g 99)), (1, .int x1)]) (hF : fX12_sayWets_b43 N r22 x1 S = some o) : W p l e (rmd 3) s m args below meth c H locs 0 0 (gE below args s D (mtys cI cS) (mcell g cI cS sa) mord g none o.2) (F0 m 43 ls []) := by
  unfold fX12_sayWets_b43 at hF
  refine lv_aload_n C.1.1 C.1.2.1 dX12_sayWets_43 rfl (lv_at hl 0 rfl) ?_
  refine lv_iconst (v := 2) C.1.1 C.1.2.1 dX12_sayWets_44 (by decide) ?_
  obtain ⟨q1, hq1, hF⟩ := bnd_some hF
  refine m_callV C X vX12_wrong rfl (kX12_wrong O C.2.2.2.2.1 N 2  S q1 hq1) (Nat.le_of_ble_eq_true rfl) (Nat.le_of_ble_eq_true rfl) (Nat.le_of_ble_eq_true rfl) (Nat.le_of_ble_eq_true rfl) rfl hl.1 rfl (Nat.le_of_ble_eq_true rfl) dX12_sayWets_45 (fun H locs X => ?_)
  exact bX12_sayWets_48 C O K22 X (lv_sub hl [0, 1] rfl) hF
noncomputable def fX12_sayWets_b37 (N : Nat) (r22 : Int32 → gS → Option (Int32 × gS)) (x1 : Int32) (S : gS) : Option (Int32 × gS) := if x1 = 8 then fX12_sayWets_b43 N r22 x1 S else fX12_sayWets_b48 N r22 x1 S
theorem bX12_sayWets_37 {N : Nat} {r22 : Int32 → gS → Option (Int32 × gS)} {x1 : Int32} {S : gS} {H : Heap} {locs : List Loc} {ls : Array Slot} {o : Int32 × gS} (C : gC p s m args meth c cX12_sayWets 3 RX12 none D (mtys cI cS) mord g Am) (O : gO (mcell g cI cS sa) mord g) (K22 : ∀ (x1 : Int32) (S : gS) (H : Heap) (locs : List Loc) (ls : Array Slot), gX D (mcell g cI cS sa) mord g S s H locs → lv_has ls 3 [(0, .ref (g 99)), (1, .int x1)] → r22 x1 S = some o → W p l e (rmd 3) s m args below meth c H locs 0 0 (gE below args s D (mtys cI cS) (mcell g cI cS sa) mord g none o.2) (F0 m 22 ls [])) (X : gX D (mcell g cI cS sa) mord g S s H locs) (hl : lv_has ls 3 [(0, .ref (g 99)), (1, .int x1)]) (hF : fX12_sayWets_b37 N r22 x1 S = some o) : W p l e (rmd 3) s m args below meth c H locs 0 0 (gE below args s D (mtys cI cS) (mcell g cI cS sa) mord g none o.2) (F0 m 37 ls []) := by
  unfold fX12_sayWets_b37 at hF
  refine lv_iload_n C.1.1 C.1.2.1 dX12_sayWets_37 rfl (lv_at hl 1 rfl) ?_
  refine lv_bipush (v := 8) C.1.1 C.1.2.1 dX12_sayWets_38 (by decide) ?_
  refine lv_icmp_ne (tgt := 48) C.1.1 C.1.2.1 dX12_sayWets_40 (by decide) (fun h_z => ?_) (fun h_z => ?_)
  · rw [if_neg h_z] at hF
    exact bX12_sayWets_48 C O K22 X (lv_sub hl [0, 1] rfl) hF
  · rw [if_pos h_z] at hF
    exact bX12_sayWets_43 C O K22 X (lv_sub hl [0, 1] rfl) hF
noncomputable def fX12_sayWets_b29 (N : Nat) (r22 : Int32 → gS → Option (Int32 × gS)) (x1 : Int32) (S : gS) : Option (Int32 × gS) := if (S 99 23) = 2 then fX12_sayWets_b37 N r22 x1 S else fX12_sayWets_b80 N x1 S
theorem bX12_sayWets_29 {N : Nat} {r22 : Int32 → gS → Option (Int32 × gS)} {x1 : Int32} {S : gS} {H : Heap} {locs : List Loc} {ls : Array Slot} {o : Int32 × gS} (C : gC p s m args meth c cX12_sayWets 3 RX12 none D (mtys cI cS) mord g Am) (O : gO (mcell g cI cS sa) mord g) (K22 : ∀ (x1 : Int32) (S : gS) (H : Heap) (locs : List Loc) (ls : Array Slot), gX D (mcell g cI cS sa) mord g S s H locs → lv_has ls 3 [(0, .ref (g 99)), (1, .int x1)] → r22 x1 S = some o → W p l e (rmd 3) s m args below meth c H locs 0 0 (gE below args s D (mtys cI cS) (mcell g cI cS sa) mord g none o.2) (F0 m 22 ls [])) (X : gX D (mcell g cI cS sa) mord g S s H locs) (hl : lv_has ls 3 [(0, .ref (g 99)), (1, .int x1)]) (hF : fX12_sayWets_b29 N r22 x1 S = some o) : W p l e (rmd 3) s m args below meth c H locs 0 0 (gE below args s D (mtys cI cS) (mcell g cI cS sa) mord g none o.2) (F0 m 29 ls []) := by
  unfold fX12_sayWets_b29 at hF
  refine lv_aload_n C.1.1 C.1.2.1 dX12_sayWets_29 rfl (lv_at hl 0 rfl) ?_
  refine m_g23 C X dX12_sayWets_30 ?_
  refine lv_iconst (v := 2) C.1.1 C.1.2.1 dX12_sayWets_33 (by decide) ?_
  refine lv_icmp_ne (tgt := 80) C.1.1 C.1.2.1 dX12_sayWets_34 (by decide) (fun h_z => ?_) (fun h_z => ?_)
  · rw [if_neg h_z] at hF
    exact bX12_sayWets_80 C O X (lv_sub hl [0, 1] rfl) hF
  · rw [if_pos h_z] at hF
    exact bX12_sayWets_37 C O K22 X (lv_sub hl [0, 1] rfl) hF
noncomputable def fX12_sayWets_b22 (N : Nat) (r22 : Int32 → gS → Option (Int32 × gS)) (x1 : Int32) (S : gS) : Option (Int32 × gS) := if (S 99 27) = 0 then fX12_sayWets_b29 N r22 x1 S else fX12_sayWets_b80 N x1 S
theorem bX12_sayWets_22 {N : Nat} {r22 : Int32 → gS → Option (Int32 × gS)} {x1 : Int32} {S : gS} {H : Heap} {locs : List Loc} {ls : Array Slot} {o : Int32 × gS} (C : gC p s m args meth c cX12_sayWets 3 RX12 none D (mtys cI cS) mord g Am) (O : gO (mcell g cI cS sa) mord g) (K22 : ∀ (x1 : Int32) (S : gS) (H : Heap) (locs : List Loc) (ls : Array Slot), gX D (mcell g cI cS sa) mord g S s H locs → lv_has ls 3 [(0, .ref (g 99)), (1, .int x1)] → r22 x1 S = some o → W p l e (rmd 3) s m args below meth c H locs 0 0 (gE below args s D (mtys cI cS) (mcell g cI cS sa) mord g none o.2) (F0 m 22 ls [])) (X : gX D (mcell g cI cS sa) mord g S s H locs) (hl : lv_has ls 3 [(0, .ref (g 99)), (1, .int x1)]) (hF : fX12_sayWets_b22 N r22 x1 S = some o) : W p l e (rmd 3) s m args below meth c H locs 0 0 (gE below args s D (mtys cI cS) (mcell g cI cS sa) mord g none o.2) (F0 m 22 ls []) := by
  unfold fX12_sayWets_b22 at hF
  refine lv_aload_n C.1.1 C.1.2.1 dX12_sayWets_22 rfl (lv_at hl 0 rfl) ?_
  refine m_g27 C X dX12_sayWets_23 ?_
  refine lv_if_ne (tgt := 80) C.1.1 C.1.2.1 dX12_sayWets_26 (by decide) (fun h_z => ?_) (fun h_z => ?_)
  · rw [if_neg h_z] at hF
    exact bX12_sayWets_80 C O X (lv_sub hl [0, 1] rfl) hF
  · rw [if_pos h_z] at hF
    exact bX12_sayWets_29 C O K22 X (lv_sub hl [0, 1] rfl) hF
noncomputable def fX12_sayWets_h22 (N : Nat) : Nat → Int32 → gS → Option (Int32 × gS)
  | 0, _, _ => none
  | n + 1, x1, S => fX12_sayWets_b22 N (fX12_sayWets_h22 N n) x1 S
theorem hX12_sayWets_22 {N : Nat} {o : Int32 × gS} (C : gC p s m args meth c cX12_sayWets 3 RX12 none D (mtys cI cS) mord g Am) (O : gO (mcell g cI cS sa) mord g) : ∀ (n : Nat) (x1 : Int32) (S : gS) (H : Heap) (locs : List Loc) (ls : Array Slot), gX D (mcell g cI cS sa) mord g S s H locs → lv_has ls 3 [(0, .ref (g 99)), (1, .int x1)] → fX12_sayWets_h22 N n x1 S = some o → W p l e (rmd 3) s m args below meth c H locs 0 0 (gE below args s D (mtys cI cS) (mcell g cI cS sa) mord g none o.2) (F0 m 22 ls []) := by
  intro n
  induction n with
  | zero =>
    intro x1 S H locs ls X hl hF
    exact absurd (show (none : Option (Int32 × gS)) = some o from hF) (by simp)
  | succ n ih =>
    intro x1 S H locs ls X hl hF
    have hF : fX12_sayWets_b22 N (fX12_sayWets_h22 N n) x1 S = some o := hF
    exact bX12_sayWets_22 C O ih X hl hF
noncomputable def fX12_sayWets_b17 (N : Nat) (x1 : Int32) (S : gS) : Option (Int32 × gS) := bnd (fX12_wrong N 1 S) fun q1 => (fX12_sayWets_h22 N N x1 q1.2)
theorem bX12_sayWets_17 {N : Nat} {x1 : Int32} {S : gS} {H : Heap} {locs : List Loc} {ls : Array Slot} {o : Int32 × gS} (C : gC p s m args meth c cX12_sayWets 3 RX12 none D (mtys cI cS) mord g Am) (O : gO (mcell g cI cS sa) mord g) (X : gX D (mcell g cI cS sa) mord g S s H locs) (hl : lv_has ls 3 [(0, .ref (g 99)), (1, .int x1)]) (hF : fX12_sayWets_b17 N x1 S = some o) : W p l e (rmd 3) s m args below meth c H locs 0 0 (gE below args s D (mtys cI cS) (mcell g cI cS sa) mord g none o.2) (F0 m 17 ls []) := by
  unfold fX12_sayWets_b17 at hF
  refine lv_aload_n C.1.1 C.1.2.1 dX12_sayWets_17 rfl (lv_at hl 0 rfl) ?_
  refine lv_iconst (v := 1) C.1.1 C.1.2.1 dX12_sayWets_18 (by decide) ?_
  obtain ⟨q1, hq1, hF⟩ := bnd_some hF
  refine m_callV C X vX12_wrong rfl (kX12_wrong O C.2.2.2.2.1 N 1  S q1 hq1) (Nat.le_of_ble_eq_true rfl) (Nat.le_of_ble_eq_true rfl) (Nat.le_of_ble_eq_true rfl) (Nat.le_of_ble_eq_true rfl) rfl hl.1 rfl (Nat.le_of_ble_eq_true rfl) dX12_sayWets_19 (fun H locs X => ?_)
  exact hX12_sayWets_22 C O N _ _ _ _ _ X (lv_sub hl [0, 1] rfl) hF
noncomputable def fX12_sayWets_b9 (N : Nat) (x1 : Int32) (S : gS) : Option (Int32 × gS) := if (S 99 23) = 2 then fX12_sayWets_h22 N N x1 S else fX12_sayWets_b17 N x1 S
theorem bX12_sayWets_9 {N : Nat} {x1 : Int32} {S : gS} {H : Heap} {locs : List Loc} {ls : Array Slot} {o : Int32 × gS} (C : gC p s m args meth c cX12_sayWets 3 RX12 none D (mtys cI cS) mord g Am) (O : gO (mcell g cI cS sa) mord g) (X : gX D (mcell g cI cS sa) mord g S s H locs) (hl : lv_has ls 3 [(0, .ref (g 99)), (1, .int x1)]) (hF : fX12_sayWets_b9 N x1 S = some o) : W p l e (rmd 3) s m args below meth c H locs 0 0 (gE below args s D (mtys cI cS) (mcell g cI cS sa) mord g none o.2) (F0 m 9 ls []) := by
  unfold fX12_sayWets_b9 at hF
  refine lv_aload_n C.1.1 C.1.2.1 dX12_sayWets_9 rfl (lv_at hl 0 rfl) ?_
  refine m_g23 C X dX12_sayWets_10 ?_
  refine lv_iconst (v := 2) C.1.1 C.1.2.1 dX12_sayWets_13 (by decide) ?_
  refine lv_icmp_eq (tgt := 22) C.1.1 C.1.2.1 dX12_sayWets_14 (by decide) (fun h_z => ?_) (fun h_z => ?_)
  · rw [if_pos h_z] at hF
    exact hX12_sayWets_22 C O N _ _ _ _ _ X (lv_sub hl [0, 1] rfl) hF
  · rw [if_neg h_z] at hF
    exact bX12_sayWets_17 C O X (lv_sub hl [0, 1] rfl) hF
noncomputable def fX12_sayWets_b0 (N : Nat) (S : gS) : Option (Int32 × gS) := if (S 99 27) = 0 then fX12_sayWets_b9 N 0 S else fX12_sayWets_h22 N N 0 S
theorem bX12_sayWets_0 {N : Nat} {S : gS} {H : Heap} {locs : List Loc} {ls : Array Slot} {o : Int32 × gS} (C : gC p s m args meth c cX12_sayWets 3 RX12 none D (mtys cI cS) mord g Am) (O : gO (mcell g cI cS sa) mord g) (X : gX D (mcell g cI cS sa) mord g S s H locs) (hl : lv_has ls 3 [(0, .ref (g 99))]) (hF : fX12_sayWets_b0 N S = some o) : W p l e (rmd 3) s m args below meth c H locs 0 0 (gE below args s D (mtys cI cS) (mcell g cI cS sa) mord g none o.2) (F0 m 0 ls []) := by
  unfold fX12_sayWets_b0 at hF
  refine lv_iconst (v := 0) C.1.1 C.1.2.1 dX12_sayWets_0 (by decide) ?_
  refine lv_istore_n (lv' := [(1, .int 0), (0, .ref (g 99))]) C.1.1 C.1.2.1 dX12_sayWets_1 rfl hl (by decide) rfl (fun ls hl => ?_)
  refine lv_aload_n C.1.1 C.1.2.1 dX12_sayWets_2 rfl (lv_at hl 1 rfl) ?_
  refine m_g27 C X dX12_sayWets_3 ?_
  refine lv_if_ne (tgt := 22) C.1.1 C.1.2.1 dX12_sayWets_6 (by decide) (fun h_z => ?_) (fun h_z => ?_)
  · rw [if_neg h_z] at hF
    exact hX12_sayWets_22 C O N _ _ _ _ _ X (lv_sub hl [1, 0] rfl) hF
  · rw [if_pos h_z] at hF
    exact bX12_sayWets_9 C O X (lv_sub hl [1, 0] rfl) hF
noncomputable def fX12_sayWets (N : Nat) (S : gS) : Option (Int32 × gS) := fX12_sayWets_b0 N S
theorem kX12_sayWets {l : Launch} {D : va_G} {g : Nat → Nat} {cI cS : ClassId} {sa : Nat → Nat → Option Nat} {Am : (Nat → Prop) → State → Heap → Prop} (O : gO (mcell g cI cS sa) mord g) (P : gAm Am) (N : Nat) (S : gS) (o : Int32 × gS) (hF : fX12_sayWets N S = some o) : gM l yX12_sayWets cX12_sayWets 3 none 3 D (mtys cI cS) (mcell g cI cS sa) mord g Am [.ref (g 99)] S none o.2 :=
  gM_of O P (by decide) (Nat.le_of_ble_eq_true rfl) (fun p e s m args below meth c ls C X hl => bX12_sayWets_0 C O X (lv_sub hl [0] rfl) hF)
-- takeHalf
noncomputable def fX12_takeHalf_b27 (N : Nat) (S : gS) : Option (Int32 × gS) := some (0, S)
theorem bX12_takeHalf_27 {N : Nat} {S : gS} {H : Heap} {locs : List Loc} {ls : Array Slot} {o : Int32 × gS} (C : gC p s m args meth c cX12_takeHalf 2 RX12 none D (mtys cI cS) mord g Am) (O : gO (mcell g cI cS sa) mord g) (X : gX D (mcell g cI cS sa) mord g S s H locs) (hl : lv_has ls 2 []) (hF : fX12_takeHalf_b27 N S = some o) : W p l e (rmd 0) s m args below meth c H locs 0 0 (gE below args s D (mtys cI cS) (mcell g cI cS sa) mord g none o.2) (F0 m 27 ls []) := by
  unfold fX12_takeHalf_b27 at hF
  cases hF
  exact g_vret C X dX12_takeHalf_27
noncomputable def fX12_takeHalf_b10 (N : Nat) (r2 : Nat → Int32 → gS → Option (Int32 × gS)) (k0 : Nat) (x1 : Int32) (S : gS) : Option (Int32 × gS) := chk (inb (((((Int32.ofNat (mN k0)) / 2 : Int32)) + x1 : Int32)) (mN k0)) (chk (inb x1 (mN k0)) (lt (sU S k0 (Int32.toNatClampNeg x1) (S k0 (Int32.toNatClampNeg (((((Int32.ofNat (mN k0)) / 2 : Int32)) + x1 : Int32))))) fun S1 => (r2 k0 ((x1 + 1 : Int32)) S1)))
theorem bX12_takeHalf_10 {N : Nat} {r2 : Nat → Int32 → gS → Option (Int32 × gS)} {k0 : Nat} {x1 : Int32} {S : gS} {H : Heap} {locs : List Loc} {ls : Array Slot} {o : Int32 × gS} (C : gC p s m args meth c cX12_takeHalf 2 RX12 none D (mtys cI cS) mord g Am) (O : gO (mcell g cI cS sa) mord g) (K2 : ∀ (k0 : Nat) (x1 : Int32) (hk_k0 : mI k0 = true) (S : gS) (H : Heap) (locs : List Loc) (ls : Array Slot), gX D (mcell g cI cS sa) mord g S s H locs → lv_has ls 2 [(0, .ref (g k0)), (1, .int x1)] → r2 k0 x1 S = some o → W p l e (rmd 0) s m args below meth c H locs 0 0 (gE below args s D (mtys cI cS) (mcell g cI cS sa) mord g none o.2) (F0 m 2 ls [])) (hk_k0 : mI k0 = true) (X : gX D (mcell g cI cS sa) mord g S s H locs) (hl : lv_has ls 2 [(0, .ref (g k0)), (1, .int x1)]) (hF : fX12_takeHalf_b10 N r2 k0 x1 S = some o) : W p l e (rmd 0) s m args below meth c H locs 0 0 (gE below args s D (mtys cI cS) (mcell g cI cS sa) mord g none o.2) (F0 m 10 ls []) := by
  unfold fX12_takeHalf_b10 at hF
  refine lv_aload_n C.1.1 C.1.2.1 dX12_takeHalf_10 rfl (lv_at hl 0 rfl) ?_
  refine lv_iload_n C.1.1 C.1.2.1 dX12_takeHalf_11 rfl (lv_at hl 1 rfl) ?_
  refine lv_aload_n C.1.1 C.1.2.1 dX12_takeHalf_12 rfl (lv_at hl 0 rfl) ?_
  refine lv_aload_n C.1.1 C.1.2.1 dX12_takeHalf_13 rfl (lv_at hl 0 rfl) ?_
  refine m_lv C X (k := k0) hk_k0 (x := Int32.ofNat (mN k0)) rfl dX12_takeHalf_14 ?_
  refine lv_iconst (v := 2) C.1.1 C.1.2.1 dX12_takeHalf_15 (by decide) ?_
  refine lv_idiv C.1.1 C.1.2.1 dX12_takeHalf_16 (by decide) ?_
  refine lv_iload_n C.1.1 C.1.2.1 dX12_takeHalf_17 rfl (lv_at hl 1 rfl) ?_
  refine lv_iadd C.1.1 C.1.2.1 dX12_takeHalf_18 ?_
  obtain ⟨h_1, hF⟩ := chk_some hF
  refine m_rv C X (k := k0) hk_k0  (inb_vp h_1) rfl dX12_takeHalf_19 ?_
  obtain ⟨h_2, hF⟩ := chk_some hF
  obtain ⟨S1, eS1, hF⟩ := lt_some hF
  refine m_wv C O X (k := k0) hk_k0  (inb_vp h_2) rfl eS1 dX12_takeHalf_20 (fun H locs X => ?_)
  refine lv_iinc (v := (x1 + 1 : Int32)) (lv' := [(1, .int ((x1 + 1 : Int32))), (0, .ref (g k0))]) C.1.1 C.1.2.1 dX12_takeHalf_21 hl (k := 1) rfl rfl (by decide) rfl (fun ls hl => ?_)
  refine lv_goto (tgt := 2) C.1.1 C.1.2.1 dX12_takeHalf_24 (by decide) ?_
  exact K2 _ _ hk_k0 _ _ _ _ X (lv_sub hl [1, 0] rfl) hF
noncomputable def fX12_takeHalf_b2 (N : Nat) (r2 : Nat → Int32 → gS → Option (Int32 × gS)) (k0 : Nat) (x1 : Int32) (S : gS) : Option (Int32 × gS) := if (((Int32.ofNat (mN k0)) / 2 : Int32)) ≤ x1 then fX12_takeHalf_b27 N S else fX12_takeHalf_b10 N r2 k0 x1 S
theorem bX12_takeHalf_2 {N : Nat} {r2 : Nat → Int32 → gS → Option (Int32 × gS)} {k0 : Nat} {x1 : Int32} {S : gS} {H : Heap} {locs : List Loc} {ls : Array Slot} {o : Int32 × gS} (C : gC p s m args meth c cX12_takeHalf 2 RX12 none D (mtys cI cS) mord g Am) (O : gO (mcell g cI cS sa) mord g) (K2 : ∀ (k0 : Nat) (x1 : Int32) (hk_k0 : mI k0 = true) (S : gS) (H : Heap) (locs : List Loc) (ls : Array Slot), gX D (mcell g cI cS sa) mord g S s H locs → lv_has ls 2 [(0, .ref (g k0)), (1, .int x1)] → r2 k0 x1 S = some o → W p l e (rmd 0) s m args below meth c H locs 0 0 (gE below args s D (mtys cI cS) (mcell g cI cS sa) mord g none o.2) (F0 m 2 ls [])) (hk_k0 : mI k0 = true) (X : gX D (mcell g cI cS sa) mord g S s H locs) (hl : lv_has ls 2 [(0, .ref (g k0)), (1, .int x1)]) (hF : fX12_takeHalf_b2 N r2 k0 x1 S = some o) : W p l e (rmd 0) s m args below meth c H locs 0 0 (gE below args s D (mtys cI cS) (mcell g cI cS sa) mord g none o.2) (F0 m 2 ls []) := by
  unfold fX12_takeHalf_b2 at hF
  refine lv_iload_n C.1.1 C.1.2.1 dX12_takeHalf_2 rfl (lv_at hl 1 rfl) ?_
  refine lv_aload_n C.1.1 C.1.2.1 dX12_takeHalf_3 rfl (lv_at hl 0 rfl) ?_
  refine m_lv C X (k := k0) hk_k0 (x := Int32.ofNat (mN k0)) rfl dX12_takeHalf_4 ?_
  refine lv_iconst (v := 2) C.1.1 C.1.2.1 dX12_takeHalf_5 (by decide) ?_
  refine lv_idiv C.1.1 C.1.2.1 dX12_takeHalf_6 (by decide) ?_
  refine lv_icmp_ge (tgt := 27) C.1.1 C.1.2.1 dX12_takeHalf_7 (by decide) (fun h_z => ?_) (fun h_z => ?_)
  · rw [if_pos h_z] at hF
    exact bX12_takeHalf_27 C O X (lv_sub hl [] rfl) hF
  · rw [if_neg h_z] at hF
    exact bX12_takeHalf_10 C O K2 hk_k0 X (lv_sub hl [0, 1] rfl) hF
noncomputable def fX12_takeHalf_h2 (N : Nat) : Nat → Nat → Int32 → gS → Option (Int32 × gS)
  | 0, _, _, _ => none
  | n + 1, k0, x1, S => fX12_takeHalf_b2 N (fX12_takeHalf_h2 N n) k0 x1 S
theorem hX12_takeHalf_2 {N : Nat} {o : Int32 × gS} (C : gC p s m args meth c cX12_takeHalf 2 RX12 none D (mtys cI cS) mord g Am) (O : gO (mcell g cI cS sa) mord g) : ∀ (n : Nat) (k0 : Nat) (x1 : Int32) (hk_k0 : mI k0 = true) (S : gS) (H : Heap) (locs : List Loc) (ls : Array Slot), gX D (mcell g cI cS sa) mord g S s H locs → lv_has ls 2 [(0, .ref (g k0)), (1, .int x1)] → fX12_takeHalf_h2 N n k0 x1 S = some o → W p l e (rmd 0) s m args below meth c H locs 0 0 (gE below args s D (mtys cI cS) (mcell g cI cS sa) mord g none o.2) (F0 m 2 ls []) := by
  intro n
  induction n with
  | zero =>
    intro k0 x1 hk_k0 S H locs ls X hl hF
    exact absurd (show (none : Option (Int32 × gS)) = some o from hF) (by simp)
  | succ n ih =>
    intro k0 x1 hk_k0 S H locs ls X hl hF
    have hF : fX12_takeHalf_b2 N (fX12_takeHalf_h2 N n) k0 x1 S = some o := hF
    exact bX12_takeHalf_2 C O ih hk_k0 X hl hF
noncomputable def fX12_takeHalf_b0 (N : Nat) (k0 : Nat) (S : gS) : Option (Int32 × gS) := fX12_takeHalf_h2 N N k0 0 S
theorem bX12_takeHalf_0 {N : Nat} {k0 : Nat} {S : gS} {H : Heap} {locs : List Loc} {ls : Array Slot} {o : Int32 × gS} (C : gC p s m args meth c cX12_takeHalf 2 RX12 none D (mtys cI cS) mord g Am) (O : gO (mcell g cI cS sa) mord g) (hk_k0 : mI k0 = true) (X : gX D (mcell g cI cS sa) mord g S s H locs) (hl : lv_has ls 2 [(0, .ref (g k0))]) (hF : fX12_takeHalf_b0 N k0 S = some o) : W p l e (rmd 0) s m args below meth c H locs 0 0 (gE below args s D (mtys cI cS) (mcell g cI cS sa) mord g none o.2) (F0 m 0 ls []) := by
  unfold fX12_takeHalf_b0 at hF
  refine lv_iconst (v := 0) C.1.1 C.1.2.1 dX12_takeHalf_0 (by decide) ?_
  refine lv_istore_n (lv' := [(1, .int 0), (0, .ref (g k0))]) C.1.1 C.1.2.1 dX12_takeHalf_1 rfl hl (by decide) rfl (fun ls hl => ?_)
  exact hX12_takeHalf_2 C O N _ _ hk_k0 _ _ _ _ X (lv_sub hl [1, 0] rfl) hF
noncomputable def fX12_takeHalf (N : Nat) (k0 : Nat) (S : gS) : Option (Int32 × gS) := fX12_takeHalf_b0 N k0 S
theorem kX12_takeHalf {l : Launch} {D : va_G} {g : Nat → Nat} {cI cS : ClassId} {sa : Nat → Nat → Option Nat} {Am : (Nat → Prop) → State → Heap → Prop} (O : gO (mcell g cI cS sa) mord g) (P : gAm Am) (N : Nat) (k0 : Nat) (hk_k0 : mI k0 = true) (S : gS) (o : Int32 × gS) (hF : fX12_takeHalf N k0 S = some o) : gM l yX12_takeHalf cX12_takeHalf 2 none 0 D (mtys cI cS) (mcell g cI cS sa) mord g Am [.ref (g k0)] S none o.2 :=
  gM_of O P (by decide) (Nat.le_of_ble_eq_true rfl) (fun p e s m args below meth c ls C X hl => bX12_takeHalf_0 C O hk_k0 X (lv_sub hl [0] rfl) hF)
-- takeOver
noncomputable def fX12_takeOver_b211 (N : Nat) (S : gS) : Option (Int32 × gS) := lt (sU S 99 39 0) fun S1 => (lt (sU S1 99 40 0) fun S2 => (lt (sU S2 99 57 0) fun S3 => (some (0, S3))))
theorem bX12_takeOver_211 {N : Nat} {S : gS} {H : Heap} {locs : List Loc} {ls : Array Slot} {o : Int32 × gS} (C : gC p s m args meth c cX12_takeOver 3 RX12 none D (mtys cI cS) mord g Am) (O : gO (mcell g cI cS sa) mord g) (X : gX D (mcell g cI cS sa) mord g S s H locs) (hl : lv_has ls 3 [(0, .ref (g 99))]) (hF : fX12_takeOver_b211 N S = some o) : W p l e (rmd 1) s m args below meth c H locs 0 0 (gE below args s D (mtys cI cS) (mcell g cI cS sa) mord g none o.2) (F0 m 211 ls []) := by
  unfold fX12_takeOver_b211 at hF
  refine lv_aload_n C.1.1 C.1.2.1 dX12_takeOver_211 rfl (lv_at hl 0 rfl) ?_
  refine lv_iconst (v := 0) C.1.1 C.1.2.1 dX12_takeOver_212 (by decide) ?_
  obtain ⟨S1, eS1, hF⟩ := lt_some hF
  refine m_p39 C O X eS1 dX12_takeOver_213 (fun H locs X => ?_)
  refine lv_aload_n C.1.1 C.1.2.1 dX12_takeOver_216 rfl (lv_at hl 0 rfl) ?_
  refine lv_iconst (v := 0) C.1.1 C.1.2.1 dX12_takeOver_217 (by decide) ?_
  obtain ⟨S2, eS2, hF⟩ := lt_some hF
  refine m_p40 C O X eS2 dX12_takeOver_218 (fun H locs X => ?_)
  refine lv_aload_n C.1.1 C.1.2.1 dX12_takeOver_221 rfl (lv_at hl 0 rfl) ?_
  refine lv_iconst (v := 0) C.1.1 C.1.2.1 dX12_takeOver_222 (by decide) ?_
  obtain ⟨S3, eS3, hF⟩ := lt_some hF
  refine m_p57 C O X (by decide) eS3 dX12_takeOver_223 (fun H locs X => ?_)
  cases hF
  exact g_vret C X dX12_takeOver_226
noncomputable def fX12_takeOver_b204 (N : Nat) (r96 : Int32 → gS → Option (Int32 × gS)) (x1 : Int32) (t1 : Int32) (t2 : Int32) (S : gS) : Option (Int32 × gS) := chk (inb t1 (6)) (lt (sU S 35 (Int32.toNatClampNeg t1) t2) fun S1 => (r96 ((x1 + 1 : Int32)) S1))
theorem bX12_takeOver_204 {N : Nat} {r96 : Int32 → gS → Option (Int32 × gS)} {x1 : Int32} {t1 : Int32} {t2 : Int32} {S : gS} {H : Heap} {locs : List Loc} {ls : Array Slot} {o : Int32 × gS} (C : gC p s m args meth c cX12_takeOver 3 RX12 none D (mtys cI cS) mord g Am) (O : gO (mcell g cI cS sa) mord g) (K96 : ∀ (x1 : Int32) (S : gS) (H : Heap) (locs : List Loc) (ls : Array Slot), gX D (mcell g cI cS sa) mord g S s H locs → lv_has ls 3 [(0, .ref (g 99)), (1, .int x1)] → r96 x1 S = some o → W p l e (rmd 1) s m args below meth c H locs 0 0 (gE below args s D (mtys cI cS) (mcell g cI cS sa) mord g none o.2) (F0 m 96 ls [])) (X : gX D (mcell g cI cS sa) mord g S s H locs) (hl : lv_has ls 3 [(0, .ref (g 99)), (1, .int x1)]) (hF : fX12_takeOver_b204 N r96 x1 t1 t2 S = some o) : W p l e (rmd 1) s m args below meth c H locs 0 0 (gE below args s D (mtys cI cS) (mcell g cI cS sa) mord g none o.2) (F0 m 204 ls [.int t2, .int t1, .ref (g 35)]) := by
  unfold fX12_takeOver_b204 at hF
  obtain ⟨h_1, hF⟩ := chk_some hF
  obtain ⟨S1, eS1, hF⟩ := lt_some hF
  refine m_w35 C O X  (inb_vp h_1) rfl eS1 dX12_takeOver_204 (fun H locs X => ?_)
  refine lv_iinc (v := (x1 + 1 : Int32)) (lv' := [(1, .int ((x1 + 1 : Int32))), (0, .ref (g 99))]) C.1.1 C.1.2.1 dX12_takeOver_205 hl (k := 1) rfl rfl (by decide) rfl (fun ls hl => ?_)
  refine lv_goto (tgt := 96) C.1.1 C.1.2.1 dX12_takeOver_208 (by decide) ?_
  exact K96 _ _ _ _ _ X (lv_sub hl [1, 0] rfl) hF
noncomputable def fX12_takeOver_b203 (N : Nat) (r96 : Int32 → gS → Option (Int32 × gS)) (x1 : Int32) (t1 : Int32) (S : gS) : Option (Int32 × gS) := fX12_takeOver_b204 N r96 x1 t1 ((-1)) S
theorem bX12_takeOver_203 {N : Nat} {r96 : Int32 → gS → Option (Int32 × gS)} {x1 : Int32} {t1 : Int32} {S : gS} {H : Heap} {locs : List Loc} {ls : Array Slot} {o : Int32 × gS} (C : gC p s m args meth c cX12_takeOver 3 RX12 none D (mtys cI cS) mord g Am) (O : gO (mcell g cI cS sa) mord g) (K96 : ∀ (x1 : Int32) (S : gS) (H : Heap) (locs : List Loc) (ls : Array Slot), gX D (mcell g cI cS sa) mord g S s H locs → lv_has ls 3 [(0, .ref (g 99)), (1, .int x1)] → r96 x1 S = some o → W p l e (rmd 1) s m args below meth c H locs 0 0 (gE below args s D (mtys cI cS) (mcell g cI cS sa) mord g none o.2) (F0 m 96 ls [])) (X : gX D (mcell g cI cS sa) mord g S s H locs) (hl : lv_has ls 3 [(0, .ref (g 99)), (1, .int x1)]) (hF : fX12_takeOver_b203 N r96 x1 t1 S = some o) : W p l e (rmd 1) s m args below meth c H locs 0 0 (gE below args s D (mtys cI cS) (mcell g cI cS sa) mord g none o.2) (F0 m 203 ls [.int t1, .ref (g 35)]) := by
  unfold fX12_takeOver_b203 at hF
  refine lv_iconst (v := (-1)) C.1.1 C.1.2.1 dX12_takeOver_203 (by decide) ?_
  exact bX12_takeOver_204 C O K96 X (lv_sub hl [0, 1] rfl) hF
noncomputable def fX12_takeOver_b194 (N : Nat) (r96 : Int32 → gS → Option (Int32 × gS)) (x1 : Int32) (t1 : Int32) (S : gS) : Option (Int32 × gS) := chk (inb x1 (12)) (fX12_takeOver_b204 N r96 x1 t1 (S 13 (Int32.toNatClampNeg x1)) S)
theorem bX12_takeOver_194 {N : Nat} {r96 : Int32 → gS → Option (Int32 × gS)} {x1 : Int32} {t1 : Int32} {S : gS} {H : Heap} {locs : List Loc} {ls : Array Slot} {o : Int32 × gS} (C : gC p s m args meth c cX12_takeOver 3 RX12 none D (mtys cI cS) mord g Am) (O : gO (mcell g cI cS sa) mord g) (K96 : ∀ (x1 : Int32) (S : gS) (H : Heap) (locs : List Loc) (ls : Array Slot), gX D (mcell g cI cS sa) mord g S s H locs → lv_has ls 3 [(0, .ref (g 99)), (1, .int x1)] → r96 x1 S = some o → W p l e (rmd 1) s m args below meth c H locs 0 0 (gE below args s D (mtys cI cS) (mcell g cI cS sa) mord g none o.2) (F0 m 96 ls [])) (X : gX D (mcell g cI cS sa) mord g S s H locs) (hl : lv_has ls 3 [(0, .ref (g 99)), (1, .int x1)]) (hF : fX12_takeOver_b194 N r96 x1 t1 S = some o) : W p l e (rmd 1) s m args below meth c H locs 0 0 (gE below args s D (mtys cI cS) (mcell g cI cS sa) mord g none o.2) (F0 m 194 ls [.int t1, .ref (g 35)]) := by
  unfold fX12_takeOver_b194 at hF
  refine lv_aload_n C.1.1 C.1.2.1 dX12_takeOver_194 rfl (lv_at hl 0 rfl) ?_
  refine m_g13 C X dX12_takeOver_195 ?_
  refine lv_iload_n C.1.1 C.1.2.1 dX12_takeOver_198 rfl (lv_at hl 1 rfl) ?_
  obtain ⟨h_1, hF⟩ := chk_some hF
  refine m_r13 C X  (inb_vp h_1) rfl dX12_takeOver_199 ?_
  refine lv_goto (tgt := 204) C.1.1 C.1.2.1 dX12_takeOver_200 (by decide) ?_
  exact bX12_takeOver_204 C O K96 X (lv_sub hl [0, 1] rfl) hF
noncomputable def fX12_takeOver_b177 (N : Nat) (r96 : Int32 → gS → Option (Int32 × gS)) (x1 : Int32) (x2 : Int32) (t1 : Int32) (t2 : Int32) (S : gS) : Option (Int32 × gS) := chk (inb t1 (6)) (lt (sU S 33 (Int32.toNatClampNeg t1) t2) fun S1 => (chk (inb x1 (6)) (lt (sU S1 34 (Int32.toNatClampNeg x1) 0) fun S2 => (if x2 = 0 then fX12_takeOver_b203 N r96 x1 x1 S2 else fX12_takeOver_b194 N r96 x1 x1 S2))))
theorem bX12_takeOver_177 {N : Nat} {r96 : Int32 → gS → Option (Int32 × gS)} {x1 : Int32} {x2 : Int32} {t1 : Int32} {t2 : Int32} {S : gS} {H : Heap} {locs : List Loc} {ls : Array Slot} {o : Int32 × gS} (C : gC p s m args meth c cX12_takeOver 3 RX12 none D (mtys cI cS) mord g Am) (O : gO (mcell g cI cS sa) mord g) (K96 : ∀ (x1 : Int32) (S : gS) (H : Heap) (locs : List Loc) (ls : Array Slot), gX D (mcell g cI cS sa) mord g S s H locs → lv_has ls 3 [(0, .ref (g 99)), (1, .int x1)] → r96 x1 S = some o → W p l e (rmd 1) s m args below meth c H locs 0 0 (gE below args s D (mtys cI cS) (mcell g cI cS sa) mord g none o.2) (F0 m 96 ls [])) (X : gX D (mcell g cI cS sa) mord g S s H locs) (hl : lv_has ls 3 [(0, .ref (g 99)), (1, .int x1), (2, .int x2)]) (hF : fX12_takeOver_b177 N r96 x1 x2 t1 t2 S = some o) : W p l e (rmd 1) s m args below meth c H locs 0 0 (gE below args s D (mtys cI cS) (mcell g cI cS sa) mord g none o.2) (F0 m 177 ls [.int t2, .int t1, .ref (g 33)]) := by
  unfold fX12_takeOver_b177 at hF
  obtain ⟨h_1, hF⟩ := chk_some hF
  obtain ⟨S1, eS1, hF⟩ := lt_some hF
  refine m_w33 C O X  (inb_vp h_1) rfl eS1 dX12_takeOver_177 (fun H locs X => ?_)
  refine lv_aload_n C.1.1 C.1.2.1 dX12_takeOver_178 rfl (lv_at hl 0 rfl) ?_
  refine m_g34 C X dX12_takeOver_179 ?_
  refine lv_iload_n C.1.1 C.1.2.1 dX12_takeOver_182 rfl (lv_at hl 1 rfl) ?_
  refine lv_iconst (v := 0) C.1.1 C.1.2.1 dX12_takeOver_183 (by decide) ?_
  obtain ⟨h_2, hF⟩ := chk_some hF
  obtain ⟨S2, eS2, hF⟩ := lt_some hF
  refine m_w34 C O X  (inb_vp h_2) rfl eS2 dX12_takeOver_184 (fun H locs X => ?_)
  refine lv_aload_n C.1.1 C.1.2.1 dX12_takeOver_185 rfl (lv_at hl 0 rfl) ?_
  refine m_g35 C X dX12_takeOver_186 ?_
  refine lv_iload_n C.1.1 C.1.2.1 dX12_takeOver_189 rfl (lv_at hl 1 rfl) ?_
  refine lv_iload_n C.1.1 C.1.2.1 dX12_takeOver_190 rfl (lv_at hl 2 rfl) ?_
  refine lv_if_eq (tgt := 203) C.1.1 C.1.2.1 dX12_takeOver_191 (by decide) (fun h_z => ?_) (fun h_z => ?_)
  · rw [if_pos h_z] at hF
    exact bX12_takeOver_203 C O K96 X (lv_sub hl [0, 1] rfl) hF
  · rw [if_neg h_z] at hF
    exact bX12_takeOver_194 C O K96 X (lv_sub hl [0, 1] rfl) hF
noncomputable def fX12_takeOver_b176 (N : Nat) (r96 : Int32 → gS → Option (Int32 × gS)) (x1 : Int32) (x2 : Int32) (t1 : Int32) (S : gS) : Option (Int32 × gS) := fX12_takeOver_b177 N r96 x1 x2 t1 0 S
theorem bX12_takeOver_176 {N : Nat} {r96 : Int32 → gS → Option (Int32 × gS)} {x1 : Int32} {x2 : Int32} {t1 : Int32} {S : gS} {H : Heap} {locs : List Loc} {ls : Array Slot} {o : Int32 × gS} (C : gC p s m args meth c cX12_takeOver 3 RX12 none D (mtys cI cS) mord g Am) (O : gO (mcell g cI cS sa) mord g) (K96 : ∀ (x1 : Int32) (S : gS) (H : Heap) (locs : List Loc) (ls : Array Slot), gX D (mcell g cI cS sa) mord g S s H locs → lv_has ls 3 [(0, .ref (g 99)), (1, .int x1)] → r96 x1 S = some o → W p l e (rmd 1) s m args below meth c H locs 0 0 (gE below args s D (mtys cI cS) (mcell g cI cS sa) mord g none o.2) (F0 m 96 ls [])) (X : gX D (mcell g cI cS sa) mord g S s H locs) (hl : lv_has ls 3 [(0, .ref (g 99)), (1, .int x1), (2, .int x2)]) (hF : fX12_takeOver_b176 N r96 x1 x2 t1 S = some o) : W p l e (rmd 1) s m args below meth c H locs 0 0 (gE below args s D (mtys cI cS) (mcell g cI cS sa) mord g none o.2) (F0 m 176 ls [.int t1, .ref (g 33)]) := by
  unfold fX12_takeOver_b176 at hF
  refine lv_iconst (v := 0) C.1.1 C.1.2.1 dX12_takeOver_176 (by decide) ?_
  exact bX12_takeOver_177 C O K96 X (lv_sub hl [0, 1, 2] rfl) hF
noncomputable def fX12_takeOver_b167 (N : Nat) (r96 : Int32 → gS → Option (Int32 × gS)) (x1 : Int32) (x2 : Int32) (t1 : Int32) (S : gS) : Option (Int32 × gS) := chk (inb x1 (12)) (fX12_takeOver_b177 N r96 x1 x2 t1 (S 12 (Int32.toNatClampNeg x1)) S)
theorem bX12_takeOver_167 {N : Nat} {r96 : Int32 → gS → Option (Int32 × gS)} {x1 : Int32} {x2 : Int32} {t1 : Int32} {S : gS} {H : Heap} {locs : List Loc} {ls : Array Slot} {o : Int32 × gS} (C : gC p s m args meth c cX12_takeOver 3 RX12 none D (mtys cI cS) mord g Am) (O : gO (mcell g cI cS sa) mord g) (K96 : ∀ (x1 : Int32) (S : gS) (H : Heap) (locs : List Loc) (ls : Array Slot), gX D (mcell g cI cS sa) mord g S s H locs → lv_has ls 3 [(0, .ref (g 99)), (1, .int x1)] → r96 x1 S = some o → W p l e (rmd 1) s m args below meth c H locs 0 0 (gE below args s D (mtys cI cS) (mcell g cI cS sa) mord g none o.2) (F0 m 96 ls [])) (X : gX D (mcell g cI cS sa) mord g S s H locs) (hl : lv_has ls 3 [(0, .ref (g 99)), (1, .int x1), (2, .int x2)]) (hF : fX12_takeOver_b167 N r96 x1 x2 t1 S = some o) : W p l e (rmd 1) s m args below meth c H locs 0 0 (gE below args s D (mtys cI cS) (mcell g cI cS sa) mord g none o.2) (F0 m 167 ls [.int t1, .ref (g 33)]) := by
  unfold fX12_takeOver_b167 at hF
  refine lv_aload_n C.1.1 C.1.2.1 dX12_takeOver_167 rfl (lv_at hl 0 rfl) ?_
  refine m_g12 C X dX12_takeOver_168 ?_
  refine lv_iload_n C.1.1 C.1.2.1 dX12_takeOver_171 rfl (lv_at hl 1 rfl) ?_
  obtain ⟨h_1, hF⟩ := chk_some hF
  refine m_r12 C X  (inb_vp h_1) rfl dX12_takeOver_172 ?_
  refine lv_goto (tgt := 177) C.1.1 C.1.2.1 dX12_takeOver_173 (by decide) ?_
  exact bX12_takeOver_177 C O K96 X (lv_sub hl [0, 1, 2] rfl) hF
noncomputable def fX12_takeOver_b157 (N : Nat) (r96 : Int32 → gS → Option (Int32 × gS)) (x1 : Int32) (x2 : Int32) (t1 : Int32) (t2 : Int32) (S : gS) : Option (Int32 × gS) := chk (inb t1 (6)) (lt (sU S 32 (Int32.toNatClampNeg t1) t2) fun S1 => (if x2 = 0 then fX12_takeOver_b176 N r96 x1 x2 x1 S1 else fX12_takeOver_b167 N r96 x1 x2 x1 S1))
theorem bX12_takeOver_157 {N : Nat} {r96 : Int32 → gS → Option (Int32 × gS)} {x1 : Int32} {x2 : Int32} {t1 : Int32} {t2 : Int32} {S : gS} {H : Heap} {locs : List Loc} {ls : Array Slot} {o : Int32 × gS} (C : gC p s m args meth c cX12_takeOver 3 RX12 none D (mtys cI cS) mord g Am) (O : gO (mcell g cI cS sa) mord g) (K96 : ∀ (x1 : Int32) (S : gS) (H : Heap) (locs : List Loc) (ls : Array Slot), gX D (mcell g cI cS sa) mord g S s H locs → lv_has ls 3 [(0, .ref (g 99)), (1, .int x1)] → r96 x1 S = some o → W p l e (rmd 1) s m args below meth c H locs 0 0 (gE below args s D (mtys cI cS) (mcell g cI cS sa) mord g none o.2) (F0 m 96 ls [])) (X : gX D (mcell g cI cS sa) mord g S s H locs) (hl : lv_has ls 3 [(0, .ref (g 99)), (1, .int x1), (2, .int x2)]) (hF : fX12_takeOver_b157 N r96 x1 x2 t1 t2 S = some o) : W p l e (rmd 1) s m args below meth c H locs 0 0 (gE below args s D (mtys cI cS) (mcell g cI cS sa) mord g none o.2) (F0 m 157 ls [.int t2, .int t1, .ref (g 32)]) := by
  unfold fX12_takeOver_b157 at hF
  obtain ⟨h_1, hF⟩ := chk_some hF
  obtain ⟨S1, eS1, hF⟩ := lt_some hF
  refine m_w32 C O X  (inb_vp h_1) rfl eS1 dX12_takeOver_157 (fun H locs X => ?_)
  refine lv_aload_n C.1.1 C.1.2.1 dX12_takeOver_158 rfl (lv_at hl 0 rfl) ?_
  refine m_g33 C X dX12_takeOver_159 ?_
  refine lv_iload_n C.1.1 C.1.2.1 dX12_takeOver_162 rfl (lv_at hl 1 rfl) ?_
  refine lv_iload_n C.1.1 C.1.2.1 dX12_takeOver_163 rfl (lv_at hl 2 rfl) ?_
  refine lv_if_eq (tgt := 176) C.1.1 C.1.2.1 dX12_takeOver_164 (by decide) (fun h_z => ?_) (fun h_z => ?_)
  · rw [if_pos h_z] at hF
    exact bX12_takeOver_176 C O K96 X (lv_sub hl [0, 1, 2] rfl) hF
  · rw [if_neg h_z] at hF
    exact bX12_takeOver_167 C O K96 X (lv_sub hl [0, 1, 2] rfl) hF
noncomputable def fX12_takeOver_b156 (N : Nat) (r96 : Int32 → gS → Option (Int32 × gS)) (x1 : Int32) (x2 : Int32) (t1 : Int32) (S : gS) : Option (Int32 × gS) := fX12_takeOver_b157 N r96 x1 x2 t1 0 S
theorem bX12_takeOver_156 {N : Nat} {r96 : Int32 → gS → Option (Int32 × gS)} {x1 : Int32} {x2 : Int32} {t1 : Int32} {S : gS} {H : Heap} {locs : List Loc} {ls : Array Slot} {o : Int32 × gS} (C : gC p s m args meth c cX12_takeOver 3 RX12 none D (mtys cI cS) mord g Am) (O : gO (mcell g cI cS sa) mord g) (K96 : ∀ (x1 : Int32) (S : gS) (H : Heap) (locs : List Loc) (ls : Array Slot), gX D (mcell g cI cS sa) mord g S s H locs → lv_has ls 3 [(0, .ref (g 99)), (1, .int x1)] → r96 x1 S = some o → W p l e (rmd 1) s m args below meth c H locs 0 0 (gE below args s D (mtys cI cS) (mcell g cI cS sa) mord g none o.2) (F0 m 96 ls [])) (X : gX D (mcell g cI cS sa) mord g S s H locs) (hl : lv_has ls 3 [(0, .ref (g 99)), (1, .int x1), (2, .int x2)]) (hF : fX12_takeOver_b156 N r96 x1 x2 t1 S = some o) : W p l e (rmd 1) s m args below meth c H locs 0 0 (gE below args s D (mtys cI cS) (mcell g cI cS sa) mord g none o.2) (F0 m 156 ls [.int t1, .ref (g 32)]) := by
  unfold fX12_takeOver_b156 at hF
  refine lv_iconst (v := 0) C.1.1 C.1.2.1 dX12_takeOver_156 (by decide) ?_
  exact bX12_takeOver_157 C O K96 X (lv_sub hl [0, 1, 2] rfl) hF
noncomputable def fX12_takeOver_b147 (N : Nat) (r96 : Int32 → gS → Option (Int32 × gS)) (x1 : Int32) (x2 : Int32) (t1 : Int32) (S : gS) : Option (Int32 × gS) := chk (inb x1 (12)) (fX12_takeOver_b157 N r96 x1 x2 t1 (S 11 (Int32.toNatClampNeg x1)) S)
theorem bX12_takeOver_147 {N : Nat} {r96 : Int32 → gS → Option (Int32 × gS)} {x1 : Int32} {x2 : Int32} {t1 : Int32} {S : gS} {H : Heap} {locs : List Loc} {ls : Array Slot} {o : Int32 × gS} (C : gC p s m args meth c cX12_takeOver 3 RX12 none D (mtys cI cS) mord g Am) (O : gO (mcell g cI cS sa) mord g) (K96 : ∀ (x1 : Int32) (S : gS) (H : Heap) (locs : List Loc) (ls : Array Slot), gX D (mcell g cI cS sa) mord g S s H locs → lv_has ls 3 [(0, .ref (g 99)), (1, .int x1)] → r96 x1 S = some o → W p l e (rmd 1) s m args below meth c H locs 0 0 (gE below args s D (mtys cI cS) (mcell g cI cS sa) mord g none o.2) (F0 m 96 ls [])) (X : gX D (mcell g cI cS sa) mord g S s H locs) (hl : lv_has ls 3 [(0, .ref (g 99)), (1, .int x1), (2, .int x2)]) (hF : fX12_takeOver_b147 N r96 x1 x2 t1 S = some o) : W p l e (rmd 1) s m args below meth c H locs 0 0 (gE below args s D (mtys cI cS) (mcell g cI cS sa) mord g none o.2) (F0 m 147 ls [.int t1, .ref (g 32)]) := by
  unfold fX12_takeOver_b147 at hF
  refine lv_aload_n C.1.1 C.1.2.1 dX12_takeOver_147 rfl (lv_at hl 0 rfl) ?_
  refine m_g11 C X dX12_takeOver_148 ?_
  refine lv_iload_n C.1.1 C.1.2.1 dX12_takeOver_151 rfl (lv_at hl 1 rfl) ?_
  obtain ⟨h_1, hF⟩ := chk_some hF
  refine m_r11 C X  (inb_vp h_1) rfl dX12_takeOver_152 ?_
  refine lv_goto (tgt := 157) C.1.1 C.1.2.1 dX12_takeOver_153 (by decide) ?_
  exact bX12_takeOver_157 C O K96 X (lv_sub hl [0, 1, 2] rfl) hF
noncomputable def fX12_takeOver_b137 (N : Nat) (r96 : Int32 → gS → Option (Int32 × gS)) (x1 : Int32) (x2 : Int32) (t1 : Int32) (t2 : Int32) (S : gS) : Option (Int32 × gS) := chk (inb t1 (6)) (lt (sU S 18 (Int32.toNatClampNeg t1) t2) fun S1 => (if x2 = 0 then fX12_takeOver_b156 N r96 x1 x2 x1 S1 else fX12_takeOver_b147 N r96 x1 x2 x1 S1))
theorem bX12_takeOver_137 {N : Nat} {r96 : Int32 → gS → Option (Int32 × gS)} {x1 : Int32} {x2 : Int32} {t1 : Int32} {t2 : Int32} {S : gS} {H : Heap} {locs : List Loc} {ls : Array Slot} {o : Int32 × gS} (C : gC p s m args meth c cX12_takeOver 3 RX12 none D (mtys cI cS) mord g Am) (O : gO (mcell g cI cS sa) mord g) (K96 : ∀ (x1 : Int32) (S : gS) (H : Heap) (locs : List Loc) (ls : Array Slot), gX D (mcell g cI cS sa) mord g S s H locs → lv_has ls 3 [(0, .ref (g 99)), (1, .int x1)] → r96 x1 S = some o → W p l e (rmd 1) s m args below meth c H locs 0 0 (gE below args s D (mtys cI cS) (mcell g cI cS sa) mord g none o.2) (F0 m 96 ls [])) (X : gX D (mcell g cI cS sa) mord g S s H locs) (hl : lv_has ls 3 [(0, .ref (g 99)), (1, .int x1), (2, .int x2)]) (hF : fX12_takeOver_b137 N r96 x1 x2 t1 t2 S = some o) : W p l e (rmd 1) s m args below meth c H locs 0 0 (gE below args s D (mtys cI cS) (mcell g cI cS sa) mord g none o.2) (F0 m 137 ls [.int t2, .int t1, .ref (g 18)]) := by
  unfold fX12_takeOver_b137 at hF
  obtain ⟨h_1, hF⟩ := chk_some hF
  obtain ⟨S1, eS1, hF⟩ := lt_some hF
  refine m_w18 C O X  (inb_vp h_1) rfl eS1 dX12_takeOver_137 (fun H locs X => ?_)
  refine lv_aload_n C.1.1 C.1.2.1 dX12_takeOver_138 rfl (lv_at hl 0 rfl) ?_
  refine m_g32 C X dX12_takeOver_139 ?_
  refine lv_iload_n C.1.1 C.1.2.1 dX12_takeOver_142 rfl (lv_at hl 1 rfl) ?_
  refine lv_iload_n C.1.1 C.1.2.1 dX12_takeOver_143 rfl (lv_at hl 2 rfl) ?_
  refine lv_if_eq (tgt := 156) C.1.1 C.1.2.1 dX12_takeOver_144 (by decide) (fun h_z => ?_) (fun h_z => ?_)
  · rw [if_pos h_z] at hF
    exact bX12_takeOver_156 C O K96 X (lv_sub hl [0, 1, 2] rfl) hF
  · rw [if_neg h_z] at hF
    exact bX12_takeOver_147 C O K96 X (lv_sub hl [0, 1, 2] rfl) hF
noncomputable def fX12_takeOver_b136 (N : Nat) (r96 : Int32 → gS → Option (Int32 × gS)) (x1 : Int32) (x2 : Int32) (t1 : Int32) (S : gS) : Option (Int32 × gS) := fX12_takeOver_b137 N r96 x1 x2 t1 0 S
theorem bX12_takeOver_136 {N : Nat} {r96 : Int32 → gS → Option (Int32 × gS)} {x1 : Int32} {x2 : Int32} {t1 : Int32} {S : gS} {H : Heap} {locs : List Loc} {ls : Array Slot} {o : Int32 × gS} (C : gC p s m args meth c cX12_takeOver 3 RX12 none D (mtys cI cS) mord g Am) (O : gO (mcell g cI cS sa) mord g) (K96 : ∀ (x1 : Int32) (S : gS) (H : Heap) (locs : List Loc) (ls : Array Slot), gX D (mcell g cI cS sa) mord g S s H locs → lv_has ls 3 [(0, .ref (g 99)), (1, .int x1)] → r96 x1 S = some o → W p l e (rmd 1) s m args below meth c H locs 0 0 (gE below args s D (mtys cI cS) (mcell g cI cS sa) mord g none o.2) (F0 m 96 ls [])) (X : gX D (mcell g cI cS sa) mord g S s H locs) (hl : lv_has ls 3 [(0, .ref (g 99)), (1, .int x1), (2, .int x2)]) (hF : fX12_takeOver_b136 N r96 x1 x2 t1 S = some o) : W p l e (rmd 1) s m args below meth c H locs 0 0 (gE below args s D (mtys cI cS) (mcell g cI cS sa) mord g none o.2) (F0 m 136 ls [.int t1, .ref (g 18)]) := by
  unfold fX12_takeOver_b136 at hF
  refine lv_iconst (v := 0) C.1.1 C.1.2.1 dX12_takeOver_136 (by decide) ?_
  exact bX12_takeOver_137 C O K96 X (lv_sub hl [0, 1, 2] rfl) hF
noncomputable def fX12_takeOver_b127 (N : Nat) (r96 : Int32 → gS → Option (Int32 × gS)) (x1 : Int32) (x2 : Int32) (t1 : Int32) (S : gS) : Option (Int32 × gS) := chk (inb x1 (12)) (fX12_takeOver_b137 N r96 x1 x2 t1 (S 10 (Int32.toNatClampNeg x1)) S)
theorem bX12_takeOver_127 {N : Nat} {r96 : Int32 → gS → Option (Int32 × gS)} {x1 : Int32} {x2 : Int32} {t1 : Int32} {S : gS} {H : Heap} {locs : List Loc} {ls : Array Slot} {o : Int32 × gS} (C : gC p s m args meth c cX12_takeOver 3 RX12 none D (mtys cI cS) mord g Am) (O : gO (mcell g cI cS sa) mord g) (K96 : ∀ (x1 : Int32) (S : gS) (H : Heap) (locs : List Loc) (ls : Array Slot), gX D (mcell g cI cS sa) mord g S s H locs → lv_has ls 3 [(0, .ref (g 99)), (1, .int x1)] → r96 x1 S = some o → W p l e (rmd 1) s m args below meth c H locs 0 0 (gE below args s D (mtys cI cS) (mcell g cI cS sa) mord g none o.2) (F0 m 96 ls [])) (X : gX D (mcell g cI cS sa) mord g S s H locs) (hl : lv_has ls 3 [(0, .ref (g 99)), (1, .int x1), (2, .int x2)]) (hF : fX12_takeOver_b127 N r96 x1 x2 t1 S = some o) : W p l e (rmd 1) s m args below meth c H locs 0 0 (gE below args s D (mtys cI cS) (mcell g cI cS sa) mord g none o.2) (F0 m 127 ls [.int t1, .ref (g 18)]) := by
  unfold fX12_takeOver_b127 at hF
  refine lv_aload_n C.1.1 C.1.2.1 dX12_takeOver_127 rfl (lv_at hl 0 rfl) ?_
  refine m_g10 C X dX12_takeOver_128 ?_
  refine lv_iload_n C.1.1 C.1.2.1 dX12_takeOver_131 rfl (lv_at hl 1 rfl) ?_
  obtain ⟨h_1, hF⟩ := chk_some hF
  refine m_r10 C X  (inb_vp h_1) rfl dX12_takeOver_132 ?_
  refine lv_goto (tgt := 137) C.1.1 C.1.2.1 dX12_takeOver_133 (by decide) ?_
  exact bX12_takeOver_137 C O K96 X (lv_sub hl [0, 1, 2] rfl) hF
noncomputable def fX12_takeOver_b117 (N : Nat) (r96 : Int32 → gS → Option (Int32 × gS)) (x1 : Int32) (t0 : Int32) (S : gS) : Option (Int32 × gS) := if t0 = 0 then fX12_takeOver_b136 N r96 x1 t0 x1 S else fX12_takeOver_b127 N r96 x1 t0 x1 S
theorem bX12_takeOver_117 {N : Nat} {r96 : Int32 → gS → Option (Int32 × gS)} {x1 : Int32} {t0 : Int32} {S : gS} {H : Heap} {locs : List Loc} {ls : Array Slot} {o : Int32 × gS} (C : gC p s m args meth c cX12_takeOver 3 RX12 none D (mtys cI cS) mord g Am) (O : gO (mcell g cI cS sa) mord g) (K96 : ∀ (x1 : Int32) (S : gS) (H : Heap) (locs : List Loc) (ls : Array Slot), gX D (mcell g cI cS sa) mord g S s H locs → lv_has ls 3 [(0, .ref (g 99)), (1, .int x1)] → r96 x1 S = some o → W p l e (rmd 1) s m args below meth c H locs 0 0 (gE below args s D (mtys cI cS) (mcell g cI cS sa) mord g none o.2) (F0 m 96 ls [])) (X : gX D (mcell g cI cS sa) mord g S s H locs) (hl : lv_has ls 3 [(0, .ref (g 99)), (1, .int x1)]) (hF : fX12_takeOver_b117 N r96 x1 t0 S = some o) : W p l e (rmd 1) s m args below meth c H locs 0 0 (gE below args s D (mtys cI cS) (mcell g cI cS sa) mord g none o.2) (F0 m 117 ls [.int t0]) := by
  unfold fX12_takeOver_b117 at hF
  refine lv_istore_n (lv' := [(2, .int t0), (0, .ref (g 99)), (1, .int x1)]) C.1.1 C.1.2.1 dX12_takeOver_117 rfl hl (by decide) rfl (fun ls hl => ?_)
  refine lv_aload_n C.1.1 C.1.2.1 dX12_takeOver_118 rfl (lv_at hl 1 rfl) ?_
  refine m_g18 C X dX12_takeOver_119 ?_
  refine lv_iload_n C.1.1 C.1.2.1 dX12_takeOver_122 rfl (lv_at hl 2 rfl) ?_
  refine lv_iload_n C.1.1 C.1.2.1 dX12_takeOver_123 rfl (lv_at hl 0 rfl) ?_
  refine lv_if_eq (tgt := 136) C.1.1 C.1.2.1 dX12_takeOver_124 (by decide) (fun h_z => ?_) (fun h_z => ?_)
  · rw [if_pos h_z] at hF
    exact bX12_takeOver_136 C O K96 X (lv_sub hl [1, 2, 0] rfl) hF
  · rw [if_neg h_z] at hF
    exact bX12_takeOver_127 C O K96 X (lv_sub hl [1, 2, 0] rfl) hF
noncomputable def fX12_takeOver_b116 (N : Nat) (r96 : Int32 → gS → Option (Int32 × gS)) (x1 : Int32) (S : gS) : Option (Int32 × gS) := fX12_takeOver_b117 N r96 x1 0 S
theorem bX12_takeOver_116 {N : Nat} {r96 : Int32 → gS → Option (Int32 × gS)} {x1 : Int32} {S : gS} {H : Heap} {locs : List Loc} {ls : Array Slot} {o : Int32 × gS} (C : gC p s m args meth c cX12_takeOver 3 RX12 none D (mtys cI cS) mord g Am) (O : gO (mcell g cI cS sa) mord g) (K96 : ∀ (x1 : Int32) (S : gS) (H : Heap) (locs : List Loc) (ls : Array Slot), gX D (mcell g cI cS sa) mord g S s H locs → lv_has ls 3 [(0, .ref (g 99)), (1, .int x1)] → r96 x1 S = some o → W p l e (rmd 1) s m args below meth c H locs 0 0 (gE below args s D (mtys cI cS) (mcell g cI cS sa) mord g none o.2) (F0 m 96 ls [])) (X : gX D (mcell g cI cS sa) mord g S s H locs) (hl : lv_has ls 3 [(0, .ref (g 99)), (1, .int x1)]) (hF : fX12_takeOver_b116 N r96 x1 S = some o) : W p l e (rmd 1) s m args below meth c H locs 0 0 (gE below args s D (mtys cI cS) (mcell g cI cS sa) mord g none o.2) (F0 m 116 ls []) := by
  unfold fX12_takeOver_b116 at hF
  refine lv_iconst (v := 0) C.1.1 C.1.2.1 dX12_takeOver_116 (by decide) ?_
  exact bX12_takeOver_117 C O K96 X (lv_sub hl [0, 1] rfl) hF
noncomputable def fX12_takeOver_b112 (N : Nat) (r96 : Int32 → gS → Option (Int32 × gS)) (x1 : Int32) (S : gS) : Option (Int32 × gS) := fX12_takeOver_b117 N r96 x1 1 S
theorem bX12_takeOver_112 {N : Nat} {r96 : Int32 → gS → Option (Int32 × gS)} {x1 : Int32} {S : gS} {H : Heap} {locs : List Loc} {ls : Array Slot} {o : Int32 × gS} (C : gC p s m args meth c cX12_takeOver 3 RX12 none D (mtys cI cS) mord g Am) (O : gO (mcell g cI cS sa) mord g) (K96 : ∀ (x1 : Int32) (S : gS) (H : Heap) (locs : List Loc) (ls : Array Slot), gX D (mcell g cI cS sa) mord g S s H locs → lv_has ls 3 [(0, .ref (g 99)), (1, .int x1)] → r96 x1 S = some o → W p l e (rmd 1) s m args below meth c H locs 0 0 (gE below args s D (mtys cI cS) (mcell g cI cS sa) mord g none o.2) (F0 m 96 ls [])) (X : gX D (mcell g cI cS sa) mord g S s H locs) (hl : lv_has ls 3 [(0, .ref (g 99)), (1, .int x1)]) (hF : fX12_takeOver_b112 N r96 x1 S = some o) : W p l e (rmd 1) s m args below meth c H locs 0 0 (gE below args s D (mtys cI cS) (mcell g cI cS sa) mord g none o.2) (F0 m 112 ls []) := by
  unfold fX12_takeOver_b112 at hF
  refine lv_iconst (v := 1) C.1.1 C.1.2.1 dX12_takeOver_112 (by decide) ?_
  refine lv_goto (tgt := 117) C.1.1 C.1.2.1 dX12_takeOver_113 (by decide) ?_
  exact bX12_takeOver_117 C O K96 X (lv_sub hl [0, 1] rfl) hF
noncomputable def fX12_takeOver_b102 (N : Nat) (r96 : Int32 → gS → Option (Int32 × gS)) (x1 : Int32) (S : gS) : Option (Int32 × gS) := if (S 5 1) ≤ x1 then fX12_takeOver_b116 N r96 x1 S else fX12_takeOver_b112 N r96 x1 S
theorem bX12_takeOver_102 {N : Nat} {r96 : Int32 → gS → Option (Int32 × gS)} {x1 : Int32} {S : gS} {H : Heap} {locs : List Loc} {ls : Array Slot} {o : Int32 × gS} (C : gC p s m args meth c cX12_takeOver 3 RX12 none D (mtys cI cS) mord g Am) (O : gO (mcell g cI cS sa) mord g) (K96 : ∀ (x1 : Int32) (S : gS) (H : Heap) (locs : List Loc) (ls : Array Slot), gX D (mcell g cI cS sa) mord g S s H locs → lv_has ls 3 [(0, .ref (g 99)), (1, .int x1)] → r96 x1 S = some o → W p l e (rmd 1) s m args below meth c H locs 0 0 (gE below args s D (mtys cI cS) (mcell g cI cS sa) mord g none o.2) (F0 m 96 ls [])) (X : gX D (mcell g cI cS sa) mord g S s H locs) (hl : lv_has ls 3 [(0, .ref (g 99)), (1, .int x1)]) (hF : fX12_takeOver_b102 N r96 x1 S = some o) : W p l e (rmd 1) s m args below meth c H locs 0 0 (gE below args s D (mtys cI cS) (mcell g cI cS sa) mord g none o.2) (F0 m 102 ls []) := by
  unfold fX12_takeOver_b102 at hF
  refine lv_iload_n C.1.1 C.1.2.1 dX12_takeOver_102 rfl (lv_at hl 1 rfl) ?_
  refine lv_aload_n C.1.1 C.1.2.1 dX12_takeOver_103 rfl (lv_at hl 0 rfl) ?_
  refine m_g5 C X dX12_takeOver_104 ?_
  refine lv_iconst (v := 1) C.1.1 C.1.2.1 dX12_takeOver_107 (by decide) ?_
  refine m_r5 C X (j := 1) (inb_vp (by decide)) (by decide) dX12_takeOver_108 ?_
  refine lv_icmp_ge (tgt := 116) C.1.1 C.1.2.1 dX12_takeOver_109 (by decide) (fun h_z => ?_) (fun h_z => ?_)
  · rw [if_pos h_z] at hF
    exact bX12_takeOver_116 C O K96 X (lv_sub hl [0, 1] rfl) hF
  · rw [if_neg h_z] at hF
    exact bX12_takeOver_112 C O K96 X (lv_sub hl [0, 1] rfl) hF
noncomputable def fX12_takeOver_b96 (N : Nat) (r96 : Int32 → gS → Option (Int32 × gS)) (x1 : Int32) (S : gS) : Option (Int32 × gS) := if 6 ≤ x1 then fX12_takeOver_b211 N S else fX12_takeOver_b102 N r96 x1 S
theorem bX12_takeOver_96 {N : Nat} {r96 : Int32 → gS → Option (Int32 × gS)} {x1 : Int32} {S : gS} {H : Heap} {locs : List Loc} {ls : Array Slot} {o : Int32 × gS} (C : gC p s m args meth c cX12_takeOver 3 RX12 none D (mtys cI cS) mord g Am) (O : gO (mcell g cI cS sa) mord g) (K96 : ∀ (x1 : Int32) (S : gS) (H : Heap) (locs : List Loc) (ls : Array Slot), gX D (mcell g cI cS sa) mord g S s H locs → lv_has ls 3 [(0, .ref (g 99)), (1, .int x1)] → r96 x1 S = some o → W p l e (rmd 1) s m args below meth c H locs 0 0 (gE below args s D (mtys cI cS) (mcell g cI cS sa) mord g none o.2) (F0 m 96 ls [])) (X : gX D (mcell g cI cS sa) mord g S s H locs) (hl : lv_has ls 3 [(0, .ref (g 99)), (1, .int x1)]) (hF : fX12_takeOver_b96 N r96 x1 S = some o) : W p l e (rmd 1) s m args below meth c H locs 0 0 (gE below args s D (mtys cI cS) (mcell g cI cS sa) mord g none o.2) (F0 m 96 ls []) := by
  unfold fX12_takeOver_b96 at hF
  refine lv_iload_n C.1.1 C.1.2.1 dX12_takeOver_96 rfl (lv_at hl 1 rfl) ?_
  refine lv_bipush (v := 6) C.1.1 C.1.2.1 dX12_takeOver_97 (by decide) ?_
  refine lv_icmp_ge (tgt := 211) C.1.1 C.1.2.1 dX12_takeOver_99 (by decide) (fun h_z => ?_) (fun h_z => ?_)
  · rw [if_pos h_z] at hF
    exact bX12_takeOver_211 C O X (lv_sub hl [0] rfl) hF
  · rw [if_neg h_z] at hF
    exact bX12_takeOver_102 C O K96 X (lv_sub hl [0, 1] rfl) hF
noncomputable def fX12_takeOver_h96 (N : Nat) : Nat → Int32 → gS → Option (Int32 × gS)
  | 0, _, _ => none
  | n + 1, x1, S => fX12_takeOver_b96 N (fX12_takeOver_h96 N n) x1 S
theorem hX12_takeOver_96 {N : Nat} {o : Int32 × gS} (C : gC p s m args meth c cX12_takeOver 3 RX12 none D (mtys cI cS) mord g Am) (O : gO (mcell g cI cS sa) mord g) : ∀ (n : Nat) (x1 : Int32) (S : gS) (H : Heap) (locs : List Loc) (ls : Array Slot), gX D (mcell g cI cS sa) mord g S s H locs → lv_has ls 3 [(0, .ref (g 99)), (1, .int x1)] → fX12_takeOver_h96 N n x1 S = some o → W p l e (rmd 1) s m args below meth c H locs 0 0 (gE below args s D (mtys cI cS) (mcell g cI cS sa) mord g none o.2) (F0 m 96 ls []) := by
  intro n
  induction n with
  | zero =>
    intro x1 S H locs ls X hl hF
    exact absurd (show (none : Option (Int32 × gS)) = some o from hF) (by simp)
  | succ n ih =>
    intro x1 S H locs ls X hl hF
    have hF : fX12_takeOver_b96 N (fX12_takeOver_h96 N n) x1 S = some o := hF
    exact bX12_takeOver_96 C O ih X hl hF
noncomputable def fX12_takeOver_b0 (N : Nat) (S : gS) : Option (Int32 × gS) := bnd (fX12_takeHalf N 5 S) fun q1 => (bnd (fX12_takeHalf N 6 q1.2) fun q2 => (bnd (fX12_takeHalf N 7 q2.2) fun q3 => (bnd (fX12_takeHalf N 8 q3.2) fun q4 => (bnd (fX12_takeHalf N 9 q4.2) fun q5 => (bnd (fX12_takeHalf N 10 q5.2) fun q6 => (bnd (fX12_takeHalf N 11 q6.2) fun q7 => (bnd (fX12_takeHalf N 12 q7.2) fun q8 => (bnd (fX12_takeHalf N 13 q8.2) fun q9 => (bnd (fX12_takeHalf N 14 q9.2) fun q10 => (bnd (fX12_takeHalf N 15 q10.2) fun q11 => (bnd (fX12_takeHalf N 16 q11.2) fun q12 => (lt (sU q12.2 99 37 0) fun S13 => (lt (sU S13 99 38 0) fun S14 => (fX12_takeOver_h96 N N 0 S14))))))))))))))
theorem bX12_takeOver_0 {N : Nat} {S : gS} {H : Heap} {locs : List Loc} {ls : Array Slot} {o : Int32 × gS} (C : gC p s m args meth c cX12_takeOver 3 RX12 none D (mtys cI cS) mord g Am) (O : gO (mcell g cI cS sa) mord g) (X : gX D (mcell g cI cS sa) mord g S s H locs) (hl : lv_has ls 3 [(0, .ref (g 99))]) (hF : fX12_takeOver_b0 N S = some o) : W p l e (rmd 1) s m args below meth c H locs 0 0 (gE below args s D (mtys cI cS) (mcell g cI cS sa) mord g none o.2) (F0 m 0 ls []) := by
  unfold fX12_takeOver_b0 at hF
  refine lv_aload_n C.1.1 C.1.2.1 dX12_takeOver_0 rfl (lv_at hl 0 rfl) ?_
  refine m_g5 C X dX12_takeOver_1 ?_
  obtain ⟨q1, hq1, hF⟩ := bnd_some hF
  refine g_callS C X vX12_takeHalf (kX12_takeHalf O C.2.2.2.2.1 N 5 (rfl : mI 5 = true) S q1 hq1) (Nat.le_of_ble_eq_true rfl) (Nat.le_of_ble_eq_true rfl) (Nat.le_of_ble_eq_true rfl) (Nat.le_of_ble_eq_true rfl) rfl hl.1 rfl (Nat.le_of_ble_eq_true rfl) dX12_takeOver_4 (fun H locs X => ?_)
  refine lv_aload_n C.1.1 C.1.2.1 dX12_takeOver_7 rfl (lv_at hl 0 rfl) ?_
  refine m_g6 C X dX12_takeOver_8 ?_
  obtain ⟨q2, hq2, hF⟩ := bnd_some hF
  refine g_callS C X vX12_takeHalf (kX12_takeHalf O C.2.2.2.2.1 N 6 (rfl : mI 6 = true) q1.2 q2 hq2) (Nat.le_of_ble_eq_true rfl) (Nat.le_of_ble_eq_true rfl) (Nat.le_of_ble_eq_true rfl) (Nat.le_of_ble_eq_true rfl) rfl hl.1 rfl (Nat.le_of_ble_eq_true rfl) dX12_takeOver_11 (fun H locs X => ?_)
  refine lv_aload_n C.1.1 C.1.2.1 dX12_takeOver_14 rfl (lv_at hl 0 rfl) ?_
  refine m_g7 C X dX12_takeOver_15 ?_
  obtain ⟨q3, hq3, hF⟩ := bnd_some hF
  refine g_callS C X vX12_takeHalf (kX12_takeHalf O C.2.2.2.2.1 N 7 (rfl : mI 7 = true) q2.2 q3 hq3) (Nat.le_of_ble_eq_true rfl) (Nat.le_of_ble_eq_true rfl) (Nat.le_of_ble_eq_true rfl) (Nat.le_of_ble_eq_true rfl) rfl hl.1 rfl (Nat.le_of_ble_eq_true rfl) dX12_takeOver_18 (fun H locs X => ?_)
  refine lv_aload_n C.1.1 C.1.2.1 dX12_takeOver_21 rfl (lv_at hl 0 rfl) ?_
  refine m_g8 C X dX12_takeOver_22 ?_
  obtain ⟨q4, hq4, hF⟩ := bnd_some hF
  refine g_callS C X vX12_takeHalf (kX12_takeHalf O C.2.2.2.2.1 N 8 (rfl : mI 8 = true) q3.2 q4 hq4) (Nat.le_of_ble_eq_true rfl) (Nat.le_of_ble_eq_true rfl) (Nat.le_of_ble_eq_true rfl) (Nat.le_of_ble_eq_true rfl) rfl hl.1 rfl (Nat.le_of_ble_eq_true rfl) dX12_takeOver_25 (fun H locs X => ?_)
  refine lv_aload_n C.1.1 C.1.2.1 dX12_takeOver_28 rfl (lv_at hl 0 rfl) ?_
  refine m_g9 C X dX12_takeOver_29 ?_
  obtain ⟨q5, hq5, hF⟩ := bnd_some hF
  refine g_callS C X vX12_takeHalf (kX12_takeHalf O C.2.2.2.2.1 N 9 (rfl : mI 9 = true) q4.2 q5 hq5) (Nat.le_of_ble_eq_true rfl) (Nat.le_of_ble_eq_true rfl) (Nat.le_of_ble_eq_true rfl) (Nat.le_of_ble_eq_true rfl) rfl hl.1 rfl (Nat.le_of_ble_eq_true rfl) dX12_takeOver_32 (fun H locs X => ?_)
  refine lv_aload_n C.1.1 C.1.2.1 dX12_takeOver_35 rfl (lv_at hl 0 rfl) ?_
  refine m_g10 C X dX12_takeOver_36 ?_
  obtain ⟨q6, hq6, hF⟩ := bnd_some hF
  refine g_callS C X vX12_takeHalf (kX12_takeHalf O C.2.2.2.2.1 N 10 (rfl : mI 10 = true) q5.2 q6 hq6) (Nat.le_of_ble_eq_true rfl) (Nat.le_of_ble_eq_true rfl) (Nat.le_of_ble_eq_true rfl) (Nat.le_of_ble_eq_true rfl) rfl hl.1 rfl (Nat.le_of_ble_eq_true rfl) dX12_takeOver_39 (fun H locs X => ?_)
  refine lv_aload_n C.1.1 C.1.2.1 dX12_takeOver_42 rfl (lv_at hl 0 rfl) ?_
  refine m_g11 C X dX12_takeOver_43 ?_
  obtain ⟨q7, hq7, hF⟩ := bnd_some hF
  refine g_callS C X vX12_takeHalf (kX12_takeHalf O C.2.2.2.2.1 N 11 (rfl : mI 11 = true) q6.2 q7 hq7) (Nat.le_of_ble_eq_true rfl) (Nat.le_of_ble_eq_true rfl) (Nat.le_of_ble_eq_true rfl) (Nat.le_of_ble_eq_true rfl) rfl hl.1 rfl (Nat.le_of_ble_eq_true rfl) dX12_takeOver_46 (fun H locs X => ?_)
  refine lv_aload_n C.1.1 C.1.2.1 dX12_takeOver_49 rfl (lv_at hl 0 rfl) ?_
  refine m_g12 C X dX12_takeOver_50 ?_
  obtain ⟨q8, hq8, hF⟩ := bnd_some hF
  refine g_callS C X vX12_takeHalf (kX12_takeHalf O C.2.2.2.2.1 N 12 (rfl : mI 12 = true) q7.2 q8 hq8) (Nat.le_of_ble_eq_true rfl) (Nat.le_of_ble_eq_true rfl) (Nat.le_of_ble_eq_true rfl) (Nat.le_of_ble_eq_true rfl) rfl hl.1 rfl (Nat.le_of_ble_eq_true rfl) dX12_takeOver_53 (fun H locs X => ?_)
  refine lv_aload_n C.1.1 C.1.2.1 dX12_takeOver_56 rfl (lv_at hl 0 rfl) ?_
  refine m_g13 C X dX12_takeOver_57 ?_
  obtain ⟨q9, hq9, hF⟩ := bnd_some hF
  refine g_callS C X vX12_takeHalf (kX12_takeHalf O C.2.2.2.2.1 N 13 (rfl : mI 13 = true) q8.2 q9 hq9) (Nat.le_of_ble_eq_true rfl) (Nat.le_of_ble_eq_true rfl) (Nat.le_of_ble_eq_true rfl) (Nat.le_of_ble_eq_true rfl) rfl hl.1 rfl (Nat.le_of_ble_eq_true rfl) dX12_takeOver_60 (fun H locs X => ?_)
  refine lv_aload_n C.1.1 C.1.2.1 dX12_takeOver_63 rfl (lv_at hl 0 rfl) ?_
  refine m_g14 C X dX12_takeOver_64 ?_
  obtain ⟨q10, hq10, hF⟩ := bnd_some hF
  refine g_callS C X vX12_takeHalf (kX12_takeHalf O C.2.2.2.2.1 N 14 (rfl : mI 14 = true) q9.2 q10 hq10) (Nat.le_of_ble_eq_true rfl) (Nat.le_of_ble_eq_true rfl) (Nat.le_of_ble_eq_true rfl) (Nat.le_of_ble_eq_true rfl) rfl hl.1 rfl (Nat.le_of_ble_eq_true rfl) dX12_takeOver_67 (fun H locs X => ?_)
  refine lv_aload_n C.1.1 C.1.2.1 dX12_takeOver_70 rfl (lv_at hl 0 rfl) ?_
  refine m_g15 C X dX12_takeOver_71 ?_
  obtain ⟨q11, hq11, hF⟩ := bnd_some hF
  refine g_callS C X vX12_takeHalf (kX12_takeHalf O C.2.2.2.2.1 N 15 (rfl : mI 15 = true) q10.2 q11 hq11) (Nat.le_of_ble_eq_true rfl) (Nat.le_of_ble_eq_true rfl) (Nat.le_of_ble_eq_true rfl) (Nat.le_of_ble_eq_true rfl) rfl hl.1 rfl (Nat.le_of_ble_eq_true rfl) dX12_takeOver_74 (fun H locs X => ?_)
  refine lv_aload_n C.1.1 C.1.2.1 dX12_takeOver_77 rfl (lv_at hl 0 rfl) ?_
  refine m_g16 C X dX12_takeOver_78 ?_
  obtain ⟨q12, hq12, hF⟩ := bnd_some hF
  refine g_callS C X vX12_takeHalf (kX12_takeHalf O C.2.2.2.2.1 N 16 (rfl : mI 16 = true) q11.2 q12 hq12) (Nat.le_of_ble_eq_true rfl) (Nat.le_of_ble_eq_true rfl) (Nat.le_of_ble_eq_true rfl) (Nat.le_of_ble_eq_true rfl) rfl hl.1 rfl (Nat.le_of_ble_eq_true rfl) dX12_takeOver_81 (fun H locs X => ?_)
  refine lv_aload_n C.1.1 C.1.2.1 dX12_takeOver_84 rfl (lv_at hl 0 rfl) ?_
  refine lv_iconst (v := 0) C.1.1 C.1.2.1 dX12_takeOver_85 (by decide) ?_
  obtain ⟨S13, eS13, hF⟩ := lt_some hF
  refine m_p37 C O X eS13 dX12_takeOver_86 (fun H locs X => ?_)
  refine lv_aload_n C.1.1 C.1.2.1 dX12_takeOver_89 rfl (lv_at hl 0 rfl) ?_
  refine lv_iconst (v := 0) C.1.1 C.1.2.1 dX12_takeOver_90 (by decide) ?_
  obtain ⟨S14, eS14, hF⟩ := lt_some hF
  refine m_p38 C O X eS14 dX12_takeOver_91 (fun H locs X => ?_)
  refine lv_iconst (v := 0) C.1.1 C.1.2.1 dX12_takeOver_94 (by decide) ?_
  refine lv_istore_n (lv' := [(1, .int 0), (0, .ref (g 99))]) C.1.1 C.1.2.1 dX12_takeOver_95 rfl hl (by decide) rfl (fun ls hl => ?_)
  exact hX12_takeOver_96 C O N _ _ _ _ _ X (lv_sub hl [1, 0] rfl) hF
noncomputable def fX12_takeOver (N : Nat) (S : gS) : Option (Int32 × gS) := fX12_takeOver_b0 N S
theorem kX12_takeOver {l : Launch} {D : va_G} {g : Nat → Nat} {cI cS : ClassId} {sa : Nat → Nat → Option Nat} {Am : (Nat → Prop) → State → Heap → Prop} (O : gO (mcell g cI cS sa) mord g) (P : gAm Am) (N : Nat) (S : gS) (o : Int32 × gS) (hF : fX12_takeOver N S = some o) : gM l yX12_takeOver cX12_takeOver 3 none 1 D (mtys cI cS) (mcell g cI cS sa) mord g Am [.ref (g 99)] S none o.2 :=
  gM_of O P (by decide) (Nat.le_of_ble_eq_true rfl) (fun p e s m args below meth c ls C X hl => bX12_takeOver_0 C O X (lv_sub hl [0] rfl) hF)
-- fault
noncomputable def fX12_fault_b0 (N : Nat) (S : gS) : Option (Int32 × gS) := lt (sU S 99 4 0) fun S1 => (some (S1 99 29, S1))
theorem bX12_fault_0 {N : Nat} {S : gS} {H : Heap} {locs : List Loc} {ls : Array Slot} {o : Int32 × gS} (C : gC p s m args meth c cX12_fault 1 RX12 ((some .int)) D (mtys cI cS) mord g Am) (O : gO (mcell g cI cS sa) mord g) (X : gX D (mcell g cI cS sa) mord g S s H locs) (hl : lv_has ls 1 [(0, .ref (g 99))]) (hF : fX12_fault_b0 N S = some o) : W p l e (rmd 0) s m args below meth c H locs 0 0 (gE below args s D (mtys cI cS) (mcell g cI cS sa) mord g (some (.int o.1)) o.2) (F0 m 0 ls []) := by
  unfold fX12_fault_b0 at hF
  refine lv_aload_n C.1.1 C.1.2.1 dX12_fault_0 rfl (lv_at hl 0 rfl) ?_
  refine lv_iconst (v := 0) C.1.1 C.1.2.1 dX12_fault_1 (by decide) ?_
  obtain ⟨S1, eS1, hF⟩ := lt_some hF
  refine m_p4 C O X eS1 dX12_fault_2 (fun H locs X => ?_)
  refine lv_aload_n C.1.1 C.1.2.1 dX12_fault_5 rfl (lv_at hl 0 rfl) ?_
  refine m_g29 C X dX12_fault_6 ?_
  cases hF
  exact g_iret C X dX12_fault_9
noncomputable def fX12_fault (N : Nat) (S : gS) : Option (Int32 × gS) := fX12_fault_b0 N S
theorem kX12_fault {l : Launch} {D : va_G} {g : Nat → Nat} {cI cS : ClassId} {sa : Nat → Nat → Option Nat} {Am : (Nat → Prop) → State → Heap → Prop} (O : gO (mcell g cI cS sa) mord g) (P : gAm Am) (N : Nat) (S : gS) (o : Int32 × gS) (hF : fX12_fault N S = some o) : gM l yX12_fault cX12_fault 1 ((some .int)) 0 D (mtys cI cS) (mcell g cI cS sa) mord g Am [.ref (g 99)] S (some (.int o.1)) o.2 :=
  gM_of O P (by decide) (Nat.le_of_ble_eq_true rfl) (fun p e s m args below meth c ls C X hl => bX12_fault_0 C O X (lv_sub hl [0] rfl) hF)
-- pack
noncomputable def fX12_pack_b91 (N : Nat) (S : gS) : Option (Int32 × gS) := some (0, S)
theorem bX12_pack_91 {N : Nat} {S : gS} {H : Heap} {locs : List Loc} {ls : Array Slot} {o : Int32 × gS} (C : gC p s m args meth c cX12_pack 4 RX12 none D (mtys cI cS) mord g Am) (O : gO (mcell g cI cS sa) mord g) (X : gX D (mcell g cI cS sa) mord g S s H locs) (hl : lv_has ls 4 []) (hF : fX12_pack_b91 N S = some o) : W p l e (rmd 0) s m args below meth c H locs 0 0 (gE below args s D (mtys cI cS) (mcell g cI cS sa) mord g none o.2) (F0 m 91 ls []) := by
  unfold fX12_pack_b91 at hF
  cases hF
  exact g_vret C X dX12_pack_91
noncomputable def fX12_pack_b24 (N : Nat) (r18 : Nat → Int32 → Int32 → gS → Option (Int32 × gS)) (k1 : Nat) (x2 : Int32) (x3 : Int32) (S : gS) : Option (Int32 × gS) := chk (inb x3 (6)) (chk (inb ((((x2 + 2 : Int32)) + x3 : Int32)) (mN k1)) (lt (sU S k1 (Int32.toNatClampNeg ((((x2 + 2 : Int32)) + x3 : Int32))) (S 32 (Int32.toNatClampNeg x3))) fun S1 => (chk (inb x3 (6)) (chk (inb ((((((x2 + 2 : Int32)) + 6 : Int32)) + x3 : Int32)) (mN k1)) (lt (sU S1 k1 (Int32.toNatClampNeg ((((((x2 + 2 : Int32)) + 6 : Int32)) + x3 : Int32))) (S1 33 (Int32.toNatClampNeg x3))) fun S2 => (chk (inb x3 (6)) (chk (inb ((((((x2 + 2 : Int32)) + 12 : Int32)) + x3 : Int32)) (mN k1)) (lt (sU S2 k1 (Int32.toNatClampNeg ((((((x2 + 2 : Int32)) + 12 : Int32)) + x3 : Int32))) (S2 34 (Int32.toNatClampNeg x3))) fun S3 => (chk (inb x3 (6)) (chk (inb ((((((x2 + 2 : Int32)) + 18 : Int32)) + x3 : Int32)) (mN k1)) (lt (sU S3 k1 (Int32.toNatClampNeg ((((((x2 + 2 : Int32)) + 18 : Int32)) + x3 : Int32))) (S3 35 (Int32.toNatClampNeg x3))) fun S4 => (r18 k1 x2 ((x3 + 1 : Int32)) S4))))))))))))
theorem bX12_pack_24 {N : Nat} {r18 : Nat → Int32 → Int32 → gS → Option (Int32 × gS)} {k1 : Nat} {x2 : Int32} {x3 : Int32} {S : gS} {H : Heap} {locs : List Loc} {ls : Array Slot} {o : Int32 × gS} (C : gC p s m args meth c cX12_pack 4 RX12 none D (mtys cI cS) mord g Am) (O : gO (mcell g cI cS sa) mord g) (K18 : ∀ (k1 : Nat) (x2 : Int32) (x3 : Int32) (hk_k1 : mI k1 = true) (S : gS) (H : Heap) (locs : List Loc) (ls : Array Slot), gX D (mcell g cI cS sa) mord g S s H locs → lv_has ls 4 [(0, .ref (g 99)), (1, .ref (g k1)), (2, .int x2), (3, .int x3)] → r18 k1 x2 x3 S = some o → W p l e (rmd 0) s m args below meth c H locs 0 0 (gE below args s D (mtys cI cS) (mcell g cI cS sa) mord g none o.2) (F0 m 18 ls [])) (hk_k1 : mI k1 = true) (X : gX D (mcell g cI cS sa) mord g S s H locs) (hl : lv_has ls 4 [(0, .ref (g 99)), (1, .ref (g k1)), (2, .int x2), (3, .int x3)]) (hF : fX12_pack_b24 N r18 k1 x2 x3 S = some o) : W p l e (rmd 0) s m args below meth c H locs 0 0 (gE below args s D (mtys cI cS) (mcell g cI cS sa) mord g none o.2) (F0 m 24 ls []) := by
  unfold fX12_pack_b24 at hF
  refine lv_aload_n C.1.1 C.1.2.1 dX12_pack_24 rfl (lv_at hl 1 rfl) ?_
  refine lv_iload_n C.1.1 C.1.2.1 dX12_pack_25 rfl (lv_at hl 2 rfl) ?_
  refine lv_iconst (v := 2) C.1.1 C.1.2.1 dX12_pack_26 (by decide) ?_
  refine lv_iadd C.1.1 C.1.2.1 dX12_pack_27 ?_
  refine lv_iload_n C.1.1 C.1.2.1 dX12_pack_28 rfl (lv_at hl 3 rfl) ?_
  refine lv_iadd C.1.1 C.1.2.1 dX12_pack_29 ?_
  refine lv_aload_n C.1.1 C.1.2.1 dX12_pack_30 rfl (lv_at hl 0 rfl) ?_
  refine m_g32 C X dX12_pack_31 ?_
  refine lv_iload_n C.1.1 C.1.2.1 dX12_pack_34 rfl (lv_at hl 3 rfl) ?_
  obtain ⟨h_1, hF⟩ := chk_some hF
  refine m_r32 C X  (inb_vp h_1) rfl dX12_pack_35 ?_
  obtain ⟨h_2, hF⟩ := chk_some hF
  obtain ⟨S1, eS1, hF⟩ := lt_some hF
  refine m_wv C O X (k := k1) hk_k1  (inb_vp h_2) rfl eS1 dX12_pack_36 (fun H locs X => ?_)
  refine lv_aload_n C.1.1 C.1.2.1 dX12_pack_37 rfl (lv_at hl 1 rfl) ?_
  refine lv_iload_n C.1.1 C.1.2.1 dX12_pack_38 rfl (lv_at hl 2 rfl) ?_
  refine lv_iconst (v := 2) C.1.1 C.1.2.1 dX12_pack_39 (by decide) ?_
  refine lv_iadd C.1.1 C.1.2.1 dX12_pack_40 ?_
  refine lv_bipush (v := 6) C.1.1 C.1.2.1 dX12_pack_41 (by decide) ?_
  refine lv_iadd C.1.1 C.1.2.1 dX12_pack_43 ?_
  refine lv_iload_n C.1.1 C.1.2.1 dX12_pack_44 rfl (lv_at hl 3 rfl) ?_
  refine lv_iadd C.1.1 C.1.2.1 dX12_pack_45 ?_
  refine lv_aload_n C.1.1 C.1.2.1 dX12_pack_46 rfl (lv_at hl 0 rfl) ?_
  refine m_g33 C X dX12_pack_47 ?_
  refine lv_iload_n C.1.1 C.1.2.1 dX12_pack_50 rfl (lv_at hl 3 rfl) ?_
  obtain ⟨h_3, hF⟩ := chk_some hF
  refine m_r33 C X  (inb_vp h_3) rfl dX12_pack_51 ?_
  obtain ⟨h_4, hF⟩ := chk_some hF
  obtain ⟨S2, eS2, hF⟩ := lt_some hF
  refine m_wv C O X (k := k1) hk_k1  (inb_vp h_4) rfl eS2 dX12_pack_52 (fun H locs X => ?_)
  refine lv_aload_n C.1.1 C.1.2.1 dX12_pack_53 rfl (lv_at hl 1 rfl) ?_
  refine lv_iload_n C.1.1 C.1.2.1 dX12_pack_54 rfl (lv_at hl 2 rfl) ?_
  refine lv_iconst (v := 2) C.1.1 C.1.2.1 dX12_pack_55 (by decide) ?_
  refine lv_iadd C.1.1 C.1.2.1 dX12_pack_56 ?_
  refine lv_bipush (v := 12) C.1.1 C.1.2.1 dX12_pack_57 (by decide) ?_
  refine lv_iadd C.1.1 C.1.2.1 dX12_pack_59 ?_
  refine lv_iload_n C.1.1 C.1.2.1 dX12_pack_60 rfl (lv_at hl 3 rfl) ?_
  refine lv_iadd C.1.1 C.1.2.1 dX12_pack_61 ?_
  refine lv_aload_n C.1.1 C.1.2.1 dX12_pack_62 rfl (lv_at hl 0 rfl) ?_
  refine m_g34 C X dX12_pack_63 ?_
  refine lv_iload_n C.1.1 C.1.2.1 dX12_pack_66 rfl (lv_at hl 3 rfl) ?_
  obtain ⟨h_5, hF⟩ := chk_some hF
  refine m_r34 C X  (inb_vp h_5) rfl dX12_pack_67 ?_
  obtain ⟨h_6, hF⟩ := chk_some hF
  obtain ⟨S3, eS3, hF⟩ := lt_some hF
  refine m_wv C O X (k := k1) hk_k1  (inb_vp h_6) rfl eS3 dX12_pack_68 (fun H locs X => ?_)
  refine lv_aload_n C.1.1 C.1.2.1 dX12_pack_69 rfl (lv_at hl 1 rfl) ?_
  refine lv_iload_n C.1.1 C.1.2.1 dX12_pack_70 rfl (lv_at hl 2 rfl) ?_
  refine lv_iconst (v := 2) C.1.1 C.1.2.1 dX12_pack_71 (by decide) ?_
  refine lv_iadd C.1.1 C.1.2.1 dX12_pack_72 ?_
  refine lv_bipush (v := 18) C.1.1 C.1.2.1 dX12_pack_73 (by decide) ?_
  refine lv_iadd C.1.1 C.1.2.1 dX12_pack_75 ?_
  refine lv_iload_n C.1.1 C.1.2.1 dX12_pack_76 rfl (lv_at hl 3 rfl) ?_
  refine lv_iadd C.1.1 C.1.2.1 dX12_pack_77 ?_
  refine lv_aload_n C.1.1 C.1.2.1 dX12_pack_78 rfl (lv_at hl 0 rfl) ?_
  refine m_g35 C X dX12_pack_79 ?_
  refine lv_iload_n C.1.1 C.1.2.1 dX12_pack_82 rfl (lv_at hl 3 rfl) ?_
  obtain ⟨h_7, hF⟩ := chk_some hF
  refine m_r35 C X  (inb_vp h_7) rfl dX12_pack_83 ?_
  obtain ⟨h_8, hF⟩ := chk_some hF
  obtain ⟨S4, eS4, hF⟩ := lt_some hF
  refine m_wv C O X (k := k1) hk_k1  (inb_vp h_8) rfl eS4 dX12_pack_84 (fun H locs X => ?_)
  refine lv_iinc (v := (x3 + 1 : Int32)) (lv' := [(3, .int ((x3 + 1 : Int32))), (0, .ref (g 99)), (1, .ref (g k1)), (2, .int x2)]) C.1.1 C.1.2.1 dX12_pack_85 hl (k := 3) rfl rfl (by decide) rfl (fun ls hl => ?_)
  refine lv_goto (tgt := 18) C.1.1 C.1.2.1 dX12_pack_88 (by decide) ?_
  exact K18 _ _ _ hk_k1 _ _ _ _ X (lv_sub hl [1, 2, 3, 0] rfl) hF
noncomputable def fX12_pack_b18 (N : Nat) (r18 : Nat → Int32 → Int32 → gS → Option (Int32 × gS)) (k1 : Nat) (x2 : Int32) (x3 : Int32) (S : gS) : Option (Int32 × gS) := if 6 ≤ x3 then fX12_pack_b91 N S else fX12_pack_b24 N r18 k1 x2 x3 S
theorem bX12_pack_18 {N : Nat} {r18 : Nat → Int32 → Int32 → gS → Option (Int32 × gS)} {k1 : Nat} {x2 : Int32} {x3 : Int32} {S : gS} {H : Heap} {locs : List Loc} {ls : Array Slot} {o : Int32 × gS} (C : gC p s m args meth c cX12_pack 4 RX12 none D (mtys cI cS) mord g Am) (O : gO (mcell g cI cS sa) mord g) (K18 : ∀ (k1 : Nat) (x2 : Int32) (x3 : Int32) (hk_k1 : mI k1 = true) (S : gS) (H : Heap) (locs : List Loc) (ls : Array Slot), gX D (mcell g cI cS sa) mord g S s H locs → lv_has ls 4 [(0, .ref (g 99)), (1, .ref (g k1)), (2, .int x2), (3, .int x3)] → r18 k1 x2 x3 S = some o → W p l e (rmd 0) s m args below meth c H locs 0 0 (gE below args s D (mtys cI cS) (mcell g cI cS sa) mord g none o.2) (F0 m 18 ls [])) (hk_k1 : mI k1 = true) (X : gX D (mcell g cI cS sa) mord g S s H locs) (hl : lv_has ls 4 [(0, .ref (g 99)), (1, .ref (g k1)), (2, .int x2), (3, .int x3)]) (hF : fX12_pack_b18 N r18 k1 x2 x3 S = some o) : W p l e (rmd 0) s m args below meth c H locs 0 0 (gE below args s D (mtys cI cS) (mcell g cI cS sa) mord g none o.2) (F0 m 18 ls []) := by
  unfold fX12_pack_b18 at hF
  refine lv_iload_n C.1.1 C.1.2.1 dX12_pack_18 rfl (lv_at hl 3 rfl) ?_
  refine lv_bipush (v := 6) C.1.1 C.1.2.1 dX12_pack_19 (by decide) ?_
  refine lv_icmp_ge (tgt := 91) C.1.1 C.1.2.1 dX12_pack_21 (by decide) (fun h_z => ?_) (fun h_z => ?_)
  · rw [if_pos h_z] at hF
    exact bX12_pack_91 C O X (lv_sub hl [] rfl) hF
  · rw [if_neg h_z] at hF
    exact bX12_pack_24 C O K18 hk_k1 X (lv_sub hl [0, 1, 2, 3] rfl) hF
noncomputable def fX12_pack_h18 (N : Nat) : Nat → Nat → Int32 → Int32 → gS → Option (Int32 × gS)
  | 0, _, _, _, _ => none
  | n + 1, k1, x2, x3, S => fX12_pack_b18 N (fX12_pack_h18 N n) k1 x2 x3 S
theorem hX12_pack_18 {N : Nat} {o : Int32 × gS} (C : gC p s m args meth c cX12_pack 4 RX12 none D (mtys cI cS) mord g Am) (O : gO (mcell g cI cS sa) mord g) : ∀ (n : Nat) (k1 : Nat) (x2 : Int32) (x3 : Int32) (hk_k1 : mI k1 = true) (S : gS) (H : Heap) (locs : List Loc) (ls : Array Slot), gX D (mcell g cI cS sa) mord g S s H locs → lv_has ls 4 [(0, .ref (g 99)), (1, .ref (g k1)), (2, .int x2), (3, .int x3)] → fX12_pack_h18 N n k1 x2 x3 S = some o → W p l e (rmd 0) s m args below meth c H locs 0 0 (gE below args s D (mtys cI cS) (mcell g cI cS sa) mord g none o.2) (F0 m 18 ls []) := by
  intro n
  induction n with
  | zero =>
    intro k1 x2 x3 hk_k1 S H locs ls X hl hF
    exact absurd (show (none : Option (Int32 × gS)) = some o from hF) (by simp)
  | succ n ih =>
    intro k1 x2 x3 hk_k1 S H locs ls X hl hF
    have hF : fX12_pack_b18 N (fX12_pack_h18 N n) k1 x2 x3 S = some o := hF
    exact bX12_pack_18 C O ih hk_k1 X hl hF
noncomputable def fX12_pack_b0 (N : Nat) (k1 : Nat) (x2 : Int32) (S : gS) : Option (Int32 × gS) := chk (inb x2 (mN k1)) (lt (sU S k1 (Int32.toNatClampNeg x2) (S 99 37)) fun S1 => (chk (inb ((x2 + 1 : Int32)) (mN k1)) (lt (sU S1 k1 (Int32.toNatClampNeg ((x2 + 1 : Int32))) (S1 99 38)) fun S2 => (fX12_pack_h18 N N k1 x2 0 S2))))
theorem bX12_pack_0 {N : Nat} {k1 : Nat} {x2 : Int32} {S : gS} {H : Heap} {locs : List Loc} {ls : Array Slot} {o : Int32 × gS} (C : gC p s m args meth c cX12_pack 4 RX12 none D (mtys cI cS) mord g Am) (O : gO (mcell g cI cS sa) mord g) (hk_k1 : mI k1 = true) (X : gX D (mcell g cI cS sa) mord g S s H locs) (hl : lv_has ls 4 [(0, .ref (g 99)), (1, .ref (g k1)), (2, .int x2)]) (hF : fX12_pack_b0 N k1 x2 S = some o) : W p l e (rmd 0) s m args below meth c H locs 0 0 (gE below args s D (mtys cI cS) (mcell g cI cS sa) mord g none o.2) (F0 m 0 ls []) := by
  unfold fX12_pack_b0 at hF
  refine lv_aload_n C.1.1 C.1.2.1 dX12_pack_0 rfl (lv_at hl 1 rfl) ?_
  refine lv_iload_n C.1.1 C.1.2.1 dX12_pack_1 rfl (lv_at hl 2 rfl) ?_
  refine lv_aload_n C.1.1 C.1.2.1 dX12_pack_2 rfl (lv_at hl 0 rfl) ?_
  refine m_g37 C X dX12_pack_3 ?_
  obtain ⟨h_1, hF⟩ := chk_some hF
  obtain ⟨S1, eS1, hF⟩ := lt_some hF
  refine m_wv C O X (k := k1) hk_k1  (inb_vp h_1) rfl eS1 dX12_pack_6 (fun H locs X => ?_)
  refine lv_aload_n C.1.1 C.1.2.1 dX12_pack_7 rfl (lv_at hl 1 rfl) ?_
  refine lv_iload_n C.1.1 C.1.2.1 dX12_pack_8 rfl (lv_at hl 2 rfl) ?_
  refine lv_iconst (v := 1) C.1.1 C.1.2.1 dX12_pack_9 (by decide) ?_
  refine lv_iadd C.1.1 C.1.2.1 dX12_pack_10 ?_
  refine lv_aload_n C.1.1 C.1.2.1 dX12_pack_11 rfl (lv_at hl 0 rfl) ?_
  refine m_g38 C X dX12_pack_12 ?_
  obtain ⟨h_2, hF⟩ := chk_some hF
  obtain ⟨S2, eS2, hF⟩ := lt_some hF
  refine m_wv C O X (k := k1) hk_k1  (inb_vp h_2) rfl eS2 dX12_pack_15 (fun H locs X => ?_)
  refine lv_iconst (v := 0) C.1.1 C.1.2.1 dX12_pack_16 (by decide) ?_
  refine lv_istore_n (lv' := [(3, .int 0), (0, .ref (g 99)), (1, .ref (g k1)), (2, .int x2)]) C.1.1 C.1.2.1 dX12_pack_17 rfl hl (by decide) rfl (fun ls hl => ?_)
  exact hX12_pack_18 C O N _ _ _ hk_k1 _ _ _ _ X (lv_sub hl [1, 2, 3, 0] rfl) hF
noncomputable def fX12_pack (N : Nat) (k1 : Nat) (x2 : Int32) (S : gS) : Option (Int32 × gS) := fX12_pack_b0 N k1 x2 S
theorem kX12_pack {l : Launch} {D : va_G} {g : Nat → Nat} {cI cS : ClassId} {sa : Nat → Nat → Option Nat} {Am : (Nat → Prop) → State → Heap → Prop} (O : gO (mcell g cI cS sa) mord g) (P : gAm Am) (N : Nat) (k1 : Nat) (x2 : Int32) (hk_k1 : mI k1 = true) (S : gS) (o : Int32 × gS) (hF : fX12_pack N k1 x2 S = some o) : gM l yX12_pack cX12_pack 4 none 0 D (mtys cI cS) (mcell g cI cS sa) mord g Am [.ref (g 99), .ref (g k1), .int x2] S none o.2 :=
  gM_of O P (by decide) (Nat.le_of_ble_eq_true rfl) (fun p e s m args below meth c ls C X hl => bX12_pack_0 C O hk_k1 X (lv_sub hl [0, 1, 2] rfl) hF)
-- unpack
noncomputable def fX12_unpack_b91 (N : Nat) (S : gS) : Option (Int32 × gS) := some (0, S)
theorem bX12_unpack_91 {N : Nat} {S : gS} {H : Heap} {locs : List Loc} {ls : Array Slot} {o : Int32 × gS} (C : gC p s m args meth c cX12_unpack 4 RX12 none D (mtys cI cS) mord g Am) (O : gO (mcell g cI cS sa) mord g) (X : gX D (mcell g cI cS sa) mord g S s H locs) (hl : lv_has ls 4 []) (hF : fX12_unpack_b91 N S = some o) : W p l e (rmd 0) s m args below meth c H locs 0 0 (gE below args s D (mtys cI cS) (mcell g cI cS sa) mord g none o.2) (F0 m 91 ls []) := by
  unfold fX12_unpack_b91 at hF
  cases hF
  exact g_vret C X dX12_unpack_91
noncomputable def fX12_unpack_b24 (N : Nat) (r18 : Nat → Int32 → Int32 → gS → Option (Int32 × gS)) (k1 : Nat) (x2 : Int32) (x3 : Int32) (S : gS) : Option (Int32 × gS) := chk (inb ((((x2 + 2 : Int32)) + x3 : Int32)) (mN k1)) (chk (inb x3 (6)) (lt (sU S 32 (Int32.toNatClampNeg x3) (S k1 (Int32.toNatClampNeg ((((x2 + 2 : Int32)) + x3 : Int32))))) fun S1 => (chk (inb ((((((x2 + 2 : Int32)) + 6 : Int32)) + x3 : Int32)) (mN k1)) (chk (inb x3 (6)) (lt (sU S1 33 (Int32.toNatClampNeg x3) (S1 k1 (Int32.toNatClampNeg ((((((x2 + 2 : Int32)) + 6 : Int32)) + x3 : Int32))))) fun S2 => (chk (inb ((((((x2 + 2 : Int32)) + 12 : Int32)) + x3 : Int32)) (mN k1)) (chk (inb x3 (6)) (lt (sU S2 34 (Int32.toNatClampNeg x3) (S2 k1 (Int32.toNatClampNeg ((((((x2 + 2 : Int32)) + 12 : Int32)) + x3 : Int32))))) fun S3 => (chk (inb ((((((x2 + 2 : Int32)) + 18 : Int32)) + x3 : Int32)) (mN k1)) (chk (inb x3 (6)) (lt (sU S3 35 (Int32.toNatClampNeg x3) (S3 k1 (Int32.toNatClampNeg ((((((x2 + 2 : Int32)) + 18 : Int32)) + x3 : Int32))))) fun S4 => (r18 k1 x2 ((x3 + 1 : Int32)) S4))))))))))))
theorem bX12_unpack_24 {N : Nat} {r18 : Nat → Int32 → Int32 → gS → Option (Int32 × gS)} {k1 : Nat} {x2 : Int32} {x3 : Int32} {S : gS} {H : Heap} {locs : List Loc} {ls : Array Slot} {o : Int32 × gS} (C : gC p s m args meth c cX12_unpack 4 RX12 none D (mtys cI cS) mord g Am) (O : gO (mcell g cI cS sa) mord g) (K18 : ∀ (k1 : Nat) (x2 : Int32) (x3 : Int32) (hk_k1 : mI k1 = true) (S : gS) (H : Heap) (locs : List Loc) (ls : Array Slot), gX D (mcell g cI cS sa) mord g S s H locs → lv_has ls 4 [(0, .ref (g 99)), (1, .ref (g k1)), (2, .int x2), (3, .int x3)] → r18 k1 x2 x3 S = some o → W p l e (rmd 0) s m args below meth c H locs 0 0 (gE below args s D (mtys cI cS) (mcell g cI cS sa) mord g none o.2) (F0 m 18 ls [])) (hk_k1 : mI k1 = true) (X : gX D (mcell g cI cS sa) mord g S s H locs) (hl : lv_has ls 4 [(0, .ref (g 99)), (1, .ref (g k1)), (2, .int x2), (3, .int x3)]) (hF : fX12_unpack_b24 N r18 k1 x2 x3 S = some o) : W p l e (rmd 0) s m args below meth c H locs 0 0 (gE below args s D (mtys cI cS) (mcell g cI cS sa) mord g none o.2) (F0 m 24 ls []) := by
  unfold fX12_unpack_b24 at hF
  refine lv_aload_n C.1.1 C.1.2.1 dX12_unpack_24 rfl (lv_at hl 0 rfl) ?_
  refine m_g32 C X dX12_unpack_25 ?_
  refine lv_iload_n C.1.1 C.1.2.1 dX12_unpack_28 rfl (lv_at hl 3 rfl) ?_
  refine lv_aload_n C.1.1 C.1.2.1 dX12_unpack_29 rfl (lv_at hl 1 rfl) ?_
  refine lv_iload_n C.1.1 C.1.2.1 dX12_unpack_30 rfl (lv_at hl 2 rfl) ?_
  refine lv_iconst (v := 2) C.1.1 C.1.2.1 dX12_unpack_31 (by decide) ?_
  refine lv_iadd C.1.1 C.1.2.1 dX12_unpack_32 ?_
  refine lv_iload_n C.1.1 C.1.2.1 dX12_unpack_33 rfl (lv_at hl 3 rfl) ?_
  refine lv_iadd C.1.1 C.1.2.1 dX12_unpack_34 ?_
  obtain ⟨h_1, hF⟩ := chk_some hF
  refine m_rv C X (k := k1) hk_k1  (inb_vp h_1) rfl dX12_unpack_35 ?_
  obtain ⟨h_2, hF⟩ := chk_some hF
  obtain ⟨S1, eS1, hF⟩ := lt_some hF
  refine m_w32 C O X  (inb_vp h_2) rfl eS1 dX12_unpack_36 (fun H locs X => ?_)
  refine lv_aload_n C.1.1 C.1.2.1 dX12_unpack_37 rfl (lv_at hl 0 rfl) ?_
  refine m_g33 C X dX12_unpack_38 ?_
  refine lv_iload_n C.1.1 C.1.2.1 dX12_unpack_41 rfl (lv_at hl 3 rfl) ?_
  refine lv_aload_n C.1.1 C.1.2.1 dX12_unpack_42 rfl (lv_at hl 1 rfl) ?_
  refine lv_iload_n C.1.1 C.1.2.1 dX12_unpack_43 rfl (lv_at hl 2 rfl) ?_
  refine lv_iconst (v := 2) C.1.1 C.1.2.1 dX12_unpack_44 (by decide) ?_
  refine lv_iadd C.1.1 C.1.2.1 dX12_unpack_45 ?_
  refine lv_bipush (v := 6) C.1.1 C.1.2.1 dX12_unpack_46 (by decide) ?_
  refine lv_iadd C.1.1 C.1.2.1 dX12_unpack_48 ?_
  refine lv_iload_n C.1.1 C.1.2.1 dX12_unpack_49 rfl (lv_at hl 3 rfl) ?_
  refine lv_iadd C.1.1 C.1.2.1 dX12_unpack_50 ?_
  obtain ⟨h_3, hF⟩ := chk_some hF
  refine m_rv C X (k := k1) hk_k1  (inb_vp h_3) rfl dX12_unpack_51 ?_
  obtain ⟨h_4, hF⟩ := chk_some hF
  obtain ⟨S2, eS2, hF⟩ := lt_some hF
  refine m_w33 C O X  (inb_vp h_4) rfl eS2 dX12_unpack_52 (fun H locs X => ?_)
  refine lv_aload_n C.1.1 C.1.2.1 dX12_unpack_53 rfl (lv_at hl 0 rfl) ?_
  refine m_g34 C X dX12_unpack_54 ?_
  refine lv_iload_n C.1.1 C.1.2.1 dX12_unpack_57 rfl (lv_at hl 3 rfl) ?_
  refine lv_aload_n C.1.1 C.1.2.1 dX12_unpack_58 rfl (lv_at hl 1 rfl) ?_
  refine lv_iload_n C.1.1 C.1.2.1 dX12_unpack_59 rfl (lv_at hl 2 rfl) ?_
  refine lv_iconst (v := 2) C.1.1 C.1.2.1 dX12_unpack_60 (by decide) ?_
  refine lv_iadd C.1.1 C.1.2.1 dX12_unpack_61 ?_
  refine lv_bipush (v := 12) C.1.1 C.1.2.1 dX12_unpack_62 (by decide) ?_
  refine lv_iadd C.1.1 C.1.2.1 dX12_unpack_64 ?_
  refine lv_iload_n C.1.1 C.1.2.1 dX12_unpack_65 rfl (lv_at hl 3 rfl) ?_
  refine lv_iadd C.1.1 C.1.2.1 dX12_unpack_66 ?_
  obtain ⟨h_5, hF⟩ := chk_some hF
  refine m_rv C X (k := k1) hk_k1  (inb_vp h_5) rfl dX12_unpack_67 ?_
  obtain ⟨h_6, hF⟩ := chk_some hF
  obtain ⟨S3, eS3, hF⟩ := lt_some hF
  refine m_w34 C O X  (inb_vp h_6) rfl eS3 dX12_unpack_68 (fun H locs X => ?_)
  refine lv_aload_n C.1.1 C.1.2.1 dX12_unpack_69 rfl (lv_at hl 0 rfl) ?_
  refine m_g35 C X dX12_unpack_70 ?_
  refine lv_iload_n C.1.1 C.1.2.1 dX12_unpack_73 rfl (lv_at hl 3 rfl) ?_
  refine lv_aload_n C.1.1 C.1.2.1 dX12_unpack_74 rfl (lv_at hl 1 rfl) ?_
  refine lv_iload_n C.1.1 C.1.2.1 dX12_unpack_75 rfl (lv_at hl 2 rfl) ?_
  refine lv_iconst (v := 2) C.1.1 C.1.2.1 dX12_unpack_76 (by decide) ?_
  refine lv_iadd C.1.1 C.1.2.1 dX12_unpack_77 ?_
  refine lv_bipush (v := 18) C.1.1 C.1.2.1 dX12_unpack_78 (by decide) ?_
  refine lv_iadd C.1.1 C.1.2.1 dX12_unpack_80 ?_
  refine lv_iload_n C.1.1 C.1.2.1 dX12_unpack_81 rfl (lv_at hl 3 rfl) ?_
  refine lv_iadd C.1.1 C.1.2.1 dX12_unpack_82 ?_
  obtain ⟨h_7, hF⟩ := chk_some hF
  refine m_rv C X (k := k1) hk_k1  (inb_vp h_7) rfl dX12_unpack_83 ?_
  obtain ⟨h_8, hF⟩ := chk_some hF
  obtain ⟨S4, eS4, hF⟩ := lt_some hF
  refine m_w35 C O X  (inb_vp h_8) rfl eS4 dX12_unpack_84 (fun H locs X => ?_)
  refine lv_iinc (v := (x3 + 1 : Int32)) (lv' := [(3, .int ((x3 + 1 : Int32))), (0, .ref (g 99)), (1, .ref (g k1)), (2, .int x2)]) C.1.1 C.1.2.1 dX12_unpack_85 hl (k := 3) rfl rfl (by decide) rfl (fun ls hl => ?_)
  refine lv_goto (tgt := 18) C.1.1 C.1.2.1 dX12_unpack_88 (by decide) ?_
  exact K18 _ _ _ hk_k1 _ _ _ _ X (lv_sub hl [1, 2, 3, 0] rfl) hF
noncomputable def fX12_unpack_b18 (N : Nat) (r18 : Nat → Int32 → Int32 → gS → Option (Int32 × gS)) (k1 : Nat) (x2 : Int32) (x3 : Int32) (S : gS) : Option (Int32 × gS) := if 6 ≤ x3 then fX12_unpack_b91 N S else fX12_unpack_b24 N r18 k1 x2 x3 S
theorem bX12_unpack_18 {N : Nat} {r18 : Nat → Int32 → Int32 → gS → Option (Int32 × gS)} {k1 : Nat} {x2 : Int32} {x3 : Int32} {S : gS} {H : Heap} {locs : List Loc} {ls : Array Slot} {o : Int32 × gS} (C : gC p s m args meth c cX12_unpack 4 RX12 none D (mtys cI cS) mord g Am) (O : gO (mcell g cI cS sa) mord g) (K18 : ∀ (k1 : Nat) (x2 : Int32) (x3 : Int32) (hk_k1 : mI k1 = true) (S : gS) (H : Heap) (locs : List Loc) (ls : Array Slot), gX D (mcell g cI cS sa) mord g S s H locs → lv_has ls 4 [(0, .ref (g 99)), (1, .ref (g k1)), (2, .int x2), (3, .int x3)] → r18 k1 x2 x3 S = some o → W p l e (rmd 0) s m args below meth c H locs 0 0 (gE below args s D (mtys cI cS) (mcell g cI cS sa) mord g none o.2) (F0 m 18 ls [])) (hk_k1 : mI k1 = true) (X : gX D (mcell g cI cS sa) mord g S s H locs) (hl : lv_has ls 4 [(0, .ref (g 99)), (1, .ref (g k1)), (2, .int x2), (3, .int x3)]) (hF : fX12_unpack_b18 N r18 k1 x2 x3 S = some o) : W p l e (rmd 0) s m args below meth c H locs 0 0 (gE below args s D (mtys cI cS) (mcell g cI cS sa) mord g none o.2) (F0 m 18 ls []) := by
  unfold fX12_unpack_b18 at hF
  refine lv_iload_n C.1.1 C.1.2.1 dX12_unpack_18 rfl (lv_at hl 3 rfl) ?_
  refine lv_bipush (v := 6) C.1.1 C.1.2.1 dX12_unpack_19 (by decide) ?_
  refine lv_icmp_ge (tgt := 91) C.1.1 C.1.2.1 dX12_unpack_21 (by decide) (fun h_z => ?_) (fun h_z => ?_)
  · rw [if_pos h_z] at hF
    exact bX12_unpack_91 C O X (lv_sub hl [] rfl) hF
  · rw [if_neg h_z] at hF
    exact bX12_unpack_24 C O K18 hk_k1 X (lv_sub hl [0, 1, 2, 3] rfl) hF
noncomputable def fX12_unpack_h18 (N : Nat) : Nat → Nat → Int32 → Int32 → gS → Option (Int32 × gS)
  | 0, _, _, _, _ => none
  | n + 1, k1, x2, x3, S => fX12_unpack_b18 N (fX12_unpack_h18 N n) k1 x2 x3 S
theorem hX12_unpack_18 {N : Nat} {o : Int32 × gS} (C : gC p s m args meth c cX12_unpack 4 RX12 none D (mtys cI cS) mord g Am) (O : gO (mcell g cI cS sa) mord g) : ∀ (n : Nat) (k1 : Nat) (x2 : Int32) (x3 : Int32) (hk_k1 : mI k1 = true) (S : gS) (H : Heap) (locs : List Loc) (ls : Array Slot), gX D (mcell g cI cS sa) mord g S s H locs → lv_has ls 4 [(0, .ref (g 99)), (1, .ref (g k1)), (2, .int x2), (3, .int x3)] → fX12_unpack_h18 N n k1 x2 x3 S = some o → W p l e (rmd 0) s m args below meth c H locs 0 0 (gE below args s D (mtys cI cS) (mcell g cI cS sa) mord g none o.2) (F0 m 18 ls []) := by
  intro n
  induction n with
  | zero =>
    intro k1 x2 x3 hk_k1 S H locs ls X hl hF
    exact absurd (show (none : Option (Int32 × gS)) = some o from hF) (by simp)
  | succ n ih =>
    intro k1 x2 x3 hk_k1 S H locs ls X hl hF
    have hF : fX12_unpack_b18 N (fX12_unpack_h18 N n) k1 x2 x3 S = some o := hF
    exact bX12_unpack_18 C O ih hk_k1 X hl hF
noncomputable def fX12_unpack_b0 (N : Nat) (k1 : Nat) (x2 : Int32) (S : gS) : Option (Int32 × gS) := chk (inb x2 (mN k1)) (lt (sU S 99 37 (S k1 (Int32.toNatClampNeg x2))) fun S1 => (chk (inb ((x2 + 1 : Int32)) (mN k1)) (lt (sU S1 99 38 (S1 k1 (Int32.toNatClampNeg ((x2 + 1 : Int32))))) fun S2 => (fX12_unpack_h18 N N k1 x2 0 S2))))
theorem bX12_unpack_0 {N : Nat} {k1 : Nat} {x2 : Int32} {S : gS} {H : Heap} {locs : List Loc} {ls : Array Slot} {o : Int32 × gS} (C : gC p s m args meth c cX12_unpack 4 RX12 none D (mtys cI cS) mord g Am) (O : gO (mcell g cI cS sa) mord g) (hk_k1 : mI k1 = true) (X : gX D (mcell g cI cS sa) mord g S s H locs) (hl : lv_has ls 4 [(0, .ref (g 99)), (1, .ref (g k1)), (2, .int x2)]) (hF : fX12_unpack_b0 N k1 x2 S = some o) : W p l e (rmd 0) s m args below meth c H locs 0 0 (gE below args s D (mtys cI cS) (mcell g cI cS sa) mord g none o.2) (F0 m 0 ls []) := by
  unfold fX12_unpack_b0 at hF
  refine lv_aload_n C.1.1 C.1.2.1 dX12_unpack_0 rfl (lv_at hl 0 rfl) ?_
  refine lv_aload_n C.1.1 C.1.2.1 dX12_unpack_1 rfl (lv_at hl 1 rfl) ?_
  refine lv_iload_n C.1.1 C.1.2.1 dX12_unpack_2 rfl (lv_at hl 2 rfl) ?_
  obtain ⟨h_1, hF⟩ := chk_some hF
  refine m_rv C X (k := k1) hk_k1  (inb_vp h_1) rfl dX12_unpack_3 ?_
  obtain ⟨S1, eS1, hF⟩ := lt_some hF
  refine m_p37 C O X eS1 dX12_unpack_4 (fun H locs X => ?_)
  refine lv_aload_n C.1.1 C.1.2.1 dX12_unpack_7 rfl (lv_at hl 0 rfl) ?_
  refine lv_aload_n C.1.1 C.1.2.1 dX12_unpack_8 rfl (lv_at hl 1 rfl) ?_
  refine lv_iload_n C.1.1 C.1.2.1 dX12_unpack_9 rfl (lv_at hl 2 rfl) ?_
  refine lv_iconst (v := 1) C.1.1 C.1.2.1 dX12_unpack_10 (by decide) ?_
  refine lv_iadd C.1.1 C.1.2.1 dX12_unpack_11 ?_
  obtain ⟨h_2, hF⟩ := chk_some hF
  refine m_rv C X (k := k1) hk_k1  (inb_vp h_2) rfl dX12_unpack_12 ?_
  obtain ⟨S2, eS2, hF⟩ := lt_some hF
  refine m_p38 C O X eS2 dX12_unpack_13 (fun H locs X => ?_)
  refine lv_iconst (v := 0) C.1.1 C.1.2.1 dX12_unpack_16 (by decide) ?_
  refine lv_istore_n (lv' := [(3, .int 0), (0, .ref (g 99)), (1, .ref (g k1)), (2, .int x2)]) C.1.1 C.1.2.1 dX12_unpack_17 rfl hl (by decide) rfl (fun ls hl => ?_)
  exact hX12_unpack_18 C O N _ _ _ hk_k1 _ _ _ _ X (lv_sub hl [1, 2, 3, 0] rfl) hF
noncomputable def fX12_unpack (N : Nat) (k1 : Nat) (x2 : Int32) (S : gS) : Option (Int32 × gS) := fX12_unpack_b0 N k1 x2 S
theorem kX12_unpack {l : Launch} {D : va_G} {g : Nat → Nat} {cI cS : ClassId} {sa : Nat → Nat → Option Nat} {Am : (Nat → Prop) → State → Heap → Prop} (O : gO (mcell g cI cS sa) mord g) (P : gAm Am) (N : Nat) (k1 : Nat) (x2 : Int32) (hk_k1 : mI k1 = true) (S : gS) (o : Int32 × gS) (hF : fX12_unpack N k1 x2 S = some o) : gM l yX12_unpack cX12_unpack 4 none 0 D (mtys cI cS) (mcell g cI cS sa) mord g Am [.ref (g 99), .ref (g k1), .int x2] S none o.2 :=
  gM_of O P (by decide) (Nat.le_of_ble_eq_true rfl) (fun p e s m args below meth c ls C X hl => bX12_unpack_0 C O hk_k1 X (lv_sub hl [0, 1, 2] rfl) hF)
-- wetOf
noncomputable def fX12_wetOf_b44 (N : Nat) (t0 : Int32) (S : gS) : Option (Int32 × gS) := some (t0, S)
theorem bX12_wetOf_44 {N : Nat} {t0 : Int32} {S : gS} {H : Heap} {locs : List Loc} {ls : Array Slot} {o : Int32 × gS} (C : gC p s m args meth c cX12_wetOf 1 RX12 ((some .int)) D (mtys cI cS) mord g Am) (O : gO (mcell g cI cS sa) mord g) (X : gX D (mcell g cI cS sa) mord g S s H locs) (hl : lv_has ls 1 []) (hF : fX12_wetOf_b44 N t0 S = some o) : W p l e (rmd 0) s m args below meth c H locs 0 0 (gE below args s D (mtys cI cS) (mcell g cI cS sa) mord g (some (.int o.1)) o.2) (F0 m 44 ls [.int t0]) := by
  unfold fX12_wetOf_b44 at hF
  cases hF
  exact g_iret C X dX12_wetOf_44
noncomputable def fX12_wetOf_b28 (N : Nat) (S : gS) : Option (Int32 × gS) := chk (nz (S 5 3)) (chk (inb (((S 99 37) - (S 99 37) / (S 5 3) * (S 5 3) : Int32)) (16)) (fX12_wetOf_b44 N (S 14 (Int32.toNatClampNeg (((S 99 37) - (S 99 37) / (S 5 3) * (S 5 3) : Int32)))) S))
theorem bX12_wetOf_28 {N : Nat} {S : gS} {H : Heap} {locs : List Loc} {ls : Array Slot} {o : Int32 × gS} (C : gC p s m args meth c cX12_wetOf 1 RX12 ((some .int)) D (mtys cI cS) mord g Am) (O : gO (mcell g cI cS sa) mord g) (X : gX D (mcell g cI cS sa) mord g S s H locs) (hl : lv_has ls 1 [(0, .ref (g 99))]) (hF : fX12_wetOf_b28 N S = some o) : W p l e (rmd 0) s m args below meth c H locs 0 0 (gE below args s D (mtys cI cS) (mcell g cI cS sa) mord g (some (.int o.1)) o.2) (F0 m 28 ls []) := by
  unfold fX12_wetOf_b28 at hF
  refine lv_aload_n C.1.1 C.1.2.1 dX12_wetOf_28 rfl (lv_at hl 0 rfl) ?_
  refine m_g14 C X dX12_wetOf_29 ?_
  refine lv_aload_n C.1.1 C.1.2.1 dX12_wetOf_32 rfl (lv_at hl 0 rfl) ?_
  refine m_g37 C X dX12_wetOf_33 ?_
  refine lv_aload_n C.1.1 C.1.2.1 dX12_wetOf_36 rfl (lv_at hl 0 rfl) ?_
  refine m_g5 C X dX12_wetOf_37 ?_
  refine lv_iconst (v := 3) C.1.1 C.1.2.1 dX12_wetOf_40 (by decide) ?_
  refine m_r5 C X (j := 3) (inb_vp (by decide)) (by decide) dX12_wetOf_41 ?_
  obtain ⟨h_1, hF⟩ := chk_some hF
  refine lv_irem C.1.1 C.1.2.1 dX12_wetOf_42 (nz_ne h_1) ?_
  obtain ⟨h_2, hF⟩ := chk_some hF
  refine m_r14 C X  (inb_vp h_2) rfl dX12_wetOf_43 ?_
  exact bX12_wetOf_44 C O X (lv_sub hl [] rfl) hF
noncomputable def fX12_wetOf_b24 (N : Nat) (S : gS) : Option (Int32 × gS) := fX12_wetOf_b44 N 5 S
theorem bX12_wetOf_24 {N : Nat} {S : gS} {H : Heap} {locs : List Loc} {ls : Array Slot} {o : Int32 × gS} (C : gC p s m args meth c cX12_wetOf 1 RX12 ((some .int)) D (mtys cI cS) mord g Am) (O : gO (mcell g cI cS sa) mord g) (X : gX D (mcell g cI cS sa) mord g S s H locs) (hl : lv_has ls 1 []) (hF : fX12_wetOf_b24 N S = some o) : W p l e (rmd 0) s m args below meth c H locs 0 0 (gE below args s D (mtys cI cS) (mcell g cI cS sa) mord g (some (.int o.1)) o.2) (F0 m 24 ls []) := by
  unfold fX12_wetOf_b24 at hF
  refine lv_iconst (v := 5) C.1.1 C.1.2.1 dX12_wetOf_24 (by decide) ?_
  refine lv_goto (tgt := 44) C.1.1 C.1.2.1 dX12_wetOf_25 (by decide) ?_
  exact bX12_wetOf_44 C O X (lv_sub hl [] rfl) hF
noncomputable def fX12_wetOf_b15 (N : Nat) (S : gS) : Option (Int32 × gS) := if (S 5 3) = 0 then fX12_wetOf_b24 N S else fX12_wetOf_b28 N S
theorem bX12_wetOf_15 {N : Nat} {S : gS} {H : Heap} {locs : List Loc} {ls : Array Slot} {o : Int32 × gS} (C : gC p s m args meth c cX12_wetOf 1 RX12 ((some .int)) D (mtys cI cS) mord g Am) (O : gO (mcell g cI cS sa) mord g) (X : gX D (mcell g cI cS sa) mord g S s H locs) (hl : lv_has ls 1 [(0, .ref (g 99))]) (hF : fX12_wetOf_b15 N S = some o) : W p l e (rmd 0) s m args below meth c H locs 0 0 (gE below args s D (mtys cI cS) (mcell g cI cS sa) mord g (some (.int o.1)) o.2) (F0 m 15 ls []) := by
  unfold fX12_wetOf_b15 at hF
  refine lv_aload_n C.1.1 C.1.2.1 dX12_wetOf_15 rfl (lv_at hl 0 rfl) ?_
  refine m_g5 C X dX12_wetOf_16 ?_
  refine lv_iconst (v := 3) C.1.1 C.1.2.1 dX12_wetOf_19 (by decide) ?_
  refine m_r5 C X (j := 3) (inb_vp (by decide)) (by decide) dX12_wetOf_20 ?_
  refine lv_if_ne (tgt := 28) C.1.1 C.1.2.1 dX12_wetOf_21 (by decide) (fun h_z => ?_) (fun h_z => ?_)
  · rw [if_neg h_z] at hF
    exact bX12_wetOf_28 C O X (lv_sub hl [0] rfl) hF
  · rw [if_pos h_z] at hF
    exact bX12_wetOf_24 C O X (lv_sub hl [] rfl) hF
noncomputable def fX12_wetOf_b8 (N : Nat) (S : gS) : Option (Int32 × gS) := fX12_wetOf_b44 N (S 99 41) S
theorem bX12_wetOf_8 {N : Nat} {S : gS} {H : Heap} {locs : List Loc} {ls : Array Slot} {o : Int32 × gS} (C : gC p s m args meth c cX12_wetOf 1 RX12 ((some .int)) D (mtys cI cS) mord g Am) (O : gO (mcell g cI cS sa) mord g) (X : gX D (mcell g cI cS sa) mord g S s H locs) (hl : lv_has ls 1 [(0, .ref (g 99))]) (hF : fX12_wetOf_b8 N S = some o) : W p l e (rmd 0) s m args below meth c H locs 0 0 (gE below args s D (mtys cI cS) (mcell g cI cS sa) mord g (some (.int o.1)) o.2) (F0 m 8 ls []) := by
  unfold fX12_wetOf_b8 at hF
  refine lv_aload_n C.1.1 C.1.2.1 dX12_wetOf_8 rfl (lv_at hl 0 rfl) ?_
  refine m_g41 C X dX12_wetOf_9 ?_
  refine lv_goto (tgt := 44) C.1.1 C.1.2.1 dX12_wetOf_12 (by decide) ?_
  exact bX12_wetOf_44 C O X (lv_sub hl [] rfl) hF
noncomputable def fX12_wetOf_b0 (N : Nat) (S : gS) : Option (Int32 × gS) := if (S 99 41) = ((-1)) then fX12_wetOf_b15 N S else fX12_wetOf_b8 N S
theorem bX12_wetOf_0 {N : Nat} {S : gS} {H : Heap} {locs : List Loc} {ls : Array Slot} {o : Int32 × gS} (C : gC p s m args meth c cX12_wetOf 1 RX12 ((some .int)) D (mtys cI cS) mord g Am) (O : gO (mcell g cI cS sa) mord g) (X : gX D (mcell g cI cS sa) mord g S s H locs) (hl : lv_has ls 1 [(0, .ref (g 99))]) (hF : fX12_wetOf_b0 N S = some o) : W p l e (rmd 0) s m args below meth c H locs 0 0 (gE below args s D (mtys cI cS) (mcell g cI cS sa) mord g (some (.int o.1)) o.2) (F0 m 0 ls []) := by
  unfold fX12_wetOf_b0 at hF
  refine lv_aload_n C.1.1 C.1.2.1 dX12_wetOf_0 rfl (lv_at hl 0 rfl) ?_
  refine m_g41 C X dX12_wetOf_1 ?_
  refine lv_iconst (v := (-1)) C.1.1 C.1.2.1 dX12_wetOf_4 (by decide) ?_
  refine lv_icmp_eq (tgt := 15) C.1.1 C.1.2.1 dX12_wetOf_5 (by decide) (fun h_z => ?_) (fun h_z => ?_)
  · rw [if_pos h_z] at hF
    exact bX12_wetOf_15 C O X (lv_sub hl [0] rfl) hF
  · rw [if_neg h_z] at hF
    exact bX12_wetOf_8 C O X (lv_sub hl [0] rfl) hF
noncomputable def fX12_wetOf (N : Nat) (S : gS) : Option (Int32 × gS) := fX12_wetOf_b0 N S
theorem kX12_wetOf {l : Launch} {D : va_G} {g : Nat → Nat} {cI cS : ClassId} {sa : Nat → Nat → Option Nat} {Am : (Nat → Prop) → State → Heap → Prop} (O : gO (mcell g cI cS sa) mord g) (P : gAm Am) (N : Nat) (S : gS) (o : Int32 × gS) (hF : fX12_wetOf N S = some o) : gM l yX12_wetOf cX12_wetOf 1 ((some .int)) 0 D (mtys cI cS) (mcell g cI cS sa) mord g Am [.ref (g 99)] S (some (.int o.1)) o.2 :=
  gM_of O P (by decide) (Nat.le_of_ble_eq_true rfl) (fun p e s m args below meth c ls C X hl => bX12_wetOf_0 C O X (lv_sub hl [0] rfl) hF)
-- comesAt
noncomputable def fX12_comesAt_b23 (N : Nat) (t0 : Int32) (S : gS) : Option (Int32 × gS) := chk (zb t0) (some (t0, S))
theorem bX12_comesAt_23 {N : Nat} {t0 : Int32} {S : gS} {H : Heap} {locs : List Loc} {ls : Array Slot} {o : Int32 × gS} (C : gC p s m args meth c cX12_comesAt 3 RX12 ((some .boolean)) D (mtys cI cS) mord g Am) (O : gO (mcell g cI cS sa) mord g) (X : gX D (mcell g cI cS sa) mord g S s H locs) (hl : lv_has ls 3 []) (hF : fX12_comesAt_b23 N t0 S = some o) : W p l e (rmd 0) s m args below meth c H locs 0 0 (gE below args s D (mtys cI cS) (mcell g cI cS sa) mord g (some (.int o.1)) o.2) (F0 m 23 ls [.int t0]) := by
  unfold fX12_comesAt_b23 at hF
  obtain ⟨h_1, hF⟩ := chk_some hF
  cases hF
  exact g_zret C X h_1 dX12_comesAt_23
noncomputable def fX12_comesAt_b22 (N : Nat) (S : gS) : Option (Int32 × gS) := fX12_comesAt_b23 N 0 S
theorem bX12_comesAt_22 {N : Nat} {S : gS} {H : Heap} {locs : List Loc} {ls : Array Slot} {o : Int32 × gS} (C : gC p s m args meth c cX12_comesAt 3 RX12 ((some .boolean)) D (mtys cI cS) mord g Am) (O : gO (mcell g cI cS sa) mord g) (X : gX D (mcell g cI cS sa) mord g S s H locs) (hl : lv_has ls 3 []) (hF : fX12_comesAt_b22 N S = some o) : W p l e (rmd 0) s m args below meth c H locs 0 0 (gE below args s D (mtys cI cS) (mcell g cI cS sa) mord g (some (.int o.1)) o.2) (F0 m 22 ls []) := by
  unfold fX12_comesAt_b22 at hF
  refine lv_iconst (v := 0) C.1.1 C.1.2.1 dX12_comesAt_22 (by decide) ?_
  exact bX12_comesAt_23 C O X (lv_sub hl [] rfl) hF
noncomputable def fX12_comesAt_b18 (N : Nat) (S : gS) : Option (Int32 × gS) := fX12_comesAt_b23 N 1 S
theorem bX12_comesAt_18 {N : Nat} {S : gS} {H : Heap} {locs : List Loc} {ls : Array Slot} {o : Int32 × gS} (C : gC p s m args meth c cX12_comesAt 3 RX12 ((some .boolean)) D (mtys cI cS) mord g Am) (O : gO (mcell g cI cS sa) mord g) (X : gX D (mcell g cI cS sa) mord g S s H locs) (hl : lv_has ls 3 []) (hF : fX12_comesAt_b18 N S = some o) : W p l e (rmd 0) s m args below meth c H locs 0 0 (gE below args s D (mtys cI cS) (mcell g cI cS sa) mord g (some (.int o.1)) o.2) (F0 m 18 ls []) := by
  unfold fX12_comesAt_b18 at hF
  refine lv_iconst (v := 1) C.1.1 C.1.2.1 dX12_comesAt_18 (by decide) ?_
  refine lv_goto (tgt := 23) C.1.1 C.1.2.1 dX12_comesAt_19 (by decide) ?_
  exact bX12_comesAt_23 C O X (lv_sub hl [] rfl) hF
noncomputable def fX12_comesAt_b0 (N : Nat) (x1 : Int32) (x2 : Int32) (S : gS) : Option (Int32 × gS) := chk (inb x1 (16)) (chk (inb x1 (16)) (chk (nz (S 7 (Int32.toNatClampNeg x1))) (if ((((x2 + (S 8 (Int32.toNatClampNeg x1)) : Int32)) - ((x2 + (S 8 (Int32.toNatClampNeg x1)) : Int32)) / (S 7 (Int32.toNatClampNeg x1)) * (S 7 (Int32.toNatClampNeg x1)) : Int32)) = 0 then fX12_comesAt_b18 N S else fX12_comesAt_b22 N S)))
theorem bX12_comesAt_0 {N : Nat} {x1 : Int32} {x2 : Int32} {S : gS} {H : Heap} {locs : List Loc} {ls : Array Slot} {o : Int32 × gS} (C : gC p s m args meth c cX12_comesAt 3 RX12 ((some .boolean)) D (mtys cI cS) mord g Am) (O : gO (mcell g cI cS sa) mord g) (X : gX D (mcell g cI cS sa) mord g S s H locs) (hl : lv_has ls 3 [(0, .ref (g 99)), (1, .int x1), (2, .int x2)]) (hF : fX12_comesAt_b0 N x1 x2 S = some o) : W p l e (rmd 0) s m args below meth c H locs 0 0 (gE below args s D (mtys cI cS) (mcell g cI cS sa) mord g (some (.int o.1)) o.2) (F0 m 0 ls []) := by
  unfold fX12_comesAt_b0 at hF
  refine lv_iload_n C.1.1 C.1.2.1 dX12_comesAt_0 rfl (lv_at hl 2 rfl) ?_
  refine lv_aload_n C.1.1 C.1.2.1 dX12_comesAt_1 rfl (lv_at hl 0 rfl) ?_
  refine m_g8 C X dX12_comesAt_2 ?_
  refine lv_iload_n C.1.1 C.1.2.1 dX12_comesAt_5 rfl (lv_at hl 1 rfl) ?_
  obtain ⟨h_1, hF⟩ := chk_some hF
  refine m_r8 C X  (inb_vp h_1) rfl dX12_comesAt_6 ?_
  refine lv_iadd C.1.1 C.1.2.1 dX12_comesAt_7 ?_
  refine lv_aload_n C.1.1 C.1.2.1 dX12_comesAt_8 rfl (lv_at hl 0 rfl) ?_
  refine m_g7 C X dX12_comesAt_9 ?_
  refine lv_iload_n C.1.1 C.1.2.1 dX12_comesAt_12 rfl (lv_at hl 1 rfl) ?_
  obtain ⟨h_2, hF⟩ := chk_some hF
  refine m_r7 C X  (inb_vp h_2) rfl dX12_comesAt_13 ?_
  obtain ⟨h_3, hF⟩ := chk_some hF
  refine lv_irem C.1.1 C.1.2.1 dX12_comesAt_14 (nz_ne h_3) ?_
  refine lv_if_ne (tgt := 22) C.1.1 C.1.2.1 dX12_comesAt_15 (by decide) (fun h_z => ?_) (fun h_z => ?_)
  · rw [if_neg h_z] at hF
    exact bX12_comesAt_22 C O X (lv_sub hl [] rfl) hF
  · rw [if_pos h_z] at hF
    exact bX12_comesAt_18 C O X (lv_sub hl [] rfl) hF
noncomputable def fX12_comesAt (N : Nat) (x1 : Int32) (x2 : Int32) (S : gS) : Option (Int32 × gS) := fX12_comesAt_b0 N x1 x2 S
theorem kX12_comesAt {l : Launch} {D : va_G} {g : Nat → Nat} {cI cS : ClassId} {sa : Nat → Nat → Option Nat} {Am : (Nat → Prop) → State → Heap → Prop} (O : gO (mcell g cI cS sa) mord g) (P : gAm Am) (N : Nat) (x1 : Int32) (x2 : Int32) (S : gS) (o : Int32 × gS) (hF : fX12_comesAt N x1 x2 S = some o) : gM l yX12_comesAt cX12_comesAt 3 ((some .boolean)) 0 D (mtys cI cS) (mcell g cI cS sa) mord g Am [.ref (g 99), .int x1, .int x2] S (some (.int o.1)) o.2 :=
  gM_of O P (by decide) (Nat.le_of_ble_eq_true rfl) (fun p e s m args below meth c ls C X hl => bX12_comesAt_0 C O X (lv_sub hl [0, 1, 2] rfl) hF)
-- drippingNow
noncomputable def fX12_drippingNow_b49 (N : Nat) (x1 : Int32) (S : gS) : Option (Int32 × gS) := some ((x1 &&& (((S 99 38) ^^^ ((-1)) : Int32)) : Int32), S)
theorem bX12_drippingNow_49 {N : Nat} {x1 : Int32} {S : gS} {H : Heap} {locs : List Loc} {ls : Array Slot} {o : Int32 × gS} (C : gC p s m args meth c cX12_drippingNow 3 RX12 ((some .int)) D (mtys cI cS) mord g Am) (O : gO (mcell g cI cS sa) mord g) (X : gX D (mcell g cI cS sa) mord g S s H locs) (hl : lv_has ls 3 [(0, .ref (g 99)), (1, .int x1)]) (hF : fX12_drippingNow_b49 N x1 S = some o) : W p l e (rmd 1) s m args below meth c H locs 0 0 (gE below args s D (mtys cI cS) (mcell g cI cS sa) mord g (some (.int o.1)) o.2) (F0 m 49 ls []) := by
  unfold fX12_drippingNow_b49 at hF
  refine lv_iload_n C.1.1 C.1.2.1 dX12_drippingNow_49 rfl (lv_at hl 1 rfl) ?_
  refine lv_aload_n C.1.1 C.1.2.1 dX12_drippingNow_50 rfl (lv_at hl 0 rfl) ?_
  refine m_g38 C X dX12_drippingNow_51 ?_
  refine lv_iconst (v := (-1)) C.1.1 C.1.2.1 dX12_drippingNow_54 (by decide) ?_
  refine lv_ixor C.1.1 C.1.2.1 dX12_drippingNow_55 ?_
  refine lv_iand C.1.1 C.1.2.1 dX12_drippingNow_56 ?_
  cases hF
  exact g_iret C X dX12_drippingNow_57
noncomputable def fX12_drippingNow_b41 (N : Nat) (r4 : Int32 → Int32 → gS → Option (Int32 × gS)) (x2 : Int32) (t0 : Int32) (t1 : Int32) (S : gS) : Option (Int32 × gS) := r4 ((t0 ||| t1 : Int32)) ((x2 + 1 : Int32)) S
theorem bX12_drippingNow_41 {N : Nat} {r4 : Int32 → Int32 → gS → Option (Int32 × gS)} {x2 : Int32} {t0 : Int32} {t1 : Int32} {S : gS} {H : Heap} {locs : List Loc} {ls : Array Slot} {o : Int32 × gS} (C : gC p s m args meth c cX12_drippingNow 3 RX12 ((some .int)) D (mtys cI cS) mord g Am) (O : gO (mcell g cI cS sa) mord g) (K4 : ∀ (x1 : Int32) (x2 : Int32) (S : gS) (H : Heap) (locs : List Loc) (ls : Array Slot), gX D (mcell g cI cS sa) mord g S s H locs → lv_has ls 3 [(0, .ref (g 99)), (1, .int x1), (2, .int x2)] → r4 x1 x2 S = some o → W p l e (rmd 1) s m args below meth c H locs 0 0 (gE below args s D (mtys cI cS) (mcell g cI cS sa) mord g (some (.int o.1)) o.2) (F0 m 4 ls [])) (X : gX D (mcell g cI cS sa) mord g S s H locs) (hl : lv_has ls 3 [(0, .ref (g 99)), (2, .int x2)]) (hF : fX12_drippingNow_b41 N r4 x2 t0 t1 S = some o) : W p l e (rmd 1) s m args below meth c H locs 0 0 (gE below args s D (mtys cI cS) (mcell g cI cS sa) mord g (some (.int o.1)) o.2) (F0 m 41 ls [.int t1, .int t0]) := by
  unfold fX12_drippingNow_b41 at hF
  refine lv_ior C.1.1 C.1.2.1 dX12_drippingNow_41 ?_
  refine lv_istore_n (lv' := [(1, .int ((t0 ||| t1 : Int32))), (0, .ref (g 99)), (2, .int x2)]) C.1.1 C.1.2.1 dX12_drippingNow_42 rfl hl (by decide) rfl (fun ls hl => ?_)
  refine lv_iinc (v := (x2 + 1 : Int32)) (lv' := [(2, .int ((x2 + 1 : Int32))), (1, .int ((t0 ||| t1 : Int32))), (0, .ref (g 99))]) C.1.1 C.1.2.1 dX12_drippingNow_43 hl (k := 2) rfl rfl (by decide) rfl (fun ls hl => ?_)
  refine lv_goto (tgt := 4) C.1.1 C.1.2.1 dX12_drippingNow_46 (by decide) ?_
  exact K4 _ _ _ _ _ _ X (lv_sub hl [2, 1, 0] rfl) hF
noncomputable def fX12_drippingNow_b40 (N : Nat) (r4 : Int32 → Int32 → gS → Option (Int32 × gS)) (x2 : Int32) (t0 : Int32) (S : gS) : Option (Int32 × gS) := fX12_drippingNow_b41 N r4 x2 t0 0 S
theorem bX12_drippingNow_40 {N : Nat} {r4 : Int32 → Int32 → gS → Option (Int32 × gS)} {x2 : Int32} {t0 : Int32} {S : gS} {H : Heap} {locs : List Loc} {ls : Array Slot} {o : Int32 × gS} (C : gC p s m args meth c cX12_drippingNow 3 RX12 ((some .int)) D (mtys cI cS) mord g Am) (O : gO (mcell g cI cS sa) mord g) (K4 : ∀ (x1 : Int32) (x2 : Int32) (S : gS) (H : Heap) (locs : List Loc) (ls : Array Slot), gX D (mcell g cI cS sa) mord g S s H locs → lv_has ls 3 [(0, .ref (g 99)), (1, .int x1), (2, .int x2)] → r4 x1 x2 S = some o → W p l e (rmd 1) s m args below meth c H locs 0 0 (gE below args s D (mtys cI cS) (mcell g cI cS sa) mord g (some (.int o.1)) o.2) (F0 m 4 ls [])) (X : gX D (mcell g cI cS sa) mord g S s H locs) (hl : lv_has ls 3 [(0, .ref (g 99)), (2, .int x2)]) (hF : fX12_drippingNow_b40 N r4 x2 t0 S = some o) : W p l e (rmd 1) s m args below meth c H locs 0 0 (gE below args s D (mtys cI cS) (mcell g cI cS sa) mord g (some (.int o.1)) o.2) (F0 m 40 ls [.int t0]) := by
  unfold fX12_drippingNow_b40 at hF
  refine lv_iconst (v := 0) C.1.1 C.1.2.1 dX12_drippingNow_40 (by decide) ?_
  exact bX12_drippingNow_41 C O K4 X (lv_sub hl [0, 1] rfl) hF
noncomputable def fX12_drippingNow_b34 (N : Nat) (r4 : Int32 → Int32 → gS → Option (Int32 × gS)) (x2 : Int32) (t0 : Int32) (S : gS) : Option (Int32 × gS) := fX12_drippingNow_b41 N r4 x2 t0 (((1 : Int32) <<< (x2 &&& 31) : Int32)) S
theorem bX12_drippingNow_34 {N : Nat} {r4 : Int32 → Int32 → gS → Option (Int32 × gS)} {x2 : Int32} {t0 : Int32} {S : gS} {H : Heap} {locs : List Loc} {ls : Array Slot} {o : Int32 × gS} (C : gC p s m args meth c cX12_drippingNow 3 RX12 ((some .int)) D (mtys cI cS) mord g Am) (O : gO (mcell g cI cS sa) mord g) (K4 : ∀ (x1 : Int32) (x2 : Int32) (S : gS) (H : Heap) (locs : List Loc) (ls : Array Slot), gX D (mcell g cI cS sa) mord g S s H locs → lv_has ls 3 [(0, .ref (g 99)), (1, .int x1), (2, .int x2)] → r4 x1 x2 S = some o → W p l e (rmd 1) s m args below meth c H locs 0 0 (gE below args s D (mtys cI cS) (mcell g cI cS sa) mord g (some (.int o.1)) o.2) (F0 m 4 ls [])) (X : gX D (mcell g cI cS sa) mord g S s H locs) (hl : lv_has ls 3 [(0, .ref (g 99)), (2, .int x2)]) (hF : fX12_drippingNow_b34 N r4 x2 t0 S = some o) : W p l e (rmd 1) s m args below meth c H locs 0 0 (gE below args s D (mtys cI cS) (mcell g cI cS sa) mord g (some (.int o.1)) o.2) (F0 m 34 ls [.int t0]) := by
  unfold fX12_drippingNow_b34 at hF
  refine lv_iconst (v := 1) C.1.1 C.1.2.1 dX12_drippingNow_34 (by decide) ?_
  refine lv_iload_n C.1.1 C.1.2.1 dX12_drippingNow_35 rfl (lv_at hl 1 rfl) ?_
  refine lv_ishl C.1.1 C.1.2.1 dX12_drippingNow_36 ?_
  refine lv_goto (tgt := 41) C.1.1 C.1.2.1 dX12_drippingNow_37 (by decide) ?_
  exact bX12_drippingNow_41 C O K4 X (lv_sub hl [0, 1] rfl) hF
noncomputable def fX12_drippingNow_b21 (N : Nat) (r4 : Int32 → Int32 → gS → Option (Int32 × gS)) (x1 : Int32) (x2 : Int32) (S : gS) : Option (Int32 × gS) := bnd (fX12_comesAt N x2 (S 99 37) S) fun q1 => (if q1.1 = 0 then fX12_drippingNow_b40 N r4 x2 x1 q1.2 else fX12_drippingNow_b34 N r4 x2 x1 q1.2)
theorem bX12_drippingNow_21 {N : Nat} {r4 : Int32 → Int32 → gS → Option (Int32 × gS)} {x1 : Int32} {x2 : Int32} {S : gS} {H : Heap} {locs : List Loc} {ls : Array Slot} {o : Int32 × gS} (C : gC p s m args meth c cX12_drippingNow 3 RX12 ((some .int)) D (mtys cI cS) mord g Am) (O : gO (mcell g cI cS sa) mord g) (K4 : ∀ (x1 : Int32) (x2 : Int32) (S : gS) (H : Heap) (locs : List Loc) (ls : Array Slot), gX D (mcell g cI cS sa) mord g S s H locs → lv_has ls 3 [(0, .ref (g 99)), (1, .int x1), (2, .int x2)] → r4 x1 x2 S = some o → W p l e (rmd 1) s m args below meth c H locs 0 0 (gE below args s D (mtys cI cS) (mcell g cI cS sa) mord g (some (.int o.1)) o.2) (F0 m 4 ls [])) (X : gX D (mcell g cI cS sa) mord g S s H locs) (hl : lv_has ls 3 [(0, .ref (g 99)), (1, .int x1), (2, .int x2)]) (hF : fX12_drippingNow_b21 N r4 x1 x2 S = some o) : W p l e (rmd 1) s m args below meth c H locs 0 0 (gE below args s D (mtys cI cS) (mcell g cI cS sa) mord g (some (.int o.1)) o.2) (F0 m 21 ls []) := by
  unfold fX12_drippingNow_b21 at hF
  refine lv_iload_n C.1.1 C.1.2.1 dX12_drippingNow_21 rfl (lv_at hl 1 rfl) ?_
  refine lv_aload_n C.1.1 C.1.2.1 dX12_drippingNow_22 rfl (lv_at hl 0 rfl) ?_
  refine lv_iload_n C.1.1 C.1.2.1 dX12_drippingNow_23 rfl (lv_at hl 2 rfl) ?_
  refine lv_aload_n C.1.1 C.1.2.1 dX12_drippingNow_24 rfl (lv_at hl 0 rfl) ?_
  refine m_g37 C X dX12_drippingNow_25 ?_
  obtain ⟨q1, hq1, hF⟩ := bnd_some hF
  refine m_callVi C X vX12_comesAt rfl (kX12_comesAt O C.2.2.2.2.1 N x2 (S 99 37)  S q1 hq1) (Nat.le_of_ble_eq_true rfl) (Nat.le_of_ble_eq_true rfl) (Nat.le_of_ble_eq_true rfl) (Nat.le_of_ble_eq_true rfl) rfl hl.1 rfl (Nat.le_of_ble_eq_true rfl) dX12_drippingNow_28 (fun H locs X => ?_)
  refine lv_if_eq (tgt := 40) C.1.1 C.1.2.1 dX12_drippingNow_31 (by decide) (fun h_z => ?_) (fun h_z => ?_)
  · rw [if_pos h_z] at hF
    exact bX12_drippingNow_40 C O K4 X (lv_sub hl [0, 2] rfl) hF
  · rw [if_neg h_z] at hF
    exact bX12_drippingNow_34 C O K4 X (lv_sub hl [0, 2] rfl) hF
noncomputable def fX12_drippingNow_b14 (N : Nat) (r4 : Int32 → Int32 → gS → Option (Int32 × gS)) (x1 : Int32) (x2 : Int32) (S : gS) : Option (Int32 × gS) := bnd (fX12_wetOf N  S) fun q1 => (if q1.1 ≤ 0 then fX12_drippingNow_b49 N x1 q1.2 else fX12_drippingNow_b21 N r4 x1 x2 q1.2)
theorem bX12_drippingNow_14 {N : Nat} {r4 : Int32 → Int32 → gS → Option (Int32 × gS)} {x1 : Int32} {x2 : Int32} {S : gS} {H : Heap} {locs : List Loc} {ls : Array Slot} {o : Int32 × gS} (C : gC p s m args meth c cX12_drippingNow 3 RX12 ((some .int)) D (mtys cI cS) mord g Am) (O : gO (mcell g cI cS sa) mord g) (K4 : ∀ (x1 : Int32) (x2 : Int32) (S : gS) (H : Heap) (locs : List Loc) (ls : Array Slot), gX D (mcell g cI cS sa) mord g S s H locs → lv_has ls 3 [(0, .ref (g 99)), (1, .int x1), (2, .int x2)] → r4 x1 x2 S = some o → W p l e (rmd 1) s m args below meth c H locs 0 0 (gE below args s D (mtys cI cS) (mcell g cI cS sa) mord g (some (.int o.1)) o.2) (F0 m 4 ls [])) (X : gX D (mcell g cI cS sa) mord g S s H locs) (hl : lv_has ls 3 [(0, .ref (g 99)), (1, .int x1), (2, .int x2)]) (hF : fX12_drippingNow_b14 N r4 x1 x2 S = some o) : W p l e (rmd 1) s m args below meth c H locs 0 0 (gE below args s D (mtys cI cS) (mcell g cI cS sa) mord g (some (.int o.1)) o.2) (F0 m 14 ls []) := by
  unfold fX12_drippingNow_b14 at hF
  refine lv_aload_n C.1.1 C.1.2.1 dX12_drippingNow_14 rfl (lv_at hl 0 rfl) ?_
  obtain ⟨q1, hq1, hF⟩ := bnd_some hF
  refine m_callVi C X vX12_wetOf rfl (kX12_wetOf O C.2.2.2.2.1 N   S q1 hq1) (Nat.le_of_ble_eq_true rfl) (Nat.le_of_ble_eq_true rfl) (Nat.le_of_ble_eq_true rfl) (Nat.le_of_ble_eq_true rfl) rfl hl.1 rfl (Nat.le_of_ble_eq_true rfl) dX12_drippingNow_15 (fun H locs X => ?_)
  refine lv_if_le (tgt := 49) C.1.1 C.1.2.1 dX12_drippingNow_18 (by decide) (fun h_z => ?_) (fun h_z => ?_)
  · rw [if_pos h_z] at hF
    exact bX12_drippingNow_49 C O X (lv_sub hl [0, 1] rfl) hF
  · rw [if_neg h_z] at hF
    exact bX12_drippingNow_21 C O K4 X (lv_sub hl [0, 1, 2] rfl) hF
noncomputable def fX12_drippingNow_b4 (N : Nat) (r4 : Int32 → Int32 → gS → Option (Int32 × gS)) (x1 : Int32) (x2 : Int32) (S : gS) : Option (Int32 × gS) := if (S 5 0) ≤ x2 then fX12_drippingNow_b49 N x1 S else fX12_drippingNow_b14 N r4 x1 x2 S
theorem bX12_drippingNow_4 {N : Nat} {r4 : Int32 → Int32 → gS → Option (Int32 × gS)} {x1 : Int32} {x2 : Int32} {S : gS} {H : Heap} {locs : List Loc} {ls : Array Slot} {o : Int32 × gS} (C : gC p s m args meth c cX12_drippingNow 3 RX12 ((some .int)) D (mtys cI cS) mord g Am) (O : gO (mcell g cI cS sa) mord g) (K4 : ∀ (x1 : Int32) (x2 : Int32) (S : gS) (H : Heap) (locs : List Loc) (ls : Array Slot), gX D (mcell g cI cS sa) mord g S s H locs → lv_has ls 3 [(0, .ref (g 99)), (1, .int x1), (2, .int x2)] → r4 x1 x2 S = some o → W p l e (rmd 1) s m args below meth c H locs 0 0 (gE below args s D (mtys cI cS) (mcell g cI cS sa) mord g (some (.int o.1)) o.2) (F0 m 4 ls [])) (X : gX D (mcell g cI cS sa) mord g S s H locs) (hl : lv_has ls 3 [(0, .ref (g 99)), (1, .int x1), (2, .int x2)]) (hF : fX12_drippingNow_b4 N r4 x1 x2 S = some o) : W p l e (rmd 1) s m args below meth c H locs 0 0 (gE below args s D (mtys cI cS) (mcell g cI cS sa) mord g (some (.int o.1)) o.2) (F0 m 4 ls []) := by
  unfold fX12_drippingNow_b4 at hF
  refine lv_iload_n C.1.1 C.1.2.1 dX12_drippingNow_4 rfl (lv_at hl 2 rfl) ?_
  refine lv_aload_n C.1.1 C.1.2.1 dX12_drippingNow_5 rfl (lv_at hl 0 rfl) ?_
  refine m_g5 C X dX12_drippingNow_6 ?_
  refine lv_iconst (v := 0) C.1.1 C.1.2.1 dX12_drippingNow_9 (by decide) ?_
  refine m_r5 C X (j := 0) (inb_vp (by decide)) (by decide) dX12_drippingNow_10 ?_
  refine lv_icmp_ge (tgt := 49) C.1.1 C.1.2.1 dX12_drippingNow_11 (by decide) (fun h_z => ?_) (fun h_z => ?_)
  · rw [if_pos h_z] at hF
    exact bX12_drippingNow_49 C O X (lv_sub hl [0, 1] rfl) hF
  · rw [if_neg h_z] at hF
    exact bX12_drippingNow_14 C O K4 X (lv_sub hl [0, 1, 2] rfl) hF
noncomputable def fX12_drippingNow_h4 (N : Nat) : Nat → Int32 → Int32 → gS → Option (Int32 × gS)
  | 0, _, _, _ => none
  | n + 1, x1, x2, S => fX12_drippingNow_b4 N (fX12_drippingNow_h4 N n) x1 x2 S
theorem hX12_drippingNow_4 {N : Nat} {o : Int32 × gS} (C : gC p s m args meth c cX12_drippingNow 3 RX12 ((some .int)) D (mtys cI cS) mord g Am) (O : gO (mcell g cI cS sa) mord g) : ∀ (n : Nat) (x1 : Int32) (x2 : Int32) (S : gS) (H : Heap) (locs : List Loc) (ls : Array Slot), gX D (mcell g cI cS sa) mord g S s H locs → lv_has ls 3 [(0, .ref (g 99)), (1, .int x1), (2, .int x2)] → fX12_drippingNow_h4 N n x1 x2 S = some o → W p l e (rmd 1) s m args below meth c H locs 0 0 (gE below args s D (mtys cI cS) (mcell g cI cS sa) mord g (some (.int o.1)) o.2) (F0 m 4 ls []) := by
  intro n
  induction n with
  | zero =>
    intro x1 x2 S H locs ls X hl hF
    exact absurd (show (none : Option (Int32 × gS)) = some o from hF) (by simp)
  | succ n ih =>
    intro x1 x2 S H locs ls X hl hF
    have hF : fX12_drippingNow_b4 N (fX12_drippingNow_h4 N n) x1 x2 S = some o := hF
    exact bX12_drippingNow_4 C O ih X hl hF
noncomputable def fX12_drippingNow_b0 (N : Nat) (S : gS) : Option (Int32 × gS) := fX12_drippingNow_h4 N N 0 0 S
theorem bX12_drippingNow_0 {N : Nat} {S : gS} {H : Heap} {locs : List Loc} {ls : Array Slot} {o : Int32 × gS} (C : gC p s m args meth c cX12_drippingNow 3 RX12 ((some .int)) D (mtys cI cS) mord g Am) (O : gO (mcell g cI cS sa) mord g) (X : gX D (mcell g cI cS sa) mord g S s H locs) (hl : lv_has ls 3 [(0, .ref (g 99))]) (hF : fX12_drippingNow_b0 N S = some o) : W p l e (rmd 1) s m args below meth c H locs 0 0 (gE below args s D (mtys cI cS) (mcell g cI cS sa) mord g (some (.int o.1)) o.2) (F0 m 0 ls []) := by
  unfold fX12_drippingNow_b0 at hF
  refine lv_iconst (v := 0) C.1.1 C.1.2.1 dX12_drippingNow_0 (by decide) ?_
  refine lv_istore_n (lv' := [(1, .int 0), (0, .ref (g 99))]) C.1.1 C.1.2.1 dX12_drippingNow_1 rfl hl (by decide) rfl (fun ls hl => ?_)
  refine lv_iconst (v := 0) C.1.1 C.1.2.1 dX12_drippingNow_2 (by decide) ?_
  refine lv_istore_n (lv' := [(2, .int 0), (1, .int 0), (0, .ref (g 99))]) C.1.1 C.1.2.1 dX12_drippingNow_3 rfl hl (by decide) rfl (fun ls hl => ?_)
  exact hX12_drippingNow_4 C O N _ _ _ _ _ _ X (lv_sub hl [2, 1, 0] rfl) hF
noncomputable def fX12_drippingNow (N : Nat) (S : gS) : Option (Int32 × gS) := fX12_drippingNow_b0 N S
theorem kX12_drippingNow {l : Launch} {D : va_G} {g : Nat → Nat} {cI cS : ClassId} {sa : Nat → Nat → Option Nat} {Am : (Nat → Prop) → State → Heap → Prop} (O : gO (mcell g cI cS sa) mord g) (P : gAm Am) (N : Nat) (S : gS) (o : Int32 × gS) (hF : fX12_drippingNow N S = some o) : gM l yX12_drippingNow cX12_drippingNow 3 ((some .int)) 1 D (mtys cI cS) (mcell g cI cS sa) mord g Am [.ref (g 99)] S (some (.int o.1)) o.2 :=
  gM_of O P (by decide) (Nat.le_of_ble_eq_true rfl) (fun p e s m args below meth c ls C X hl => bX12_drippingNow_0 C O X (lv_sub hl [0] rfl) hF)
-- hirerOf
noncomputable def fX12_hirerOf_b30 (N : Nat) (S : gS) : Option (Int32 × gS) := some ((-1), S)
theorem bX12_hirerOf_30 {N : Nat} {S : gS} {H : Heap} {locs : List Loc} {ls : Array Slot} {o : Int32 × gS} (C : gC p s m args meth c cX12_hirerOf 3 RX12 ((some .int)) D (mtys cI cS) mord g Am) (O : gO (mcell g cI cS sa) mord g) (X : gX D (mcell g cI cS sa) mord g S s H locs) (hl : lv_has ls 3 []) (hF : fX12_hirerOf_b30 N S = some o) : W p l e (rmd 0) s m args below meth c H locs 0 0 (gE below args s D (mtys cI cS) (mcell g cI cS sa) mord g (some (.int o.1)) o.2) (F0 m 30 ls []) := by
  unfold fX12_hirerOf_b30 at hF
  refine lv_iconst (v := (-1)) C.1.1 C.1.2.1 dX12_hirerOf_30 (by decide) ?_
  cases hF
  exact g_iret C X dX12_hirerOf_31
noncomputable def fX12_hirerOf_b24 (N : Nat) (r2 : Int32 → Int32 → gS → Option (Int32 × gS)) (x1 : Int32) (x2 : Int32) (S : gS) : Option (Int32 × gS) := r2 x1 ((x2 + 1 : Int32)) S
theorem bX12_hirerOf_24 {N : Nat} {r2 : Int32 → Int32 → gS → Option (Int32 × gS)} {x1 : Int32} {x2 : Int32} {S : gS} {H : Heap} {locs : List Loc} {ls : Array Slot} {o : Int32 × gS} (C : gC p s m args meth c cX12_hirerOf 3 RX12 ((some .int)) D (mtys cI cS) mord g Am) (O : gO (mcell g cI cS sa) mord g) (K2 : ∀ (x1 : Int32) (x2 : Int32) (S : gS) (H : Heap) (locs : List Loc) (ls : Array Slot), gX D (mcell g cI cS sa) mord g S s H locs → lv_has ls 3 [(0, .ref (g 99)), (1, .int x1), (2, .int x2)] → r2 x1 x2 S = some o → W p l e (rmd 0) s m args below meth c H locs 0 0 (gE below args s D (mtys cI cS) (mcell g cI cS sa) mord g (some (.int o.1)) o.2) (F0 m 2 ls [])) (X : gX D (mcell g cI cS sa) mord g S s H locs) (hl : lv_has ls 3 [(0, .ref (g 99)), (1, .int x1), (2, .int x2)]) (hF : fX12_hirerOf_b24 N r2 x1 x2 S = some o) : W p l e (rmd 0) s m args below meth c H locs 0 0 (gE below args s D (mtys cI cS) (mcell g cI cS sa) mord g (some (.int o.1)) o.2) (F0 m 24 ls []) := by
  unfold fX12_hirerOf_b24 at hF
  refine lv_iinc (v := (x2 + 1 : Int32)) (lv' := [(2, .int ((x2 + 1 : Int32))), (0, .ref (g 99)), (1, .int x1)]) C.1.1 C.1.2.1 dX12_hirerOf_24 hl (k := 2) rfl rfl (by decide) rfl (fun ls hl => ?_)
  refine lv_goto (tgt := 2) C.1.1 C.1.2.1 dX12_hirerOf_27 (by decide) ?_
  exact K2 _ _ _ _ _ _ X (lv_sub hl [1, 2, 0] rfl) hF
noncomputable def fX12_hirerOf_b22 (N : Nat) (x2 : Int32) (S : gS) : Option (Int32 × gS) := some (x2, S)
theorem bX12_hirerOf_22 {N : Nat} {x2 : Int32} {S : gS} {H : Heap} {locs : List Loc} {ls : Array Slot} {o : Int32 × gS} (C : gC p s m args meth c cX12_hirerOf 3 RX12 ((some .int)) D (mtys cI cS) mord g Am) (O : gO (mcell g cI cS sa) mord g) (X : gX D (mcell g cI cS sa) mord g S s H locs) (hl : lv_has ls 3 [(2, .int x2)]) (hF : fX12_hirerOf_b22 N x2 S = some o) : W p l e (rmd 0) s m args below meth c H locs 0 0 (gE below args s D (mtys cI cS) (mcell g cI cS sa) mord g (some (.int o.1)) o.2) (F0 m 22 ls []) := by
  unfold fX12_hirerOf_b22 at hF
  refine lv_iload_n C.1.1 C.1.2.1 dX12_hirerOf_22 rfl (lv_at hl 0 rfl) ?_
  cases hF
  exact g_iret C X dX12_hirerOf_23
noncomputable def fX12_hirerOf_b12 (N : Nat) (r2 : Int32 → Int32 → gS → Option (Int32 × gS)) (x1 : Int32) (x2 : Int32) (S : gS) : Option (Int32 × gS) := chk (inb x2 (6)) (if (S 35 (Int32.toNatClampNeg x2)) = x1 then fX12_hirerOf_b22 N x2 S else fX12_hirerOf_b24 N r2 x1 x2 S)
theorem bX12_hirerOf_12 {N : Nat} {r2 : Int32 → Int32 → gS → Option (Int32 × gS)} {x1 : Int32} {x2 : Int32} {S : gS} {H : Heap} {locs : List Loc} {ls : Array Slot} {o : Int32 × gS} (C : gC p s m args meth c cX12_hirerOf 3 RX12 ((some .int)) D (mtys cI cS) mord g Am) (O : gO (mcell g cI cS sa) mord g) (K2 : ∀ (x1 : Int32) (x2 : Int32) (S : gS) (H : Heap) (locs : List Loc) (ls : Array Slot), gX D (mcell g cI cS sa) mord g S s H locs → lv_has ls 3 [(0, .ref (g 99)), (1, .int x1), (2, .int x2)] → r2 x1 x2 S = some o → W p l e (rmd 0) s m args below meth c H locs 0 0 (gE below args s D (mtys cI cS) (mcell g cI cS sa) mord g (some (.int o.1)) o.2) (F0 m 2 ls [])) (X : gX D (mcell g cI cS sa) mord g S s H locs) (hl : lv_has ls 3 [(0, .ref (g 99)), (1, .int x1), (2, .int x2)]) (hF : fX12_hirerOf_b12 N r2 x1 x2 S = some o) : W p l e (rmd 0) s m args below meth c H locs 0 0 (gE below args s D (mtys cI cS) (mcell g cI cS sa) mord g (some (.int o.1)) o.2) (F0 m 12 ls []) := by
  unfold fX12_hirerOf_b12 at hF
  refine lv_aload_n C.1.1 C.1.2.1 dX12_hirerOf_12 rfl (lv_at hl 0 rfl) ?_
  refine m_g35 C X dX12_hirerOf_13 ?_
  refine lv_iload_n C.1.1 C.1.2.1 dX12_hirerOf_16 rfl (lv_at hl 2 rfl) ?_
  obtain ⟨h_1, hF⟩ := chk_some hF
  refine m_r35 C X  (inb_vp h_1) rfl dX12_hirerOf_17 ?_
  refine lv_iload_n C.1.1 C.1.2.1 dX12_hirerOf_18 rfl (lv_at hl 1 rfl) ?_
  refine lv_icmp_ne (tgt := 24) C.1.1 C.1.2.1 dX12_hirerOf_19 (by decide) (fun h_z => ?_) (fun h_z => ?_)
  · rw [if_neg h_z] at hF
    exact bX12_hirerOf_24 C O K2 X (lv_sub hl [0, 1, 2] rfl) hF
  · rw [if_pos h_z] at hF
    exact bX12_hirerOf_22 C O X (lv_sub hl [2] rfl) hF
noncomputable def fX12_hirerOf_b2 (N : Nat) (r2 : Int32 → Int32 → gS → Option (Int32 × gS)) (x1 : Int32) (x2 : Int32) (S : gS) : Option (Int32 × gS) := if (S 5 1) ≤ x2 then fX12_hirerOf_b30 N S else fX12_hirerOf_b12 N r2 x1 x2 S
theorem bX12_hirerOf_2 {N : Nat} {r2 : Int32 → Int32 → gS → Option (Int32 × gS)} {x1 : Int32} {x2 : Int32} {S : gS} {H : Heap} {locs : List Loc} {ls : Array Slot} {o : Int32 × gS} (C : gC p s m args meth c cX12_hirerOf 3 RX12 ((some .int)) D (mtys cI cS) mord g Am) (O : gO (mcell g cI cS sa) mord g) (K2 : ∀ (x1 : Int32) (x2 : Int32) (S : gS) (H : Heap) (locs : List Loc) (ls : Array Slot), gX D (mcell g cI cS sa) mord g S s H locs → lv_has ls 3 [(0, .ref (g 99)), (1, .int x1), (2, .int x2)] → r2 x1 x2 S = some o → W p l e (rmd 0) s m args below meth c H locs 0 0 (gE below args s D (mtys cI cS) (mcell g cI cS sa) mord g (some (.int o.1)) o.2) (F0 m 2 ls [])) (X : gX D (mcell g cI cS sa) mord g S s H locs) (hl : lv_has ls 3 [(0, .ref (g 99)), (1, .int x1), (2, .int x2)]) (hF : fX12_hirerOf_b2 N r2 x1 x2 S = some o) : W p l e (rmd 0) s m args below meth c H locs 0 0 (gE below args s D (mtys cI cS) (mcell g cI cS sa) mord g (some (.int o.1)) o.2) (F0 m 2 ls []) := by
  unfold fX12_hirerOf_b2 at hF
  refine lv_iload_n C.1.1 C.1.2.1 dX12_hirerOf_2 rfl (lv_at hl 2 rfl) ?_
  refine lv_aload_n C.1.1 C.1.2.1 dX12_hirerOf_3 rfl (lv_at hl 0 rfl) ?_
  refine m_g5 C X dX12_hirerOf_4 ?_
  refine lv_iconst (v := 1) C.1.1 C.1.2.1 dX12_hirerOf_7 (by decide) ?_
  refine m_r5 C X (j := 1) (inb_vp (by decide)) (by decide) dX12_hirerOf_8 ?_
  refine lv_icmp_ge (tgt := 30) C.1.1 C.1.2.1 dX12_hirerOf_9 (by decide) (fun h_z => ?_) (fun h_z => ?_)
  · rw [if_pos h_z] at hF
    exact bX12_hirerOf_30 C O X (lv_sub hl [] rfl) hF
  · rw [if_neg h_z] at hF
    exact bX12_hirerOf_12 C O K2 X (lv_sub hl [0, 1, 2] rfl) hF
noncomputable def fX12_hirerOf_h2 (N : Nat) : Nat → Int32 → Int32 → gS → Option (Int32 × gS)
  | 0, _, _, _ => none
  | n + 1, x1, x2, S => fX12_hirerOf_b2 N (fX12_hirerOf_h2 N n) x1 x2 S
theorem hX12_hirerOf_2 {N : Nat} {o : Int32 × gS} (C : gC p s m args meth c cX12_hirerOf 3 RX12 ((some .int)) D (mtys cI cS) mord g Am) (O : gO (mcell g cI cS sa) mord g) : ∀ (n : Nat) (x1 : Int32) (x2 : Int32) (S : gS) (H : Heap) (locs : List Loc) (ls : Array Slot), gX D (mcell g cI cS sa) mord g S s H locs → lv_has ls 3 [(0, .ref (g 99)), (1, .int x1), (2, .int x2)] → fX12_hirerOf_h2 N n x1 x2 S = some o → W p l e (rmd 0) s m args below meth c H locs 0 0 (gE below args s D (mtys cI cS) (mcell g cI cS sa) mord g (some (.int o.1)) o.2) (F0 m 2 ls []) := by
  intro n
  induction n with
  | zero =>
    intro x1 x2 S H locs ls X hl hF
    exact absurd (show (none : Option (Int32 × gS)) = some o from hF) (by simp)
  | succ n ih =>
    intro x1 x2 S H locs ls X hl hF
    have hF : fX12_hirerOf_b2 N (fX12_hirerOf_h2 N n) x1 x2 S = some o := hF
    exact bX12_hirerOf_2 C O ih X hl hF
noncomputable def fX12_hirerOf_b0 (N : Nat) (x1 : Int32) (S : gS) : Option (Int32 × gS) := fX12_hirerOf_h2 N N x1 0 S
theorem bX12_hirerOf_0 {N : Nat} {x1 : Int32} {S : gS} {H : Heap} {locs : List Loc} {ls : Array Slot} {o : Int32 × gS} (C : gC p s m args meth c cX12_hirerOf 3 RX12 ((some .int)) D (mtys cI cS) mord g Am) (O : gO (mcell g cI cS sa) mord g) (X : gX D (mcell g cI cS sa) mord g S s H locs) (hl : lv_has ls 3 [(0, .ref (g 99)), (1, .int x1)]) (hF : fX12_hirerOf_b0 N x1 S = some o) : W p l e (rmd 0) s m args below meth c H locs 0 0 (gE below args s D (mtys cI cS) (mcell g cI cS sa) mord g (some (.int o.1)) o.2) (F0 m 0 ls []) := by
  unfold fX12_hirerOf_b0 at hF
  refine lv_iconst (v := 0) C.1.1 C.1.2.1 dX12_hirerOf_0 (by decide) ?_
  refine lv_istore_n (lv' := [(2, .int 0), (0, .ref (g 99)), (1, .int x1)]) C.1.1 C.1.2.1 dX12_hirerOf_1 rfl hl (by decide) rfl (fun ls hl => ?_)
  exact hX12_hirerOf_2 C O N _ _ _ _ _ _ X (lv_sub hl [1, 2, 0] rfl) hF
noncomputable def fX12_hirerOf (N : Nat) (x1 : Int32) (S : gS) : Option (Int32 × gS) := fX12_hirerOf_b0 N x1 S
theorem kX12_hirerOf {l : Launch} {D : va_G} {g : Nat → Nat} {cI cS : ClassId} {sa : Nat → Nat → Option Nat} {Am : (Nat → Prop) → State → Heap → Prop} (O : gO (mcell g cI cS sa) mord g) (P : gAm Am) (N : Nat) (x1 : Int32) (S : gS) (o : Int32 × gS) (hF : fX12_hirerOf N x1 S = some o) : gM l yX12_hirerOf cX12_hirerOf 3 ((some .int)) 0 D (mtys cI cS) (mcell g cI cS sa) mord g Am [.ref (g 99), .int x1] S (some (.int o.1)) o.2 :=
  gM_of O P (by decide) (Nat.le_of_ble_eq_true rfl) (fun p e s m args below meth c ls C X hl => bX12_hirerOf_0 C O X (lv_sub hl [0, 1] rfl) hF)
end
end

/-! part 08.m03 -/
section
/-! the reference's methods as maps of states, and their walks (printed by wip/whole/mkm.py) -/
section
variable {p : Program} {l : Launch} {e : Env} {s : State} {m : MethodId} {args : Array Value} {below : List Frame} {meth : Method} {c : Code} {D : va_G} {g : Nat → Nat} {cI cS : ClassId} {sa : Nat → Nat → Option Nat} {Am : (Nat → Prop) → State → Heap → Prop}
-- hiredNow
noncomputable def fX12_hiredNow_b45 (N : Nat) (x1 : Int32) (S : gS) : Option (Int32 × gS) := some (x1, S)
theorem bX12_hiredNow_45 {N : Nat} {x1 : Int32} {S : gS} {H : Heap} {locs : List Loc} {ls : Array Slot} {o : Int32 × gS} (C : gC p s m args meth c cX12_hiredNow 3 RX12 ((some .int)) D (mtys cI cS) mord g Am) (O : gO (mcell g cI cS sa) mord g) (X : gX D (mcell g cI cS sa) mord g S s H locs) (hl : lv_has ls 3 [(1, .int x1)]) (hF : fX12_hiredNow_b45 N x1 S = some o) : W p l e (rmd 0) s m args below meth c H locs 0 0 (gE below args s D (mtys cI cS) (mcell g cI cS sa) mord g (some (.int o.1)) o.2) (F0 m 45 ls []) := by
  unfold fX12_hiredNow_b45 at hF
  refine lv_iload_n C.1.1 C.1.2.1 dX12_hiredNow_45 rfl (lv_at hl 0 rfl) ?_
  cases hF
  exact g_iret C X dX12_hiredNow_46
noncomputable def fX12_hiredNow_b37 (N : Nat) (r4 : Int32 → Int32 → gS → Option (Int32 × gS)) (x2 : Int32) (t0 : Int32) (t1 : Int32) (S : gS) : Option (Int32 × gS) := r4 ((t0 ||| t1 : Int32)) ((x2 + 1 : Int32)) S
theorem bX12_hiredNow_37 {N : Nat} {r4 : Int32 → Int32 → gS → Option (Int32 × gS)} {x2 : Int32} {t0 : Int32} {t1 : Int32} {S : gS} {H : Heap} {locs : List Loc} {ls : Array Slot} {o : Int32 × gS} (C : gC p s m args meth c cX12_hiredNow 3 RX12 ((some .int)) D (mtys cI cS) mord g Am) (O : gO (mcell g cI cS sa) mord g) (K4 : ∀ (x1 : Int32) (x2 : Int32) (S : gS) (H : Heap) (locs : List Loc) (ls : Array Slot), gX D (mcell g cI cS sa) mord g S s H locs → lv_has ls 3 [(0, .ref (g 99)), (1, .int x1), (2, .int x2)] → r4 x1 x2 S = some o → W p l e (rmd 0) s m args below meth c H locs 0 0 (gE below args s D (mtys cI cS) (mcell g cI cS sa) mord g (some (.int o.1)) o.2) (F0 m 4 ls [])) (X : gX D (mcell g cI cS sa) mord g S s H locs) (hl : lv_has ls 3 [(0, .ref (g 99)), (2, .int x2)]) (hF : fX12_hiredNow_b37 N r4 x2 t0 t1 S = some o) : W p l e (rmd 0) s m args below meth c H locs 0 0 (gE below args s D (mtys cI cS) (mcell g cI cS sa) mord g (some (.int o.1)) o.2) (F0 m 37 ls [.int t1, .int t0]) := by
  unfold fX12_hiredNow_b37 at hF
  refine lv_ior C.1.1 C.1.2.1 dX12_hiredNow_37 ?_
  refine lv_istore_n (lv' := [(1, .int ((t0 ||| t1 : Int32))), (0, .ref (g 99)), (2, .int x2)]) C.1.1 C.1.2.1 dX12_hiredNow_38 rfl hl (by decide) rfl (fun ls hl => ?_)
  refine lv_iinc (v := (x2 + 1 : Int32)) (lv' := [(2, .int ((x2 + 1 : Int32))), (1, .int ((t0 ||| t1 : Int32))), (0, .ref (g 99))]) C.1.1 C.1.2.1 dX12_hiredNow_39 hl (k := 2) rfl rfl (by decide) rfl (fun ls hl => ?_)
  refine lv_goto (tgt := 4) C.1.1 C.1.2.1 dX12_hiredNow_42 (by decide) ?_
  exact K4 _ _ _ _ _ _ X (lv_sub hl [2, 1, 0] rfl) hF
noncomputable def fX12_hiredNow_b29 (N : Nat) (r4 : Int32 → Int32 → gS → Option (Int32 × gS)) (x2 : Int32) (t0 : Int32) (S : gS) : Option (Int32 × gS) := chk (inb x2 (6)) (fX12_hiredNow_b37 N r4 x2 t0 (((1 : Int32) <<< ((S 35 (Int32.toNatClampNeg x2)) &&& 31) : Int32)) S)
theorem bX12_hiredNow_29 {N : Nat} {r4 : Int32 → Int32 → gS → Option (Int32 × gS)} {x2 : Int32} {t0 : Int32} {S : gS} {H : Heap} {locs : List Loc} {ls : Array Slot} {o : Int32 × gS} (C : gC p s m args meth c cX12_hiredNow 3 RX12 ((some .int)) D (mtys cI cS) mord g Am) (O : gO (mcell g cI cS sa) mord g) (K4 : ∀ (x1 : Int32) (x2 : Int32) (S : gS) (H : Heap) (locs : List Loc) (ls : Array Slot), gX D (mcell g cI cS sa) mord g S s H locs → lv_has ls 3 [(0, .ref (g 99)), (1, .int x1), (2, .int x2)] → r4 x1 x2 S = some o → W p l e (rmd 0) s m args below meth c H locs 0 0 (gE below args s D (mtys cI cS) (mcell g cI cS sa) mord g (some (.int o.1)) o.2) (F0 m 4 ls [])) (X : gX D (mcell g cI cS sa) mord g S s H locs) (hl : lv_has ls 3 [(0, .ref (g 99)), (2, .int x2)]) (hF : fX12_hiredNow_b29 N r4 x2 t0 S = some o) : W p l e (rmd 0) s m args below meth c H locs 0 0 (gE below args s D (mtys cI cS) (mcell g cI cS sa) mord g (some (.int o.1)) o.2) (F0 m 29 ls [.int t0]) := by
  unfold fX12_hiredNow_b29 at hF
  refine lv_iconst (v := 1) C.1.1 C.1.2.1 dX12_hiredNow_29 (by decide) ?_
  refine lv_aload_n C.1.1 C.1.2.1 dX12_hiredNow_30 rfl (lv_at hl 0 rfl) ?_
  refine m_g35 C X dX12_hiredNow_31 ?_
  refine lv_iload_n C.1.1 C.1.2.1 dX12_hiredNow_34 rfl (lv_at hl 1 rfl) ?_
  obtain ⟨h_1, hF⟩ := chk_some hF
  refine m_r35 C X  (inb_vp h_1) rfl dX12_hiredNow_35 ?_
  refine lv_ishl C.1.1 C.1.2.1 dX12_hiredNow_36 ?_
  exact bX12_hiredNow_37 C O K4 X (lv_sub hl [0, 1] rfl) hF
noncomputable def fX12_hiredNow_b25 (N : Nat) (r4 : Int32 → Int32 → gS → Option (Int32 × gS)) (x2 : Int32) (t0 : Int32) (S : gS) : Option (Int32 × gS) := fX12_hiredNow_b37 N r4 x2 t0 0 S
theorem bX12_hiredNow_25 {N : Nat} {r4 : Int32 → Int32 → gS → Option (Int32 × gS)} {x2 : Int32} {t0 : Int32} {S : gS} {H : Heap} {locs : List Loc} {ls : Array Slot} {o : Int32 × gS} (C : gC p s m args meth c cX12_hiredNow 3 RX12 ((some .int)) D (mtys cI cS) mord g Am) (O : gO (mcell g cI cS sa) mord g) (K4 : ∀ (x1 : Int32) (x2 : Int32) (S : gS) (H : Heap) (locs : List Loc) (ls : Array Slot), gX D (mcell g cI cS sa) mord g S s H locs → lv_has ls 3 [(0, .ref (g 99)), (1, .int x1), (2, .int x2)] → r4 x1 x2 S = some o → W p l e (rmd 0) s m args below meth c H locs 0 0 (gE below args s D (mtys cI cS) (mcell g cI cS sa) mord g (some (.int o.1)) o.2) (F0 m 4 ls [])) (X : gX D (mcell g cI cS sa) mord g S s H locs) (hl : lv_has ls 3 [(0, .ref (g 99)), (2, .int x2)]) (hF : fX12_hiredNow_b25 N r4 x2 t0 S = some o) : W p l e (rmd 0) s m args below meth c H locs 0 0 (gE below args s D (mtys cI cS) (mcell g cI cS sa) mord g (some (.int o.1)) o.2) (F0 m 25 ls [.int t0]) := by
  unfold fX12_hiredNow_b25 at hF
  refine lv_iconst (v := 0) C.1.1 C.1.2.1 dX12_hiredNow_25 (by decide) ?_
  refine lv_goto (tgt := 37) C.1.1 C.1.2.1 dX12_hiredNow_26 (by decide) ?_
  exact bX12_hiredNow_37 C O K4 X (lv_sub hl [0, 1] rfl) hF
noncomputable def fX12_hiredNow_b14 (N : Nat) (r4 : Int32 → Int32 → gS → Option (Int32 × gS)) (x1 : Int32) (x2 : Int32) (S : gS) : Option (Int32 × gS) := chk (inb x2 (6)) (if (S 35 (Int32.toNatClampNeg x2)) = ((-1)) then fX12_hiredNow_b25 N r4 x2 x1 S else fX12_hiredNow_b29 N r4 x2 x1 S)
theorem bX12_hiredNow_14 {N : Nat} {r4 : Int32 → Int32 → gS → Option (Int32 × gS)} {x1 : Int32} {x2 : Int32} {S : gS} {H : Heap} {locs : List Loc} {ls : Array Slot} {o : Int32 × gS} (C : gC p s m args meth c cX12_hiredNow 3 RX12 ((some .int)) D (mtys cI cS) mord g Am) (O : gO (mcell g cI cS sa) mord g) (K4 : ∀ (x1 : Int32) (x2 : Int32) (S : gS) (H : Heap) (locs : List Loc) (ls : Array Slot), gX D (mcell g cI cS sa) mord g S s H locs → lv_has ls 3 [(0, .ref (g 99)), (1, .int x1), (2, .int x2)] → r4 x1 x2 S = some o → W p l e (rmd 0) s m args below meth c H locs 0 0 (gE below args s D (mtys cI cS) (mcell g cI cS sa) mord g (some (.int o.1)) o.2) (F0 m 4 ls [])) (X : gX D (mcell g cI cS sa) mord g S s H locs) (hl : lv_has ls 3 [(0, .ref (g 99)), (1, .int x1), (2, .int x2)]) (hF : fX12_hiredNow_b14 N r4 x1 x2 S = some o) : W p l e (rmd 0) s m args below meth c H locs 0 0 (gE below args s D (mtys cI cS) (mcell g cI cS sa) mord g (some (.int o.1)) o.2) (F0 m 14 ls []) := by
  unfold fX12_hiredNow_b14 at hF
  refine lv_iload_n C.1.1 C.1.2.1 dX12_hiredNow_14 rfl (lv_at hl 1 rfl) ?_
  refine lv_aload_n C.1.1 C.1.2.1 dX12_hiredNow_15 rfl (lv_at hl 0 rfl) ?_
  refine m_g35 C X dX12_hiredNow_16 ?_
  refine lv_iload_n C.1.1 C.1.2.1 dX12_hiredNow_19 rfl (lv_at hl 2 rfl) ?_
  obtain ⟨h_1, hF⟩ := chk_some hF
  refine m_r35 C X  (inb_vp h_1) rfl dX12_hiredNow_20 ?_
  refine lv_iconst (v := (-1)) C.1.1 C.1.2.1 dX12_hiredNow_21 (by decide) ?_
  refine lv_icmp_ne (tgt := 29) C.1.1 C.1.2.1 dX12_hiredNow_22 (by decide) (fun h_z => ?_) (fun h_z => ?_)
  · rw [if_neg h_z] at hF
    exact bX12_hiredNow_29 C O K4 X (lv_sub hl [0, 2] rfl) hF
  · rw [if_pos h_z] at hF
    exact bX12_hiredNow_25 C O K4 X (lv_sub hl [0, 2] rfl) hF
noncomputable def fX12_hiredNow_b4 (N : Nat) (r4 : Int32 → Int32 → gS → Option (Int32 × gS)) (x1 : Int32) (x2 : Int32) (S : gS) : Option (Int32 × gS) := if (S 5 1) ≤ x2 then fX12_hiredNow_b45 N x1 S else fX12_hiredNow_b14 N r4 x1 x2 S
theorem bX12_hiredNow_4 {N : Nat} {r4 : Int32 → Int32 → gS → Option (Int32 × gS)} {x1 : Int32} {x2 : Int32} {S : gS} {H : Heap} {locs : List Loc} {ls : Array Slot} {o : Int32 × gS} (C : gC p s m args meth c cX12_hiredNow 3 RX12 ((some .int)) D (mtys cI cS) mord g Am) (O : gO (mcell g cI cS sa) mord g) (K4 : ∀ (x1 : Int32) (x2 : Int32) (S : gS) (H : Heap) (locs : List Loc) (ls : Array Slot), gX D (mcell g cI cS sa) mord g S s H locs → lv_has ls 3 [(0, .ref (g 99)), (1, .int x1), (2, .int x2)] → r4 x1 x2 S = some o → W p l e (rmd 0) s m args below meth c H locs 0 0 (gE below args s D (mtys cI cS) (mcell g cI cS sa) mord g (some (.int o.1)) o.2) (F0 m 4 ls [])) (X : gX D (mcell g cI cS sa) mord g S s H locs) (hl : lv_has ls 3 [(0, .ref (g 99)), (1, .int x1), (2, .int x2)]) (hF : fX12_hiredNow_b4 N r4 x1 x2 S = some o) : W p l e (rmd 0) s m args below meth c H locs 0 0 (gE below args s D (mtys cI cS) (mcell g cI cS sa) mord g (some (.int o.1)) o.2) (F0 m 4 ls []) := by
  unfold fX12_hiredNow_b4 at hF
  refine lv_iload_n C.1.1 C.1.2.1 dX12_hiredNow_4 rfl (lv_at hl 2 rfl) ?_
  refine lv_aload_n C.1.1 C.1.2.1 dX12_hiredNow_5 rfl (lv_at hl 0 rfl) ?_
  refine m_g5 C X dX12_hiredNow_6 ?_
  refine lv_iconst (v := 1) C.1.1 C.1.2.1 dX12_hiredNow_9 (by decide) ?_
  refine m_r5 C X (j := 1) (inb_vp (by decide)) (by decide) dX12_hiredNow_10 ?_
  refine lv_icmp_ge (tgt := 45) C.1.1 C.1.2.1 dX12_hiredNow_11 (by decide) (fun h_z => ?_) (fun h_z => ?_)
  · rw [if_pos h_z] at hF
    exact bX12_hiredNow_45 C O X (lv_sub hl [1] rfl) hF
  · rw [if_neg h_z] at hF
    exact bX12_hiredNow_14 C O K4 X (lv_sub hl [0, 1, 2] rfl) hF
noncomputable def fX12_hiredNow_h4 (N : Nat) : Nat → Int32 → Int32 → gS → Option (Int32 × gS)
  | 0, _, _, _ => none
  | n + 1, x1, x2, S => fX12_hiredNow_b4 N (fX12_hiredNow_h4 N n) x1 x2 S
theorem hX12_hiredNow_4 {N : Nat} {o : Int32 × gS} (C : gC p s m args meth c cX12_hiredNow 3 RX12 ((some .int)) D (mtys cI cS) mord g Am) (O : gO (mcell g cI cS sa) mord g) : ∀ (n : Nat) (x1 : Int32) (x2 : Int32) (S : gS) (H : Heap) (locs : List Loc) (ls : Array Slot), gX D (mcell g cI cS sa) mord g S s H locs → lv_has ls 3 [(0, .ref (g 99)), (1, .int x1), (2, .int x2)] → fX12_hiredNow_h4 N n x1 x2 S = some o → W p l e (rmd 0) s m args below meth c H locs 0 0 (gE below args s D (mtys cI cS) (mcell g cI cS sa) mord g (some (.int o.1)) o.2) (F0 m 4 ls []) := by
  intro n
  induction n with
  | zero =>
    intro x1 x2 S H locs ls X hl hF
    exact absurd (show (none : Option (Int32 × gS)) = some o from hF) (by simp)
  | succ n ih =>
    intro x1 x2 S H locs ls X hl hF
    have hF : fX12_hiredNow_b4 N (fX12_hiredNow_h4 N n) x1 x2 S = some o := hF
    exact bX12_hiredNow_4 C O ih X hl hF
noncomputable def fX12_hiredNow_b0 (N : Nat) (S : gS) : Option (Int32 × gS) := fX12_hiredNow_h4 N N 0 0 S
theorem bX12_hiredNow_0 {N : Nat} {S : gS} {H : Heap} {locs : List Loc} {ls : Array Slot} {o : Int32 × gS} (C : gC p s m args meth c cX12_hiredNow 3 RX12 ((some .int)) D (mtys cI cS) mord g Am) (O : gO (mcell g cI cS sa) mord g) (X : gX D (mcell g cI cS sa) mord g S s H locs) (hl : lv_has ls 3 [(0, .ref (g 99))]) (hF : fX12_hiredNow_b0 N S = some o) : W p l e (rmd 0) s m args below meth c H locs 0 0 (gE below args s D (mtys cI cS) (mcell g cI cS sa) mord g (some (.int o.1)) o.2) (F0 m 0 ls []) := by
  unfold fX12_hiredNow_b0 at hF
  refine lv_iconst (v := 0) C.1.1 C.1.2.1 dX12_hiredNow_0 (by decide) ?_
  refine lv_istore_n (lv' := [(1, .int 0), (0, .ref (g 99))]) C.1.1 C.1.2.1 dX12_hiredNow_1 rfl hl (by decide) rfl (fun ls hl => ?_)
  refine lv_iconst (v := 0) C.1.1 C.1.2.1 dX12_hiredNow_2 (by decide) ?_
  refine lv_istore_n (lv' := [(2, .int 0), (1, .int 0), (0, .ref (g 99))]) C.1.1 C.1.2.1 dX12_hiredNow_3 rfl hl (by decide) rfl (fun ls hl => ?_)
  exact hX12_hiredNow_4 C O N _ _ _ _ _ _ X (lv_sub hl [2, 1, 0] rfl) hF
noncomputable def fX12_hiredNow (N : Nat) (S : gS) : Option (Int32 × gS) := fX12_hiredNow_b0 N S
theorem kX12_hiredNow {l : Launch} {D : va_G} {g : Nat → Nat} {cI cS : ClassId} {sa : Nat → Nat → Option Nat} {Am : (Nat → Prop) → State → Heap → Prop} (O : gO (mcell g cI cS sa) mord g) (P : gAm Am) (N : Nat) (S : gS) (o : Int32 × gS) (hF : fX12_hiredNow N S = some o) : gM l yX12_hiredNow cX12_hiredNow 3 ((some .int)) 0 D (mtys cI cS) (mcell g cI cS sa) mord g Am [.ref (g 99)] S (some (.int o.1)) o.2 :=
  gM_of O P (by decide) (Nat.le_of_ble_eq_true rfl) (fun p e s m args below meth c ls C X hl => bX12_hiredNow_0 C O X (lv_sub hl [0] rfl) hF)
-- reckon
noncomputable def fX12_reckon_b117 (N : Nat) (t0 : Int32) (S : gS) : Option (Int32 × gS) := some (t0, S)
theorem bX12_reckon_117 {N : Nat} {t0 : Int32} {S : gS} {H : Heap} {locs : List Loc} {ls : Array Slot} {o : Int32 × gS} (C : gC p s m args meth c cX12_reckon 3 RX12 ((some .int)) D (mtys cI cS) mord g Am) (O : gO (mcell g cI cS sa) mord g) (X : gX D (mcell g cI cS sa) mord g S s H locs) (hl : lv_has ls 3 []) (hF : fX12_reckon_b117 N t0 S = some o) : W p l e (rmd 0) s m args below meth c H locs 0 0 (gE below args s D (mtys cI cS) (mcell g cI cS sa) mord g (some (.int o.1)) o.2) (F0 m 117 ls [.int t0]) := by
  unfold fX12_reckon_b117 at hF
  cases hF
  exact g_iret C X dX12_reckon_117
noncomputable def fX12_reckon_b116 (N : Nat) (S : gS) : Option (Int32 × gS) := fX12_reckon_b117 N 0 S
theorem bX12_reckon_116 {N : Nat} {S : gS} {H : Heap} {locs : List Loc} {ls : Array Slot} {o : Int32 × gS} (C : gC p s m args meth c cX12_reckon 3 RX12 ((some .int)) D (mtys cI cS) mord g Am) (O : gO (mcell g cI cS sa) mord g) (X : gX D (mcell g cI cS sa) mord g S s H locs) (hl : lv_has ls 3 []) (hF : fX12_reckon_b116 N S = some o) : W p l e (rmd 0) s m args below meth c H locs 0 0 (gE below args s D (mtys cI cS) (mcell g cI cS sa) mord g (some (.int o.1)) o.2) (F0 m 116 ls []) := by
  unfold fX12_reckon_b116 at hF
  refine lv_iconst (v := 0) C.1.1 C.1.2.1 dX12_reckon_116 (by decide) ?_
  exact bX12_reckon_117 C O X (lv_sub hl [] rfl) hF
noncomputable def fX12_reckon_b112 (N : Nat) (S : gS) : Option (Int32 × gS) := fX12_reckon_b117 N 1 S
theorem bX12_reckon_112 {N : Nat} {S : gS} {H : Heap} {locs : List Loc} {ls : Array Slot} {o : Int32 × gS} (C : gC p s m args meth c cX12_reckon 3 RX12 ((some .int)) D (mtys cI cS) mord g Am) (O : gO (mcell g cI cS sa) mord g) (X : gX D (mcell g cI cS sa) mord g S s H locs) (hl : lv_has ls 3 []) (hF : fX12_reckon_b112 N S = some o) : W p l e (rmd 0) s m args below meth c H locs 0 0 (gE below args s D (mtys cI cS) (mcell g cI cS sa) mord g (some (.int o.1)) o.2) (F0 m 112 ls []) := by
  unfold fX12_reckon_b112 at hF
  refine lv_iconst (v := 1) C.1.1 C.1.2.1 dX12_reckon_112 (by decide) ?_
  refine lv_goto (tgt := 117) C.1.1 C.1.2.1 dX12_reckon_113 (by decide) ?_
  exact bX12_reckon_117 C O X (lv_sub hl [] rfl) hF
noncomputable def fX12_reckon_b108 (N : Nat) (x2 : Int32) (S : gS) : Option (Int32 × gS) := if x2 = 0 then fX12_reckon_b116 N S else fX12_reckon_b112 N S
theorem bX12_reckon_108 {N : Nat} {x2 : Int32} {S : gS} {H : Heap} {locs : List Loc} {ls : Array Slot} {o : Int32 × gS} (C : gC p s m args meth c cX12_reckon 3 RX12 ((some .int)) D (mtys cI cS) mord g Am) (O : gO (mcell g cI cS sa) mord g) (X : gX D (mcell g cI cS sa) mord g S s H locs) (hl : lv_has ls 3 [(2, .int x2)]) (hF : fX12_reckon_b108 N x2 S = some o) : W p l e (rmd 0) s m args below meth c H locs 0 0 (gE below args s D (mtys cI cS) (mcell g cI cS sa) mord g (some (.int o.1)) o.2) (F0 m 108 ls []) := by
  unfold fX12_reckon_b108 at hF
  refine lv_iload_n C.1.1 C.1.2.1 dX12_reckon_108 rfl (lv_at hl 0 rfl) ?_
  refine lv_if_eq (tgt := 116) C.1.1 C.1.2.1 dX12_reckon_109 (by decide) (fun h_z => ?_) (fun h_z => ?_)
  · rw [if_pos h_z] at hF
    exact bX12_reckon_116 C O X (lv_sub hl [] rfl) hF
  · rw [if_neg h_z] at hF
    exact bX12_reckon_112 C O X (lv_sub hl [] rfl) hF
noncomputable def fX12_reckon_b104 (N : Nat) (x1 : Int32) (x2 : Int32) (S : gS) : Option (Int32 × gS) := if x1 = 0 then fX12_reckon_b108 N x2 S else fX12_reckon_b112 N S
theorem bX12_reckon_104 {N : Nat} {x1 : Int32} {x2 : Int32} {S : gS} {H : Heap} {locs : List Loc} {ls : Array Slot} {o : Int32 × gS} (C : gC p s m args meth c cX12_reckon 3 RX12 ((some .int)) D (mtys cI cS) mord g Am) (O : gO (mcell g cI cS sa) mord g) (X : gX D (mcell g cI cS sa) mord g S s H locs) (hl : lv_has ls 3 [(1, .int x1), (2, .int x2)]) (hF : fX12_reckon_b104 N x1 x2 S = some o) : W p l e (rmd 0) s m args below meth c H locs 0 0 (gE below args s D (mtys cI cS) (mcell g cI cS sa) mord g (some (.int o.1)) o.2) (F0 m 104 ls []) := by
  unfold fX12_reckon_b104 at hF
  refine lv_iload_n C.1.1 C.1.2.1 dX12_reckon_104 rfl (lv_at hl 0 rfl) ?_
  refine lv_if_ne (tgt := 112) C.1.1 C.1.2.1 dX12_reckon_105 (by decide) (fun h_z => ?_) (fun h_z => ?_)
  · rw [if_neg h_z] at hF
    exact bX12_reckon_112 C O X (lv_sub hl [] rfl) hF
  · rw [if_pos h_z] at hF
    exact bX12_reckon_108 C O X (lv_sub hl [1] rfl) hF
noncomputable def fX12_reckon_b103 (N : Nat) (t0 : Int32) (S : gS) : Option (Int32 × gS) := some (t0, S)
theorem bX12_reckon_103 {N : Nat} {t0 : Int32} {S : gS} {H : Heap} {locs : List Loc} {ls : Array Slot} {o : Int32 × gS} (C : gC p s m args meth c cX12_reckon 3 RX12 ((some .int)) D (mtys cI cS) mord g Am) (O : gO (mcell g cI cS sa) mord g) (X : gX D (mcell g cI cS sa) mord g S s H locs) (hl : lv_has ls 3 []) (hF : fX12_reckon_b103 N t0 S = some o) : W p l e (rmd 0) s m args below meth c H locs 0 0 (gE below args s D (mtys cI cS) (mcell g cI cS sa) mord g (some (.int o.1)) o.2) (F0 m 103 ls [.int t0]) := by
  unfold fX12_reckon_b103 at hF
  cases hF
  exact g_iret C X dX12_reckon_103
noncomputable def fX12_reckon_b102 (N : Nat) (S : gS) : Option (Int32 × gS) := fX12_reckon_b103 N 0 S
theorem bX12_reckon_102 {N : Nat} {S : gS} {H : Heap} {locs : List Loc} {ls : Array Slot} {o : Int32 × gS} (C : gC p s m args meth c cX12_reckon 3 RX12 ((some .int)) D (mtys cI cS) mord g Am) (O : gO (mcell g cI cS sa) mord g) (X : gX D (mcell g cI cS sa) mord g S s H locs) (hl : lv_has ls 3 []) (hF : fX12_reckon_b102 N S = some o) : W p l e (rmd 0) s m args below meth c H locs 0 0 (gE below args s D (mtys cI cS) (mcell g cI cS sa) mord g (some (.int o.1)) o.2) (F0 m 102 ls []) := by
  unfold fX12_reckon_b102 at hF
  refine lv_iconst (v := 0) C.1.1 C.1.2.1 dX12_reckon_102 (by decide) ?_
  exact bX12_reckon_103 C O X (lv_sub hl [] rfl) hF
noncomputable def fX12_reckon_b98 (N : Nat) (S : gS) : Option (Int32 × gS) := fX12_reckon_b103 N 1 S
theorem bX12_reckon_98 {N : Nat} {S : gS} {H : Heap} {locs : List Loc} {ls : Array Slot} {o : Int32 × gS} (C : gC p s m args meth c cX12_reckon 3 RX12 ((some .int)) D (mtys cI cS) mord g Am) (O : gO (mcell g cI cS sa) mord g) (X : gX D (mcell g cI cS sa) mord g S s H locs) (hl : lv_has ls 3 []) (hF : fX12_reckon_b98 N S = some o) : W p l e (rmd 0) s m args below meth c H locs 0 0 (gE below args s D (mtys cI cS) (mcell g cI cS sa) mord g (some (.int o.1)) o.2) (F0 m 98 ls []) := by
  unfold fX12_reckon_b98 at hF
  refine lv_iconst (v := 1) C.1.1 C.1.2.1 dX12_reckon_98 (by decide) ?_
  refine lv_goto (tgt := 103) C.1.1 C.1.2.1 dX12_reckon_99 (by decide) ?_
  exact bX12_reckon_103 C O X (lv_sub hl [] rfl) hF
noncomputable def fX12_reckon_b94 (N : Nat) (x2 : Int32) (S : gS) : Option (Int32 × gS) := if x2 = 0 then fX12_reckon_b102 N S else fX12_reckon_b98 N S
theorem bX12_reckon_94 {N : Nat} {x2 : Int32} {S : gS} {H : Heap} {locs : List Loc} {ls : Array Slot} {o : Int32 × gS} (C : gC p s m args meth c cX12_reckon 3 RX12 ((some .int)) D (mtys cI cS) mord g Am) (O : gO (mcell g cI cS sa) mord g) (X : gX D (mcell g cI cS sa) mord g S s H locs) (hl : lv_has ls 3 [(2, .int x2)]) (hF : fX12_reckon_b94 N x2 S = some o) : W p l e (rmd 0) s m args below meth c H locs 0 0 (gE below args s D (mtys cI cS) (mcell g cI cS sa) mord g (some (.int o.1)) o.2) (F0 m 94 ls []) := by
  unfold fX12_reckon_b94 at hF
  refine lv_iload_n C.1.1 C.1.2.1 dX12_reckon_94 rfl (lv_at hl 0 rfl) ?_
  refine lv_if_eq (tgt := 102) C.1.1 C.1.2.1 dX12_reckon_95 (by decide) (fun h_z => ?_) (fun h_z => ?_)
  · rw [if_pos h_z] at hF
    exact bX12_reckon_102 C O X (lv_sub hl [] rfl) hF
  · rw [if_neg h_z] at hF
    exact bX12_reckon_98 C O X (lv_sub hl [] rfl) hF
noncomputable def fX12_reckon_b90 (N : Nat) (x1 : Int32) (x2 : Int32) (S : gS) : Option (Int32 × gS) := if x1 = 0 then fX12_reckon_b102 N S else fX12_reckon_b94 N x2 S
theorem bX12_reckon_90 {N : Nat} {x1 : Int32} {x2 : Int32} {S : gS} {H : Heap} {locs : List Loc} {ls : Array Slot} {o : Int32 × gS} (C : gC p s m args meth c cX12_reckon 3 RX12 ((some .int)) D (mtys cI cS) mord g Am) (O : gO (mcell g cI cS sa) mord g) (X : gX D (mcell g cI cS sa) mord g S s H locs) (hl : lv_has ls 3 [(1, .int x1), (2, .int x2)]) (hF : fX12_reckon_b90 N x1 x2 S = some o) : W p l e (rmd 0) s m args below meth c H locs 0 0 (gE below args s D (mtys cI cS) (mcell g cI cS sa) mord g (some (.int o.1)) o.2) (F0 m 90 ls []) := by
  unfold fX12_reckon_b90 at hF
  refine lv_iload_n C.1.1 C.1.2.1 dX12_reckon_90 rfl (lv_at hl 0 rfl) ?_
  refine lv_if_eq (tgt := 102) C.1.1 C.1.2.1 dX12_reckon_91 (by decide) (fun h_z => ?_) (fun h_z => ?_)
  · rw [if_pos h_z] at hF
    exact bX12_reckon_102 C O X (lv_sub hl [] rfl) hF
  · rw [if_neg h_z] at hF
    exact bX12_reckon_94 C O X (lv_sub hl [1] rfl) hF
noncomputable def fX12_reckon_b89 (N : Nat) (t0 : Int32) (S : gS) : Option (Int32 × gS) := some (t0, S)
theorem bX12_reckon_89 {N : Nat} {t0 : Int32} {S : gS} {H : Heap} {locs : List Loc} {ls : Array Slot} {o : Int32 × gS} (C : gC p s m args meth c cX12_reckon 3 RX12 ((some .int)) D (mtys cI cS) mord g Am) (O : gO (mcell g cI cS sa) mord g) (X : gX D (mcell g cI cS sa) mord g S s H locs) (hl : lv_has ls 3 []) (hF : fX12_reckon_b89 N t0 S = some o) : W p l e (rmd 0) s m args below meth c H locs 0 0 (gE below args s D (mtys cI cS) (mcell g cI cS sa) mord g (some (.int o.1)) o.2) (F0 m 89 ls [.int t0]) := by
  unfold fX12_reckon_b89 at hF
  cases hF
  exact g_iret C X dX12_reckon_89
noncomputable def fX12_reckon_b88 (N : Nat) (S : gS) : Option (Int32 × gS) := fX12_reckon_b89 N 0 S
theorem bX12_reckon_88 {N : Nat} {S : gS} {H : Heap} {locs : List Loc} {ls : Array Slot} {o : Int32 × gS} (C : gC p s m args meth c cX12_reckon 3 RX12 ((some .int)) D (mtys cI cS) mord g Am) (O : gO (mcell g cI cS sa) mord g) (X : gX D (mcell g cI cS sa) mord g S s H locs) (hl : lv_has ls 3 []) (hF : fX12_reckon_b88 N S = some o) : W p l e (rmd 0) s m args below meth c H locs 0 0 (gE below args s D (mtys cI cS) (mcell g cI cS sa) mord g (some (.int o.1)) o.2) (F0 m 88 ls []) := by
  unfold fX12_reckon_b88 at hF
  refine lv_iconst (v := 0) C.1.1 C.1.2.1 dX12_reckon_88 (by decide) ?_
  exact bX12_reckon_89 C O X (lv_sub hl [] rfl) hF
noncomputable def fX12_reckon_b84 (N : Nat) (S : gS) : Option (Int32 × gS) := fX12_reckon_b89 N 1 S
theorem bX12_reckon_84 {N : Nat} {S : gS} {H : Heap} {locs : List Loc} {ls : Array Slot} {o : Int32 × gS} (C : gC p s m args meth c cX12_reckon 3 RX12 ((some .int)) D (mtys cI cS) mord g Am) (O : gO (mcell g cI cS sa) mord g) (X : gX D (mcell g cI cS sa) mord g S s H locs) (hl : lv_has ls 3 []) (hF : fX12_reckon_b84 N S = some o) : W p l e (rmd 0) s m args below meth c H locs 0 0 (gE below args s D (mtys cI cS) (mcell g cI cS sa) mord g (some (.int o.1)) o.2) (F0 m 84 ls []) := by
  unfold fX12_reckon_b84 at hF
  refine lv_iconst (v := 1) C.1.1 C.1.2.1 dX12_reckon_84 (by decide) ?_
  refine lv_goto (tgt := 89) C.1.1 C.1.2.1 dX12_reckon_85 (by decide) ?_
  exact bX12_reckon_89 C O X (lv_sub hl [] rfl) hF
noncomputable def fX12_reckon_b79 (N : Nat) (x1 : Int32) (x2 : Int32) (S : gS) : Option (Int32 × gS) := if x1 = x2 then fX12_reckon_b84 N S else fX12_reckon_b88 N S
theorem bX12_reckon_79 {N : Nat} {x1 : Int32} {x2 : Int32} {S : gS} {H : Heap} {locs : List Loc} {ls : Array Slot} {o : Int32 × gS} (C : gC p s m args meth c cX12_reckon 3 RX12 ((some .int)) D (mtys cI cS) mord g Am) (O : gO (mcell g cI cS sa) mord g) (X : gX D (mcell g cI cS sa) mord g S s H locs) (hl : lv_has ls 3 [(1, .int x1), (2, .int x2)]) (hF : fX12_reckon_b79 N x1 x2 S = some o) : W p l e (rmd 0) s m args below meth c H locs 0 0 (gE below args s D (mtys cI cS) (mcell g cI cS sa) mord g (some (.int o.1)) o.2) (F0 m 79 ls []) := by
  unfold fX12_reckon_b79 at hF
  refine lv_iload_n C.1.1 C.1.2.1 dX12_reckon_79 rfl (lv_at hl 0 rfl) ?_
  refine lv_iload_n C.1.1 C.1.2.1 dX12_reckon_80 rfl (lv_at hl 1 rfl) ?_
  refine lv_icmp_ne (tgt := 88) C.1.1 C.1.2.1 dX12_reckon_81 (by decide) (fun h_z => ?_) (fun h_z => ?_)
  · rw [if_neg h_z] at hF
    exact bX12_reckon_88 C O X (lv_sub hl [] rfl) hF
  · rw [if_pos h_z] at hF
    exact bX12_reckon_84 C O X (lv_sub hl [] rfl) hF
noncomputable def fX12_reckon_b78 (N : Nat) (t0 : Int32) (S : gS) : Option (Int32 × gS) := some (t0, S)
theorem bX12_reckon_78 {N : Nat} {t0 : Int32} {S : gS} {H : Heap} {locs : List Loc} {ls : Array Slot} {o : Int32 × gS} (C : gC p s m args meth c cX12_reckon 3 RX12 ((some .int)) D (mtys cI cS) mord g Am) (O : gO (mcell g cI cS sa) mord g) (X : gX D (mcell g cI cS sa) mord g S s H locs) (hl : lv_has ls 3 []) (hF : fX12_reckon_b78 N t0 S = some o) : W p l e (rmd 0) s m args below meth c H locs 0 0 (gE below args s D (mtys cI cS) (mcell g cI cS sa) mord g (some (.int o.1)) o.2) (F0 m 78 ls [.int t0]) := by
  unfold fX12_reckon_b78 at hF
  cases hF
  exact g_iret C X dX12_reckon_78
noncomputable def fX12_reckon_b77 (N : Nat) (S : gS) : Option (Int32 × gS) := fX12_reckon_b78 N 0 S
theorem bX12_reckon_77 {N : Nat} {S : gS} {H : Heap} {locs : List Loc} {ls : Array Slot} {o : Int32 × gS} (C : gC p s m args meth c cX12_reckon 3 RX12 ((some .int)) D (mtys cI cS) mord g Am) (O : gO (mcell g cI cS sa) mord g) (X : gX D (mcell g cI cS sa) mord g S s H locs) (hl : lv_has ls 3 []) (hF : fX12_reckon_b77 N S = some o) : W p l e (rmd 0) s m args below meth c H locs 0 0 (gE below args s D (mtys cI cS) (mcell g cI cS sa) mord g (some (.int o.1)) o.2) (F0 m 77 ls []) := by
  unfold fX12_reckon_b77 at hF
  refine lv_iconst (v := 0) C.1.1 C.1.2.1 dX12_reckon_77 (by decide) ?_
  exact bX12_reckon_78 C O X (lv_sub hl [] rfl) hF
noncomputable def fX12_reckon_b73 (N : Nat) (S : gS) : Option (Int32 × gS) := fX12_reckon_b78 N 1 S
theorem bX12_reckon_73 {N : Nat} {S : gS} {H : Heap} {locs : List Loc} {ls : Array Slot} {o : Int32 × gS} (C : gC p s m args meth c cX12_reckon 3 RX12 ((some .int)) D (mtys cI cS) mord g Am) (O : gO (mcell g cI cS sa) mord g) (X : gX D (mcell g cI cS sa) mord g S s H locs) (hl : lv_has ls 3 []) (hF : fX12_reckon_b73 N S = some o) : W p l e (rmd 0) s m args below meth c H locs 0 0 (gE below args s D (mtys cI cS) (mcell g cI cS sa) mord g (some (.int o.1)) o.2) (F0 m 73 ls []) := by
  unfold fX12_reckon_b73 at hF
  refine lv_iconst (v := 1) C.1.1 C.1.2.1 dX12_reckon_73 (by decide) ?_
  refine lv_goto (tgt := 78) C.1.1 C.1.2.1 dX12_reckon_74 (by decide) ?_
  exact bX12_reckon_78 C O X (lv_sub hl [] rfl) hF
noncomputable def fX12_reckon_b68 (N : Nat) (x1 : Int32) (x2 : Int32) (S : gS) : Option (Int32 × gS) := if x2 ≤ x1 then fX12_reckon_b77 N S else fX12_reckon_b73 N S
theorem bX12_reckon_68 {N : Nat} {x1 : Int32} {x2 : Int32} {S : gS} {H : Heap} {locs : List Loc} {ls : Array Slot} {o : Int32 × gS} (C : gC p s m args meth c cX12_reckon 3 RX12 ((some .int)) D (mtys cI cS) mord g Am) (O : gO (mcell g cI cS sa) mord g) (X : gX D (mcell g cI cS sa) mord g S s H locs) (hl : lv_has ls 3 [(1, .int x1), (2, .int x2)]) (hF : fX12_reckon_b68 N x1 x2 S = some o) : W p l e (rmd 0) s m args below meth c H locs 0 0 (gE below args s D (mtys cI cS) (mcell g cI cS sa) mord g (some (.int o.1)) o.2) (F0 m 68 ls []) := by
  unfold fX12_reckon_b68 at hF
  refine lv_iload_n C.1.1 C.1.2.1 dX12_reckon_68 rfl (lv_at hl 0 rfl) ?_
  refine lv_iload_n C.1.1 C.1.2.1 dX12_reckon_69 rfl (lv_at hl 1 rfl) ?_
  refine lv_icmp_ge (tgt := 77) C.1.1 C.1.2.1 dX12_reckon_70 (by decide) (fun h_z => ?_) (fun h_z => ?_)
  · rw [if_pos h_z] at hF
    exact bX12_reckon_77 C O X (lv_sub hl [] rfl) hF
  · rw [if_neg h_z] at hF
    exact bX12_reckon_73 C O X (lv_sub hl [] rfl) hF
noncomputable def fX12_reckon_b67 (N : Nat) (t0 : Int32) (S : gS) : Option (Int32 × gS) := some (t0, S)
theorem bX12_reckon_67 {N : Nat} {t0 : Int32} {S : gS} {H : Heap} {locs : List Loc} {ls : Array Slot} {o : Int32 × gS} (C : gC p s m args meth c cX12_reckon 3 RX12 ((some .int)) D (mtys cI cS) mord g Am) (O : gO (mcell g cI cS sa) mord g) (X : gX D (mcell g cI cS sa) mord g S s H locs) (hl : lv_has ls 3 []) (hF : fX12_reckon_b67 N t0 S = some o) : W p l e (rmd 0) s m args below meth c H locs 0 0 (gE below args s D (mtys cI cS) (mcell g cI cS sa) mord g (some (.int o.1)) o.2) (F0 m 67 ls [.int t0]) := by
  unfold fX12_reckon_b67 at hF
  cases hF
  exact g_iret C X dX12_reckon_67
noncomputable def fX12_reckon_b64 (N : Nat) (x1 : Int32) (x2 : Int32) (S : gS) : Option (Int32 × gS) := chk (nz x2) (fX12_reckon_b67 N ((x1 / x2 : Int32)) S)
theorem bX12_reckon_64 {N : Nat} {x1 : Int32} {x2 : Int32} {S : gS} {H : Heap} {locs : List Loc} {ls : Array Slot} {o : Int32 × gS} (C : gC p s m args meth c cX12_reckon 3 RX12 ((some .int)) D (mtys cI cS) mord g Am) (O : gO (mcell g cI cS sa) mord g) (X : gX D (mcell g cI cS sa) mord g S s H locs) (hl : lv_has ls 3 [(1, .int x1), (2, .int x2)]) (hF : fX12_reckon_b64 N x1 x2 S = some o) : W p l e (rmd 0) s m args below meth c H locs 0 0 (gE below args s D (mtys cI cS) (mcell g cI cS sa) mord g (some (.int o.1)) o.2) (F0 m 64 ls []) := by
  unfold fX12_reckon_b64 at hF
  refine lv_iload_n C.1.1 C.1.2.1 dX12_reckon_64 rfl (lv_at hl 0 rfl) ?_
  refine lv_iload_n C.1.1 C.1.2.1 dX12_reckon_65 rfl (lv_at hl 1 rfl) ?_
  obtain ⟨h_1, hF⟩ := chk_some hF
  refine lv_idiv C.1.1 C.1.2.1 dX12_reckon_66 (nz_ne h_1) ?_
  exact bX12_reckon_67 C O X (lv_sub hl [] rfl) hF
noncomputable def fX12_reckon_b60 (N : Nat) (S : gS) : Option (Int32 × gS) := fX12_reckon_b67 N 0 S
theorem bX12_reckon_60 {N : Nat} {S : gS} {H : Heap} {locs : List Loc} {ls : Array Slot} {o : Int32 × gS} (C : gC p s m args meth c cX12_reckon 3 RX12 ((some .int)) D (mtys cI cS) mord g Am) (O : gO (mcell g cI cS sa) mord g) (X : gX D (mcell g cI cS sa) mord g S s H locs) (hl : lv_has ls 3 []) (hF : fX12_reckon_b60 N S = some o) : W p l e (rmd 0) s m args below meth c H locs 0 0 (gE below args s D (mtys cI cS) (mcell g cI cS sa) mord g (some (.int o.1)) o.2) (F0 m 60 ls []) := by
  unfold fX12_reckon_b60 at hF
  refine lv_iconst (v := 0) C.1.1 C.1.2.1 dX12_reckon_60 (by decide) ?_
  refine lv_goto (tgt := 67) C.1.1 C.1.2.1 dX12_reckon_61 (by decide) ?_
  exact bX12_reckon_67 C O X (lv_sub hl [] rfl) hF
noncomputable def fX12_reckon_b56 (N : Nat) (x1 : Int32) (x2 : Int32) (S : gS) : Option (Int32 × gS) := if x2 = 0 then fX12_reckon_b60 N S else fX12_reckon_b64 N x1 x2 S
theorem bX12_reckon_56 {N : Nat} {x1 : Int32} {x2 : Int32} {S : gS} {H : Heap} {locs : List Loc} {ls : Array Slot} {o : Int32 × gS} (C : gC p s m args meth c cX12_reckon 3 RX12 ((some .int)) D (mtys cI cS) mord g Am) (O : gO (mcell g cI cS sa) mord g) (X : gX D (mcell g cI cS sa) mord g S s H locs) (hl : lv_has ls 3 [(1, .int x1), (2, .int x2)]) (hF : fX12_reckon_b56 N x1 x2 S = some o) : W p l e (rmd 0) s m args below meth c H locs 0 0 (gE below args s D (mtys cI cS) (mcell g cI cS sa) mord g (some (.int o.1)) o.2) (F0 m 56 ls []) := by
  unfold fX12_reckon_b56 at hF
  refine lv_iload_n C.1.1 C.1.2.1 dX12_reckon_56 rfl (lv_at hl 1 rfl) ?_
  refine lv_if_ne (tgt := 64) C.1.1 C.1.2.1 dX12_reckon_57 (by decide) (fun h_z => ?_) (fun h_z => ?_)
  · rw [if_neg h_z] at hF
    exact bX12_reckon_64 C O X (lv_sub hl [0, 1] rfl) hF
  · rw [if_pos h_z] at hF
    exact bX12_reckon_60 C O X (lv_sub hl [] rfl) hF
noncomputable def fX12_reckon_b52 (N : Nat) (x1 : Int32) (x2 : Int32) (S : gS) : Option (Int32 × gS) := some ((x1 * x2 : Int32), S)
theorem bX12_reckon_52 {N : Nat} {x1 : Int32} {x2 : Int32} {S : gS} {H : Heap} {locs : List Loc} {ls : Array Slot} {o : Int32 × gS} (C : gC p s m args meth c cX12_reckon 3 RX12 ((some .int)) D (mtys cI cS) mord g Am) (O : gO (mcell g cI cS sa) mord g) (X : gX D (mcell g cI cS sa) mord g S s H locs) (hl : lv_has ls 3 [(1, .int x1), (2, .int x2)]) (hF : fX12_reckon_b52 N x1 x2 S = some o) : W p l e (rmd 0) s m args below meth c H locs 0 0 (gE below args s D (mtys cI cS) (mcell g cI cS sa) mord g (some (.int o.1)) o.2) (F0 m 52 ls []) := by
  unfold fX12_reckon_b52 at hF
  refine lv_iload_n C.1.1 C.1.2.1 dX12_reckon_52 rfl (lv_at hl 0 rfl) ?_
  refine lv_iload_n C.1.1 C.1.2.1 dX12_reckon_53 rfl (lv_at hl 1 rfl) ?_
  refine lv_imul C.1.1 C.1.2.1 dX12_reckon_54 ?_
  cases hF
  exact g_iret C X dX12_reckon_55
noncomputable def fX12_reckon_b48 (N : Nat) (x1 : Int32) (x2 : Int32) (S : gS) : Option (Int32 × gS) := some ((x1 - x2 : Int32), S)
theorem bX12_reckon_48 {N : Nat} {x1 : Int32} {x2 : Int32} {S : gS} {H : Heap} {locs : List Loc} {ls : Array Slot} {o : Int32 × gS} (C : gC p s m args meth c cX12_reckon 3 RX12 ((some .int)) D (mtys cI cS) mord g Am) (O : gO (mcell g cI cS sa) mord g) (X : gX D (mcell g cI cS sa) mord g S s H locs) (hl : lv_has ls 3 [(1, .int x1), (2, .int x2)]) (hF : fX12_reckon_b48 N x1 x2 S = some o) : W p l e (rmd 0) s m args below meth c H locs 0 0 (gE below args s D (mtys cI cS) (mcell g cI cS sa) mord g (some (.int o.1)) o.2) (F0 m 48 ls []) := by
  unfold fX12_reckon_b48 at hF
  refine lv_iload_n C.1.1 C.1.2.1 dX12_reckon_48 rfl (lv_at hl 0 rfl) ?_
  refine lv_iload_n C.1.1 C.1.2.1 dX12_reckon_49 rfl (lv_at hl 1 rfl) ?_
  refine lv_isub C.1.1 C.1.2.1 dX12_reckon_50 ?_
  cases hF
  exact g_iret C X dX12_reckon_51
noncomputable def fX12_reckon_b44 (N : Nat) (x1 : Int32) (x2 : Int32) (S : gS) : Option (Int32 × gS) := some ((x1 + x2 : Int32), S)
theorem bX12_reckon_44 {N : Nat} {x1 : Int32} {x2 : Int32} {S : gS} {H : Heap} {locs : List Loc} {ls : Array Slot} {o : Int32 × gS} (C : gC p s m args meth c cX12_reckon 3 RX12 ((some .int)) D (mtys cI cS) mord g Am) (O : gO (mcell g cI cS sa) mord g) (X : gX D (mcell g cI cS sa) mord g S s H locs) (hl : lv_has ls 3 [(1, .int x1), (2, .int x2)]) (hF : fX12_reckon_b44 N x1 x2 S = some o) : W p l e (rmd 0) s m args below meth c H locs 0 0 (gE below args s D (mtys cI cS) (mcell g cI cS sa) mord g (some (.int o.1)) o.2) (F0 m 44 ls []) := by
  unfold fX12_reckon_b44 at hF
  refine lv_iload_n C.1.1 C.1.2.1 dX12_reckon_44 rfl (lv_at hl 0 rfl) ?_
  refine lv_iload_n C.1.1 C.1.2.1 dX12_reckon_45 rfl (lv_at hl 1 rfl) ?_
  refine lv_iadd C.1.1 C.1.2.1 dX12_reckon_46 ?_
  cases hF
  exact g_iret C X dX12_reckon_47
noncomputable def fX12_reckon_b0 (N : Nat) (x0 : Int32) (x1 : Int32) (x2 : Int32) (S : gS) : Option (Int32 × gS) := if x0 = (-26) then fX12_reckon_b90 N x1 x2 S else if x0 = (-25) then fX12_reckon_b79 N x1 x2 S else if x0 = (-24) then fX12_reckon_b68 N x1 x2 S else if x0 = (-23) then fX12_reckon_b56 N x1 x2 S else if x0 = (-22) then fX12_reckon_b52 N x1 x2 S else if x0 = (-21) then fX12_reckon_b48 N x1 x2 S else if x0 = (-20) then fX12_reckon_b44 N x1 x2 S else fX12_reckon_b104 N x1 x2 S
theorem bX12_reckon_0 {N : Nat} {x0 : Int32} {x1 : Int32} {x2 : Int32} {S : gS} {H : Heap} {locs : List Loc} {ls : Array Slot} {o : Int32 × gS} (C : gC p s m args meth c cX12_reckon 3 RX12 ((some .int)) D (mtys cI cS) mord g Am) (O : gO (mcell g cI cS sa) mord g) (X : gX D (mcell g cI cS sa) mord g S s H locs) (hl : lv_has ls 3 [(0, .int x0), (1, .int x1), (2, .int x2)]) (hF : fX12_reckon_b0 N x0 x1 x2 S = some o) : W p l e (rmd 0) s m args below meth c H locs 0 0 (gE below args s D (mtys cI cS) (mcell g cI cS sa) mord g (some (.int o.1)) o.2) (F0 m 0 ls []) := by
  unfold fX12_reckon_b0 at hF
  refine lv_iload_n C.1.1 C.1.2.1 dX12_reckon_0 rfl (lv_at hl 0 rfl) ?_
  by_cases hz_1026 : x0 = (-26)
  · rw [if_pos hz_1026] at hF
    refine lv_tableIn (off := 89) (tgt := 90) C.1.1 C.1.2.1 dX12_reckon_1 (by rw [hz_1026]; decide) (by rw [hz_1026]; decide) (by rw [hz_1026]; decide) (by decide) ?_
    exact bX12_reckon_90 C O X (lv_sub hl [1, 2] rfl) hF
  rw [if_neg hz_1026] at hF
  by_cases hz_1025 : x0 = (-25)
  · rw [if_pos hz_1025] at hF
    refine lv_tableIn (off := 78) (tgt := 79) C.1.1 C.1.2.1 dX12_reckon_1 (by rw [hz_1025]; decide) (by rw [hz_1025]; decide) (by rw [hz_1025]; decide) (by decide) ?_
    exact bX12_reckon_79 C O X (lv_sub hl [1, 2] rfl) hF
  rw [if_neg hz_1025] at hF
  by_cases hz_1024 : x0 = (-24)
  · rw [if_pos hz_1024] at hF
    refine lv_tableIn (off := 67) (tgt := 68) C.1.1 C.1.2.1 dX12_reckon_1 (by rw [hz_1024]; decide) (by rw [hz_1024]; decide) (by rw [hz_1024]; decide) (by decide) ?_
    exact bX12_reckon_68 C O X (lv_sub hl [1, 2] rfl) hF
  rw [if_neg hz_1024] at hF
  by_cases hz_1023 : x0 = (-23)
  · rw [if_pos hz_1023] at hF
    refine lv_tableIn (off := 55) (tgt := 56) C.1.1 C.1.2.1 dX12_reckon_1 (by rw [hz_1023]; decide) (by rw [hz_1023]; decide) (by rw [hz_1023]; decide) (by decide) ?_
    exact bX12_reckon_56 C O X (lv_sub hl [1, 2] rfl) hF
  rw [if_neg hz_1023] at hF
  by_cases hz_1022 : x0 = (-22)
  · rw [if_pos hz_1022] at hF
    refine lv_tableIn (off := 51) (tgt := 52) C.1.1 C.1.2.1 dX12_reckon_1 (by rw [hz_1022]; decide) (by rw [hz_1022]; decide) (by rw [hz_1022]; decide) (by decide) ?_
    exact bX12_reckon_52 C O X (lv_sub hl [1, 2] rfl) hF
  rw [if_neg hz_1022] at hF
  by_cases hz_1021 : x0 = (-21)
  · rw [if_pos hz_1021] at hF
    refine lv_tableIn (off := 47) (tgt := 48) C.1.1 C.1.2.1 dX12_reckon_1 (by rw [hz_1021]; decide) (by rw [hz_1021]; decide) (by rw [hz_1021]; decide) (by decide) ?_
    exact bX12_reckon_48 C O X (lv_sub hl [1, 2] rfl) hF
  rw [if_neg hz_1021] at hF
  by_cases hz_1020 : x0 = (-20)
  · rw [if_pos hz_1020] at hF
    refine lv_tableIn (off := 43) (tgt := 44) C.1.1 C.1.2.1 dX12_reckon_1 (by rw [hz_1020]; decide) (by rw [hz_1020]; decide) (by rw [hz_1020]; decide) (by decide) ?_
    exact bX12_reckon_44 C O X (lv_sub hl [1, 2] rfl) hF
  rw [if_neg hz_1020] at hF
  refine lv_tableOut (tgt := 104) C.1.1 C.1.2.1 dX12_reckon_1 (g_tsw (-26) (-20) _ ?_) (by decide) ?_
  · intro i hi1 hi2
    rcases (show i = (-26) ∨ i = (-25) ∨ i = (-24) ∨ i = (-23) ∨ i = (-22) ∨ i = (-21) ∨ i = (-20) by omega) with rfl | rfl | rfl | rfl | rfl | rfl | rfl
    · exact hz_1026
    · exact hz_1025
    · exact hz_1024
    · exact hz_1023
    · exact hz_1022
    · exact hz_1021
    · exact hz_1020
  exact bX12_reckon_104 C O X (lv_sub hl [1, 2] rfl) hF
noncomputable def fX12_reckon (N : Nat) (x0 : Int32) (x1 : Int32) (x2 : Int32) (S : gS) : Option (Int32 × gS) := fX12_reckon_b0 N x0 x1 x2 S
theorem kX12_reckon {l : Launch} {D : va_G} {g : Nat → Nat} {cI cS : ClassId} {sa : Nat → Nat → Option Nat} {Am : (Nat → Prop) → State → Heap → Prop} (O : gO (mcell g cI cS sa) mord g) (P : gAm Am) (N : Nat) (x0 : Int32) (x1 : Int32) (x2 : Int32) (S : gS) (o : Int32 × gS) (hF : fX12_reckon N x0 x1 x2 S = some o) : gM l yX12_reckon cX12_reckon 3 ((some .int)) 0 D (mtys cI cS) (mcell g cI cS sa) mord g Am [.int x0, .int x1, .int x2] S (some (.int o.1)) o.2 :=
  gM_of O P (by decide) (Nat.le_of_ble_eq_true rfl) (fun p e s m args below meth c ls C X hl => bX12_reckon_0 C O X (lv_sub hl [0, 1, 2] rfl) hF)
-- valueNow
noncomputable def fX12_valueNow_b125 (N : Nat) (S : gS) : Option (Int32 × gS) := some (S 43 0, S)
theorem bX12_valueNow_125 {N : Nat} {S : gS} {H : Heap} {locs : List Loc} {ls : Array Slot} {o : Int32 × gS} (C : gC p s m args meth c cX12_valueNow 6 RX12 ((some .int)) D (mtys cI cS) mord g Am) (O : gO (mcell g cI cS sa) mord g) (X : gX D (mcell g cI cS sa) mord g S s H locs) (hl : lv_has ls 6 [(0, .ref (g 99))]) (hF : fX12_valueNow_b125 N S = some o) : W p l e (rmd 1) s m args below meth c H locs 0 0 (gE below args s D (mtys cI cS) (mcell g cI cS sa) mord g (some (.int o.1)) o.2) (F0 m 125 ls []) := by
  unfold fX12_valueNow_b125 at hF
  refine lv_aload_n C.1.1 C.1.2.1 dX12_valueNow_125 rfl (lv_at hl 0 rfl) ?_
  refine m_g43 C X dX12_valueNow_126 ?_
  refine lv_iconst (v := 0) C.1.1 C.1.2.1 dX12_valueNow_129 (by decide) ?_
  refine m_r43 C X (j := 0) (inb_vp (by decide)) (by decide) dX12_valueNow_130 ?_
  cases hF
  exact g_iret C X dX12_valueNow_131
noncomputable def fX12_valueNow_b119 (N : Nat) (r5 : Nat → Int32 → Int32 → Int32 → gS → Option (Int32 × gS)) (k1 : Nat) (x2 : Int32) (x3 : Int32) (x4 : Int32) (S : gS) : Option (Int32 × gS) := r5 k1 x2 x3 ((x4 + 1 : Int32)) S
theorem bX12_valueNow_119 {N : Nat} {r5 : Nat → Int32 → Int32 → Int32 → gS → Option (Int32 × gS)} {k1 : Nat} {x2 : Int32} {x3 : Int32} {x4 : Int32} {S : gS} {H : Heap} {locs : List Loc} {ls : Array Slot} {o : Int32 × gS} (C : gC p s m args meth c cX12_valueNow 6 RX12 ((some .int)) D (mtys cI cS) mord g Am) (O : gO (mcell g cI cS sa) mord g) (K5 : ∀ (k1 : Nat) (x2 : Int32) (x3 : Int32) (x4 : Int32) (hk_k1 : mI k1 = true) (S : gS) (H : Heap) (locs : List Loc) (ls : Array Slot), gX D (mcell g cI cS sa) mord g S s H locs → lv_has ls 6 [(0, .ref (g 99)), (1, .ref (g k1)), (2, .int x2), (3, .int x3), (4, .int x4)] → r5 k1 x2 x3 x4 S = some o → W p l e (rmd 1) s m args below meth c H locs 0 0 (gE below args s D (mtys cI cS) (mcell g cI cS sa) mord g (some (.int o.1)) o.2) (F0 m 5 ls [])) (hk_k1 : mI k1 = true) (X : gX D (mcell g cI cS sa) mord g S s H locs) (hl : lv_has ls 6 [(0, .ref (g 99)), (1, .ref (g k1)), (2, .int x2), (3, .int x3), (4, .int x4)]) (hF : fX12_valueNow_b119 N r5 k1 x2 x3 x4 S = some o) : W p l e (rmd 1) s m args below meth c H locs 0 0 (gE below args s D (mtys cI cS) (mcell g cI cS sa) mord g (some (.int o.1)) o.2) (F0 m 119 ls []) := by
  unfold fX12_valueNow_b119 at hF
  refine lv_iinc (v := (x4 + 1 : Int32)) (lv' := [(4, .int ((x4 + 1 : Int32))), (0, .ref (g 99)), (1, .ref (g k1)), (2, .int x2), (3, .int x3)]) C.1.1 C.1.2.1 dX12_valueNow_119 hl (k := 4) rfl rfl (by decide) rfl (fun ls hl => ?_)
  refine lv_goto (tgt := 5) C.1.1 C.1.2.1 dX12_valueNow_122 (by decide) ?_
  exact K5 _ _ _ _ hk_k1 _ _ _ _ X (lv_sub hl [1, 2, 3, 4, 0] rfl) hF
noncomputable def fX12_valueNow_b89 (N : Nat) (r5 : Nat → Int32 → Int32 → Int32 → gS → Option (Int32 × gS)) (k1 : Nat) (x2 : Int32) (x3 : Int32) (x4 : Int32) (x5 : Int32) (S : gS) : Option (Int32 × gS) := chk (inb ((((x3 + (-1) : Int32)) - 1 : Int32)) (64)) (chk (inb ((x3 + (-1) : Int32)) (64)) (bnd (fX12_reckon N x5 (S 43 (Int32.toNatClampNeg ((((x3 + (-1) : Int32)) - 1 : Int32)))) (S 43 (Int32.toNatClampNeg ((x3 + (-1) : Int32)))) S) fun q1 => (chk (inb ((((x3 + (-1) : Int32)) - 1 : Int32)) (64)) (lt (sU q1.2 43 (Int32.toNatClampNeg ((((x3 + (-1) : Int32)) - 1 : Int32))) q1.1) fun S2 => (fX12_valueNow_b119 N r5 k1 x2 ((x3 + (-1) : Int32)) x4 S2)))))
theorem bX12_valueNow_89 {N : Nat} {r5 : Nat → Int32 → Int32 → Int32 → gS → Option (Int32 × gS)} {k1 : Nat} {x2 : Int32} {x3 : Int32} {x4 : Int32} {x5 : Int32} {S : gS} {H : Heap} {locs : List Loc} {ls : Array Slot} {o : Int32 × gS} (C : gC p s m args meth c cX12_valueNow 6 RX12 ((some .int)) D (mtys cI cS) mord g Am) (O : gO (mcell g cI cS sa) mord g) (K5 : ∀ (k1 : Nat) (x2 : Int32) (x3 : Int32) (x4 : Int32) (hk_k1 : mI k1 = true) (S : gS) (H : Heap) (locs : List Loc) (ls : Array Slot), gX D (mcell g cI cS sa) mord g S s H locs → lv_has ls 6 [(0, .ref (g 99)), (1, .ref (g k1)), (2, .int x2), (3, .int x3), (4, .int x4)] → r5 k1 x2 x3 x4 S = some o → W p l e (rmd 1) s m args below meth c H locs 0 0 (gE below args s D (mtys cI cS) (mcell g cI cS sa) mord g (some (.int o.1)) o.2) (F0 m 5 ls [])) (hk_k1 : mI k1 = true) (X : gX D (mcell g cI cS sa) mord g S s H locs) (hl : lv_has ls 6 [(0, .ref (g 99)), (1, .ref (g k1)), (2, .int x2), (3, .int x3), (4, .int x4), (5, .int x5)]) (hF : fX12_valueNow_b89 N r5 k1 x2 x3 x4 x5 S = some o) : W p l e (rmd 1) s m args below meth c H locs 0 0 (gE below args s D (mtys cI cS) (mcell g cI cS sa) mord g (some (.int o.1)) o.2) (F0 m 89 ls []) := by
  unfold fX12_valueNow_b89 at hF
  refine lv_iinc (v := (x3 + (-1) : Int32)) (lv' := [(3, .int ((x3 + (-1) : Int32))), (0, .ref (g 99)), (1, .ref (g k1)), (2, .int x2), (4, .int x4), (5, .int x5)]) C.1.1 C.1.2.1 dX12_valueNow_89 hl (k := 3) rfl rfl (by decide) rfl (fun ls hl => ?_)
  refine lv_aload_n C.1.1 C.1.2.1 dX12_valueNow_92 rfl (lv_at hl 1 rfl) ?_
  refine m_g43 C X dX12_valueNow_93 ?_
  refine lv_iload_n C.1.1 C.1.2.1 dX12_valueNow_96 rfl (lv_at hl 0 rfl) ?_
  refine lv_iconst (v := 1) C.1.1 C.1.2.1 dX12_valueNow_97 (by decide) ?_
  refine lv_isub C.1.1 C.1.2.1 dX12_valueNow_98 ?_
  refine lv_iload C.1.1 C.1.2.1 dX12_valueNow_99 (lv_at hl 5 rfl) ?_
  refine lv_aload_n C.1.1 C.1.2.1 dX12_valueNow_101 rfl (lv_at hl 1 rfl) ?_
  refine m_g43 C X dX12_valueNow_102 ?_
  refine lv_iload_n C.1.1 C.1.2.1 dX12_valueNow_105 rfl (lv_at hl 0 rfl) ?_
  refine lv_iconst (v := 1) C.1.1 C.1.2.1 dX12_valueNow_106 (by decide) ?_
  refine lv_isub C.1.1 C.1.2.1 dX12_valueNow_107 ?_
  obtain ⟨h_1, hF⟩ := chk_some hF
  refine m_r43 C X  (inb_vp h_1) rfl dX12_valueNow_108 ?_
  refine lv_aload_n C.1.1 C.1.2.1 dX12_valueNow_109 rfl (lv_at hl 1 rfl) ?_
  refine m_g43 C X dX12_valueNow_110 ?_
  refine lv_iload_n C.1.1 C.1.2.1 dX12_valueNow_113 rfl (lv_at hl 0 rfl) ?_
  obtain ⟨h_2, hF⟩ := chk_some hF
  refine m_r43 C X  (inb_vp h_2) rfl dX12_valueNow_114 ?_
  obtain ⟨q1, hq1, hF⟩ := bnd_some hF
  refine g_callSi C X vX12_reckon (kX12_reckon O C.2.2.2.2.1 N x5 (S 43 (Int32.toNatClampNeg ((((x3 + (-1) : Int32)) - 1 : Int32)))) (S 43 (Int32.toNatClampNeg ((x3 + (-1) : Int32))))  S q1 hq1) (Nat.le_of_ble_eq_true rfl) (Nat.le_of_ble_eq_true rfl) (Nat.le_of_ble_eq_true rfl) (Nat.le_of_ble_eq_true rfl) rfl hl.1 rfl (Nat.le_of_ble_eq_true rfl) dX12_valueNow_115 (fun H locs X => ?_)
  obtain ⟨h_3, hF⟩ := chk_some hF
  obtain ⟨S2, eS2, hF⟩ := lt_some hF
  refine m_w43 C O X  (inb_vp h_3) rfl eS2 dX12_valueNow_118 (fun H locs X => ?_)
  exact bX12_valueNow_119 C O K5 hk_k1 X (lv_sub hl [1, 2, 3, 0, 4] rfl) hF
noncomputable def fX12_valueNow_b85 (N : Nat) (r5 : Nat → Int32 → Int32 → Int32 → gS → Option (Int32 × gS)) (k1 : Nat) (x2 : Int32) (x3 : Int32) (x4 : Int32) (t1 : Int32) (t2 : Int32) (S : gS) : Option (Int32 × gS) := chk (inb t1 (64)) (lt (sU S 43 (Int32.toNatClampNeg t1) t2) fun S1 => (fX12_valueNow_b119 N r5 k1 x2 x3 x4 S1))
theorem bX12_valueNow_85 {N : Nat} {r5 : Nat → Int32 → Int32 → Int32 → gS → Option (Int32 × gS)} {k1 : Nat} {x2 : Int32} {x3 : Int32} {x4 : Int32} {t1 : Int32} {t2 : Int32} {S : gS} {H : Heap} {locs : List Loc} {ls : Array Slot} {o : Int32 × gS} (C : gC p s m args meth c cX12_valueNow 6 RX12 ((some .int)) D (mtys cI cS) mord g Am) (O : gO (mcell g cI cS sa) mord g) (K5 : ∀ (k1 : Nat) (x2 : Int32) (x3 : Int32) (x4 : Int32) (hk_k1 : mI k1 = true) (S : gS) (H : Heap) (locs : List Loc) (ls : Array Slot), gX D (mcell g cI cS sa) mord g S s H locs → lv_has ls 6 [(0, .ref (g 99)), (1, .ref (g k1)), (2, .int x2), (3, .int x3), (4, .int x4)] → r5 k1 x2 x3 x4 S = some o → W p l e (rmd 1) s m args below meth c H locs 0 0 (gE below args s D (mtys cI cS) (mcell g cI cS sa) mord g (some (.int o.1)) o.2) (F0 m 5 ls [])) (hk_k1 : mI k1 = true) (X : gX D (mcell g cI cS sa) mord g S s H locs) (hl : lv_has ls 6 [(0, .ref (g 99)), (1, .ref (g k1)), (2, .int x2), (3, .int x3), (4, .int x4)]) (hF : fX12_valueNow_b85 N r5 k1 x2 x3 x4 t1 t2 S = some o) : W p l e (rmd 1) s m args below meth c H locs 0 0 (gE below args s D (mtys cI cS) (mcell g cI cS sa) mord g (some (.int o.1)) o.2) (F0 m 85 ls [.int t2, .int t1, .ref (g 43)]) := by
  unfold fX12_valueNow_b85 at hF
  obtain ⟨h_1, hF⟩ := chk_some hF
  obtain ⟨S1, eS1, hF⟩ := lt_some hF
  refine m_w43 C O X  (inb_vp h_1) rfl eS1 dX12_valueNow_85 (fun H locs X => ?_)
  refine lv_goto (tgt := 119) C.1.1 C.1.2.1 dX12_valueNow_86 (by decide) ?_
  exact bX12_valueNow_119 C O K5 hk_k1 X (lv_sub hl [0, 1, 2, 3, 4] rfl) hF
noncomputable def fX12_valueNow_b84 (N : Nat) (r5 : Nat → Int32 → Int32 → Int32 → gS → Option (Int32 × gS)) (k1 : Nat) (x2 : Int32) (x3 : Int32) (x4 : Int32) (t1 : Int32) (S : gS) : Option (Int32 × gS) := fX12_valueNow_b85 N r5 k1 x2 x3 x4 t1 1 S
theorem bX12_valueNow_84 {N : Nat} {r5 : Nat → Int32 → Int32 → Int32 → gS → Option (Int32 × gS)} {k1 : Nat} {x2 : Int32} {x3 : Int32} {x4 : Int32} {t1 : Int32} {S : gS} {H : Heap} {locs : List Loc} {ls : Array Slot} {o : Int32 × gS} (C : gC p s m args meth c cX12_valueNow 6 RX12 ((some .int)) D (mtys cI cS) mord g Am) (O : gO (mcell g cI cS sa) mord g) (K5 : ∀ (k1 : Nat) (x2 : Int32) (x3 : Int32) (x4 : Int32) (hk_k1 : mI k1 = true) (S : gS) (H : Heap) (locs : List Loc) (ls : Array Slot), gX D (mcell g cI cS sa) mord g S s H locs → lv_has ls 6 [(0, .ref (g 99)), (1, .ref (g k1)), (2, .int x2), (3, .int x3), (4, .int x4)] → r5 k1 x2 x3 x4 S = some o → W p l e (rmd 1) s m args below meth c H locs 0 0 (gE below args s D (mtys cI cS) (mcell g cI cS sa) mord g (some (.int o.1)) o.2) (F0 m 5 ls [])) (hk_k1 : mI k1 = true) (X : gX D (mcell g cI cS sa) mord g S s H locs) (hl : lv_has ls 6 [(0, .ref (g 99)), (1, .ref (g k1)), (2, .int x2), (3, .int x3), (4, .int x4)]) (hF : fX12_valueNow_b84 N r5 k1 x2 x3 x4 t1 S = some o) : W p l e (rmd 1) s m args below meth c H locs 0 0 (gE below args s D (mtys cI cS) (mcell g cI cS sa) mord g (some (.int o.1)) o.2) (F0 m 84 ls [.int t1, .ref (g 43)]) := by
  unfold fX12_valueNow_b84 at hF
  refine lv_iconst (v := 1) C.1.1 C.1.2.1 dX12_valueNow_84 (by decide) ?_
  exact bX12_valueNow_85 C O K5 hk_k1 X (lv_sub hl [0, 1, 2, 3, 4] rfl) hF
noncomputable def fX12_valueNow_b80 (N : Nat) (r5 : Nat → Int32 → Int32 → Int32 → gS → Option (Int32 × gS)) (k1 : Nat) (x2 : Int32) (x3 : Int32) (x4 : Int32) (t1 : Int32) (S : gS) : Option (Int32 × gS) := fX12_valueNow_b85 N r5 k1 x2 x3 x4 t1 0 S
theorem bX12_valueNow_80 {N : Nat} {r5 : Nat → Int32 → Int32 → Int32 → gS → Option (Int32 × gS)} {k1 : Nat} {x2 : Int32} {x3 : Int32} {x4 : Int32} {t1 : Int32} {S : gS} {H : Heap} {locs : List Loc} {ls : Array Slot} {o : Int32 × gS} (C : gC p s m args meth c cX12_valueNow 6 RX12 ((some .int)) D (mtys cI cS) mord g Am) (O : gO (mcell g cI cS sa) mord g) (K5 : ∀ (k1 : Nat) (x2 : Int32) (x3 : Int32) (x4 : Int32) (hk_k1 : mI k1 = true) (S : gS) (H : Heap) (locs : List Loc) (ls : Array Slot), gX D (mcell g cI cS sa) mord g S s H locs → lv_has ls 6 [(0, .ref (g 99)), (1, .ref (g k1)), (2, .int x2), (3, .int x3), (4, .int x4)] → r5 k1 x2 x3 x4 S = some o → W p l e (rmd 1) s m args below meth c H locs 0 0 (gE below args s D (mtys cI cS) (mcell g cI cS sa) mord g (some (.int o.1)) o.2) (F0 m 5 ls [])) (hk_k1 : mI k1 = true) (X : gX D (mcell g cI cS sa) mord g S s H locs) (hl : lv_has ls 6 [(0, .ref (g 99)), (1, .ref (g k1)), (2, .int x2), (3, .int x3), (4, .int x4)]) (hF : fX12_valueNow_b80 N r5 k1 x2 x3 x4 t1 S = some o) : W p l e (rmd 1) s m args below meth c H locs 0 0 (gE below args s D (mtys cI cS) (mcell g cI cS sa) mord g (some (.int o.1)) o.2) (F0 m 80 ls [.int t1, .ref (g 43)]) := by
  unfold fX12_valueNow_b80 at hF
  refine lv_iconst (v := 0) C.1.1 C.1.2.1 dX12_valueNow_80 (by decide) ?_
  refine lv_goto (tgt := 85) C.1.1 C.1.2.1 dX12_valueNow_81 (by decide) ?_
  exact bX12_valueNow_85 C O K5 hk_k1 X (lv_sub hl [0, 1, 2, 3, 4] rfl) hF
noncomputable def fX12_valueNow_b62 (N : Nat) (r5 : Nat → Int32 → Int32 → Int32 → gS → Option (Int32 × gS)) (k1 : Nat) (x2 : Int32) (x3 : Int32) (x4 : Int32) (S : gS) : Option (Int32 × gS) := chk (inb ((x3 - 1 : Int32)) (64)) (if (S 43 (Int32.toNatClampNeg ((x3 - 1 : Int32)))) = 0 then fX12_valueNow_b84 N r5 k1 x2 x3 x4 ((x3 - 1 : Int32)) S else fX12_valueNow_b80 N r5 k1 x2 x3 x4 ((x3 - 1 : Int32)) S)
theorem bX12_valueNow_62 {N : Nat} {r5 : Nat → Int32 → Int32 → Int32 → gS → Option (Int32 × gS)} {k1 : Nat} {x2 : Int32} {x3 : Int32} {x4 : Int32} {S : gS} {H : Heap} {locs : List Loc} {ls : Array Slot} {o : Int32 × gS} (C : gC p s m args meth c cX12_valueNow 6 RX12 ((some .int)) D (mtys cI cS) mord g Am) (O : gO (mcell g cI cS sa) mord g) (K5 : ∀ (k1 : Nat) (x2 : Int32) (x3 : Int32) (x4 : Int32) (hk_k1 : mI k1 = true) (S : gS) (H : Heap) (locs : List Loc) (ls : Array Slot), gX D (mcell g cI cS sa) mord g S s H locs → lv_has ls 6 [(0, .ref (g 99)), (1, .ref (g k1)), (2, .int x2), (3, .int x3), (4, .int x4)] → r5 k1 x2 x3 x4 S = some o → W p l e (rmd 1) s m args below meth c H locs 0 0 (gE below args s D (mtys cI cS) (mcell g cI cS sa) mord g (some (.int o.1)) o.2) (F0 m 5 ls [])) (hk_k1 : mI k1 = true) (X : gX D (mcell g cI cS sa) mord g S s H locs) (hl : lv_has ls 6 [(0, .ref (g 99)), (1, .ref (g k1)), (2, .int x2), (3, .int x3), (4, .int x4)]) (hF : fX12_valueNow_b62 N r5 k1 x2 x3 x4 S = some o) : W p l e (rmd 1) s m args below meth c H locs 0 0 (gE below args s D (mtys cI cS) (mcell g cI cS sa) mord g (some (.int o.1)) o.2) (F0 m 62 ls []) := by
  unfold fX12_valueNow_b62 at hF
  refine lv_aload_n C.1.1 C.1.2.1 dX12_valueNow_62 rfl (lv_at hl 0 rfl) ?_
  refine m_g43 C X dX12_valueNow_63 ?_
  refine lv_iload_n C.1.1 C.1.2.1 dX12_valueNow_66 rfl (lv_at hl 3 rfl) ?_
  refine lv_iconst (v := 1) C.1.1 C.1.2.1 dX12_valueNow_67 (by decide) ?_
  refine lv_isub C.1.1 C.1.2.1 dX12_valueNow_68 ?_
  refine lv_aload_n C.1.1 C.1.2.1 dX12_valueNow_69 rfl (lv_at hl 0 rfl) ?_
  refine m_g43 C X dX12_valueNow_70 ?_
  refine lv_iload_n C.1.1 C.1.2.1 dX12_valueNow_73 rfl (lv_at hl 3 rfl) ?_
  refine lv_iconst (v := 1) C.1.1 C.1.2.1 dX12_valueNow_74 (by decide) ?_
  refine lv_isub C.1.1 C.1.2.1 dX12_valueNow_75 ?_
  obtain ⟨h_1, hF⟩ := chk_some hF
  refine m_r43 C X  (inb_vp h_1) rfl dX12_valueNow_76 ?_
  refine lv_if_eq (tgt := 84) C.1.1 C.1.2.1 dX12_valueNow_77 (by decide) (fun h_z => ?_) (fun h_z => ?_)
  · rw [if_pos h_z] at hF
    exact bX12_valueNow_84 C O K5 hk_k1 X (lv_sub hl [0, 1, 2, 3, 4] rfl) hF
  · rw [if_neg h_z] at hF
    exact bX12_valueNow_80 C O K5 hk_k1 X (lv_sub hl [0, 1, 2, 3, 4] rfl) hF
noncomputable def fX12_valueNow_b55 (N : Nat) (r5 : Nat → Int32 → Int32 → Int32 → gS → Option (Int32 × gS)) (k1 : Nat) (x2 : Int32) (x3 : Int32) (x4 : Int32) (x5 : Int32) (S : gS) : Option (Int32 × gS) := if x5 = ((-28)) then fX12_valueNow_b62 N r5 k1 x2 x3 x4 S else fX12_valueNow_b89 N r5 k1 x2 x3 x4 x5 S
theorem bX12_valueNow_55 {N : Nat} {r5 : Nat → Int32 → Int32 → Int32 → gS → Option (Int32 × gS)} {k1 : Nat} {x2 : Int32} {x3 : Int32} {x4 : Int32} {x5 : Int32} {S : gS} {H : Heap} {locs : List Loc} {ls : Array Slot} {o : Int32 × gS} (C : gC p s m args meth c cX12_valueNow 6 RX12 ((some .int)) D (mtys cI cS) mord g Am) (O : gO (mcell g cI cS sa) mord g) (K5 : ∀ (k1 : Nat) (x2 : Int32) (x3 : Int32) (x4 : Int32) (hk_k1 : mI k1 = true) (S : gS) (H : Heap) (locs : List Loc) (ls : Array Slot), gX D (mcell g cI cS sa) mord g S s H locs → lv_has ls 6 [(0, .ref (g 99)), (1, .ref (g k1)), (2, .int x2), (3, .int x3), (4, .int x4)] → r5 k1 x2 x3 x4 S = some o → W p l e (rmd 1) s m args below meth c H locs 0 0 (gE below args s D (mtys cI cS) (mcell g cI cS sa) mord g (some (.int o.1)) o.2) (F0 m 5 ls [])) (hk_k1 : mI k1 = true) (X : gX D (mcell g cI cS sa) mord g S s H locs) (hl : lv_has ls 6 [(0, .ref (g 99)), (1, .ref (g k1)), (2, .int x2), (3, .int x3), (4, .int x4), (5, .int x5)]) (hF : fX12_valueNow_b55 N r5 k1 x2 x3 x4 x5 S = some o) : W p l e (rmd 1) s m args below meth c H locs 0 0 (gE below args s D (mtys cI cS) (mcell g cI cS sa) mord g (some (.int o.1)) o.2) (F0 m 55 ls []) := by
  unfold fX12_valueNow_b55 at hF
  refine lv_iload C.1.1 C.1.2.1 dX12_valueNow_55 (lv_at hl 5 rfl) ?_
  refine lv_bipush (v := (-28)) C.1.1 C.1.2.1 dX12_valueNow_57 (by decide) ?_
  refine lv_icmp_ne (tgt := 89) C.1.1 C.1.2.1 dX12_valueNow_59 (by decide) (fun h_z => ?_) (fun h_z => ?_)
  · rw [if_neg h_z] at hF
    exact bX12_valueNow_89 C O K5 hk_k1 X (lv_sub hl [0, 1, 2, 3, 4, 5] rfl) hF
  · rw [if_pos h_z] at hF
    exact bX12_valueNow_62 C O K5 hk_k1 X (lv_sub hl [0, 1, 2, 3, 4] rfl) hF
noncomputable def fX12_valueNow_b48 (N : Nat) (r5 : Nat → Int32 → Int32 → Int32 → gS → Option (Int32 × gS)) (k1 : Nat) (x2 : Int32) (x3 : Int32) (x4 : Int32) (t1 : Int32) (t2 : Int32) (S : gS) : Option (Int32 × gS) := chk (inb t1 (64)) (lt (sU S 43 (Int32.toNatClampNeg t1) t2) fun S1 => (fX12_valueNow_b119 N r5 k1 x2 ((x3 + 1 : Int32)) x4 S1))
theorem bX12_valueNow_48 {N : Nat} {r5 : Nat → Int32 → Int32 → Int32 → gS → Option (Int32 × gS)} {k1 : Nat} {x2 : Int32} {x3 : Int32} {x4 : Int32} {t1 : Int32} {t2 : Int32} {S : gS} {H : Heap} {locs : List Loc} {ls : Array Slot} {o : Int32 × gS} (C : gC p s m args meth c cX12_valueNow 6 RX12 ((some .int)) D (mtys cI cS) mord g Am) (O : gO (mcell g cI cS sa) mord g) (K5 : ∀ (k1 : Nat) (x2 : Int32) (x3 : Int32) (x4 : Int32) (hk_k1 : mI k1 = true) (S : gS) (H : Heap) (locs : List Loc) (ls : Array Slot), gX D (mcell g cI cS sa) mord g S s H locs → lv_has ls 6 [(0, .ref (g 99)), (1, .ref (g k1)), (2, .int x2), (3, .int x3), (4, .int x4)] → r5 k1 x2 x3 x4 S = some o → W p l e (rmd 1) s m args below meth c H locs 0 0 (gE below args s D (mtys cI cS) (mcell g cI cS sa) mord g (some (.int o.1)) o.2) (F0 m 5 ls [])) (hk_k1 : mI k1 = true) (X : gX D (mcell g cI cS sa) mord g S s H locs) (hl : lv_has ls 6 [(0, .ref (g 99)), (1, .ref (g k1)), (2, .int x2), (3, .int x3), (4, .int x4)]) (hF : fX12_valueNow_b48 N r5 k1 x2 x3 x4 t1 t2 S = some o) : W p l e (rmd 1) s m args below meth c H locs 0 0 (gE below args s D (mtys cI cS) (mcell g cI cS sa) mord g (some (.int o.1)) o.2) (F0 m 48 ls [.int t2, .int t1, .ref (g 43)]) := by
  unfold fX12_valueNow_b48 at hF
  obtain ⟨h_1, hF⟩ := chk_some hF
  obtain ⟨S1, eS1, hF⟩ := lt_some hF
  refine m_w43 C O X  (inb_vp h_1) rfl eS1 dX12_valueNow_48 (fun H locs X => ?_)
  refine lv_iinc (v := (x3 + 1 : Int32)) (lv' := [(3, .int ((x3 + 1 : Int32))), (0, .ref (g 99)), (1, .ref (g k1)), (2, .int x2), (4, .int x4)]) C.1.1 C.1.2.1 dX12_valueNow_49 hl (k := 3) rfl rfl (by decide) rfl (fun ls hl => ?_)
  refine lv_goto (tgt := 119) C.1.1 C.1.2.1 dX12_valueNow_52 (by decide) ?_
  exact bX12_valueNow_119 C O K5 hk_k1 X (lv_sub hl [1, 2, 3, 0, 4] rfl) hF
noncomputable def fX12_valueNow_b39 (N : Nat) (r5 : Nat → Int32 → Int32 → Int32 → gS → Option (Int32 × gS)) (k1 : Nat) (x2 : Int32) (x3 : Int32) (x4 : Int32) (x5 : Int32) (t1 : Int32) (S : gS) : Option (Int32 × gS) := chk (inb ((((-1)) - x5 : Int32)) (7)) (fX12_valueNow_b48 N r5 k1 x2 x3 x4 t1 (S 42 (Int32.toNatClampNeg ((((-1)) - x5 : Int32)))) S)
theorem bX12_valueNow_39 {N : Nat} {r5 : Nat → Int32 → Int32 → Int32 → gS → Option (Int32 × gS)} {k1 : Nat} {x2 : Int32} {x3 : Int32} {x4 : Int32} {x5 : Int32} {t1 : Int32} {S : gS} {H : Heap} {locs : List Loc} {ls : Array Slot} {o : Int32 × gS} (C : gC p s m args meth c cX12_valueNow 6 RX12 ((some .int)) D (mtys cI cS) mord g Am) (O : gO (mcell g cI cS sa) mord g) (K5 : ∀ (k1 : Nat) (x2 : Int32) (x3 : Int32) (x4 : Int32) (hk_k1 : mI k1 = true) (S : gS) (H : Heap) (locs : List Loc) (ls : Array Slot), gX D (mcell g cI cS sa) mord g S s H locs → lv_has ls 6 [(0, .ref (g 99)), (1, .ref (g k1)), (2, .int x2), (3, .int x3), (4, .int x4)] → r5 k1 x2 x3 x4 S = some o → W p l e (rmd 1) s m args below meth c H locs 0 0 (gE below args s D (mtys cI cS) (mcell g cI cS sa) mord g (some (.int o.1)) o.2) (F0 m 5 ls [])) (hk_k1 : mI k1 = true) (X : gX D (mcell g cI cS sa) mord g S s H locs) (hl : lv_has ls 6 [(0, .ref (g 99)), (1, .ref (g k1)), (2, .int x2), (3, .int x3), (4, .int x4), (5, .int x5)]) (hF : fX12_valueNow_b39 N r5 k1 x2 x3 x4 x5 t1 S = some o) : W p l e (rmd 1) s m args below meth c H locs 0 0 (gE below args s D (mtys cI cS) (mcell g cI cS sa) mord g (some (.int o.1)) o.2) (F0 m 39 ls [.int t1, .ref (g 43)]) := by
  unfold fX12_valueNow_b39 at hF
  refine lv_aload_n C.1.1 C.1.2.1 dX12_valueNow_39 rfl (lv_at hl 0 rfl) ?_
  refine m_g42 C X dX12_valueNow_40 ?_
  refine lv_iconst (v := (-1)) C.1.1 C.1.2.1 dX12_valueNow_43 (by decide) ?_
  refine lv_iload C.1.1 C.1.2.1 dX12_valueNow_44 (lv_at hl 5 rfl) ?_
  refine lv_isub C.1.1 C.1.2.1 dX12_valueNow_46 ?_
  obtain ⟨h_1, hF⟩ := chk_some hF
  refine m_r42 C X  (inb_vp h_1) rfl dX12_valueNow_47 ?_
  exact bX12_valueNow_48 C O K5 hk_k1 X (lv_sub hl [0, 1, 2, 3, 4] rfl) hF
noncomputable def fX12_valueNow_b34 (N : Nat) (r5 : Nat → Int32 → Int32 → Int32 → gS → Option (Int32 × gS)) (k1 : Nat) (x2 : Int32) (x3 : Int32) (x4 : Int32) (x5 : Int32) (t1 : Int32) (S : gS) : Option (Int32 × gS) := fX12_valueNow_b48 N r5 k1 x2 x3 x4 t1 x5 S
theorem bX12_valueNow_34 {N : Nat} {r5 : Nat → Int32 → Int32 → Int32 → gS → Option (Int32 × gS)} {k1 : Nat} {x2 : Int32} {x3 : Int32} {x4 : Int32} {x5 : Int32} {t1 : Int32} {S : gS} {H : Heap} {locs : List Loc} {ls : Array Slot} {o : Int32 × gS} (C : gC p s m args meth c cX12_valueNow 6 RX12 ((some .int)) D (mtys cI cS) mord g Am) (O : gO (mcell g cI cS sa) mord g) (K5 : ∀ (k1 : Nat) (x2 : Int32) (x3 : Int32) (x4 : Int32) (hk_k1 : mI k1 = true) (S : gS) (H : Heap) (locs : List Loc) (ls : Array Slot), gX D (mcell g cI cS sa) mord g S s H locs → lv_has ls 6 [(0, .ref (g 99)), (1, .ref (g k1)), (2, .int x2), (3, .int x3), (4, .int x4)] → r5 k1 x2 x3 x4 S = some o → W p l e (rmd 1) s m args below meth c H locs 0 0 (gE below args s D (mtys cI cS) (mcell g cI cS sa) mord g (some (.int o.1)) o.2) (F0 m 5 ls [])) (hk_k1 : mI k1 = true) (X : gX D (mcell g cI cS sa) mord g S s H locs) (hl : lv_has ls 6 [(0, .ref (g 99)), (1, .ref (g k1)), (2, .int x2), (3, .int x3), (4, .int x4), (5, .int x5)]) (hF : fX12_valueNow_b34 N r5 k1 x2 x3 x4 x5 t1 S = some o) : W p l e (rmd 1) s m args below meth c H locs 0 0 (gE below args s D (mtys cI cS) (mcell g cI cS sa) mord g (some (.int o.1)) o.2) (F0 m 34 ls [.int t1, .ref (g 43)]) := by
  unfold fX12_valueNow_b34 at hF
  refine lv_iload C.1.1 C.1.2.1 dX12_valueNow_34 (lv_at hl 5 rfl) ?_
  refine lv_goto (tgt := 48) C.1.1 C.1.2.1 dX12_valueNow_36 (by decide) ?_
  exact bX12_valueNow_48 C O K5 hk_k1 X (lv_sub hl [0, 1, 2, 3, 4] rfl) hF
noncomputable def fX12_valueNow_b24 (N : Nat) (r5 : Nat → Int32 → Int32 → Int32 → gS → Option (Int32 × gS)) (k1 : Nat) (x2 : Int32) (x3 : Int32) (x4 : Int32) (x5 : Int32) (S : gS) : Option (Int32 × gS) := if x5 < 0 then fX12_valueNow_b39 N r5 k1 x2 x3 x4 x5 x3 S else fX12_valueNow_b34 N r5 k1 x2 x3 x4 x5 x3 S
theorem bX12_valueNow_24 {N : Nat} {r5 : Nat → Int32 → Int32 → Int32 → gS → Option (Int32 × gS)} {k1 : Nat} {x2 : Int32} {x3 : Int32} {x4 : Int32} {x5 : Int32} {S : gS} {H : Heap} {locs : List Loc} {ls : Array Slot} {o : Int32 × gS} (C : gC p s m args meth c cX12_valueNow 6 RX12 ((some .int)) D (mtys cI cS) mord g Am) (O : gO (mcell g cI cS sa) mord g) (K5 : ∀ (k1 : Nat) (x2 : Int32) (x3 : Int32) (x4 : Int32) (hk_k1 : mI k1 = true) (S : gS) (H : Heap) (locs : List Loc) (ls : Array Slot), gX D (mcell g cI cS sa) mord g S s H locs → lv_has ls 6 [(0, .ref (g 99)), (1, .ref (g k1)), (2, .int x2), (3, .int x3), (4, .int x4)] → r5 k1 x2 x3 x4 S = some o → W p l e (rmd 1) s m args below meth c H locs 0 0 (gE below args s D (mtys cI cS) (mcell g cI cS sa) mord g (some (.int o.1)) o.2) (F0 m 5 ls [])) (hk_k1 : mI k1 = true) (X : gX D (mcell g cI cS sa) mord g S s H locs) (hl : lv_has ls 6 [(0, .ref (g 99)), (1, .ref (g k1)), (2, .int x2), (3, .int x3), (4, .int x4), (5, .int x5)]) (hF : fX12_valueNow_b24 N r5 k1 x2 x3 x4 x5 S = some o) : W p l e (rmd 1) s m args below meth c H locs 0 0 (gE below args s D (mtys cI cS) (mcell g cI cS sa) mord g (some (.int o.1)) o.2) (F0 m 24 ls []) := by
  unfold fX12_valueNow_b24 at hF
  refine lv_aload_n C.1.1 C.1.2.1 dX12_valueNow_24 rfl (lv_at hl 0 rfl) ?_
  refine m_g43 C X dX12_valueNow_25 ?_
  refine lv_iload_n C.1.1 C.1.2.1 dX12_valueNow_28 rfl (lv_at hl 3 rfl) ?_
  refine lv_iload C.1.1 C.1.2.1 dX12_valueNow_29 (lv_at hl 5 rfl) ?_
  refine lv_if_lt (tgt := 39) C.1.1 C.1.2.1 dX12_valueNow_31 (by decide) (fun h_z => ?_) (fun h_z => ?_)
  · rw [if_pos h_z] at hF
    exact bX12_valueNow_39 C O K5 hk_k1 X (lv_sub hl [0, 1, 2, 3, 4, 5] rfl) hF
  · rw [if_neg h_z] at hF
    exact bX12_valueNow_34 C O K5 hk_k1 X (lv_sub hl [0, 1, 2, 3, 4, 5] rfl) hF
noncomputable def fX12_valueNow_b11 (N : Nat) (r5 : Nat → Int32 → Int32 → Int32 → gS → Option (Int32 × gS)) (k1 : Nat) (x2 : Int32) (x3 : Int32) (x4 : Int32) (S : gS) : Option (Int32 × gS) := chk (inb x4 (mN k1)) (if (S k1 (Int32.toNatClampNeg x4)) ≤ ((-20)) then fX12_valueNow_b55 N r5 k1 x2 x3 x4 (S k1 (Int32.toNatClampNeg x4)) S else fX12_valueNow_b24 N r5 k1 x2 x3 x4 (S k1 (Int32.toNatClampNeg x4)) S)
theorem bX12_valueNow_11 {N : Nat} {r5 : Nat → Int32 → Int32 → Int32 → gS → Option (Int32 × gS)} {k1 : Nat} {x2 : Int32} {x3 : Int32} {x4 : Int32} {S : gS} {H : Heap} {locs : List Loc} {ls : Array Slot} {o : Int32 × gS} (C : gC p s m args meth c cX12_valueNow 6 RX12 ((some .int)) D (mtys cI cS) mord g Am) (O : gO (mcell g cI cS sa) mord g) (K5 : ∀ (k1 : Nat) (x2 : Int32) (x3 : Int32) (x4 : Int32) (hk_k1 : mI k1 = true) (S : gS) (H : Heap) (locs : List Loc) (ls : Array Slot), gX D (mcell g cI cS sa) mord g S s H locs → lv_has ls 6 [(0, .ref (g 99)), (1, .ref (g k1)), (2, .int x2), (3, .int x3), (4, .int x4)] → r5 k1 x2 x3 x4 S = some o → W p l e (rmd 1) s m args below meth c H locs 0 0 (gE below args s D (mtys cI cS) (mcell g cI cS sa) mord g (some (.int o.1)) o.2) (F0 m 5 ls [])) (hk_k1 : mI k1 = true) (X : gX D (mcell g cI cS sa) mord g S s H locs) (hl : lv_has ls 6 [(0, .ref (g 99)), (1, .ref (g k1)), (2, .int x2), (3, .int x3), (4, .int x4)]) (hF : fX12_valueNow_b11 N r5 k1 x2 x3 x4 S = some o) : W p l e (rmd 1) s m args below meth c H locs 0 0 (gE below args s D (mtys cI cS) (mcell g cI cS sa) mord g (some (.int o.1)) o.2) (F0 m 11 ls []) := by
  unfold fX12_valueNow_b11 at hF
  refine lv_aload_n C.1.1 C.1.2.1 dX12_valueNow_11 rfl (lv_at hl 1 rfl) ?_
  refine lv_iload C.1.1 C.1.2.1 dX12_valueNow_12 (lv_at hl 4 rfl) ?_
  obtain ⟨h_1, hF⟩ := chk_some hF
  refine m_rv C X (k := k1) hk_k1  (inb_vp h_1) rfl dX12_valueNow_14 ?_
  refine lv_istore (lv' := [(5, .int (S k1 (Int32.toNatClampNeg x4))), (0, .ref (g 99)), (1, .ref (g k1)), (2, .int x2), (3, .int x3), (4, .int x4)]) C.1.1 C.1.2.1 dX12_valueNow_15 hl (by decide) rfl (fun ls hl => ?_)
  refine lv_iload C.1.1 C.1.2.1 dX12_valueNow_17 (lv_at hl 0 rfl) ?_
  refine lv_bipush (v := (-20)) C.1.1 C.1.2.1 dX12_valueNow_19 (by decide) ?_
  refine lv_icmp_le (tgt := 55) C.1.1 C.1.2.1 dX12_valueNow_21 (by decide) (fun h_z => ?_) (fun h_z => ?_)
  · rw [if_pos h_z] at hF
    exact bX12_valueNow_55 C O K5 hk_k1 X (lv_sub hl [1, 2, 3, 4, 5, 0] rfl) hF
  · rw [if_neg h_z] at hF
    exact bX12_valueNow_24 C O K5 hk_k1 X (lv_sub hl [1, 2, 3, 4, 5, 0] rfl) hF
noncomputable def fX12_valueNow_b5 (N : Nat) (r5 : Nat → Int32 → Int32 → Int32 → gS → Option (Int32 × gS)) (k1 : Nat) (x2 : Int32) (x3 : Int32) (x4 : Int32) (S : gS) : Option (Int32 × gS) := if x2 ≤ x4 then fX12_valueNow_b125 N S else fX12_valueNow_b11 N r5 k1 x2 x3 x4 S
theorem bX12_valueNow_5 {N : Nat} {r5 : Nat → Int32 → Int32 → Int32 → gS → Option (Int32 × gS)} {k1 : Nat} {x2 : Int32} {x3 : Int32} {x4 : Int32} {S : gS} {H : Heap} {locs : List Loc} {ls : Array Slot} {o : Int32 × gS} (C : gC p s m args meth c cX12_valueNow 6 RX12 ((some .int)) D (mtys cI cS) mord g Am) (O : gO (mcell g cI cS sa) mord g) (K5 : ∀ (k1 : Nat) (x2 : Int32) (x3 : Int32) (x4 : Int32) (hk_k1 : mI k1 = true) (S : gS) (H : Heap) (locs : List Loc) (ls : Array Slot), gX D (mcell g cI cS sa) mord g S s H locs → lv_has ls 6 [(0, .ref (g 99)), (1, .ref (g k1)), (2, .int x2), (3, .int x3), (4, .int x4)] → r5 k1 x2 x3 x4 S = some o → W p l e (rmd 1) s m args below meth c H locs 0 0 (gE below args s D (mtys cI cS) (mcell g cI cS sa) mord g (some (.int o.1)) o.2) (F0 m 5 ls [])) (hk_k1 : mI k1 = true) (X : gX D (mcell g cI cS sa) mord g S s H locs) (hl : lv_has ls 6 [(0, .ref (g 99)), (1, .ref (g k1)), (2, .int x2), (3, .int x3), (4, .int x4)]) (hF : fX12_valueNow_b5 N r5 k1 x2 x3 x4 S = some o) : W p l e (rmd 1) s m args below meth c H locs 0 0 (gE below args s D (mtys cI cS) (mcell g cI cS sa) mord g (some (.int o.1)) o.2) (F0 m 5 ls []) := by
  unfold fX12_valueNow_b5 at hF
  refine lv_iload C.1.1 C.1.2.1 dX12_valueNow_5 (lv_at hl 4 rfl) ?_
  refine lv_iload_n C.1.1 C.1.2.1 dX12_valueNow_7 rfl (lv_at hl 2 rfl) ?_
  refine lv_icmp_ge (tgt := 125) C.1.1 C.1.2.1 dX12_valueNow_8 (by decide) (fun h_z => ?_) (fun h_z => ?_)
  · rw [if_pos h_z] at hF
    exact bX12_valueNow_125 C O X (lv_sub hl [0] rfl) hF
  · rw [if_neg h_z] at hF
    exact bX12_valueNow_11 C O K5 hk_k1 X (lv_sub hl [0, 1, 2, 3, 4] rfl) hF
noncomputable def fX12_valueNow_h5 (N : Nat) : Nat → Nat → Int32 → Int32 → Int32 → gS → Option (Int32 × gS)
  | 0, _, _, _, _, _ => none
  | n + 1, k1, x2, x3, x4, S => fX12_valueNow_b5 N (fX12_valueNow_h5 N n) k1 x2 x3 x4 S
theorem hX12_valueNow_5 {N : Nat} {o : Int32 × gS} (C : gC p s m args meth c cX12_valueNow 6 RX12 ((some .int)) D (mtys cI cS) mord g Am) (O : gO (mcell g cI cS sa) mord g) : ∀ (n : Nat) (k1 : Nat) (x2 : Int32) (x3 : Int32) (x4 : Int32) (hk_k1 : mI k1 = true) (S : gS) (H : Heap) (locs : List Loc) (ls : Array Slot), gX D (mcell g cI cS sa) mord g S s H locs → lv_has ls 6 [(0, .ref (g 99)), (1, .ref (g k1)), (2, .int x2), (3, .int x3), (4, .int x4)] → fX12_valueNow_h5 N n k1 x2 x3 x4 S = some o → W p l e (rmd 1) s m args below meth c H locs 0 0 (gE below args s D (mtys cI cS) (mcell g cI cS sa) mord g (some (.int o.1)) o.2) (F0 m 5 ls []) := by
  intro n
  induction n with
  | zero =>
    intro k1 x2 x3 x4 hk_k1 S H locs ls X hl hF
    exact absurd (show (none : Option (Int32 × gS)) = some o from hF) (by simp)
  | succ n ih =>
    intro k1 x2 x3 x4 hk_k1 S H locs ls X hl hF
    have hF : fX12_valueNow_b5 N (fX12_valueNow_h5 N n) k1 x2 x3 x4 S = some o := hF
    exact bX12_valueNow_5 C O ih hk_k1 X hl hF
noncomputable def fX12_valueNow_b0 (N : Nat) (k1 : Nat) (x2 : Int32) (S : gS) : Option (Int32 × gS) := fX12_valueNow_h5 N N k1 x2 0 0 S
theorem bX12_valueNow_0 {N : Nat} {k1 : Nat} {x2 : Int32} {S : gS} {H : Heap} {locs : List Loc} {ls : Array Slot} {o : Int32 × gS} (C : gC p s m args meth c cX12_valueNow 6 RX12 ((some .int)) D (mtys cI cS) mord g Am) (O : gO (mcell g cI cS sa) mord g) (hk_k1 : mI k1 = true) (X : gX D (mcell g cI cS sa) mord g S s H locs) (hl : lv_has ls 6 [(0, .ref (g 99)), (1, .ref (g k1)), (2, .int x2)]) (hF : fX12_valueNow_b0 N k1 x2 S = some o) : W p l e (rmd 1) s m args below meth c H locs 0 0 (gE below args s D (mtys cI cS) (mcell g cI cS sa) mord g (some (.int o.1)) o.2) (F0 m 0 ls []) := by
  unfold fX12_valueNow_b0 at hF
  refine lv_iconst (v := 0) C.1.1 C.1.2.1 dX12_valueNow_0 (by decide) ?_
  refine lv_istore_n (lv' := [(3, .int 0), (0, .ref (g 99)), (1, .ref (g k1)), (2, .int x2)]) C.1.1 C.1.2.1 dX12_valueNow_1 rfl hl (by decide) rfl (fun ls hl => ?_)
  refine lv_iconst (v := 0) C.1.1 C.1.2.1 dX12_valueNow_2 (by decide) ?_
  refine lv_istore (lv' := [(4, .int 0), (3, .int 0), (0, .ref (g 99)), (1, .ref (g k1)), (2, .int x2)]) C.1.1 C.1.2.1 dX12_valueNow_3 hl (by decide) rfl (fun ls hl => ?_)
  exact hX12_valueNow_5 C O N _ _ _ _ hk_k1 _ _ _ _ X (lv_sub hl [2, 3, 4, 1, 0] rfl) hF
noncomputable def fX12_valueNow (N : Nat) (k1 : Nat) (x2 : Int32) (S : gS) : Option (Int32 × gS) := fX12_valueNow_b0 N k1 x2 S
theorem kX12_valueNow {l : Launch} {D : va_G} {g : Nat → Nat} {cI cS : ClassId} {sa : Nat → Nat → Option Nat} {Am : (Nat → Prop) → State → Heap → Prop} (O : gO (mcell g cI cS sa) mord g) (P : gAm Am) (N : Nat) (k1 : Nat) (x2 : Int32) (hk_k1 : mI k1 = true) (S : gS) (o : Int32 × gS) (hF : fX12_valueNow N k1 x2 S = some o) : gM l yX12_valueNow cX12_valueNow 6 ((some .int)) 1 D (mtys cI cS) (mcell g cI cS sa) mord g Am [.ref (g 99), .ref (g k1), .int x2] S (some (.int o.1)) o.2 :=
  gM_of O P (by decide) (Nat.le_of_ble_eq_true rfl) (fun p e s m args below meth c ls C X hl => bX12_valueNow_0 C O hk_k1 X (lv_sub hl [0, 1, 2] rfl) hF)
-- ruleOf
noncomputable def fX12_ruleOf_b0 (N : Nat) (k1 : Nat) (x2 : Int32) (x3 : Int32) (S : gS) : Option (Int32 × gS) := chk (inb x3 (6)) (lt (sU S 42 0 (S 32 (Int32.toNatClampNeg x3))) fun S1 => (chk (inb x3 (6)) (lt (sU S1 42 1 (S1 33 (Int32.toNatClampNeg x3))) fun S2 => (chk (inb x3 (6)) (chk (inb (S2 35 (Int32.toNatClampNeg x3)) (16)) (lt (sU S2 42 2 (S2 7 (Int32.toNatClampNeg (S2 35 (Int32.toNatClampNeg x3))))) fun S3 => (chk (inb x3 (6)) (chk (inb (S3 35 (Int32.toNatClampNeg x3)) (16)) (lt (sU S3 42 3 (S3 9 (Int32.toNatClampNeg (S3 35 (Int32.toNatClampNeg x3))))) fun S4 => (bnd (fX12_wetOf N  S4) fun q1 => (lt (sU q1.2 42 4 q1.1) fun S6 => (lt (sU S6 42 5 (S6 99 37)) fun S7 => (chk (inb x3 (6)) (lt (sU S7 42 6 (S7 18 (Int32.toNatClampNeg x3))) fun S8 => (bnd (fX12_valueNow N k1 x2 S8) fun q2 => (some (q2.1, q2.2)))))))))))))))))
theorem bX12_ruleOf_0 {N : Nat} {k1 : Nat} {x2 : Int32} {x3 : Int32} {S : gS} {H : Heap} {locs : List Loc} {ls : Array Slot} {o : Int32 × gS} (C : gC p s m args meth c cX12_ruleOf 4 RX12 ((some .int)) D (mtys cI cS) mord g Am) (O : gO (mcell g cI cS sa) mord g) (hk_k1 : mI k1 = true) (X : gX D (mcell g cI cS sa) mord g S s H locs) (hl : lv_has ls 4 [(0, .ref (g 99)), (1, .ref (g k1)), (2, .int x2), (3, .int x3)]) (hF : fX12_ruleOf_b0 N k1 x2 x3 S = some o) : W p l e (rmd 2) s m args below meth c H locs 0 0 (gE below args s D (mtys cI cS) (mcell g cI cS sa) mord g (some (.int o.1)) o.2) (F0 m 0 ls []) := by
  unfold fX12_ruleOf_b0 at hF
  refine lv_aload_n C.1.1 C.1.2.1 dX12_ruleOf_0 rfl (lv_at hl 0 rfl) ?_
  refine m_g42 C X dX12_ruleOf_1 ?_
  refine lv_iconst (v := 0) C.1.1 C.1.2.1 dX12_ruleOf_4 (by decide) ?_
  refine lv_aload_n C.1.1 C.1.2.1 dX12_ruleOf_5 rfl (lv_at hl 0 rfl) ?_
  refine m_g32 C X dX12_ruleOf_6 ?_
  refine lv_iload_n C.1.1 C.1.2.1 dX12_ruleOf_9 rfl (lv_at hl 3 rfl) ?_
  obtain ⟨h_1, hF⟩ := chk_some hF
  refine m_r32 C X  (inb_vp h_1) rfl dX12_ruleOf_10 ?_
  obtain ⟨S1, eS1, hF⟩ := lt_some hF
  refine m_w42 C O X (j := 0) (inb_vp (by decide)) (by decide) eS1 dX12_ruleOf_11 (fun H locs X => ?_)
  refine lv_aload_n C.1.1 C.1.2.1 dX12_ruleOf_12 rfl (lv_at hl 0 rfl) ?_
  refine m_g42 C X dX12_ruleOf_13 ?_
  refine lv_iconst (v := 1) C.1.1 C.1.2.1 dX12_ruleOf_16 (by decide) ?_
  refine lv_aload_n C.1.1 C.1.2.1 dX12_ruleOf_17 rfl (lv_at hl 0 rfl) ?_
  refine m_g33 C X dX12_ruleOf_18 ?_
  refine lv_iload_n C.1.1 C.1.2.1 dX12_ruleOf_21 rfl (lv_at hl 3 rfl) ?_
  obtain ⟨h_2, hF⟩ := chk_some hF
  refine m_r33 C X  (inb_vp h_2) rfl dX12_ruleOf_22 ?_
  obtain ⟨S2, eS2, hF⟩ := lt_some hF
  refine m_w42 C O X (j := 1) (inb_vp (by decide)) (by decide) eS2 dX12_ruleOf_23 (fun H locs X => ?_)
  refine lv_aload_n C.1.1 C.1.2.1 dX12_ruleOf_24 rfl (lv_at hl 0 rfl) ?_
  refine m_g42 C X dX12_ruleOf_25 ?_
  refine lv_iconst (v := 2) C.1.1 C.1.2.1 dX12_ruleOf_28 (by decide) ?_
  refine lv_aload_n C.1.1 C.1.2.1 dX12_ruleOf_29 rfl (lv_at hl 0 rfl) ?_
  refine m_g7 C X dX12_ruleOf_30 ?_
  refine lv_aload_n C.1.1 C.1.2.1 dX12_ruleOf_33 rfl (lv_at hl 0 rfl) ?_
  refine m_g35 C X dX12_ruleOf_34 ?_
  refine lv_iload_n C.1.1 C.1.2.1 dX12_ruleOf_37 rfl (lv_at hl 3 rfl) ?_
  obtain ⟨h_3, hF⟩ := chk_some hF
  refine m_r35 C X  (inb_vp h_3) rfl dX12_ruleOf_38 ?_
  obtain ⟨h_4, hF⟩ := chk_some hF
  refine m_r7 C X  (inb_vp h_4) rfl dX12_ruleOf_39 ?_
  obtain ⟨S3, eS3, hF⟩ := lt_some hF
  refine m_w42 C O X (j := 2) (inb_vp (by decide)) (by decide) eS3 dX12_ruleOf_40 (fun H locs X => ?_)
  refine lv_aload_n C.1.1 C.1.2.1 dX12_ruleOf_41 rfl (lv_at hl 0 rfl) ?_
  refine m_g42 C X dX12_ruleOf_42 ?_
  refine lv_iconst (v := 3) C.1.1 C.1.2.1 dX12_ruleOf_45 (by decide) ?_
  refine lv_aload_n C.1.1 C.1.2.1 dX12_ruleOf_46 rfl (lv_at hl 0 rfl) ?_
  refine m_g9 C X dX12_ruleOf_47 ?_
  refine lv_aload_n C.1.1 C.1.2.1 dX12_ruleOf_50 rfl (lv_at hl 0 rfl) ?_
  refine m_g35 C X dX12_ruleOf_51 ?_
  refine lv_iload_n C.1.1 C.1.2.1 dX12_ruleOf_54 rfl (lv_at hl 3 rfl) ?_
  obtain ⟨h_5, hF⟩ := chk_some hF
  refine m_r35 C X  (inb_vp h_5) rfl dX12_ruleOf_55 ?_
  obtain ⟨h_6, hF⟩ := chk_some hF
  refine m_r9 C X  (inb_vp h_6) rfl dX12_ruleOf_56 ?_
  obtain ⟨S4, eS4, hF⟩ := lt_some hF
  refine m_w42 C O X (j := 3) (inb_vp (by decide)) (by decide) eS4 dX12_ruleOf_57 (fun H locs X => ?_)
  refine lv_aload_n C.1.1 C.1.2.1 dX12_ruleOf_58 rfl (lv_at hl 0 rfl) ?_
  refine m_g42 C X dX12_ruleOf_59 ?_
  refine lv_iconst (v := 4) C.1.1 C.1.2.1 dX12_ruleOf_62 (by decide) ?_
  refine lv_aload_n C.1.1 C.1.2.1 dX12_ruleOf_63 rfl (lv_at hl 0 rfl) ?_
  obtain ⟨q1, hq1, hF⟩ := bnd_some hF
  refine m_callVi C X vX12_wetOf rfl (kX12_wetOf O C.2.2.2.2.1 N   S4 q1 hq1) (Nat.le_of_ble_eq_true rfl) (Nat.le_of_ble_eq_true rfl) (Nat.le_of_ble_eq_true rfl) (Nat.le_of_ble_eq_true rfl) rfl hl.1 rfl (Nat.le_of_ble_eq_true rfl) dX12_ruleOf_64 (fun H locs X => ?_)
  obtain ⟨S6, eS6, hF⟩ := lt_some hF
  refine m_w42 C O X (j := 4) (inb_vp (by decide)) (by decide) eS6 dX12_ruleOf_67 (fun H locs X => ?_)
  refine lv_aload_n C.1.1 C.1.2.1 dX12_ruleOf_68 rfl (lv_at hl 0 rfl) ?_
  refine m_g42 C X dX12_ruleOf_69 ?_
  refine lv_iconst (v := 5) C.1.1 C.1.2.1 dX12_ruleOf_72 (by decide) ?_
  refine lv_aload_n C.1.1 C.1.2.1 dX12_ruleOf_73 rfl (lv_at hl 0 rfl) ?_
  refine m_g37 C X dX12_ruleOf_74 ?_
  obtain ⟨S7, eS7, hF⟩ := lt_some hF
  refine m_w42 C O X (j := 5) (inb_vp (by decide)) (by decide) eS7 dX12_ruleOf_77 (fun H locs X => ?_)
  refine lv_aload_n C.1.1 C.1.2.1 dX12_ruleOf_78 rfl (lv_at hl 0 rfl) ?_
  refine m_g42 C X dX12_ruleOf_79 ?_
  refine lv_bipush (v := 6) C.1.1 C.1.2.1 dX12_ruleOf_82 (by decide) ?_
  refine lv_aload_n C.1.1 C.1.2.1 dX12_ruleOf_84 rfl (lv_at hl 0 rfl) ?_
  refine m_g18 C X dX12_ruleOf_85 ?_
  refine lv_iload_n C.1.1 C.1.2.1 dX12_ruleOf_88 rfl (lv_at hl 3 rfl) ?_
  obtain ⟨h_7, hF⟩ := chk_some hF
  refine m_r18 C X  (inb_vp h_7) rfl dX12_ruleOf_89 ?_
  obtain ⟨S8, eS8, hF⟩ := lt_some hF
  refine m_w42 C O X (j := 6) (inb_vp (by decide)) (by decide) eS8 dX12_ruleOf_90 (fun H locs X => ?_)
  refine lv_aload_n C.1.1 C.1.2.1 dX12_ruleOf_91 rfl (lv_at hl 0 rfl) ?_
  refine lv_aload_n C.1.1 C.1.2.1 dX12_ruleOf_92 rfl (lv_at hl 1 rfl) ?_
  refine lv_iload_n C.1.1 C.1.2.1 dX12_ruleOf_93 rfl (lv_at hl 2 rfl) ?_
  obtain ⟨q2, hq2, hF⟩ := bnd_some hF
  refine m_callVi C X vX12_valueNow rfl (kX12_valueNow O C.2.2.2.2.1 N k1 x2 hk_k1 S8 q2 hq2) (Nat.le_of_ble_eq_true rfl) (Nat.le_of_ble_eq_true rfl) (Nat.le_of_ble_eq_true rfl) (Nat.le_of_ble_eq_true rfl) rfl hl.1 rfl (Nat.le_of_ble_eq_true rfl) dX12_ruleOf_94 (fun H locs X => ?_)
  cases hF
  exact g_iret C X dX12_ruleOf_97
noncomputable def fX12_ruleOf (N : Nat) (k1 : Nat) (x2 : Int32) (x3 : Int32) (S : gS) : Option (Int32 × gS) := fX12_ruleOf_b0 N k1 x2 x3 S
theorem kX12_ruleOf {l : Launch} {D : va_G} {g : Nat → Nat} {cI cS : ClassId} {sa : Nat → Nat → Option Nat} {Am : (Nat → Prop) → State → Heap → Prop} (O : gO (mcell g cI cS sa) mord g) (P : gAm Am) (N : Nat) (k1 : Nat) (x2 : Int32) (x3 : Int32) (hk_k1 : mI k1 = true) (S : gS) (o : Int32 × gS) (hF : fX12_ruleOf N k1 x2 x3 S = some o) : gM l yX12_ruleOf cX12_ruleOf 4 ((some .int)) 2 D (mtys cI cS) (mcell g cI cS sa) mord g Am [.ref (g 99), .ref (g k1), .int x2, .int x3] S (some (.int o.1)) o.2 :=
  gM_of O P (by decide) (Nat.le_of_ble_eq_true rfl) (fun p e s m args below meth c ls C X hl => bX12_ruleOf_0 C O hk_k1 X (lv_sub hl [0, 1, 2, 3] rfl) hF)
-- pray
noncomputable def fX12_pray_b28 (N : Nat) (x1 : Int32) (t0 : Int32) (S : gS) : Option (Int32 × gS) := chk (inb x1 (6)) (chk (inb x1 (6)) (chk (inb x1 (6)) (lt (sU S 32 (Int32.toNatClampNeg x1) (((S 32 (Int32.toNatClampNeg x1)) - (if 0 < (if t0 < (S 32 (Int32.toNatClampNeg x1)) then t0 else (S 32 (Int32.toNatClampNeg x1))) then (if t0 < (S 32 (Int32.toNatClampNeg x1)) then t0 else (S 32 (Int32.toNatClampNeg x1))) else 0) : Int32))) fun S1 => (some (0, S1)))))
theorem bX12_pray_28 {N : Nat} {x1 : Int32} {t0 : Int32} {S : gS} {H : Heap} {locs : List Loc} {ls : Array Slot} {o : Int32 × gS} (C : gC p s m args meth c cX12_pray 3 RX12 none D (mtys cI cS) mord g Am) (O : gO (mcell g cI cS sa) mord g) (X : gX D (mcell g cI cS sa) mord g S s H locs) (hl : lv_has ls 3 [(0, .ref (g 99)), (1, .int x1)]) (hF : fX12_pray_b28 N x1 t0 S = some o) : W p l e (rmd 3) s m args below meth c H locs 0 0 (gE below args s D (mtys cI cS) (mcell g cI cS sa) mord g none o.2) (F0 m 28 ls [.int t0]) := by
  unfold fX12_pray_b28 at hF
  refine lv_istore_n (lv' := [(2, .int t0), (0, .ref (g 99)), (1, .int x1)]) C.1.1 C.1.2.1 dX12_pray_28 rfl hl (by decide) rfl (fun ls hl => ?_)
  refine lv_aload_n C.1.1 C.1.2.1 dX12_pray_29 rfl (lv_at hl 1 rfl) ?_
  refine m_g32 C X dX12_pray_30 ?_
  refine lv_iload_n C.1.1 C.1.2.1 dX12_pray_33 rfl (lv_at hl 2 rfl) ?_
  refine lv_dup2_11 C.1.1 C.1.2.1 dX12_pray_34 rfl rfl ?_
  obtain ⟨h_1, hF⟩ := chk_some hF
  refine m_r32 C X  (inb_vp h_1) rfl dX12_pray_35 ?_
  refine lv_iconst (v := 0) C.1.1 C.1.2.1 dX12_pray_36 (by decide) ?_
  refine lv_aload_n C.1.1 C.1.2.1 dX12_pray_37 rfl (lv_at hl 1 rfl) ?_
  refine m_g32 C X dX12_pray_38 ?_
  refine lv_iload_n C.1.1 C.1.2.1 dX12_pray_41 rfl (lv_at hl 2 rfl) ?_
  obtain ⟨h_2, hF⟩ := chk_some hF
  refine m_r32 C X  (inb_vp h_2) rfl dX12_pray_42 ?_
  refine lv_iload_n C.1.1 C.1.2.1 dX12_pray_43 rfl (lv_at hl 0 rfl) ?_
  refine g_min C hl.1 mMmin192 ⟨Nat.le_of_ble_eq_true rfl, Nat.le_of_ble_eq_true rfl⟩ (Nat.le_of_ble_eq_true rfl) (Nat.le_of_ble_eq_true rfl) dX12_pray_44 ?_
  refine g_max C hl.1 mMmax354 ⟨Nat.le_of_ble_eq_true rfl, Nat.le_of_ble_eq_true rfl⟩ (Nat.le_of_ble_eq_true rfl) (Nat.le_of_ble_eq_true rfl) dX12_pray_47 ?_
  refine lv_isub C.1.1 C.1.2.1 dX12_pray_50 ?_
  obtain ⟨h_3, hF⟩ := chk_some hF
  obtain ⟨S1, eS1, hF⟩ := lt_some hF
  refine m_w32 C O X  (inb_vp h_3) rfl eS1 dX12_pray_51 (fun H locs X => ?_)
  cases hF
  exact g_vret C X dX12_pray_52
noncomputable def fX12_pray_b13 (N : Nat) (x1 : Int32) (S : gS) : Option (Int32 × gS) := bnd (fX12_ruleOf N 15 (S 5 4) x1 S) fun q1 => (fX12_pray_b28 N x1 q1.1 q1.2)
theorem bX12_pray_13 {N : Nat} {x1 : Int32} {S : gS} {H : Heap} {locs : List Loc} {ls : Array Slot} {o : Int32 × gS} (C : gC p s m args meth c cX12_pray 3 RX12 none D (mtys cI cS) mord g Am) (O : gO (mcell g cI cS sa) mord g) (X : gX D (mcell g cI cS sa) mord g S s H locs) (hl : lv_has ls 3 [(0, .ref (g 99)), (1, .int x1)]) (hF : fX12_pray_b13 N x1 S = some o) : W p l e (rmd 3) s m args below meth c H locs 0 0 (gE below args s D (mtys cI cS) (mcell g cI cS sa) mord g none o.2) (F0 m 13 ls []) := by
  unfold fX12_pray_b13 at hF
  refine lv_aload_n C.1.1 C.1.2.1 dX12_pray_13 rfl (lv_at hl 0 rfl) ?_
  refine lv_aload_n C.1.1 C.1.2.1 dX12_pray_14 rfl (lv_at hl 0 rfl) ?_
  refine m_g15 C X dX12_pray_15 ?_
  refine lv_aload_n C.1.1 C.1.2.1 dX12_pray_18 rfl (lv_at hl 0 rfl) ?_
  refine m_g5 C X dX12_pray_19 ?_
  refine lv_iconst (v := 4) C.1.1 C.1.2.1 dX12_pray_22 (by decide) ?_
  refine m_r5 C X (j := 4) (inb_vp (by decide)) (by decide) dX12_pray_23 ?_
  refine lv_iload_n C.1.1 C.1.2.1 dX12_pray_24 rfl (lv_at hl 1 rfl) ?_
  obtain ⟨q1, hq1, hF⟩ := bnd_some hF
  refine m_callVi C X vX12_ruleOf rfl (kX12_ruleOf O C.2.2.2.2.1 N 15 (S 5 4) x1 (rfl : mI 15 = true) S q1 hq1) (Nat.le_of_ble_eq_true rfl) (Nat.le_of_ble_eq_true rfl) (Nat.le_of_ble_eq_true rfl) (Nat.le_of_ble_eq_true rfl) rfl hl.1 rfl (Nat.le_of_ble_eq_true rfl) dX12_pray_25 (fun H locs X => ?_)
  exact bX12_pray_28 C O X (lv_sub hl [0, 1] rfl) hF
noncomputable def fX12_pray_b9 (N : Nat) (x1 : Int32) (S : gS) : Option (Int32 × gS) := fX12_pray_b28 N x1 5 S
theorem bX12_pray_9 {N : Nat} {x1 : Int32} {S : gS} {H : Heap} {locs : List Loc} {ls : Array Slot} {o : Int32 × gS} (C : gC p s m args meth c cX12_pray 3 RX12 none D (mtys cI cS) mord g Am) (O : gO (mcell g cI cS sa) mord g) (X : gX D (mcell g cI cS sa) mord g S s H locs) (hl : lv_has ls 3 [(0, .ref (g 99)), (1, .int x1)]) (hF : fX12_pray_b9 N x1 S = some o) : W p l e (rmd 3) s m args below meth c H locs 0 0 (gE below args s D (mtys cI cS) (mcell g cI cS sa) mord g none o.2) (F0 m 9 ls []) := by
  unfold fX12_pray_b9 at hF
  refine lv_iconst (v := 5) C.1.1 C.1.2.1 dX12_pray_9 (by decide) ?_
  refine lv_goto (tgt := 28) C.1.1 C.1.2.1 dX12_pray_10 (by decide) ?_
  exact bX12_pray_28 C O X (lv_sub hl [0, 1] rfl) hF
noncomputable def fX12_pray_b0 (N : Nat) (x1 : Int32) (S : gS) : Option (Int32 × gS) := if (S 5 4) = 0 then fX12_pray_b9 N x1 S else fX12_pray_b13 N x1 S
theorem bX12_pray_0 {N : Nat} {x1 : Int32} {S : gS} {H : Heap} {locs : List Loc} {ls : Array Slot} {o : Int32 × gS} (C : gC p s m args meth c cX12_pray 3 RX12 none D (mtys cI cS) mord g Am) (O : gO (mcell g cI cS sa) mord g) (X : gX D (mcell g cI cS sa) mord g S s H locs) (hl : lv_has ls 3 [(0, .ref (g 99)), (1, .int x1)]) (hF : fX12_pray_b0 N x1 S = some o) : W p l e (rmd 3) s m args below meth c H locs 0 0 (gE below args s D (mtys cI cS) (mcell g cI cS sa) mord g none o.2) (F0 m 0 ls []) := by
  unfold fX12_pray_b0 at hF
  refine lv_aload_n C.1.1 C.1.2.1 dX12_pray_0 rfl (lv_at hl 0 rfl) ?_
  refine m_g5 C X dX12_pray_1 ?_
  refine lv_iconst (v := 4) C.1.1 C.1.2.1 dX12_pray_4 (by decide) ?_
  refine m_r5 C X (j := 4) (inb_vp (by decide)) (by decide) dX12_pray_5 ?_
  refine lv_if_ne (tgt := 13) C.1.1 C.1.2.1 dX12_pray_6 (by decide) (fun h_z => ?_) (fun h_z => ?_)
  · rw [if_neg h_z] at hF
    exact bX12_pray_13 C O X (lv_sub hl [0, 1] rfl) hF
  · rw [if_pos h_z] at hF
    exact bX12_pray_9 C O X (lv_sub hl [0, 1] rfl) hF
noncomputable def fX12_pray (N : Nat) (x1 : Int32) (S : gS) : Option (Int32 × gS) := fX12_pray_b0 N x1 S
theorem kX12_pray {l : Launch} {D : va_G} {g : Nat → Nat} {cI cS : ClassId} {sa : Nat → Nat → Option Nat} {Am : (Nat → Prop) → State → Heap → Prop} (O : gO (mcell g cI cS sa) mord g) (P : gAm Am) (N : Nat) (x1 : Int32) (S : gS) (o : Int32 × gS) (hF : fX12_pray N x1 S = some o) : gM l yX12_pray cX12_pray 3 none 3 D (mtys cI cS) (mcell g cI cS sa) mord g Am [.ref (g 99), .int x1] S none o.2 :=
  gM_of O P (by decide) (Nat.le_of_ble_eq_true rfl) (fun p e s m args below meth c ls C X hl => bX12_pray_0 C O X (lv_sub hl [0, 1] rfl) hF)
-- costsOf
noncomputable def fX12_costsOf_b38 (N : Nat) (t0 : Int32) (S : gS) : Option (Int32 × gS) := some (if 0 < (if t0 < 50 then t0 else 50) then (if t0 < 50 then t0 else 50) else 0, S)
theorem bX12_costsOf_38 {N : Nat} {t0 : Int32} {S : gS} {H : Heap} {locs : List Loc} {ls : Array Slot} {o : Int32 × gS} (C : gC p s m args meth c cX12_costsOf 3 RX12 ((some .int)) D (mtys cI cS) mord g Am) (O : gO (mcell g cI cS sa) mord g) (X : gX D (mcell g cI cS sa) mord g S s H locs) (hl : lv_has ls 3 []) (hF : fX12_costsOf_b38 N t0 S = some o) : W p l e (rmd 3) s m args below meth c H locs 0 0 (gE below args s D (mtys cI cS) (mcell g cI cS sa) mord g (some (.int o.1)) o.2) (F0 m 38 ls [.int t0]) := by
  unfold fX12_costsOf_b38 at hF
  refine lv_istore_n (lv' := [(2, .int t0)]) C.1.1 C.1.2.1 dX12_costsOf_38 rfl hl (by decide) rfl (fun ls hl => ?_)
  refine lv_iconst (v := 0) C.1.1 C.1.2.1 dX12_costsOf_39 (by decide) ?_
  refine lv_bipush (v := 50) C.1.1 C.1.2.1 dX12_costsOf_40 (by decide) ?_
  refine lv_iload_n C.1.1 C.1.2.1 dX12_costsOf_42 rfl (lv_at hl 0 rfl) ?_
  refine g_min C hl.1 mMmin192 ⟨Nat.le_of_ble_eq_true rfl, Nat.le_of_ble_eq_true rfl⟩ (Nat.le_of_ble_eq_true rfl) (Nat.le_of_ble_eq_true rfl) dX12_costsOf_43 ?_
  refine g_max C hl.1 mMmax354 ⟨Nat.le_of_ble_eq_true rfl, Nat.le_of_ble_eq_true rfl⟩ (Nat.le_of_ble_eq_true rfl) (Nat.le_of_ble_eq_true rfl) dX12_costsOf_46 ?_
  cases hF
  exact g_iret C X dX12_costsOf_49
noncomputable def fX12_costsOf_b23 (N : Nat) (x1 : Int32) (S : gS) : Option (Int32 × gS) := bnd (fX12_ruleOf N 16 (S 5 5) x1 S) fun q1 => (fX12_costsOf_b38 N q1.1 q1.2)
theorem bX12_costsOf_23 {N : Nat} {x1 : Int32} {S : gS} {H : Heap} {locs : List Loc} {ls : Array Slot} {o : Int32 × gS} (C : gC p s m args meth c cX12_costsOf 3 RX12 ((some .int)) D (mtys cI cS) mord g Am) (O : gO (mcell g cI cS sa) mord g) (X : gX D (mcell g cI cS sa) mord g S s H locs) (hl : lv_has ls 3 [(0, .ref (g 99)), (1, .int x1)]) (hF : fX12_costsOf_b23 N x1 S = some o) : W p l e (rmd 3) s m args below meth c H locs 0 0 (gE below args s D (mtys cI cS) (mcell g cI cS sa) mord g (some (.int o.1)) o.2) (F0 m 23 ls []) := by
  unfold fX12_costsOf_b23 at hF
  refine lv_aload_n C.1.1 C.1.2.1 dX12_costsOf_23 rfl (lv_at hl 0 rfl) ?_
  refine lv_aload_n C.1.1 C.1.2.1 dX12_costsOf_24 rfl (lv_at hl 0 rfl) ?_
  refine m_g16 C X dX12_costsOf_25 ?_
  refine lv_aload_n C.1.1 C.1.2.1 dX12_costsOf_28 rfl (lv_at hl 0 rfl) ?_
  refine m_g5 C X dX12_costsOf_29 ?_
  refine lv_iconst (v := 5) C.1.1 C.1.2.1 dX12_costsOf_32 (by decide) ?_
  refine m_r5 C X (j := 5) (inb_vp (by decide)) (by decide) dX12_costsOf_33 ?_
  refine lv_iload_n C.1.1 C.1.2.1 dX12_costsOf_34 rfl (lv_at hl 1 rfl) ?_
  obtain ⟨q1, hq1, hF⟩ := bnd_some hF
  refine m_callVi C X vX12_ruleOf rfl (kX12_ruleOf O C.2.2.2.2.1 N 16 (S 5 5) x1 (rfl : mI 16 = true) S q1 hq1) (Nat.le_of_ble_eq_true rfl) (Nat.le_of_ble_eq_true rfl) (Nat.le_of_ble_eq_true rfl) (Nat.le_of_ble_eq_true rfl) rfl hl.1 rfl (Nat.le_of_ble_eq_true rfl) dX12_costsOf_35 (fun H locs X => ?_)
  exact bX12_costsOf_38 C O X (lv_sub hl [] rfl) hF
noncomputable def fX12_costsOf_b9 (N : Nat) (x1 : Int32) (S : gS) : Option (Int32 × gS) := chk (inb x1 (6)) (chk (inb (S 35 (Int32.toNatClampNeg x1)) (16)) (fX12_costsOf_b38 N (S 9 (Int32.toNatClampNeg (S 35 (Int32.toNatClampNeg x1)))) S))
theorem bX12_costsOf_9 {N : Nat} {x1 : Int32} {S : gS} {H : Heap} {locs : List Loc} {ls : Array Slot} {o : Int32 × gS} (C : gC p s m args meth c cX12_costsOf 3 RX12 ((some .int)) D (mtys cI cS) mord g Am) (O : gO (mcell g cI cS sa) mord g) (X : gX D (mcell g cI cS sa) mord g S s H locs) (hl : lv_has ls 3 [(0, .ref (g 99)), (1, .int x1)]) (hF : fX12_costsOf_b9 N x1 S = some o) : W p l e (rmd 3) s m args below meth c H locs 0 0 (gE below args s D (mtys cI cS) (mcell g cI cS sa) mord g (some (.int o.1)) o.2) (F0 m 9 ls []) := by
  unfold fX12_costsOf_b9 at hF
  refine lv_aload_n C.1.1 C.1.2.1 dX12_costsOf_9 rfl (lv_at hl 0 rfl) ?_
  refine m_g9 C X dX12_costsOf_10 ?_
  refine lv_aload_n C.1.1 C.1.2.1 dX12_costsOf_13 rfl (lv_at hl 0 rfl) ?_
  refine m_g35 C X dX12_costsOf_14 ?_
  refine lv_iload_n C.1.1 C.1.2.1 dX12_costsOf_17 rfl (lv_at hl 1 rfl) ?_
  obtain ⟨h_1, hF⟩ := chk_some hF
  refine m_r35 C X  (inb_vp h_1) rfl dX12_costsOf_18 ?_
  obtain ⟨h_2, hF⟩ := chk_some hF
  refine m_r9 C X  (inb_vp h_2) rfl dX12_costsOf_19 ?_
  refine lv_goto (tgt := 38) C.1.1 C.1.2.1 dX12_costsOf_20 (by decide) ?_
  exact bX12_costsOf_38 C O X (lv_sub hl [] rfl) hF
noncomputable def fX12_costsOf_b0 (N : Nat) (x1 : Int32) (S : gS) : Option (Int32 × gS) := if (S 5 5) = 0 then fX12_costsOf_b9 N x1 S else fX12_costsOf_b23 N x1 S
theorem bX12_costsOf_0 {N : Nat} {x1 : Int32} {S : gS} {H : Heap} {locs : List Loc} {ls : Array Slot} {o : Int32 × gS} (C : gC p s m args meth c cX12_costsOf 3 RX12 ((some .int)) D (mtys cI cS) mord g Am) (O : gO (mcell g cI cS sa) mord g) (X : gX D (mcell g cI cS sa) mord g S s H locs) (hl : lv_has ls 3 [(0, .ref (g 99)), (1, .int x1)]) (hF : fX12_costsOf_b0 N x1 S = some o) : W p l e (rmd 3) s m args below meth c H locs 0 0 (gE below args s D (mtys cI cS) (mcell g cI cS sa) mord g (some (.int o.1)) o.2) (F0 m 0 ls []) := by
  unfold fX12_costsOf_b0 at hF
  refine lv_aload_n C.1.1 C.1.2.1 dX12_costsOf_0 rfl (lv_at hl 0 rfl) ?_
  refine m_g5 C X dX12_costsOf_1 ?_
  refine lv_iconst (v := 5) C.1.1 C.1.2.1 dX12_costsOf_4 (by decide) ?_
  refine m_r5 C X (j := 5) (inb_vp (by decide)) (by decide) dX12_costsOf_5 ?_
  refine lv_if_ne (tgt := 23) C.1.1 C.1.2.1 dX12_costsOf_6 (by decide) (fun h_z => ?_) (fun h_z => ?_)
  · rw [if_neg h_z] at hF
    exact bX12_costsOf_23 C O X (lv_sub hl [0, 1] rfl) hF
  · rw [if_pos h_z] at hF
    exact bX12_costsOf_9 C O X (lv_sub hl [0, 1] rfl) hF
noncomputable def fX12_costsOf (N : Nat) (x1 : Int32) (S : gS) : Option (Int32 × gS) := fX12_costsOf_b0 N x1 S
theorem kX12_costsOf {l : Launch} {D : va_G} {g : Nat → Nat} {cI cS : ClassId} {sa : Nat → Nat → Option Nat} {Am : (Nat → Prop) → State → Heap → Prop} (O : gO (mcell g cI cS sa) mord g) (P : gAm Am) (N : Nat) (x1 : Int32) (S : gS) (o : Int32 × gS) (hF : fX12_costsOf N x1 S = some o) : gM l yX12_costsOf cX12_costsOf 3 ((some .int)) 3 D (mtys cI cS) (mcell g cI cS sa) mord g Am [.ref (g 99), .int x1] S (some (.int o.1)) o.2 :=
  gM_of O P (by decide) (Nat.le_of_ble_eq_true rfl) (fun p e s m args below meth c ls C X hl => bX12_costsOf_0 C O X (lv_sub hl [0, 1] rfl) hF)
-- pay
noncomputable def fX12_pay_b36 (N : Nat) (S : gS) : Option (Int32 × gS) := some (0, S)
theorem bX12_pay_36 {N : Nat} {S : gS} {H : Heap} {locs : List Loc} {ls : Array Slot} {o : Int32 × gS} (C : gC p s m args meth c cX12_pay 3 RX12 none D (mtys cI cS) mord g Am) (O : gO (mcell g cI cS sa) mord g) (X : gX D (mcell g cI cS sa) mord g S s H locs) (hl : lv_has ls 3 []) (hF : fX12_pay_b36 N S = some o) : W p l e (rmd 4) s m args below meth c H locs 0 0 (gE below args s D (mtys cI cS) (mcell g cI cS sa) mord g none o.2) (F0 m 36 ls []) := by
  unfold fX12_pay_b36 at hF
  cases hF
  exact g_vret C X dX12_pay_36
noncomputable def fX12_pay_b29 (N : Nat) (x1 : Int32) (S : gS) : Option (Int32 × gS) := chk (inb x1 (6)) (lt (sU S 35 (Int32.toNatClampNeg x1) ((-1))) fun S1 => (fX12_pay_b36 N S1))
theorem bX12_pay_29 {N : Nat} {x1 : Int32} {S : gS} {H : Heap} {locs : List Loc} {ls : Array Slot} {o : Int32 × gS} (C : gC p s m args meth c cX12_pay 3 RX12 none D (mtys cI cS) mord g Am) (O : gO (mcell g cI cS sa) mord g) (X : gX D (mcell g cI cS sa) mord g S s H locs) (hl : lv_has ls 3 [(0, .ref (g 99)), (1, .int x1)]) (hF : fX12_pay_b29 N x1 S = some o) : W p l e (rmd 4) s m args below meth c H locs 0 0 (gE below args s D (mtys cI cS) (mcell g cI cS sa) mord g none o.2) (F0 m 29 ls []) := by
  unfold fX12_pay_b29 at hF
  refine lv_aload_n C.1.1 C.1.2.1 dX12_pay_29 rfl (lv_at hl 0 rfl) ?_
  refine m_g35 C X dX12_pay_30 ?_
  refine lv_iload_n C.1.1 C.1.2.1 dX12_pay_33 rfl (lv_at hl 1 rfl) ?_
  refine lv_iconst (v := (-1)) C.1.1 C.1.2.1 dX12_pay_34 (by decide) ?_
  obtain ⟨h_1, hF⟩ := chk_some hF
  obtain ⟨S1, eS1, hF⟩ := lt_some hF
  refine m_w35 C O X  (inb_vp h_1) rfl eS1 dX12_pay_35 (fun H locs X => ?_)
  exact bX12_pay_36 C O X (lv_sub hl [] rfl) hF
noncomputable def fX12_pay_b16 (N : Nat) (x1 : Int32) (x2 : Int32) (S : gS) : Option (Int32 × gS) := chk (inb x1 (6)) (chk (inb x1 (6)) (lt (sU S 33 (Int32.toNatClampNeg x1) (((S 33 (Int32.toNatClampNeg x1)) - x2 : Int32))) fun S1 => (fX12_pay_b36 N S1)))
theorem bX12_pay_16 {N : Nat} {x1 : Int32} {x2 : Int32} {S : gS} {H : Heap} {locs : List Loc} {ls : Array Slot} {o : Int32 × gS} (C : gC p s m args meth c cX12_pay 3 RX12 none D (mtys cI cS) mord g Am) (O : gO (mcell g cI cS sa) mord g) (X : gX D (mcell g cI cS sa) mord g S s H locs) (hl : lv_has ls 3 [(0, .ref (g 99)), (1, .int x1), (2, .int x2)]) (hF : fX12_pay_b16 N x1 x2 S = some o) : W p l e (rmd 4) s m args below meth c H locs 0 0 (gE below args s D (mtys cI cS) (mcell g cI cS sa) mord g none o.2) (F0 m 16 ls []) := by
  unfold fX12_pay_b16 at hF
  refine lv_aload_n C.1.1 C.1.2.1 dX12_pay_16 rfl (lv_at hl 0 rfl) ?_
  refine m_g33 C X dX12_pay_17 ?_
  refine lv_iload_n C.1.1 C.1.2.1 dX12_pay_20 rfl (lv_at hl 1 rfl) ?_
  refine lv_dup2_11 C.1.1 C.1.2.1 dX12_pay_21 rfl rfl ?_
  obtain ⟨h_1, hF⟩ := chk_some hF
  refine m_r33 C X  (inb_vp h_1) rfl dX12_pay_22 ?_
  refine lv_iload_n C.1.1 C.1.2.1 dX12_pay_23 rfl (lv_at hl 2 rfl) ?_
  refine lv_isub C.1.1 C.1.2.1 dX12_pay_24 ?_
  obtain ⟨h_2, hF⟩ := chk_some hF
  obtain ⟨S1, eS1, hF⟩ := lt_some hF
  refine m_w33 C O X  (inb_vp h_2) rfl eS1 dX12_pay_25 (fun H locs X => ?_)
  refine lv_goto (tgt := 36) C.1.1 C.1.2.1 dX12_pay_26 (by decide) ?_
  exact bX12_pay_36 C O X (lv_sub hl [] rfl) hF
noncomputable def fX12_pay_b0 (N : Nat) (x1 : Int32) (S : gS) : Option (Int32 × gS) := bnd (fX12_costsOf N x1 S) fun q1 => (chk (inb x1 (6)) (if (q1.2 33 (Int32.toNatClampNeg x1)) < q1.1 then fX12_pay_b29 N x1 q1.2 else fX12_pay_b16 N x1 q1.1 q1.2))
theorem bX12_pay_0 {N : Nat} {x1 : Int32} {S : gS} {H : Heap} {locs : List Loc} {ls : Array Slot} {o : Int32 × gS} (C : gC p s m args meth c cX12_pay 3 RX12 none D (mtys cI cS) mord g Am) (O : gO (mcell g cI cS sa) mord g) (X : gX D (mcell g cI cS sa) mord g S s H locs) (hl : lv_has ls 3 [(0, .ref (g 99)), (1, .int x1)]) (hF : fX12_pay_b0 N x1 S = some o) : W p l e (rmd 4) s m args below meth c H locs 0 0 (gE below args s D (mtys cI cS) (mcell g cI cS sa) mord g none o.2) (F0 m 0 ls []) := by
  unfold fX12_pay_b0 at hF
  refine lv_aload_n C.1.1 C.1.2.1 dX12_pay_0 rfl (lv_at hl 0 rfl) ?_
  refine lv_iload_n C.1.1 C.1.2.1 dX12_pay_1 rfl (lv_at hl 1 rfl) ?_
  obtain ⟨q1, hq1, hF⟩ := bnd_some hF
  refine m_callVi C X vX12_costsOf rfl (kX12_costsOf O C.2.2.2.2.1 N x1  S q1 hq1) (Nat.le_of_ble_eq_true rfl) (Nat.le_of_ble_eq_true rfl) (Nat.le_of_ble_eq_true rfl) (Nat.le_of_ble_eq_true rfl) rfl hl.1 rfl (Nat.le_of_ble_eq_true rfl) dX12_pay_2 (fun H locs X => ?_)
  refine lv_istore_n (lv' := [(2, .int q1.1), (0, .ref (g 99)), (1, .int x1)]) C.1.1 C.1.2.1 dX12_pay_5 rfl hl (by decide) rfl (fun ls hl => ?_)
  refine lv_aload_n C.1.1 C.1.2.1 dX12_pay_6 rfl (lv_at hl 1 rfl) ?_
  refine m_g33 C X dX12_pay_7 ?_
  refine lv_iload_n C.1.1 C.1.2.1 dX12_pay_10 rfl (lv_at hl 2 rfl) ?_
  obtain ⟨h_1, hF⟩ := chk_some hF
  refine m_r33 C X  (inb_vp h_1) rfl dX12_pay_11 ?_
  refine lv_iload_n C.1.1 C.1.2.1 dX12_pay_12 rfl (lv_at hl 0 rfl) ?_
  refine lv_icmp_lt (tgt := 29) C.1.1 C.1.2.1 dX12_pay_13 (by decide) (fun h_z => ?_) (fun h_z => ?_)
  · rw [if_pos h_z] at hF
    exact bX12_pay_29 C O X (lv_sub hl [1, 2] rfl) hF
  · rw [if_neg h_z] at hF
    exact bX12_pay_16 C O X (lv_sub hl [1, 2, 0] rfl) hF
noncomputable def fX12_pay (N : Nat) (x1 : Int32) (S : gS) : Option (Int32 × gS) := fX12_pay_b0 N x1 S
theorem kX12_pay {l : Launch} {D : va_G} {g : Nat → Nat} {cI cS : ClassId} {sa : Nat → Nat → Option Nat} {Am : (Nat → Prop) → State → Heap → Prop} (O : gO (mcell g cI cS sa) mord g) (P : gAm Am) (N : Nat) (x1 : Int32) (S : gS) (o : Int32 × gS) (hF : fX12_pay N x1 S = some o) : gM l yX12_pay cX12_pay 3 none 4 D (mtys cI cS) (mcell g cI cS sa) mord g Am [.ref (g 99), .int x1] S none o.2 :=
  gM_of O P (by decide) (Nat.le_of_ble_eq_true rfl) (fun p e s m args below meth c ls C X hl => bX12_pay_0 C O X (lv_sub hl [0, 1] rfl) hF)
-- anHour
noncomputable def fX12_anHour_b224 (N : Nat) (S : gS) : Option (Int32 × gS) := lt (sU S 99 37 (((S 99 37) + 1 : Int32))) fun S1 => (some (0, S1))
theorem bX12_anHour_224 {N : Nat} {S : gS} {H : Heap} {locs : List Loc} {ls : Array Slot} {o : Int32 × gS} (C : gC p s m args meth c cX12_anHour 4 RX12 none D (mtys cI cS) mord g Am) (O : gO (mcell g cI cS sa) mord g) (X : gX D (mcell g cI cS sa) mord g S s H locs) (hl : lv_has ls 4 [(0, .ref (g 99))]) (hF : fX12_anHour_b224 N S = some o) : W p l e (rmd 5) s m args below meth c H locs 0 0 (gE below args s D (mtys cI cS) (mcell g cI cS sa) mord g none o.2) (F0 m 224 ls []) := by
  unfold fX12_anHour_b224 at hF
  refine lv_aload_n C.1.1 C.1.2.1 dX12_anHour_224 rfl (lv_at hl 0 rfl) ?_
  refine lv_dup C.1.1 C.1.2.1 dX12_anHour_225 rfl ?_
  refine m_g37 C X dX12_anHour_226 ?_
  refine lv_iconst (v := 1) C.1.1 C.1.2.1 dX12_anHour_229 (by decide) ?_
  refine lv_iadd C.1.1 C.1.2.1 dX12_anHour_230 ?_
  obtain ⟨S1, eS1, hF⟩ := lt_some hF
  refine m_p37 C O X eS1 dX12_anHour_231 (fun H locs X => ?_)
  cases hF
  exact g_vret C X dX12_anHour_234
noncomputable def fX12_anHour_b218 (N : Nat) (r82 : Int32 → gS → Option (Int32 × gS)) (x1 : Int32) (S : gS) : Option (Int32 × gS) := r82 ((x1 + 1 : Int32)) S
theorem bX12_anHour_218 {N : Nat} {r82 : Int32 → gS → Option (Int32 × gS)} {x1 : Int32} {S : gS} {H : Heap} {locs : List Loc} {ls : Array Slot} {o : Int32 × gS} (C : gC p s m args meth c cX12_anHour 4 RX12 none D (mtys cI cS) mord g Am) (O : gO (mcell g cI cS sa) mord g) (K82 : ∀ (x1 : Int32) (S : gS) (H : Heap) (locs : List Loc) (ls : Array Slot), gX D (mcell g cI cS sa) mord g S s H locs → lv_has ls 4 [(0, .ref (g 99)), (1, .int x1)] → r82 x1 S = some o → W p l e (rmd 5) s m args below meth c H locs 0 0 (gE below args s D (mtys cI cS) (mcell g cI cS sa) mord g none o.2) (F0 m 82 ls [])) (X : gX D (mcell g cI cS sa) mord g S s H locs) (hl : lv_has ls 4 [(0, .ref (g 99)), (1, .int x1)]) (hF : fX12_anHour_b218 N r82 x1 S = some o) : W p l e (rmd 5) s m args below meth c H locs 0 0 (gE below args s D (mtys cI cS) (mcell g cI cS sa) mord g none o.2) (F0 m 218 ls []) := by
  unfold fX12_anHour_b218 at hF
  refine lv_iinc (v := (x1 + 1 : Int32)) (lv' := [(1, .int ((x1 + 1 : Int32))), (0, .ref (g 99))]) C.1.1 C.1.2.1 dX12_anHour_218 hl (k := 1) rfl rfl (by decide) rfl (fun ls hl => ?_)
  refine lv_goto (tgt := 82) C.1.1 C.1.2.1 dX12_anHour_221 (by decide) ?_
  exact K82 _ _ _ _ _ X (lv_sub hl [1, 0] rfl) hF
noncomputable def fX12_anHour_b176 (N : Nat) (r82 : Int32 → gS → Option (Int32 × gS)) (x1 : Int32) (S : gS) : Option (Int32 × gS) := chk (inb x1 (6)) (chk (inb x1 (6)) (lt (sU S 33 (Int32.toNatClampNeg x1) (((S 33 (Int32.toNatClampNeg x1)) / 2 : Int32))) fun S1 => (chk (inb x1 (6)) (chk (inb x1 (6)) (lt (sU S1 34 (Int32.toNatClampNeg x1) (if (((S1 34 (Int32.toNatClampNeg x1)) + 1 : Int32)) < 999 then (((S1 34 (Int32.toNatClampNeg x1)) + 1 : Int32)) else 999)) fun S2 => (lt (sU S2 99 45 (((S2 99 45) ||| (((1 : Int32) <<< (x1 &&& 31) : Int32)) : Int32))) fun S3 => (fX12_anHour_b218 N r82 x1 S3)))))))
theorem bX12_anHour_176 {N : Nat} {r82 : Int32 → gS → Option (Int32 × gS)} {x1 : Int32} {S : gS} {H : Heap} {locs : List Loc} {ls : Array Slot} {o : Int32 × gS} (C : gC p s m args meth c cX12_anHour 4 RX12 none D (mtys cI cS) mord g Am) (O : gO (mcell g cI cS sa) mord g) (K82 : ∀ (x1 : Int32) (S : gS) (H : Heap) (locs : List Loc) (ls : Array Slot), gX D (mcell g cI cS sa) mord g S s H locs → lv_has ls 4 [(0, .ref (g 99)), (1, .int x1)] → r82 x1 S = some o → W p l e (rmd 5) s m args below meth c H locs 0 0 (gE below args s D (mtys cI cS) (mcell g cI cS sa) mord g none o.2) (F0 m 82 ls [])) (X : gX D (mcell g cI cS sa) mord g S s H locs) (hl : lv_has ls 4 [(0, .ref (g 99)), (1, .int x1)]) (hF : fX12_anHour_b176 N r82 x1 S = some o) : W p l e (rmd 5) s m args below meth c H locs 0 0 (gE below args s D (mtys cI cS) (mcell g cI cS sa) mord g none o.2) (F0 m 176 ls []) := by
  unfold fX12_anHour_b176 at hF
  refine lv_aload_n C.1.1 C.1.2.1 dX12_anHour_176 rfl (lv_at hl 0 rfl) ?_
  refine m_g33 C X dX12_anHour_177 ?_
  refine lv_iload_n C.1.1 C.1.2.1 dX12_anHour_180 rfl (lv_at hl 1 rfl) ?_
  refine lv_dup2_11 C.1.1 C.1.2.1 dX12_anHour_181 rfl rfl ?_
  obtain ⟨h_1, hF⟩ := chk_some hF
  refine m_r33 C X  (inb_vp h_1) rfl dX12_anHour_182 ?_
  refine lv_iconst (v := 2) C.1.1 C.1.2.1 dX12_anHour_183 (by decide) ?_
  refine lv_idiv C.1.1 C.1.2.1 dX12_anHour_184 (by decide) ?_
  obtain ⟨h_2, hF⟩ := chk_some hF
  obtain ⟨S1, eS1, hF⟩ := lt_some hF
  refine m_w33 C O X  (inb_vp h_2) rfl eS1 dX12_anHour_185 (fun H locs X => ?_)
  refine lv_aload_n C.1.1 C.1.2.1 dX12_anHour_186 rfl (lv_at hl 0 rfl) ?_
  refine m_g34 C X dX12_anHour_187 ?_
  refine lv_iload_n C.1.1 C.1.2.1 dX12_anHour_190 rfl (lv_at hl 1 rfl) ?_
  refine lv_sipush (v := 999) C.1.1 C.1.2.1 dX12_anHour_191 (by decide) ?_
  refine lv_aload_n C.1.1 C.1.2.1 dX12_anHour_194 rfl (lv_at hl 0 rfl) ?_
  refine m_g34 C X dX12_anHour_195 ?_
  refine lv_iload_n C.1.1 C.1.2.1 dX12_anHour_198 rfl (lv_at hl 1 rfl) ?_
  obtain ⟨h_3, hF⟩ := chk_some hF
  refine m_r34 C X  (inb_vp h_3) rfl dX12_anHour_199 ?_
  refine lv_iconst (v := 1) C.1.1 C.1.2.1 dX12_anHour_200 (by decide) ?_
  refine lv_iadd C.1.1 C.1.2.1 dX12_anHour_201 ?_
  refine g_min C hl.1 mMmin192 ⟨Nat.le_of_ble_eq_true rfl, Nat.le_of_ble_eq_true rfl⟩ (Nat.le_of_ble_eq_true rfl) (Nat.le_of_ble_eq_true rfl) dX12_anHour_202 ?_
  obtain ⟨h_4, hF⟩ := chk_some hF
  obtain ⟨S2, eS2, hF⟩ := lt_some hF
  refine m_w34 C O X  (inb_vp h_4) rfl eS2 dX12_anHour_205 (fun H locs X => ?_)
  refine lv_aload_n C.1.1 C.1.2.1 dX12_anHour_206 rfl (lv_at hl 0 rfl) ?_
  refine lv_dup C.1.1 C.1.2.1 dX12_anHour_207 rfl ?_
  refine m_g45 C X dX12_anHour_208 ?_
  refine lv_iconst (v := 1) C.1.1 C.1.2.1 dX12_anHour_211 (by decide) ?_
  refine lv_iload_n C.1.1 C.1.2.1 dX12_anHour_212 rfl (lv_at hl 1 rfl) ?_
  refine lv_ishl C.1.1 C.1.2.1 dX12_anHour_213 ?_
  refine lv_ior C.1.1 C.1.2.1 dX12_anHour_214 ?_
  obtain ⟨S3, eS3, hF⟩ := lt_some hF
  refine m_p45 C O X eS3 dX12_anHour_215 (fun H locs X => ?_)
  exact bX12_anHour_218 C O K82 X (lv_sub hl [0, 1] rfl) hF
noncomputable def fX12_anHour_b173 (N : Nat) (r82 : Int32 → gS → Option (Int32 × gS)) (x1 : Int32) (S : gS) : Option (Int32 × gS) := fX12_anHour_b218 N r82 x1 S
theorem bX12_anHour_173 {N : Nat} {r82 : Int32 → gS → Option (Int32 × gS)} {x1 : Int32} {S : gS} {H : Heap} {locs : List Loc} {ls : Array Slot} {o : Int32 × gS} (C : gC p s m args meth c cX12_anHour 4 RX12 none D (mtys cI cS) mord g Am) (O : gO (mcell g cI cS sa) mord g) (K82 : ∀ (x1 : Int32) (S : gS) (H : Heap) (locs : List Loc) (ls : Array Slot), gX D (mcell g cI cS sa) mord g S s H locs → lv_has ls 4 [(0, .ref (g 99)), (1, .int x1)] → r82 x1 S = some o → W p l e (rmd 5) s m args below meth c H locs 0 0 (gE below args s D (mtys cI cS) (mcell g cI cS sa) mord g none o.2) (F0 m 82 ls [])) (X : gX D (mcell g cI cS sa) mord g S s H locs) (hl : lv_has ls 4 [(0, .ref (g 99)), (1, .int x1)]) (hF : fX12_anHour_b173 N r82 x1 S = some o) : W p l e (rmd 5) s m args below meth c H locs 0 0 (gE below args s D (mtys cI cS) (mcell g cI cS sa) mord g none o.2) (F0 m 173 ls []) := by
  unfold fX12_anHour_b173 at hF
  refine lv_goto (tgt := 218) C.1.1 C.1.2.1 dX12_anHour_173 (by decide) ?_
  exact bX12_anHour_218 C O K82 X (lv_sub hl [0, 1] rfl) hF
noncomputable def fX12_anHour_b158 (N : Nat) (r82 : Int32 → gS → Option (Int32 × gS)) (x1 : Int32) (S : gS) : Option (Int32 × gS) := chk (inb x1 (6)) (if (S 5 2) < (S 32 (Int32.toNatClampNeg x1)) then fX12_anHour_b176 N r82 x1 S else fX12_anHour_b173 N r82 x1 S)
theorem bX12_anHour_158 {N : Nat} {r82 : Int32 → gS → Option (Int32 × gS)} {x1 : Int32} {S : gS} {H : Heap} {locs : List Loc} {ls : Array Slot} {o : Int32 × gS} (C : gC p s m args meth c cX12_anHour 4 RX12 none D (mtys cI cS) mord g Am) (O : gO (mcell g cI cS sa) mord g) (K82 : ∀ (x1 : Int32) (S : gS) (H : Heap) (locs : List Loc) (ls : Array Slot), gX D (mcell g cI cS sa) mord g S s H locs → lv_has ls 4 [(0, .ref (g 99)), (1, .int x1)] → r82 x1 S = some o → W p l e (rmd 5) s m args below meth c H locs 0 0 (gE below args s D (mtys cI cS) (mcell g cI cS sa) mord g none o.2) (F0 m 82 ls [])) (X : gX D (mcell g cI cS sa) mord g S s H locs) (hl : lv_has ls 4 [(0, .ref (g 99)), (1, .int x1)]) (hF : fX12_anHour_b158 N r82 x1 S = some o) : W p l e (rmd 5) s m args below meth c H locs 0 0 (gE below args s D (mtys cI cS) (mcell g cI cS sa) mord g none o.2) (F0 m 158 ls []) := by
  unfold fX12_anHour_b158 at hF
  refine lv_aload_n C.1.1 C.1.2.1 dX12_anHour_158 rfl (lv_at hl 0 rfl) ?_
  refine m_g32 C X dX12_anHour_159 ?_
  refine lv_iload_n C.1.1 C.1.2.1 dX12_anHour_162 rfl (lv_at hl 1 rfl) ?_
  obtain ⟨h_1, hF⟩ := chk_some hF
  refine m_r32 C X  (inb_vp h_1) rfl dX12_anHour_163 ?_
  refine lv_aload_n C.1.1 C.1.2.1 dX12_anHour_164 rfl (lv_at hl 0 rfl) ?_
  refine m_g5 C X dX12_anHour_165 ?_
  refine lv_iconst (v := 2) C.1.1 C.1.2.1 dX12_anHour_168 (by decide) ?_
  refine m_r5 C X (j := 2) (inb_vp (by decide)) (by decide) dX12_anHour_169 ?_
  refine lv_icmp_gt (tgt := 176) C.1.1 C.1.2.1 dX12_anHour_170 (by decide) (fun h_z => ?_) (fun h_z => ?_)
  · rw [if_pos h_z] at hF
    exact bX12_anHour_176 C O K82 X (lv_sub hl [0, 1] rfl) hF
  · rw [if_neg h_z] at hF
    exact bX12_anHour_173 C O K82 X (lv_sub hl [0, 1] rfl) hF
noncomputable def fX12_anHour_b153 (N : Nat) (r82 : Int32 → gS → Option (Int32 × gS)) (x1 : Int32) (S : gS) : Option (Int32 × gS) := bnd (fX12_pay N x1 S) fun q1 => (fX12_anHour_b158 N r82 x1 q1.2)
theorem bX12_anHour_153 {N : Nat} {r82 : Int32 → gS → Option (Int32 × gS)} {x1 : Int32} {S : gS} {H : Heap} {locs : List Loc} {ls : Array Slot} {o : Int32 × gS} (C : gC p s m args meth c cX12_anHour 4 RX12 none D (mtys cI cS) mord g Am) (O : gO (mcell g cI cS sa) mord g) (K82 : ∀ (x1 : Int32) (S : gS) (H : Heap) (locs : List Loc) (ls : Array Slot), gX D (mcell g cI cS sa) mord g S s H locs → lv_has ls 4 [(0, .ref (g 99)), (1, .int x1)] → r82 x1 S = some o → W p l e (rmd 5) s m args below meth c H locs 0 0 (gE below args s D (mtys cI cS) (mcell g cI cS sa) mord g none o.2) (F0 m 82 ls [])) (X : gX D (mcell g cI cS sa) mord g S s H locs) (hl : lv_has ls 4 [(0, .ref (g 99)), (1, .int x1)]) (hF : fX12_anHour_b153 N r82 x1 S = some o) : W p l e (rmd 5) s m args below meth c H locs 0 0 (gE below args s D (mtys cI cS) (mcell g cI cS sa) mord g none o.2) (F0 m 153 ls []) := by
  unfold fX12_anHour_b153 at hF
  refine lv_aload_n C.1.1 C.1.2.1 dX12_anHour_153 rfl (lv_at hl 0 rfl) ?_
  refine lv_iload_n C.1.1 C.1.2.1 dX12_anHour_154 rfl (lv_at hl 1 rfl) ?_
  obtain ⟨q1, hq1, hF⟩ := bnd_some hF
  refine m_callV C X vX12_pay rfl (kX12_pay O C.2.2.2.2.1 N x1  S q1 hq1) (Nat.le_of_ble_eq_true rfl) (Nat.le_of_ble_eq_true rfl) (Nat.le_of_ble_eq_true rfl) (Nat.le_of_ble_eq_true rfl) rfl hl.1 rfl (Nat.le_of_ble_eq_true rfl) dX12_anHour_155 (fun H locs X => ?_)
  exact bX12_anHour_158 C O K82 X (lv_sub hl [0, 1] rfl) hF
noncomputable def fX12_anHour_b92 (N : Nat) (r82 : Int32 → gS → Option (Int32 × gS)) (x1 : Int32) (S : gS) : Option (Int32 × gS) := chk (inb x1 (6)) (chk (inb x1 (6)) (chk (inb x1 (6)) (lt (sU S 33 (Int32.toNatClampNeg x1) (if (((S 33 (Int32.toNatClampNeg x1)) + ((3 * (S 18 (Int32.toNatClampNeg x1)) : Int32)) : Int32)) < 999 then (((S 33 (Int32.toNatClampNeg x1)) + ((3 * (S 18 (Int32.toNatClampNeg x1)) : Int32)) : Int32)) else 999)) fun S1 => (chk (inb x1 (6)) (chk (inb x1 (6)) (chk (inb x1 (6)) (lt (sU S1 32 (Int32.toNatClampNeg x1) (if (((S1 32 (Int32.toNatClampNeg x1)) + (S1 18 (Int32.toNatClampNeg x1)) : Int32)) < 99 then (((S1 32 (Int32.toNatClampNeg x1)) + (S1 18 (Int32.toNatClampNeg x1)) : Int32)) else 99)) fun S2 => (chk (inb x1 (6)) (if (S2 35 (Int32.toNatClampNeg x1)) = ((-1)) then fX12_anHour_b158 N r82 x1 S2 else fX12_anHour_b153 N r82 x1 S2)))))))))
theorem bX12_anHour_92 {N : Nat} {r82 : Int32 → gS → Option (Int32 × gS)} {x1 : Int32} {S : gS} {H : Heap} {locs : List Loc} {ls : Array Slot} {o : Int32 × gS} (C : gC p s m args meth c cX12_anHour 4 RX12 none D (mtys cI cS) mord g Am) (O : gO (mcell g cI cS sa) mord g) (K82 : ∀ (x1 : Int32) (S : gS) (H : Heap) (locs : List Loc) (ls : Array Slot), gX D (mcell g cI cS sa) mord g S s H locs → lv_has ls 4 [(0, .ref (g 99)), (1, .int x1)] → r82 x1 S = some o → W p l e (rmd 5) s m args below meth c H locs 0 0 (gE below args s D (mtys cI cS) (mcell g cI cS sa) mord g none o.2) (F0 m 82 ls [])) (X : gX D (mcell g cI cS sa) mord g S s H locs) (hl : lv_has ls 4 [(0, .ref (g 99)), (1, .int x1)]) (hF : fX12_anHour_b92 N r82 x1 S = some o) : W p l e (rmd 5) s m args below meth c H locs 0 0 (gE below args s D (mtys cI cS) (mcell g cI cS sa) mord g none o.2) (F0 m 92 ls []) := by
  unfold fX12_anHour_b92 at hF
  refine lv_aload_n C.1.1 C.1.2.1 dX12_anHour_92 rfl (lv_at hl 0 rfl) ?_
  refine m_g33 C X dX12_anHour_93 ?_
  refine lv_iload_n C.1.1 C.1.2.1 dX12_anHour_96 rfl (lv_at hl 1 rfl) ?_
  refine lv_sipush (v := 999) C.1.1 C.1.2.1 dX12_anHour_97 (by decide) ?_
  refine lv_aload_n C.1.1 C.1.2.1 dX12_anHour_100 rfl (lv_at hl 0 rfl) ?_
  refine m_g33 C X dX12_anHour_101 ?_
  refine lv_iload_n C.1.1 C.1.2.1 dX12_anHour_104 rfl (lv_at hl 1 rfl) ?_
  obtain ⟨h_1, hF⟩ := chk_some hF
  refine m_r33 C X  (inb_vp h_1) rfl dX12_anHour_105 ?_
  refine lv_iconst (v := 3) C.1.1 C.1.2.1 dX12_anHour_106 (by decide) ?_
  refine lv_aload_n C.1.1 C.1.2.1 dX12_anHour_107 rfl (lv_at hl 0 rfl) ?_
  refine m_g18 C X dX12_anHour_108 ?_
  refine lv_iload_n C.1.1 C.1.2.1 dX12_anHour_111 rfl (lv_at hl 1 rfl) ?_
  obtain ⟨h_2, hF⟩ := chk_some hF
  refine m_r18 C X  (inb_vp h_2) rfl dX12_anHour_112 ?_
  refine lv_imul C.1.1 C.1.2.1 dX12_anHour_113 ?_
  refine lv_iadd C.1.1 C.1.2.1 dX12_anHour_114 ?_
  refine g_min C hl.1 mMmin192 ⟨Nat.le_of_ble_eq_true rfl, Nat.le_of_ble_eq_true rfl⟩ (Nat.le_of_ble_eq_true rfl) (Nat.le_of_ble_eq_true rfl) dX12_anHour_115 ?_
  obtain ⟨h_3, hF⟩ := chk_some hF
  obtain ⟨S1, eS1, hF⟩ := lt_some hF
  refine m_w33 C O X  (inb_vp h_3) rfl eS1 dX12_anHour_118 (fun H locs X => ?_)
  refine lv_aload_n C.1.1 C.1.2.1 dX12_anHour_119 rfl (lv_at hl 0 rfl) ?_
  refine m_g32 C X dX12_anHour_120 ?_
  refine lv_iload_n C.1.1 C.1.2.1 dX12_anHour_123 rfl (lv_at hl 1 rfl) ?_
  refine lv_bipush (v := 99) C.1.1 C.1.2.1 dX12_anHour_124 (by decide) ?_
  refine lv_aload_n C.1.1 C.1.2.1 dX12_anHour_126 rfl (lv_at hl 0 rfl) ?_
  refine m_g32 C X dX12_anHour_127 ?_
  refine lv_iload_n C.1.1 C.1.2.1 dX12_anHour_130 rfl (lv_at hl 1 rfl) ?_
  obtain ⟨h_4, hF⟩ := chk_some hF
  refine m_r32 C X  (inb_vp h_4) rfl dX12_anHour_131 ?_
  refine lv_aload_n C.1.1 C.1.2.1 dX12_anHour_132 rfl (lv_at hl 0 rfl) ?_
  refine m_g18 C X dX12_anHour_133 ?_
  refine lv_iload_n C.1.1 C.1.2.1 dX12_anHour_136 rfl (lv_at hl 1 rfl) ?_
  obtain ⟨h_5, hF⟩ := chk_some hF
  refine m_r18 C X  (inb_vp h_5) rfl dX12_anHour_137 ?_
  refine lv_iadd C.1.1 C.1.2.1 dX12_anHour_138 ?_
  refine g_min C hl.1 mMmin192 ⟨Nat.le_of_ble_eq_true rfl, Nat.le_of_ble_eq_true rfl⟩ (Nat.le_of_ble_eq_true rfl) (Nat.le_of_ble_eq_true rfl) dX12_anHour_139 ?_
  obtain ⟨h_6, hF⟩ := chk_some hF
  obtain ⟨S2, eS2, hF⟩ := lt_some hF
  refine m_w32 C O X  (inb_vp h_6) rfl eS2 dX12_anHour_142 (fun H locs X => ?_)
  refine lv_aload_n C.1.1 C.1.2.1 dX12_anHour_143 rfl (lv_at hl 0 rfl) ?_
  refine m_g35 C X dX12_anHour_144 ?_
  refine lv_iload_n C.1.1 C.1.2.1 dX12_anHour_147 rfl (lv_at hl 1 rfl) ?_
  obtain ⟨h_7, hF⟩ := chk_some hF
  refine m_r35 C X  (inb_vp h_7) rfl dX12_anHour_148 ?_
  refine lv_iconst (v := (-1)) C.1.1 C.1.2.1 dX12_anHour_149 (by decide) ?_
  refine lv_icmp_eq (tgt := 158) C.1.1 C.1.2.1 dX12_anHour_150 (by decide) (fun h_z => ?_) (fun h_z => ?_)
  · rw [if_pos h_z] at hF
    exact bX12_anHour_158 C O K82 X (lv_sub hl [0, 1] rfl) hF
  · rw [if_neg h_z] at hF
    exact bX12_anHour_153 C O K82 X (lv_sub hl [0, 1] rfl) hF
noncomputable def fX12_anHour_b82 (N : Nat) (r82 : Int32 → gS → Option (Int32 × gS)) (x1 : Int32) (S : gS) : Option (Int32 × gS) := if (S 5 1) ≤ x1 then fX12_anHour_b224 N S else fX12_anHour_b92 N r82 x1 S
theorem bX12_anHour_82 {N : Nat} {r82 : Int32 → gS → Option (Int32 × gS)} {x1 : Int32} {S : gS} {H : Heap} {locs : List Loc} {ls : Array Slot} {o : Int32 × gS} (C : gC p s m args meth c cX12_anHour 4 RX12 none D (mtys cI cS) mord g Am) (O : gO (mcell g cI cS sa) mord g) (K82 : ∀ (x1 : Int32) (S : gS) (H : Heap) (locs : List Loc) (ls : Array Slot), gX D (mcell g cI cS sa) mord g S s H locs → lv_has ls 4 [(0, .ref (g 99)), (1, .int x1)] → r82 x1 S = some o → W p l e (rmd 5) s m args below meth c H locs 0 0 (gE below args s D (mtys cI cS) (mcell g cI cS sa) mord g none o.2) (F0 m 82 ls [])) (X : gX D (mcell g cI cS sa) mord g S s H locs) (hl : lv_has ls 4 [(0, .ref (g 99)), (1, .int x1)]) (hF : fX12_anHour_b82 N r82 x1 S = some o) : W p l e (rmd 5) s m args below meth c H locs 0 0 (gE below args s D (mtys cI cS) (mcell g cI cS sa) mord g none o.2) (F0 m 82 ls []) := by
  unfold fX12_anHour_b82 at hF
  refine lv_iload_n C.1.1 C.1.2.1 dX12_anHour_82 rfl (lv_at hl 1 rfl) ?_
  refine lv_aload_n C.1.1 C.1.2.1 dX12_anHour_83 rfl (lv_at hl 0 rfl) ?_
  refine m_g5 C X dX12_anHour_84 ?_
  refine lv_iconst (v := 1) C.1.1 C.1.2.1 dX12_anHour_87 (by decide) ?_
  refine m_r5 C X (j := 1) (inb_vp (by decide)) (by decide) dX12_anHour_88 ?_
  refine lv_icmp_ge (tgt := 224) C.1.1 C.1.2.1 dX12_anHour_89 (by decide) (fun h_z => ?_) (fun h_z => ?_)
  · rw [if_pos h_z] at hF
    exact bX12_anHour_224 C O X (lv_sub hl [0] rfl) hF
  · rw [if_neg h_z] at hF
    exact bX12_anHour_92 C O K82 X (lv_sub hl [0, 1] rfl) hF
noncomputable def fX12_anHour_h82 (N : Nat) : Nat → Int32 → gS → Option (Int32 × gS)
  | 0, _, _ => none
  | n + 1, x1, S => fX12_anHour_b82 N (fX12_anHour_h82 N n) x1 S
theorem hX12_anHour_82 {N : Nat} {o : Int32 × gS} (C : gC p s m args meth c cX12_anHour 4 RX12 none D (mtys cI cS) mord g Am) (O : gO (mcell g cI cS sa) mord g) : ∀ (n : Nat) (x1 : Int32) (S : gS) (H : Heap) (locs : List Loc) (ls : Array Slot), gX D (mcell g cI cS sa) mord g S s H locs → lv_has ls 4 [(0, .ref (g 99)), (1, .int x1)] → fX12_anHour_h82 N n x1 S = some o → W p l e (rmd 5) s m args below meth c H locs 0 0 (gE below args s D (mtys cI cS) (mcell g cI cS sa) mord g none o.2) (F0 m 82 ls []) := by
  intro n
  induction n with
  | zero =>
    intro x1 S H locs ls X hl hF
    exact absurd (show (none : Option (Int32 × gS)) = some o from hF) (by simp)
  | succ n ih =>
    intro x1 S H locs ls X hl hF
    have hF : fX12_anHour_b82 N (fX12_anHour_h82 N n) x1 S = some o := hF
    exact bX12_anHour_82 C O ih X hl hF
noncomputable def fX12_anHour_b80 (N : Nat) (S : gS) : Option (Int32 × gS) := fX12_anHour_h82 N N 0 S
theorem bX12_anHour_80 {N : Nat} {S : gS} {H : Heap} {locs : List Loc} {ls : Array Slot} {o : Int32 × gS} (C : gC p s m args meth c cX12_anHour 4 RX12 none D (mtys cI cS) mord g Am) (O : gO (mcell g cI cS sa) mord g) (X : gX D (mcell g cI cS sa) mord g S s H locs) (hl : lv_has ls 4 [(0, .ref (g 99))]) (hF : fX12_anHour_b80 N S = some o) : W p l e (rmd 5) s m args below meth c H locs 0 0 (gE below args s D (mtys cI cS) (mcell g cI cS sa) mord g none o.2) (F0 m 80 ls []) := by
  unfold fX12_anHour_b80 at hF
  refine lv_iconst (v := 0) C.1.1 C.1.2.1 dX12_anHour_80 (by decide) ?_
  refine lv_istore_n (lv' := [(1, .int 0), (0, .ref (g 99))]) C.1.1 C.1.2.1 dX12_anHour_81 rfl hl (by decide) rfl (fun ls hl => ?_)
  exact hX12_anHour_82 C O N _ _ _ _ _ X (lv_sub hl [1, 0] rfl) hF
noncomputable def fX12_anHour_b74 (N : Nat) (r15 : Int32 → gS → Option (Int32 × gS)) (x1 : Int32) (S : gS) : Option (Int32 × gS) := r15 ((x1 + 1 : Int32)) S
theorem bX12_anHour_74 {N : Nat} {r15 : Int32 → gS → Option (Int32 × gS)} {x1 : Int32} {S : gS} {H : Heap} {locs : List Loc} {ls : Array Slot} {o : Int32 × gS} (C : gC p s m args meth c cX12_anHour 4 RX12 none D (mtys cI cS) mord g Am) (O : gO (mcell g cI cS sa) mord g) (K15 : ∀ (x1 : Int32) (S : gS) (H : Heap) (locs : List Loc) (ls : Array Slot), gX D (mcell g cI cS sa) mord g S s H locs → lv_has ls 4 [(0, .ref (g 99)), (1, .int x1)] → r15 x1 S = some o → W p l e (rmd 5) s m args below meth c H locs 0 0 (gE below args s D (mtys cI cS) (mcell g cI cS sa) mord g none o.2) (F0 m 15 ls [])) (X : gX D (mcell g cI cS sa) mord g S s H locs) (hl : lv_has ls 4 [(0, .ref (g 99)), (1, .int x1)]) (hF : fX12_anHour_b74 N r15 x1 S = some o) : W p l e (rmd 5) s m args below meth c H locs 0 0 (gE below args s D (mtys cI cS) (mcell g cI cS sa) mord g none o.2) (F0 m 74 ls []) := by
  unfold fX12_anHour_b74 at hF
  refine lv_iinc (v := (x1 + 1 : Int32)) (lv' := [(1, .int ((x1 + 1 : Int32))), (0, .ref (g 99))]) C.1.1 C.1.2.1 dX12_anHour_74 hl (k := 1) rfl rfl (by decide) rfl (fun ls hl => ?_)
  refine lv_goto (tgt := 15) C.1.1 C.1.2.1 dX12_anHour_77 (by decide) ?_
  exact K15 _ _ _ _ _ X (lv_sub hl [1, 0] rfl) hF
noncomputable def fX12_anHour_b63 (N : Nat) (r15 : Int32 → gS → Option (Int32 × gS)) (r48 : Int32 → Int32 → Int32 → gS → Option (Int32 × gS)) (x1 : Int32) (x2 : Int32) (x3 : Int32) (S : gS) : Option (Int32 × gS) := bnd (fX12_pray N x2 S) fun q1 => (r48 x1 x2 ((x3 + 1 : Int32)) q1.2)
theorem bX12_anHour_63 {N : Nat} {r15 : Int32 → gS → Option (Int32 × gS)} {r48 : Int32 → Int32 → Int32 → gS → Option (Int32 × gS)} {x1 : Int32} {x2 : Int32} {x3 : Int32} {S : gS} {H : Heap} {locs : List Loc} {ls : Array Slot} {o : Int32 × gS} (C : gC p s m args meth c cX12_anHour 4 RX12 none D (mtys cI cS) mord g Am) (O : gO (mcell g cI cS sa) mord g) (K15 : ∀ (x1 : Int32) (S : gS) (H : Heap) (locs : List Loc) (ls : Array Slot), gX D (mcell g cI cS sa) mord g S s H locs → lv_has ls 4 [(0, .ref (g 99)), (1, .int x1)] → r15 x1 S = some o → W p l e (rmd 5) s m args below meth c H locs 0 0 (gE below args s D (mtys cI cS) (mcell g cI cS sa) mord g none o.2) (F0 m 15 ls [])) (K48 : ∀ (x1 : Int32) (x2 : Int32) (x3 : Int32) (S : gS) (H : Heap) (locs : List Loc) (ls : Array Slot), gX D (mcell g cI cS sa) mord g S s H locs → lv_has ls 4 [(0, .ref (g 99)), (1, .int x1), (2, .int x2), (3, .int x3)] → r48 x1 x2 x3 S = some o → W p l e (rmd 5) s m args below meth c H locs 0 0 (gE below args s D (mtys cI cS) (mcell g cI cS sa) mord g none o.2) (F0 m 48 ls [])) (X : gX D (mcell g cI cS sa) mord g S s H locs) (hl : lv_has ls 4 [(0, .ref (g 99)), (1, .int x1), (2, .int x2), (3, .int x3)]) (hF : fX12_anHour_b63 N r15 r48 x1 x2 x3 S = some o) : W p l e (rmd 5) s m args below meth c H locs 0 0 (gE below args s D (mtys cI cS) (mcell g cI cS sa) mord g none o.2) (F0 m 63 ls []) := by
  unfold fX12_anHour_b63 at hF
  refine lv_aload_n C.1.1 C.1.2.1 dX12_anHour_63 rfl (lv_at hl 0 rfl) ?_
  refine lv_iload_n C.1.1 C.1.2.1 dX12_anHour_64 rfl (lv_at hl 2 rfl) ?_
  obtain ⟨q1, hq1, hF⟩ := bnd_some hF
  refine m_callV C X vX12_pray rfl (kX12_pray O C.2.2.2.2.1 N x2  S q1 hq1) (Nat.le_of_ble_eq_true rfl) (Nat.le_of_ble_eq_true rfl) (Nat.le_of_ble_eq_true rfl) (Nat.le_of_ble_eq_true rfl) rfl hl.1 rfl (Nat.le_of_ble_eq_true rfl) dX12_anHour_65 (fun H locs X => ?_)
  refine lv_iinc (v := (x3 + 1 : Int32)) (lv' := [(3, .int ((x3 + 1 : Int32))), (0, .ref (g 99)), (1, .int x1), (2, .int x2)]) C.1.1 C.1.2.1 dX12_anHour_68 hl (k := 3) rfl rfl (by decide) rfl (fun ls hl => ?_)
  refine lv_goto (tgt := 48) C.1.1 C.1.2.1 dX12_anHour_71 (by decide) ?_
  exact K48 _ _ _ _ _ _ _ X (lv_sub hl [1, 2, 3, 0] rfl) hF
noncomputable def fX12_anHour_b53 (N : Nat) (r15 : Int32 → gS → Option (Int32 × gS)) (r48 : Int32 → Int32 → Int32 → gS → Option (Int32 × gS)) (x1 : Int32) (x2 : Int32) (x3 : Int32) (S : gS) : Option (Int32 × gS) := chk (inb x1 (16)) (if (S 6 (Int32.toNatClampNeg x1)) < x3 then fX12_anHour_b74 N r15 x1 S else fX12_anHour_b63 N r15 r48 x1 x2 x3 S)
theorem bX12_anHour_53 {N : Nat} {r15 : Int32 → gS → Option (Int32 × gS)} {r48 : Int32 → Int32 → Int32 → gS → Option (Int32 × gS)} {x1 : Int32} {x2 : Int32} {x3 : Int32} {S : gS} {H : Heap} {locs : List Loc} {ls : Array Slot} {o : Int32 × gS} (C : gC p s m args meth c cX12_anHour 4 RX12 none D (mtys cI cS) mord g Am) (O : gO (mcell g cI cS sa) mord g) (K15 : ∀ (x1 : Int32) (S : gS) (H : Heap) (locs : List Loc) (ls : Array Slot), gX D (mcell g cI cS sa) mord g S s H locs → lv_has ls 4 [(0, .ref (g 99)), (1, .int x1)] → r15 x1 S = some o → W p l e (rmd 5) s m args below meth c H locs 0 0 (gE below args s D (mtys cI cS) (mcell g cI cS sa) mord g none o.2) (F0 m 15 ls [])) (K48 : ∀ (x1 : Int32) (x2 : Int32) (x3 : Int32) (S : gS) (H : Heap) (locs : List Loc) (ls : Array Slot), gX D (mcell g cI cS sa) mord g S s H locs → lv_has ls 4 [(0, .ref (g 99)), (1, .int x1), (2, .int x2), (3, .int x3)] → r48 x1 x2 x3 S = some o → W p l e (rmd 5) s m args below meth c H locs 0 0 (gE below args s D (mtys cI cS) (mcell g cI cS sa) mord g none o.2) (F0 m 48 ls [])) (X : gX D (mcell g cI cS sa) mord g S s H locs) (hl : lv_has ls 4 [(0, .ref (g 99)), (1, .int x1), (2, .int x2), (3, .int x3)]) (hF : fX12_anHour_b53 N r15 r48 x1 x2 x3 S = some o) : W p l e (rmd 5) s m args below meth c H locs 0 0 (gE below args s D (mtys cI cS) (mcell g cI cS sa) mord g none o.2) (F0 m 53 ls []) := by
  unfold fX12_anHour_b53 at hF
  refine lv_iload_n C.1.1 C.1.2.1 dX12_anHour_53 rfl (lv_at hl 3 rfl) ?_
  refine lv_aload_n C.1.1 C.1.2.1 dX12_anHour_54 rfl (lv_at hl 0 rfl) ?_
  refine m_g6 C X dX12_anHour_55 ?_
  refine lv_iload_n C.1.1 C.1.2.1 dX12_anHour_58 rfl (lv_at hl 1 rfl) ?_
  obtain ⟨h_1, hF⟩ := chk_some hF
  refine m_r6 C X  (inb_vp h_1) rfl dX12_anHour_59 ?_
  refine lv_icmp_gt (tgt := 74) C.1.1 C.1.2.1 dX12_anHour_60 (by decide) (fun h_z => ?_) (fun h_z => ?_)
  · rw [if_pos h_z] at hF
    exact bX12_anHour_74 C O K15 X (lv_sub hl [0, 1] rfl) hF
  · rw [if_neg h_z] at hF
    exact bX12_anHour_63 C O K15 K48 X (lv_sub hl [0, 1, 2, 3] rfl) hF
noncomputable def fX12_anHour_b48 (N : Nat) (r15 : Int32 → gS → Option (Int32 × gS)) (r48 : Int32 → Int32 → Int32 → gS → Option (Int32 × gS)) (x1 : Int32) (x2 : Int32) (x3 : Int32) (S : gS) : Option (Int32 × gS) := if x2 = ((-1)) then fX12_anHour_b74 N r15 x1 S else fX12_anHour_b53 N r15 r48 x1 x2 x3 S
theorem bX12_anHour_48 {N : Nat} {r15 : Int32 → gS → Option (Int32 × gS)} {r48 : Int32 → Int32 → Int32 → gS → Option (Int32 × gS)} {x1 : Int32} {x2 : Int32} {x3 : Int32} {S : gS} {H : Heap} {locs : List Loc} {ls : Array Slot} {o : Int32 × gS} (C : gC p s m args meth c cX12_anHour 4 RX12 none D (mtys cI cS) mord g Am) (O : gO (mcell g cI cS sa) mord g) (K15 : ∀ (x1 : Int32) (S : gS) (H : Heap) (locs : List Loc) (ls : Array Slot), gX D (mcell g cI cS sa) mord g S s H locs → lv_has ls 4 [(0, .ref (g 99)), (1, .int x1)] → r15 x1 S = some o → W p l e (rmd 5) s m args below meth c H locs 0 0 (gE below args s D (mtys cI cS) (mcell g cI cS sa) mord g none o.2) (F0 m 15 ls [])) (K48 : ∀ (x1 : Int32) (x2 : Int32) (x3 : Int32) (S : gS) (H : Heap) (locs : List Loc) (ls : Array Slot), gX D (mcell g cI cS sa) mord g S s H locs → lv_has ls 4 [(0, .ref (g 99)), (1, .int x1), (2, .int x2), (3, .int x3)] → r48 x1 x2 x3 S = some o → W p l e (rmd 5) s m args below meth c H locs 0 0 (gE below args s D (mtys cI cS) (mcell g cI cS sa) mord g none o.2) (F0 m 48 ls [])) (X : gX D (mcell g cI cS sa) mord g S s H locs) (hl : lv_has ls 4 [(0, .ref (g 99)), (1, .int x1), (2, .int x2), (3, .int x3)]) (hF : fX12_anHour_b48 N r15 r48 x1 x2 x3 S = some o) : W p l e (rmd 5) s m args below meth c H locs 0 0 (gE below args s D (mtys cI cS) (mcell g cI cS sa) mord g none o.2) (F0 m 48 ls []) := by
  unfold fX12_anHour_b48 at hF
  refine lv_iload_n C.1.1 C.1.2.1 dX12_anHour_48 rfl (lv_at hl 2 rfl) ?_
  refine lv_iconst (v := (-1)) C.1.1 C.1.2.1 dX12_anHour_49 (by decide) ?_
  refine lv_icmp_eq (tgt := 74) C.1.1 C.1.2.1 dX12_anHour_50 (by decide) (fun h_z => ?_) (fun h_z => ?_)
  · rw [if_pos h_z] at hF
    exact bX12_anHour_74 C O K15 X (lv_sub hl [0, 1] rfl) hF
  · rw [if_neg h_z] at hF
    exact bX12_anHour_53 C O K15 K48 X (lv_sub hl [0, 1, 2, 3] rfl) hF
noncomputable def fX12_anHour_h48 (N : Nat) (r15 : Int32 → gS → Option (Int32 × gS)) : Nat → Int32 → Int32 → Int32 → gS → Option (Int32 × gS)
  | 0, _, _, _, _ => none
  | n + 1, x1, x2, x3, S => fX12_anHour_b48 N r15 (fX12_anHour_h48 N r15 n) x1 x2 x3 S
theorem hX12_anHour_48 {N : Nat} {r15 : Int32 → gS → Option (Int32 × gS)} {o : Int32 × gS} (C : gC p s m args meth c cX12_anHour 4 RX12 none D (mtys cI cS) mord g Am) (O : gO (mcell g cI cS sa) mord g) (K15 : ∀ (x1 : Int32) (S : gS) (H : Heap) (locs : List Loc) (ls : Array Slot), gX D (mcell g cI cS sa) mord g S s H locs → lv_has ls 4 [(0, .ref (g 99)), (1, .int x1)] → r15 x1 S = some o → W p l e (rmd 5) s m args below meth c H locs 0 0 (gE below args s D (mtys cI cS) (mcell g cI cS sa) mord g none o.2) (F0 m 15 ls [])) : ∀ (n : Nat) (x1 : Int32) (x2 : Int32) (x3 : Int32) (S : gS) (H : Heap) (locs : List Loc) (ls : Array Slot), gX D (mcell g cI cS sa) mord g S s H locs → lv_has ls 4 [(0, .ref (g 99)), (1, .int x1), (2, .int x2), (3, .int x3)] → fX12_anHour_h48 N r15 n x1 x2 x3 S = some o → W p l e (rmd 5) s m args below meth c H locs 0 0 (gE below args s D (mtys cI cS) (mcell g cI cS sa) mord g none o.2) (F0 m 48 ls []) := by
  intro n
  induction n with
  | zero =>
    intro x1 x2 x3 S H locs ls X hl hF
    exact absurd (show (none : Option (Int32 × gS)) = some o from hF) (by simp)
  | succ n ih =>
    intro x1 x2 x3 S H locs ls X hl hF
    have hF : fX12_anHour_b48 N r15 (fX12_anHour_h48 N r15 n) x1 x2 x3 S = some o := hF
    exact bX12_anHour_48 C O K15 ih X hl hF
noncomputable def fX12_anHour_b45 (N : Nat) (r15 : Int32 → gS → Option (Int32 × gS)) (x1 : Int32) (t0 : Int32) (S : gS) : Option (Int32 × gS) := fX12_anHour_h48 N r15 N x1 t0 0 S
theorem bX12_anHour_45 {N : Nat} {r15 : Int32 → gS → Option (Int32 × gS)} {x1 : Int32} {t0 : Int32} {S : gS} {H : Heap} {locs : List Loc} {ls : Array Slot} {o : Int32 × gS} (C : gC p s m args meth c cX12_anHour 4 RX12 none D (mtys cI cS) mord g Am) (O : gO (mcell g cI cS sa) mord g) (K15 : ∀ (x1 : Int32) (S : gS) (H : Heap) (locs : List Loc) (ls : Array Slot), gX D (mcell g cI cS sa) mord g S s H locs → lv_has ls 4 [(0, .ref (g 99)), (1, .int x1)] → r15 x1 S = some o → W p l e (rmd 5) s m args below meth c H locs 0 0 (gE below args s D (mtys cI cS) (mcell g cI cS sa) mord g none o.2) (F0 m 15 ls [])) (X : gX D (mcell g cI cS sa) mord g S s H locs) (hl : lv_has ls 4 [(0, .ref (g 99)), (1, .int x1)]) (hF : fX12_anHour_b45 N r15 x1 t0 S = some o) : W p l e (rmd 5) s m args below meth c H locs 0 0 (gE below args s D (mtys cI cS) (mcell g cI cS sa) mord g none o.2) (F0 m 45 ls [.int t0]) := by
  unfold fX12_anHour_b45 at hF
  refine lv_istore_n (lv' := [(2, .int t0), (0, .ref (g 99)), (1, .int x1)]) C.1.1 C.1.2.1 dX12_anHour_45 rfl hl (by decide) rfl (fun ls hl => ?_)
  refine lv_iconst (v := 0) C.1.1 C.1.2.1 dX12_anHour_46 (by decide) ?_
  refine lv_istore_n (lv' := [(3, .int 0), (2, .int t0), (0, .ref (g 99)), (1, .int x1)]) C.1.1 C.1.2.1 dX12_anHour_47 rfl hl (by decide) rfl (fun ls hl => ?_)
  exact hX12_anHour_48 C O K15 N _ _ _ _ _ _ _ X (lv_sub hl [2, 3, 1, 0] rfl) hF
noncomputable def fX12_anHour_b44 (N : Nat) (r15 : Int32 → gS → Option (Int32 × gS)) (x1 : Int32) (S : gS) : Option (Int32 × gS) := fX12_anHour_b45 N r15 x1 ((-1)) S
theorem bX12_anHour_44 {N : Nat} {r15 : Int32 → gS → Option (Int32 × gS)} {x1 : Int32} {S : gS} {H : Heap} {locs : List Loc} {ls : Array Slot} {o : Int32 × gS} (C : gC p s m args meth c cX12_anHour 4 RX12 none D (mtys cI cS) mord g Am) (O : gO (mcell g cI cS sa) mord g) (K15 : ∀ (x1 : Int32) (S : gS) (H : Heap) (locs : List Loc) (ls : Array Slot), gX D (mcell g cI cS sa) mord g S s H locs → lv_has ls 4 [(0, .ref (g 99)), (1, .int x1)] → r15 x1 S = some o → W p l e (rmd 5) s m args below meth c H locs 0 0 (gE below args s D (mtys cI cS) (mcell g cI cS sa) mord g none o.2) (F0 m 15 ls [])) (X : gX D (mcell g cI cS sa) mord g S s H locs) (hl : lv_has ls 4 [(0, .ref (g 99)), (1, .int x1)]) (hF : fX12_anHour_b44 N r15 x1 S = some o) : W p l e (rmd 5) s m args below meth c H locs 0 0 (gE below args s D (mtys cI cS) (mcell g cI cS sa) mord g none o.2) (F0 m 44 ls []) := by
  unfold fX12_anHour_b44 at hF
  refine lv_iconst (v := (-1)) C.1.1 C.1.2.1 dX12_anHour_44 (by decide) ?_
  exact bX12_anHour_45 C O K15 X (lv_sub hl [0, 1] rfl) hF
noncomputable def fX12_anHour_b36 (N : Nat) (r15 : Int32 → gS → Option (Int32 × gS)) (x1 : Int32) (S : gS) : Option (Int32 × gS) := bnd (fX12_hirerOf N x1 S) fun q1 => (fX12_anHour_b45 N r15 x1 q1.1 q1.2)
theorem bX12_anHour_36 {N : Nat} {r15 : Int32 → gS → Option (Int32 × gS)} {x1 : Int32} {S : gS} {H : Heap} {locs : List Loc} {ls : Array Slot} {o : Int32 × gS} (C : gC p s m args meth c cX12_anHour 4 RX12 none D (mtys cI cS) mord g Am) (O : gO (mcell g cI cS sa) mord g) (K15 : ∀ (x1 : Int32) (S : gS) (H : Heap) (locs : List Loc) (ls : Array Slot), gX D (mcell g cI cS sa) mord g S s H locs → lv_has ls 4 [(0, .ref (g 99)), (1, .int x1)] → r15 x1 S = some o → W p l e (rmd 5) s m args below meth c H locs 0 0 (gE below args s D (mtys cI cS) (mcell g cI cS sa) mord g none o.2) (F0 m 15 ls [])) (X : gX D (mcell g cI cS sa) mord g S s H locs) (hl : lv_has ls 4 [(0, .ref (g 99)), (1, .int x1)]) (hF : fX12_anHour_b36 N r15 x1 S = some o) : W p l e (rmd 5) s m args below meth c H locs 0 0 (gE below args s D (mtys cI cS) (mcell g cI cS sa) mord g none o.2) (F0 m 36 ls []) := by
  unfold fX12_anHour_b36 at hF
  refine lv_aload_n C.1.1 C.1.2.1 dX12_anHour_36 rfl (lv_at hl 0 rfl) ?_
  refine lv_iload_n C.1.1 C.1.2.1 dX12_anHour_37 rfl (lv_at hl 1 rfl) ?_
  obtain ⟨q1, hq1, hF⟩ := bnd_some hF
  refine m_callVi C X vX12_hirerOf rfl (kX12_hirerOf O C.2.2.2.2.1 N x1  S q1 hq1) (Nat.le_of_ble_eq_true rfl) (Nat.le_of_ble_eq_true rfl) (Nat.le_of_ble_eq_true rfl) (Nat.le_of_ble_eq_true rfl) rfl hl.1 rfl (Nat.le_of_ble_eq_true rfl) dX12_anHour_38 (fun H locs X => ?_)
  refine lv_goto (tgt := 45) C.1.1 C.1.2.1 dX12_anHour_41 (by decide) ?_
  exact bX12_anHour_45 C O K15 X (lv_sub hl [0, 1] rfl) hF
noncomputable def fX12_anHour_b25 (N : Nat) (r15 : Int32 → gS → Option (Int32 × gS)) (x1 : Int32) (S : gS) : Option (Int32 × gS) := bnd (fX12_isOf N (S 99 44) x1 S) fun q1 => (if q1.1 = 0 then fX12_anHour_b44 N r15 x1 q1.2 else fX12_anHour_b36 N r15 x1 q1.2)
theorem bX12_anHour_25 {N : Nat} {r15 : Int32 → gS → Option (Int32 × gS)} {x1 : Int32} {S : gS} {H : Heap} {locs : List Loc} {ls : Array Slot} {o : Int32 × gS} (C : gC p s m args meth c cX12_anHour 4 RX12 none D (mtys cI cS) mord g Am) (O : gO (mcell g cI cS sa) mord g) (K15 : ∀ (x1 : Int32) (S : gS) (H : Heap) (locs : List Loc) (ls : Array Slot), gX D (mcell g cI cS sa) mord g S s H locs → lv_has ls 4 [(0, .ref (g 99)), (1, .int x1)] → r15 x1 S = some o → W p l e (rmd 5) s m args below meth c H locs 0 0 (gE below args s D (mtys cI cS) (mcell g cI cS sa) mord g none o.2) (F0 m 15 ls [])) (X : gX D (mcell g cI cS sa) mord g S s H locs) (hl : lv_has ls 4 [(0, .ref (g 99)), (1, .int x1)]) (hF : fX12_anHour_b25 N r15 x1 S = some o) : W p l e (rmd 5) s m args below meth c H locs 0 0 (gE below args s D (mtys cI cS) (mcell g cI cS sa) mord g none o.2) (F0 m 25 ls []) := by
  unfold fX12_anHour_b25 at hF
  refine lv_aload_n C.1.1 C.1.2.1 dX12_anHour_25 rfl (lv_at hl 0 rfl) ?_
  refine m_g44 C X dX12_anHour_26 ?_
  refine lv_iload_n C.1.1 C.1.2.1 dX12_anHour_29 rfl (lv_at hl 1 rfl) ?_
  obtain ⟨q1, hq1, hF⟩ := bnd_some hF
  refine g_callSi C X vX12_isOf (kX12_isOf O C.2.2.2.2.1 N (S 99 44) x1  S q1 hq1) (Nat.le_of_ble_eq_true rfl) (Nat.le_of_ble_eq_true rfl) (Nat.le_of_ble_eq_true rfl) (Nat.le_of_ble_eq_true rfl) rfl hl.1 rfl (Nat.le_of_ble_eq_true rfl) dX12_anHour_30 (fun H locs X => ?_)
  refine lv_if_eq (tgt := 44) C.1.1 C.1.2.1 dX12_anHour_33 (by decide) (fun h_z => ?_) (fun h_z => ?_)
  · rw [if_pos h_z] at hF
    exact bX12_anHour_44 C O K15 X (lv_sub hl [0, 1] rfl) hF
  · rw [if_neg h_z] at hF
    exact bX12_anHour_36 C O K15 X (lv_sub hl [0, 1] rfl) hF
noncomputable def fX12_anHour_b15 (N : Nat) (r15 : Int32 → gS → Option (Int32 × gS)) (x1 : Int32) (S : gS) : Option (Int32 × gS) := if (S 5 0) ≤ x1 then fX12_anHour_b80 N S else fX12_anHour_b25 N r15 x1 S
theorem bX12_anHour_15 {N : Nat} {r15 : Int32 → gS → Option (Int32 × gS)} {x1 : Int32} {S : gS} {H : Heap} {locs : List Loc} {ls : Array Slot} {o : Int32 × gS} (C : gC p s m args meth c cX12_anHour 4 RX12 none D (mtys cI cS) mord g Am) (O : gO (mcell g cI cS sa) mord g) (K15 : ∀ (x1 : Int32) (S : gS) (H : Heap) (locs : List Loc) (ls : Array Slot), gX D (mcell g cI cS sa) mord g S s H locs → lv_has ls 4 [(0, .ref (g 99)), (1, .int x1)] → r15 x1 S = some o → W p l e (rmd 5) s m args below meth c H locs 0 0 (gE below args s D (mtys cI cS) (mcell g cI cS sa) mord g none o.2) (F0 m 15 ls [])) (X : gX D (mcell g cI cS sa) mord g S s H locs) (hl : lv_has ls 4 [(0, .ref (g 99)), (1, .int x1)]) (hF : fX12_anHour_b15 N r15 x1 S = some o) : W p l e (rmd 5) s m args below meth c H locs 0 0 (gE below args s D (mtys cI cS) (mcell g cI cS sa) mord g none o.2) (F0 m 15 ls []) := by
  unfold fX12_anHour_b15 at hF
  refine lv_iload_n C.1.1 C.1.2.1 dX12_anHour_15 rfl (lv_at hl 1 rfl) ?_
  refine lv_aload_n C.1.1 C.1.2.1 dX12_anHour_16 rfl (lv_at hl 0 rfl) ?_
  refine m_g5 C X dX12_anHour_17 ?_
  refine lv_iconst (v := 0) C.1.1 C.1.2.1 dX12_anHour_20 (by decide) ?_
  refine m_r5 C X (j := 0) (inb_vp (by decide)) (by decide) dX12_anHour_21 ?_
  refine lv_icmp_ge (tgt := 80) C.1.1 C.1.2.1 dX12_anHour_22 (by decide) (fun h_z => ?_) (fun h_z => ?_)
  · rw [if_pos h_z] at hF
    exact bX12_anHour_80 C O X (lv_sub hl [0] rfl) hF
  · rw [if_neg h_z] at hF
    exact bX12_anHour_25 C O K15 X (lv_sub hl [0, 1] rfl) hF
noncomputable def fX12_anHour_h15 (N : Nat) : Nat → Int32 → gS → Option (Int32 × gS)
  | 0, _, _ => none
  | n + 1, x1, S => fX12_anHour_b15 N (fX12_anHour_h15 N n) x1 S
theorem hX12_anHour_15 {N : Nat} {o : Int32 × gS} (C : gC p s m args meth c cX12_anHour 4 RX12 none D (mtys cI cS) mord g Am) (O : gO (mcell g cI cS sa) mord g) : ∀ (n : Nat) (x1 : Int32) (S : gS) (H : Heap) (locs : List Loc) (ls : Array Slot), gX D (mcell g cI cS sa) mord g S s H locs → lv_has ls 4 [(0, .ref (g 99)), (1, .int x1)] → fX12_anHour_h15 N n x1 S = some o → W p l e (rmd 5) s m args below meth c H locs 0 0 (gE below args s D (mtys cI cS) (mcell g cI cS sa) mord g none o.2) (F0 m 15 ls []) := by
  intro n
  induction n with
  | zero =>
    intro x1 S H locs ls X hl hF
    exact absurd (show (none : Option (Int32 × gS)) = some o from hF) (by simp)
  | succ n ih =>
    intro x1 S H locs ls X hl hF
    have hF : fX12_anHour_b15 N (fX12_anHour_h15 N n) x1 S = some o := hF
    exact bX12_anHour_15 C O ih X hl hF
noncomputable def fX12_anHour_b0 (N : Nat) (S : gS) : Option (Int32 × gS) := bnd (fX12_drippingNow N  S) fun q1 => (lt (sU q1.2 99 44 q1.1) fun S2 => (lt (sU S2 99 45 0) fun S3 => (fX12_anHour_h15 N N 0 S3)))
theorem bX12_anHour_0 {N : Nat} {S : gS} {H : Heap} {locs : List Loc} {ls : Array Slot} {o : Int32 × gS} (C : gC p s m args meth c cX12_anHour 4 RX12 none D (mtys cI cS) mord g Am) (O : gO (mcell g cI cS sa) mord g) (X : gX D (mcell g cI cS sa) mord g S s H locs) (hl : lv_has ls 4 [(0, .ref (g 99))]) (hF : fX12_anHour_b0 N S = some o) : W p l e (rmd 5) s m args below meth c H locs 0 0 (gE below args s D (mtys cI cS) (mcell g cI cS sa) mord g none o.2) (F0 m 0 ls []) := by
  unfold fX12_anHour_b0 at hF
  refine lv_aload_n C.1.1 C.1.2.1 dX12_anHour_0 rfl (lv_at hl 0 rfl) ?_
  refine lv_aload_n C.1.1 C.1.2.1 dX12_anHour_1 rfl (lv_at hl 0 rfl) ?_
  obtain ⟨q1, hq1, hF⟩ := bnd_some hF
  refine m_callVi C X vX12_drippingNow rfl (kX12_drippingNow O C.2.2.2.2.1 N   S q1 hq1) (Nat.le_of_ble_eq_true rfl) (Nat.le_of_ble_eq_true rfl) (Nat.le_of_ble_eq_true rfl) (Nat.le_of_ble_eq_true rfl) rfl hl.1 rfl (Nat.le_of_ble_eq_true rfl) dX12_anHour_2 (fun H locs X => ?_)
  obtain ⟨S2, eS2, hF⟩ := lt_some hF
  refine m_p44 C O X eS2 dX12_anHour_5 (fun H locs X => ?_)
  refine lv_aload_n C.1.1 C.1.2.1 dX12_anHour_8 rfl (lv_at hl 0 rfl) ?_
  refine lv_iconst (v := 0) C.1.1 C.1.2.1 dX12_anHour_9 (by decide) ?_
  obtain ⟨S3, eS3, hF⟩ := lt_some hF
  refine m_p45 C O X eS3 dX12_anHour_10 (fun H locs X => ?_)
  refine lv_iconst (v := 0) C.1.1 C.1.2.1 dX12_anHour_13 (by decide) ?_
  refine lv_istore_n (lv' := [(1, .int 0), (0, .ref (g 99))]) C.1.1 C.1.2.1 dX12_anHour_14 rfl hl (by decide) rfl (fun ls hl => ?_)
  exact hX12_anHour_15 C O N _ _ _ _ _ X (lv_sub hl [1, 0] rfl) hF
noncomputable def fX12_anHour (N : Nat) (S : gS) : Option (Int32 × gS) := fX12_anHour_b0 N S
theorem kX12_anHour {l : Launch} {D : va_G} {g : Nat → Nat} {cI cS : ClassId} {sa : Nat → Nat → Option Nat} {Am : (Nat → Prop) → State → Heap → Prop} (O : gO (mcell g cI cS sa) mord g) (P : gAm Am) (N : Nat) (S : gS) (o : Int32 × gS) (hF : fX12_anHour N S = some o) : gM l yX12_anHour cX12_anHour 4 none 5 D (mtys cI cS) (mcell g cI cS sa) mord g Am [.ref (g 99)] S none o.2 :=
  gM_of O P (by decide) (Nat.le_of_ble_eq_true rfl) (fun p e s m args below meth c ls C X hl => bX12_anHour_0 C O X (lv_sub hl [0] rfl) hF)
-- goOn
noncomputable def fX12_goOn_b17 (N : Nat) (S : gS) : Option (Int32 × gS) := some (0, S)
theorem bX12_goOn_17 {N : Nat} {S : gS} {H : Heap} {locs : List Loc} {ls : Array Slot} {o : Int32 × gS} (C : gC p s m args meth c cX12_goOn 3 RX12 none D (mtys cI cS) mord g Am) (O : gO (mcell g cI cS sa) mord g) (X : gX D (mcell g cI cS sa) mord g S s H locs) (hl : lv_has ls 3 []) (hF : fX12_goOn_b17 N S = some o) : W p l e (rmd 6) s m args below meth c H locs 0 0 (gE below args s D (mtys cI cS) (mcell g cI cS sa) mord g none o.2) (F0 m 17 ls []) := by
  unfold fX12_goOn_b17 at hF
  cases hF
  exact g_vret C X dX12_goOn_17
noncomputable def fX12_goOn_b7 (N : Nat) (r2 : Int32 → Int32 → gS → Option (Int32 × gS)) (x1 : Int32) (x2 : Int32) (S : gS) : Option (Int32 × gS) := bnd (fX12_anHour N  S) fun q1 => (r2 x1 ((x2 + 1 : Int32)) q1.2)
theorem bX12_goOn_7 {N : Nat} {r2 : Int32 → Int32 → gS → Option (Int32 × gS)} {x1 : Int32} {x2 : Int32} {S : gS} {H : Heap} {locs : List Loc} {ls : Array Slot} {o : Int32 × gS} (C : gC p s m args meth c cX12_goOn 3 RX12 none D (mtys cI cS) mord g Am) (O : gO (mcell g cI cS sa) mord g) (K2 : ∀ (x1 : Int32) (x2 : Int32) (S : gS) (H : Heap) (locs : List Loc) (ls : Array Slot), gX D (mcell g cI cS sa) mord g S s H locs → lv_has ls 3 [(0, .ref (g 99)), (1, .int x1), (2, .int x2)] → r2 x1 x2 S = some o → W p l e (rmd 6) s m args below meth c H locs 0 0 (gE below args s D (mtys cI cS) (mcell g cI cS sa) mord g none o.2) (F0 m 2 ls [])) (X : gX D (mcell g cI cS sa) mord g S s H locs) (hl : lv_has ls 3 [(0, .ref (g 99)), (1, .int x1), (2, .int x2)]) (hF : fX12_goOn_b7 N r2 x1 x2 S = some o) : W p l e (rmd 6) s m args below meth c H locs 0 0 (gE below args s D (mtys cI cS) (mcell g cI cS sa) mord g none o.2) (F0 m 7 ls []) := by
  unfold fX12_goOn_b7 at hF
  refine lv_aload_n C.1.1 C.1.2.1 dX12_goOn_7 rfl (lv_at hl 0 rfl) ?_
  obtain ⟨q1, hq1, hF⟩ := bnd_some hF
  refine m_callV C X vX12_anHour rfl (kX12_anHour O C.2.2.2.2.1 N   S q1 hq1) (Nat.le_of_ble_eq_true rfl) (Nat.le_of_ble_eq_true rfl) (Nat.le_of_ble_eq_true rfl) (Nat.le_of_ble_eq_true rfl) rfl hl.1 rfl (Nat.le_of_ble_eq_true rfl) dX12_goOn_8 (fun H locs X => ?_)
  refine lv_iinc (v := (x2 + 1 : Int32)) (lv' := [(2, .int ((x2 + 1 : Int32))), (0, .ref (g 99)), (1, .int x1)]) C.1.1 C.1.2.1 dX12_goOn_11 hl (k := 2) rfl rfl (by decide) rfl (fun ls hl => ?_)
  refine lv_goto (tgt := 2) C.1.1 C.1.2.1 dX12_goOn_14 (by decide) ?_
  exact K2 _ _ _ _ _ _ X (lv_sub hl [1, 2, 0] rfl) hF
noncomputable def fX12_goOn_b2 (N : Nat) (r2 : Int32 → Int32 → gS → Option (Int32 × gS)) (x1 : Int32) (x2 : Int32) (S : gS) : Option (Int32 × gS) := if x1 ≤ x2 then fX12_goOn_b17 N S else fX12_goOn_b7 N r2 x1 x2 S
theorem bX12_goOn_2 {N : Nat} {r2 : Int32 → Int32 → gS → Option (Int32 × gS)} {x1 : Int32} {x2 : Int32} {S : gS} {H : Heap} {locs : List Loc} {ls : Array Slot} {o : Int32 × gS} (C : gC p s m args meth c cX12_goOn 3 RX12 none D (mtys cI cS) mord g Am) (O : gO (mcell g cI cS sa) mord g) (K2 : ∀ (x1 : Int32) (x2 : Int32) (S : gS) (H : Heap) (locs : List Loc) (ls : Array Slot), gX D (mcell g cI cS sa) mord g S s H locs → lv_has ls 3 [(0, .ref (g 99)), (1, .int x1), (2, .int x2)] → r2 x1 x2 S = some o → W p l e (rmd 6) s m args below meth c H locs 0 0 (gE below args s D (mtys cI cS) (mcell g cI cS sa) mord g none o.2) (F0 m 2 ls [])) (X : gX D (mcell g cI cS sa) mord g S s H locs) (hl : lv_has ls 3 [(0, .ref (g 99)), (1, .int x1), (2, .int x2)]) (hF : fX12_goOn_b2 N r2 x1 x2 S = some o) : W p l e (rmd 6) s m args below meth c H locs 0 0 (gE below args s D (mtys cI cS) (mcell g cI cS sa) mord g none o.2) (F0 m 2 ls []) := by
  unfold fX12_goOn_b2 at hF
  refine lv_iload_n C.1.1 C.1.2.1 dX12_goOn_2 rfl (lv_at hl 2 rfl) ?_
  refine lv_iload_n C.1.1 C.1.2.1 dX12_goOn_3 rfl (lv_at hl 1 rfl) ?_
  refine lv_icmp_ge (tgt := 17) C.1.1 C.1.2.1 dX12_goOn_4 (by decide) (fun h_z => ?_) (fun h_z => ?_)
  · rw [if_pos h_z] at hF
    exact bX12_goOn_17 C O X (lv_sub hl [] rfl) hF
  · rw [if_neg h_z] at hF
    exact bX12_goOn_7 C O K2 X (lv_sub hl [0, 1, 2] rfl) hF
noncomputable def fX12_goOn_h2 (N : Nat) : Nat → Int32 → Int32 → gS → Option (Int32 × gS)
  | 0, _, _, _ => none
  | n + 1, x1, x2, S => fX12_goOn_b2 N (fX12_goOn_h2 N n) x1 x2 S
theorem hX12_goOn_2 {N : Nat} {o : Int32 × gS} (C : gC p s m args meth c cX12_goOn 3 RX12 none D (mtys cI cS) mord g Am) (O : gO (mcell g cI cS sa) mord g) : ∀ (n : Nat) (x1 : Int32) (x2 : Int32) (S : gS) (H : Heap) (locs : List Loc) (ls : Array Slot), gX D (mcell g cI cS sa) mord g S s H locs → lv_has ls 3 [(0, .ref (g 99)), (1, .int x1), (2, .int x2)] → fX12_goOn_h2 N n x1 x2 S = some o → W p l e (rmd 6) s m args below meth c H locs 0 0 (gE below args s D (mtys cI cS) (mcell g cI cS sa) mord g none o.2) (F0 m 2 ls []) := by
  intro n
  induction n with
  | zero =>
    intro x1 x2 S H locs ls X hl hF
    exact absurd (show (none : Option (Int32 × gS)) = some o from hF) (by simp)
  | succ n ih =>
    intro x1 x2 S H locs ls X hl hF
    have hF : fX12_goOn_b2 N (fX12_goOn_h2 N n) x1 x2 S = some o := hF
    exact bX12_goOn_2 C O ih X hl hF
noncomputable def fX12_goOn_b0 (N : Nat) (x1 : Int32) (S : gS) : Option (Int32 × gS) := fX12_goOn_h2 N N x1 0 S
theorem bX12_goOn_0 {N : Nat} {x1 : Int32} {S : gS} {H : Heap} {locs : List Loc} {ls : Array Slot} {o : Int32 × gS} (C : gC p s m args meth c cX12_goOn 3 RX12 none D (mtys cI cS) mord g Am) (O : gO (mcell g cI cS sa) mord g) (X : gX D (mcell g cI cS sa) mord g S s H locs) (hl : lv_has ls 3 [(0, .ref (g 99)), (1, .int x1)]) (hF : fX12_goOn_b0 N x1 S = some o) : W p l e (rmd 6) s m args below meth c H locs 0 0 (gE below args s D (mtys cI cS) (mcell g cI cS sa) mord g none o.2) (F0 m 0 ls []) := by
  unfold fX12_goOn_b0 at hF
  refine lv_iconst (v := 0) C.1.1 C.1.2.1 dX12_goOn_0 (by decide) ?_
  refine lv_istore_n (lv' := [(2, .int 0), (0, .ref (g 99)), (1, .int x1)]) C.1.1 C.1.2.1 dX12_goOn_1 rfl hl (by decide) rfl (fun ls hl => ?_)
  exact hX12_goOn_2 C O N _ _ _ _ _ _ X (lv_sub hl [1, 2, 0] rfl) hF
noncomputable def fX12_goOn (N : Nat) (x1 : Int32) (S : gS) : Option (Int32 × gS) := fX12_goOn_b0 N x1 S
theorem kX12_goOn {l : Launch} {D : va_G} {g : Nat → Nat} {cI cS : ClassId} {sa : Nat → Nat → Option Nat} {Am : (Nat → Prop) → State → Heap → Prop} (O : gO (mcell g cI cS sa) mord g) (P : gAm Am) (N : Nat) (x1 : Int32) (S : gS) (o : Int32 × gS) (hF : fX12_goOn N x1 S = some o) : gM l yX12_goOn cX12_goOn 3 none 6 D (mtys cI cS) (mcell g cI cS sa) mord g Am [.ref (g 99), .int x1] S none o.2 :=
  gM_of O P (by decide) (Nat.le_of_ble_eq_true rfl) (fun p e s m args below meth c ls C X hl => bX12_goOn_0 C O X (lv_sub hl [0, 1] rfl) hF)
-- sumOf
noncomputable def fX12_sumOf_b26 (N : Nat) (x2 : Int32) (S : gS) : Option (Int32 × gS) := some (x2, S)
theorem bX12_sumOf_26 {N : Nat} {x2 : Int32} {S : gS} {H : Heap} {locs : List Loc} {ls : Array Slot} {o : Int32 × gS} (C : gC p s m args meth c cX12_sumOf 4 RX12 ((some .int)) D (mtys cI cS) mord g Am) (O : gO (mcell g cI cS sa) mord g) (X : gX D (mcell g cI cS sa) mord g S s H locs) (hl : lv_has ls 4 [(2, .int x2)]) (hF : fX12_sumOf_b26 N x2 S = some o) : W p l e (rmd 0) s m args below meth c H locs 0 0 (gE below args s D (mtys cI cS) (mcell g cI cS sa) mord g (some (.int o.1)) o.2) (F0 m 26 ls []) := by
  unfold fX12_sumOf_b26 at hF
  refine lv_iload_n C.1.1 C.1.2.1 dX12_sumOf_26 rfl (lv_at hl 0 rfl) ?_
  cases hF
  exact g_iret C X dX12_sumOf_27
noncomputable def fX12_sumOf_b14 (N : Nat) (r4 : Nat → Int32 → Int32 → gS → Option (Int32 × gS)) (k1 : Nat) (x2 : Int32) (x3 : Int32) (S : gS) : Option (Int32 × gS) := chk (inb x3 (mN k1)) (r4 k1 ((x2 + (S k1 (Int32.toNatClampNeg x3)) : Int32)) ((x3 + 1 : Int32)) S)
theorem bX12_sumOf_14 {N : Nat} {r4 : Nat → Int32 → Int32 → gS → Option (Int32 × gS)} {k1 : Nat} {x2 : Int32} {x3 : Int32} {S : gS} {H : Heap} {locs : List Loc} {ls : Array Slot} {o : Int32 × gS} (C : gC p s m args meth c cX12_sumOf 4 RX12 ((some .int)) D (mtys cI cS) mord g Am) (O : gO (mcell g cI cS sa) mord g) (K4 : ∀ (k1 : Nat) (x2 : Int32) (x3 : Int32) (hk_k1 : mI k1 = true) (S : gS) (H : Heap) (locs : List Loc) (ls : Array Slot), gX D (mcell g cI cS sa) mord g S s H locs → lv_has ls 4 [(0, .ref (g 99)), (1, .ref (g k1)), (2, .int x2), (3, .int x3)] → r4 k1 x2 x3 S = some o → W p l e (rmd 0) s m args below meth c H locs 0 0 (gE below args s D (mtys cI cS) (mcell g cI cS sa) mord g (some (.int o.1)) o.2) (F0 m 4 ls [])) (hk_k1 : mI k1 = true) (X : gX D (mcell g cI cS sa) mord g S s H locs) (hl : lv_has ls 4 [(0, .ref (g 99)), (1, .ref (g k1)), (2, .int x2), (3, .int x3)]) (hF : fX12_sumOf_b14 N r4 k1 x2 x3 S = some o) : W p l e (rmd 0) s m args below meth c H locs 0 0 (gE below args s D (mtys cI cS) (mcell g cI cS sa) mord g (some (.int o.1)) o.2) (F0 m 14 ls []) := by
  unfold fX12_sumOf_b14 at hF
  refine lv_iload_n C.1.1 C.1.2.1 dX12_sumOf_14 rfl (lv_at hl 2 rfl) ?_
  refine lv_aload_n C.1.1 C.1.2.1 dX12_sumOf_15 rfl (lv_at hl 1 rfl) ?_
  refine lv_iload_n C.1.1 C.1.2.1 dX12_sumOf_16 rfl (lv_at hl 3 rfl) ?_
  obtain ⟨h_1, hF⟩ := chk_some hF
  refine m_rv C X (k := k1) hk_k1  (inb_vp h_1) rfl dX12_sumOf_17 ?_
  refine lv_iadd C.1.1 C.1.2.1 dX12_sumOf_18 ?_
  refine lv_istore_n (lv' := [(2, .int ((x2 + (S k1 (Int32.toNatClampNeg x3)) : Int32))), (0, .ref (g 99)), (1, .ref (g k1)), (3, .int x3)]) C.1.1 C.1.2.1 dX12_sumOf_19 rfl hl (by decide) rfl (fun ls hl => ?_)
  refine lv_iinc (v := (x3 + 1 : Int32)) (lv' := [(3, .int ((x3 + 1 : Int32))), (2, .int ((x2 + (S k1 (Int32.toNatClampNeg x3)) : Int32))), (0, .ref (g 99)), (1, .ref (g k1))]) C.1.1 C.1.2.1 dX12_sumOf_20 hl (k := 3) rfl rfl (by decide) rfl (fun ls hl => ?_)
  refine lv_goto (tgt := 4) C.1.1 C.1.2.1 dX12_sumOf_23 (by decide) ?_
  exact K4 _ _ _ hk_k1 _ _ _ _ X (lv_sub hl [2, 3, 1, 0] rfl) hF
noncomputable def fX12_sumOf_b4 (N : Nat) (r4 : Nat → Int32 → Int32 → gS → Option (Int32 × gS)) (k1 : Nat) (x2 : Int32) (x3 : Int32) (S : gS) : Option (Int32 × gS) := if (S 5 1) ≤ x3 then fX12_sumOf_b26 N x2 S else fX12_sumOf_b14 N r4 k1 x2 x3 S
theorem bX12_sumOf_4 {N : Nat} {r4 : Nat → Int32 → Int32 → gS → Option (Int32 × gS)} {k1 : Nat} {x2 : Int32} {x3 : Int32} {S : gS} {H : Heap} {locs : List Loc} {ls : Array Slot} {o : Int32 × gS} (C : gC p s m args meth c cX12_sumOf 4 RX12 ((some .int)) D (mtys cI cS) mord g Am) (O : gO (mcell g cI cS sa) mord g) (K4 : ∀ (k1 : Nat) (x2 : Int32) (x3 : Int32) (hk_k1 : mI k1 = true) (S : gS) (H : Heap) (locs : List Loc) (ls : Array Slot), gX D (mcell g cI cS sa) mord g S s H locs → lv_has ls 4 [(0, .ref (g 99)), (1, .ref (g k1)), (2, .int x2), (3, .int x3)] → r4 k1 x2 x3 S = some o → W p l e (rmd 0) s m args below meth c H locs 0 0 (gE below args s D (mtys cI cS) (mcell g cI cS sa) mord g (some (.int o.1)) o.2) (F0 m 4 ls [])) (hk_k1 : mI k1 = true) (X : gX D (mcell g cI cS sa) mord g S s H locs) (hl : lv_has ls 4 [(0, .ref (g 99)), (1, .ref (g k1)), (2, .int x2), (3, .int x3)]) (hF : fX12_sumOf_b4 N r4 k1 x2 x3 S = some o) : W p l e (rmd 0) s m args below meth c H locs 0 0 (gE below args s D (mtys cI cS) (mcell g cI cS sa) mord g (some (.int o.1)) o.2) (F0 m 4 ls []) := by
  unfold fX12_sumOf_b4 at hF
  refine lv_iload_n C.1.1 C.1.2.1 dX12_sumOf_4 rfl (lv_at hl 3 rfl) ?_
  refine lv_aload_n C.1.1 C.1.2.1 dX12_sumOf_5 rfl (lv_at hl 0 rfl) ?_
  refine m_g5 C X dX12_sumOf_6 ?_
  refine lv_iconst (v := 1) C.1.1 C.1.2.1 dX12_sumOf_9 (by decide) ?_
  refine m_r5 C X (j := 1) (inb_vp (by decide)) (by decide) dX12_sumOf_10 ?_
  refine lv_icmp_ge (tgt := 26) C.1.1 C.1.2.1 dX12_sumOf_11 (by decide) (fun h_z => ?_) (fun h_z => ?_)
  · rw [if_pos h_z] at hF
    exact bX12_sumOf_26 C O X (lv_sub hl [2] rfl) hF
  · rw [if_neg h_z] at hF
    exact bX12_sumOf_14 C O K4 hk_k1 X (lv_sub hl [0, 1, 2, 3] rfl) hF
noncomputable def fX12_sumOf_h4 (N : Nat) : Nat → Nat → Int32 → Int32 → gS → Option (Int32 × gS)
  | 0, _, _, _, _ => none
  | n + 1, k1, x2, x3, S => fX12_sumOf_b4 N (fX12_sumOf_h4 N n) k1 x2 x3 S
theorem hX12_sumOf_4 {N : Nat} {o : Int32 × gS} (C : gC p s m args meth c cX12_sumOf 4 RX12 ((some .int)) D (mtys cI cS) mord g Am) (O : gO (mcell g cI cS sa) mord g) : ∀ (n : Nat) (k1 : Nat) (x2 : Int32) (x3 : Int32) (hk_k1 : mI k1 = true) (S : gS) (H : Heap) (locs : List Loc) (ls : Array Slot), gX D (mcell g cI cS sa) mord g S s H locs → lv_has ls 4 [(0, .ref (g 99)), (1, .ref (g k1)), (2, .int x2), (3, .int x3)] → fX12_sumOf_h4 N n k1 x2 x3 S = some o → W p l e (rmd 0) s m args below meth c H locs 0 0 (gE below args s D (mtys cI cS) (mcell g cI cS sa) mord g (some (.int o.1)) o.2) (F0 m 4 ls []) := by
  intro n
  induction n with
  | zero =>
    intro k1 x2 x3 hk_k1 S H locs ls X hl hF
    exact absurd (show (none : Option (Int32 × gS)) = some o from hF) (by simp)
  | succ n ih =>
    intro k1 x2 x3 hk_k1 S H locs ls X hl hF
    have hF : fX12_sumOf_b4 N (fX12_sumOf_h4 N n) k1 x2 x3 S = some o := hF
    exact bX12_sumOf_4 C O ih hk_k1 X hl hF
noncomputable def fX12_sumOf_b0 (N : Nat) (k1 : Nat) (S : gS) : Option (Int32 × gS) := fX12_sumOf_h4 N N k1 0 0 S
theorem bX12_sumOf_0 {N : Nat} {k1 : Nat} {S : gS} {H : Heap} {locs : List Loc} {ls : Array Slot} {o : Int32 × gS} (C : gC p s m args meth c cX12_sumOf 4 RX12 ((some .int)) D (mtys cI cS) mord g Am) (O : gO (mcell g cI cS sa) mord g) (hk_k1 : mI k1 = true) (X : gX D (mcell g cI cS sa) mord g S s H locs) (hl : lv_has ls 4 [(0, .ref (g 99)), (1, .ref (g k1))]) (hF : fX12_sumOf_b0 N k1 S = some o) : W p l e (rmd 0) s m args below meth c H locs 0 0 (gE below args s D (mtys cI cS) (mcell g cI cS sa) mord g (some (.int o.1)) o.2) (F0 m 0 ls []) := by
  unfold fX12_sumOf_b0 at hF
  refine lv_iconst (v := 0) C.1.1 C.1.2.1 dX12_sumOf_0 (by decide) ?_
  refine lv_istore_n (lv' := [(2, .int 0), (0, .ref (g 99)), (1, .ref (g k1))]) C.1.1 C.1.2.1 dX12_sumOf_1 rfl hl (by decide) rfl (fun ls hl => ?_)
  refine lv_iconst (v := 0) C.1.1 C.1.2.1 dX12_sumOf_2 (by decide) ?_
  refine lv_istore_n (lv' := [(3, .int 0), (2, .int 0), (0, .ref (g 99)), (1, .ref (g k1))]) C.1.1 C.1.2.1 dX12_sumOf_3 rfl hl (by decide) rfl (fun ls hl => ?_)
  exact hX12_sumOf_4 C O N _ _ _ hk_k1 _ _ _ _ X (lv_sub hl [2, 3, 1, 0] rfl) hF
noncomputable def fX12_sumOf (N : Nat) (k1 : Nat) (S : gS) : Option (Int32 × gS) := fX12_sumOf_b0 N k1 S
theorem kX12_sumOf {l : Launch} {D : va_G} {g : Nat → Nat} {cI cS : ClassId} {sa : Nat → Nat → Option Nat} {Am : (Nat → Prop) → State → Heap → Prop} (O : gO (mcell g cI cS sa) mord g) (P : gAm Am) (N : Nat) (k1 : Nat) (hk_k1 : mI k1 = true) (S : gS) (o : Int32 × gS) (hF : fX12_sumOf N k1 S = some o) : gM l yX12_sumOf cX12_sumOf 4 ((some .int)) 0 D (mtys cI cS) (mcell g cI cS sa) mord g Am [.ref (g 99), .ref (g k1)] S (some (.int o.1)) o.2 :=
  gM_of O P (by decide) (Nat.le_of_ble_eq_true rfl) (fun p e s m args below meth c ls C X hl => bX12_sumOf_0 C O hk_k1 X (lv_sub hl [0, 1] rfl) hF)
-- count
noncomputable def fX12_count_b157 (N : Nat) (S : gS) : Option (Int32 × gS) := bnd (fX12_fail N 1 S) fun q1 => (some (q1.1, q1.2))
theorem bX12_count_157 {N : Nat} {S : gS} {H : Heap} {locs : List Loc} {ls : Array Slot} {o : Int32 × gS} (C : gC p s m args meth c cX12_count 2 RX12 ((some .int)) D (mtys cI cS) mord g Am) (O : gO (mcell g cI cS sa) mord g) (X : gX D (mcell g cI cS sa) mord g S s H locs) (hl : lv_has ls 2 [(0, .ref (g 99))]) (hF : fX12_count_b157 N S = some o) : W p l e (rmd 1) s m args below meth c H locs 0 0 (gE below args s D (mtys cI cS) (mcell g cI cS sa) mord g (some (.int o.1)) o.2) (F0 m 157 ls []) := by
  unfold fX12_count_b157 at hF
  refine lv_aload_n C.1.1 C.1.2.1 dX12_count_157 rfl (lv_at hl 0 rfl) ?_
  refine lv_iconst (v := 1) C.1.1 C.1.2.1 dX12_count_158 (by decide) ?_
  obtain ⟨q1, hq1, hF⟩ := bnd_some hF
  refine m_callVi C X vX12_fail rfl (kX12_fail O C.2.2.2.2.1 N 1  S q1 hq1) (Nat.le_of_ble_eq_true rfl) (Nat.le_of_ble_eq_true rfl) (Nat.le_of_ble_eq_true rfl) (Nat.le_of_ble_eq_true rfl) rfl hl.1 rfl (Nat.le_of_ble_eq_true rfl) dX12_count_159 (fun H locs X => ?_)
  cases hF
  exact g_iret C X dX12_count_162
noncomputable def fX12_count_b147 (N : Nat) (x1 : Int32) (S : gS) : Option (Int32 × gS) := chk (inb ((x1 - 12 : Int32)) (3)) (some (S 17 (Int32.toNatClampNeg ((x1 - 12 : Int32))), S))
theorem bX12_count_147 {N : Nat} {x1 : Int32} {S : gS} {H : Heap} {locs : List Loc} {ls : Array Slot} {o : Int32 × gS} (C : gC p s m args meth c cX12_count 2 RX12 ((some .int)) D (mtys cI cS) mord g Am) (O : gO (mcell g cI cS sa) mord g) (X : gX D (mcell g cI cS sa) mord g S s H locs) (hl : lv_has ls 2 [(0, .ref (g 99)), (1, .int x1)]) (hF : fX12_count_b147 N x1 S = some o) : W p l e (rmd 1) s m args below meth c H locs 0 0 (gE below args s D (mtys cI cS) (mcell g cI cS sa) mord g (some (.int o.1)) o.2) (F0 m 147 ls []) := by
  unfold fX12_count_b147 at hF
  refine lv_aload_n C.1.1 C.1.2.1 dX12_count_147 rfl (lv_at hl 0 rfl) ?_
  refine m_g17 C X dX12_count_148 ?_
  refine lv_iload_n C.1.1 C.1.2.1 dX12_count_151 rfl (lv_at hl 1 rfl) ?_
  refine lv_bipush (v := 12) C.1.1 C.1.2.1 dX12_count_152 (by decide) ?_
  refine lv_isub C.1.1 C.1.2.1 dX12_count_154 ?_
  obtain ⟨h_1, hF⟩ := chk_some hF
  refine m_r17 C X  (inb_vp h_1) rfl dX12_count_155 ?_
  cases hF
  exact g_iret C X dX12_count_156
noncomputable def fX12_count_b142 (N : Nat) (S : gS) : Option (Int32 × gS) := some (S 99 20, S)
theorem bX12_count_142 {N : Nat} {S : gS} {H : Heap} {locs : List Loc} {ls : Array Slot} {o : Int32 × gS} (C : gC p s m args meth c cX12_count 2 RX12 ((some .int)) D (mtys cI cS) mord g Am) (O : gO (mcell g cI cS sa) mord g) (X : gX D (mcell g cI cS sa) mord g S s H locs) (hl : lv_has ls 2 [(0, .ref (g 99))]) (hF : fX12_count_b142 N S = some o) : W p l e (rmd 1) s m args below meth c H locs 0 0 (gE below args s D (mtys cI cS) (mcell g cI cS sa) mord g (some (.int o.1)) o.2) (F0 m 142 ls []) := by
  unfold fX12_count_b142 at hF
  refine lv_aload_n C.1.1 C.1.2.1 dX12_count_142 rfl (lv_at hl 0 rfl) ?_
  refine m_g20 C X dX12_count_143 ?_
  cases hF
  exact g_iret C X dX12_count_146
noncomputable def fX12_count_b137 (N : Nat) (S : gS) : Option (Int32 × gS) := some (S 99 40, S)
theorem bX12_count_137 {N : Nat} {S : gS} {H : Heap} {locs : List Loc} {ls : Array Slot} {o : Int32 × gS} (C : gC p s m args meth c cX12_count 2 RX12 ((some .int)) D (mtys cI cS) mord g Am) (O : gO (mcell g cI cS sa) mord g) (X : gX D (mcell g cI cS sa) mord g S s H locs) (hl : lv_has ls 2 [(0, .ref (g 99))]) (hF : fX12_count_b137 N S = some o) : W p l e (rmd 1) s m args below meth c H locs 0 0 (gE below args s D (mtys cI cS) (mcell g cI cS sa) mord g (some (.int o.1)) o.2) (F0 m 137 ls []) := by
  unfold fX12_count_b137 at hF
  refine lv_aload_n C.1.1 C.1.2.1 dX12_count_137 rfl (lv_at hl 0 rfl) ?_
  refine m_g40 C X dX12_count_138 ?_
  cases hF
  exact g_iret C X dX12_count_141
noncomputable def fX12_count_b132 (N : Nat) (S : gS) : Option (Int32 × gS) := some (S 99 39, S)
theorem bX12_count_132 {N : Nat} {S : gS} {H : Heap} {locs : List Loc} {ls : Array Slot} {o : Int32 × gS} (C : gC p s m args meth c cX12_count 2 RX12 ((some .int)) D (mtys cI cS) mord g Am) (O : gO (mcell g cI cS sa) mord g) (X : gX D (mcell g cI cS sa) mord g S s H locs) (hl : lv_has ls 2 [(0, .ref (g 99))]) (hF : fX12_count_b132 N S = some o) : W p l e (rmd 1) s m args below meth c H locs 0 0 (gE below args s D (mtys cI cS) (mcell g cI cS sa) mord g (some (.int o.1)) o.2) (F0 m 132 ls []) := by
  unfold fX12_count_b132 at hF
  refine lv_aload_n C.1.1 C.1.2.1 dX12_count_132 rfl (lv_at hl 0 rfl) ?_
  refine m_g39 C X dX12_count_133 ?_
  cases hF
  exact g_iret C X dX12_count_136
noncomputable def fX12_count_b123 (N : Nat) (S : gS) : Option (Int32 × gS) := bnd (fX12_sumOf N 32 S) fun q1 => (some (q1.1, q1.2))
theorem bX12_count_123 {N : Nat} {S : gS} {H : Heap} {locs : List Loc} {ls : Array Slot} {o : Int32 × gS} (C : gC p s m args meth c cX12_count 2 RX12 ((some .int)) D (mtys cI cS) mord g Am) (O : gO (mcell g cI cS sa) mord g) (X : gX D (mcell g cI cS sa) mord g S s H locs) (hl : lv_has ls 2 [(0, .ref (g 99))]) (hF : fX12_count_b123 N S = some o) : W p l e (rmd 1) s m args below meth c H locs 0 0 (gE below args s D (mtys cI cS) (mcell g cI cS sa) mord g (some (.int o.1)) o.2) (F0 m 123 ls []) := by
  unfold fX12_count_b123 at hF
  refine lv_aload_n C.1.1 C.1.2.1 dX12_count_123 rfl (lv_at hl 0 rfl) ?_
  refine lv_aload_n C.1.1 C.1.2.1 dX12_count_124 rfl (lv_at hl 0 rfl) ?_
  refine m_g32 C X dX12_count_125 ?_
  obtain ⟨q1, hq1, hF⟩ := bnd_some hF
  refine m_callVi C X vX12_sumOf rfl (kX12_sumOf O C.2.2.2.2.1 N 32 (rfl : mI 32 = true) S q1 hq1) (Nat.le_of_ble_eq_true rfl) (Nat.le_of_ble_eq_true rfl) (Nat.le_of_ble_eq_true rfl) (Nat.le_of_ble_eq_true rfl) rfl hl.1 rfl (Nat.le_of_ble_eq_true rfl) dX12_count_128 (fun H locs X => ?_)
  cases hF
  exact g_iret C X dX12_count_131
noncomputable def fX12_count_b114 (N : Nat) (S : gS) : Option (Int32 × gS) := bnd (fX12_sumOf N 33 S) fun q1 => (some (q1.1, q1.2))
theorem bX12_count_114 {N : Nat} {S : gS} {H : Heap} {locs : List Loc} {ls : Array Slot} {o : Int32 × gS} (C : gC p s m args meth c cX12_count 2 RX12 ((some .int)) D (mtys cI cS) mord g Am) (O : gO (mcell g cI cS sa) mord g) (X : gX D (mcell g cI cS sa) mord g S s H locs) (hl : lv_has ls 2 [(0, .ref (g 99))]) (hF : fX12_count_b114 N S = some o) : W p l e (rmd 1) s m args below meth c H locs 0 0 (gE below args s D (mtys cI cS) (mcell g cI cS sa) mord g (some (.int o.1)) o.2) (F0 m 114 ls []) := by
  unfold fX12_count_b114 at hF
  refine lv_aload_n C.1.1 C.1.2.1 dX12_count_114 rfl (lv_at hl 0 rfl) ?_
  refine lv_aload_n C.1.1 C.1.2.1 dX12_count_115 rfl (lv_at hl 0 rfl) ?_
  refine m_g33 C X dX12_count_116 ?_
  obtain ⟨q1, hq1, hF⟩ := bnd_some hF
  refine m_callVi C X vX12_sumOf rfl (kX12_sumOf O C.2.2.2.2.1 N 33 (rfl : mI 33 = true) S q1 hq1) (Nat.le_of_ble_eq_true rfl) (Nat.le_of_ble_eq_true rfl) (Nat.le_of_ble_eq_true rfl) (Nat.le_of_ble_eq_true rfl) rfl hl.1 rfl (Nat.le_of_ble_eq_true rfl) dX12_count_119 (fun H locs X => ?_)
  cases hF
  exact g_iret C X dX12_count_122
noncomputable def fX12_count_b109 (N : Nat) (S : gS) : Option (Int32 × gS) := some (S 99 38, S)
theorem bX12_count_109 {N : Nat} {S : gS} {H : Heap} {locs : List Loc} {ls : Array Slot} {o : Int32 × gS} (C : gC p s m args meth c cX12_count 2 RX12 ((some .int)) D (mtys cI cS) mord g Am) (O : gO (mcell g cI cS sa) mord g) (X : gX D (mcell g cI cS sa) mord g S s H locs) (hl : lv_has ls 2 [(0, .ref (g 99))]) (hF : fX12_count_b109 N S = some o) : W p l e (rmd 1) s m args below meth c H locs 0 0 (gE below args s D (mtys cI cS) (mcell g cI cS sa) mord g (some (.int o.1)) o.2) (F0 m 109 ls []) := by
  unfold fX12_count_b109 at hF
  refine lv_aload_n C.1.1 C.1.2.1 dX12_count_109 rfl (lv_at hl 0 rfl) ?_
  refine m_g38 C X dX12_count_110 ?_
  cases hF
  exact g_iret C X dX12_count_113
noncomputable def fX12_count_b104 (N : Nat) (S : gS) : Option (Int32 × gS) := bnd (fX12_hiredNow N  S) fun q1 => (some (q1.1, q1.2))
theorem bX12_count_104 {N : Nat} {S : gS} {H : Heap} {locs : List Loc} {ls : Array Slot} {o : Int32 × gS} (C : gC p s m args meth c cX12_count 2 RX12 ((some .int)) D (mtys cI cS) mord g Am) (O : gO (mcell g cI cS sa) mord g) (X : gX D (mcell g cI cS sa) mord g S s H locs) (hl : lv_has ls 2 [(0, .ref (g 99))]) (hF : fX12_count_b104 N S = some o) : W p l e (rmd 1) s m args below meth c H locs 0 0 (gE below args s D (mtys cI cS) (mcell g cI cS sa) mord g (some (.int o.1)) o.2) (F0 m 104 ls []) := by
  unfold fX12_count_b104 at hF
  refine lv_aload_n C.1.1 C.1.2.1 dX12_count_104 rfl (lv_at hl 0 rfl) ?_
  obtain ⟨q1, hq1, hF⟩ := bnd_some hF
  refine m_callVi C X vX12_hiredNow rfl (kX12_hiredNow O C.2.2.2.2.1 N   S q1 hq1) (Nat.le_of_ble_eq_true rfl) (Nat.le_of_ble_eq_true rfl) (Nat.le_of_ble_eq_true rfl) (Nat.le_of_ble_eq_true rfl) rfl hl.1 rfl (Nat.le_of_ble_eq_true rfl) dX12_count_105 (fun H locs X => ?_)
  cases hF
  exact g_iret C X dX12_count_108
noncomputable def fX12_count_b97 (N : Nat) (S : gS) : Option (Int32 × gS) := some (S 5 2, S)
theorem bX12_count_97 {N : Nat} {S : gS} {H : Heap} {locs : List Loc} {ls : Array Slot} {o : Int32 × gS} (C : gC p s m args meth c cX12_count 2 RX12 ((some .int)) D (mtys cI cS) mord g Am) (O : gO (mcell g cI cS sa) mord g) (X : gX D (mcell g cI cS sa) mord g S s H locs) (hl : lv_has ls 2 [(0, .ref (g 99))]) (hF : fX12_count_b97 N S = some o) : W p l e (rmd 1) s m args below meth c H locs 0 0 (gE below args s D (mtys cI cS) (mcell g cI cS sa) mord g (some (.int o.1)) o.2) (F0 m 97 ls []) := by
  unfold fX12_count_b97 at hF
  refine lv_aload_n C.1.1 C.1.2.1 dX12_count_97 rfl (lv_at hl 0 rfl) ?_
  refine m_g5 C X dX12_count_98 ?_
  refine lv_iconst (v := 2) C.1.1 C.1.2.1 dX12_count_101 (by decide) ?_
  refine m_r5 C X (j := 2) (inb_vp (by decide)) (by decide) dX12_count_102 ?_
  cases hF
  exact g_iret C X dX12_count_103
noncomputable def fX12_count_b92 (N : Nat) (S : gS) : Option (Int32 × gS) := bnd (fX12_wetOf N  S) fun q1 => (some (q1.1, q1.2))
theorem bX12_count_92 {N : Nat} {S : gS} {H : Heap} {locs : List Loc} {ls : Array Slot} {o : Int32 × gS} (C : gC p s m args meth c cX12_count 2 RX12 ((some .int)) D (mtys cI cS) mord g Am) (O : gO (mcell g cI cS sa) mord g) (X : gX D (mcell g cI cS sa) mord g S s H locs) (hl : lv_has ls 2 [(0, .ref (g 99))]) (hF : fX12_count_b92 N S = some o) : W p l e (rmd 1) s m args below meth c H locs 0 0 (gE below args s D (mtys cI cS) (mcell g cI cS sa) mord g (some (.int o.1)) o.2) (F0 m 92 ls []) := by
  unfold fX12_count_b92 at hF
  refine lv_aload_n C.1.1 C.1.2.1 dX12_count_92 rfl (lv_at hl 0 rfl) ?_
  obtain ⟨q1, hq1, hF⟩ := bnd_some hF
  refine m_callVi C X vX12_wetOf rfl (kX12_wetOf O C.2.2.2.2.1 N   S q1 hq1) (Nat.le_of_ble_eq_true rfl) (Nat.le_of_ble_eq_true rfl) (Nat.le_of_ble_eq_true rfl) (Nat.le_of_ble_eq_true rfl) rfl hl.1 rfl (Nat.le_of_ble_eq_true rfl) dX12_count_93 (fun H locs X => ?_)
  cases hF
  exact g_iret C X dX12_count_96
noncomputable def fX12_count_b87 (N : Nat) (S : gS) : Option (Int32 × gS) := some (S 99 37, S)
theorem bX12_count_87 {N : Nat} {S : gS} {H : Heap} {locs : List Loc} {ls : Array Slot} {o : Int32 × gS} (C : gC p s m args meth c cX12_count 2 RX12 ((some .int)) D (mtys cI cS) mord g Am) (O : gO (mcell g cI cS sa) mord g) (X : gX D (mcell g cI cS sa) mord g S s H locs) (hl : lv_has ls 2 [(0, .ref (g 99))]) (hF : fX12_count_b87 N S = some o) : W p l e (rmd 1) s m args below meth c H locs 0 0 (gE below args s D (mtys cI cS) (mcell g cI cS sa) mord g (some (.int o.1)) o.2) (F0 m 87 ls []) := by
  unfold fX12_count_b87 at hF
  refine lv_aload_n C.1.1 C.1.2.1 dX12_count_87 rfl (lv_at hl 0 rfl) ?_
  refine m_g37 C X dX12_count_88 ?_
  cases hF
  exact g_iret C X dX12_count_91
noncomputable def fX12_count_b80 (N : Nat) (x1 : Int32) (S : gS) : Option (Int32 × gS) := chk (inb x1 (12)) (some (S 5 (Int32.toNatClampNeg x1), S))
theorem bX12_count_80 {N : Nat} {x1 : Int32} {S : gS} {H : Heap} {locs : List Loc} {ls : Array Slot} {o : Int32 × gS} (C : gC p s m args meth c cX12_count 2 RX12 ((some .int)) D (mtys cI cS) mord g Am) (O : gO (mcell g cI cS sa) mord g) (X : gX D (mcell g cI cS sa) mord g S s H locs) (hl : lv_has ls 2 [(0, .ref (g 99)), (1, .int x1)]) (hF : fX12_count_b80 N x1 S = some o) : W p l e (rmd 1) s m args below meth c H locs 0 0 (gE below args s D (mtys cI cS) (mcell g cI cS sa) mord g (some (.int o.1)) o.2) (F0 m 80 ls []) := by
  unfold fX12_count_b80 at hF
  refine lv_aload_n C.1.1 C.1.2.1 dX12_count_80 rfl (lv_at hl 0 rfl) ?_
  refine m_g5 C X dX12_count_81 ?_
  refine lv_iload_n C.1.1 C.1.2.1 dX12_count_84 rfl (lv_at hl 1 rfl) ?_
  obtain ⟨h_1, hF⟩ := chk_some hF
  refine m_r5 C X  (inb_vp h_1) rfl dX12_count_85 ?_
  cases hF
  exact g_iret C X dX12_count_86
noncomputable def fX12_count_b0 (N : Nat) (x1 : Int32) (S : gS) : Option (Int32 × gS) := lt (sU S 99 4 0) fun S1 => (if x1 = 0 then fX12_count_b80 N x1 S1 else if x1 = 1 then fX12_count_b80 N x1 S1 else if x1 = 2 then fX12_count_b87 N S1 else if x1 = 3 then fX12_count_b92 N S1 else if x1 = 4 then fX12_count_b97 N S1 else if x1 = 5 then fX12_count_b104 N S1 else if x1 = 6 then fX12_count_b109 N S1 else if x1 = 7 then fX12_count_b114 N S1 else if x1 = 8 then fX12_count_b123 N S1 else if x1 = 9 then fX12_count_b132 N S1 else if x1 = 10 then fX12_count_b137 N S1 else if x1 = 11 then fX12_count_b142 N S1 else if x1 = 12 then fX12_count_b147 N x1 S1 else if x1 = 13 then fX12_count_b147 N x1 S1 else if x1 = 14 then fX12_count_b147 N x1 S1 else fX12_count_b157 N S1)
theorem bX12_count_0 {N : Nat} {x1 : Int32} {S : gS} {H : Heap} {locs : List Loc} {ls : Array Slot} {o : Int32 × gS} (C : gC p s m args meth c cX12_count 2 RX12 ((some .int)) D (mtys cI cS) mord g Am) (O : gO (mcell g cI cS sa) mord g) (X : gX D (mcell g cI cS sa) mord g S s H locs) (hl : lv_has ls 2 [(0, .ref (g 99)), (1, .int x1)]) (hF : fX12_count_b0 N x1 S = some o) : W p l e (rmd 1) s m args below meth c H locs 0 0 (gE below args s D (mtys cI cS) (mcell g cI cS sa) mord g (some (.int o.1)) o.2) (F0 m 0 ls []) := by
  unfold fX12_count_b0 at hF
  refine lv_aload_n C.1.1 C.1.2.1 dX12_count_0 rfl (lv_at hl 0 rfl) ?_
  refine lv_iconst (v := 0) C.1.1 C.1.2.1 dX12_count_1 (by decide) ?_
  obtain ⟨S1, eS1, hF⟩ := lt_some hF
  refine m_p4 C O X eS1 dX12_count_2 (fun H locs X => ?_)
  refine lv_iload_n C.1.1 C.1.2.1 dX12_count_5 rfl (lv_at hl 1 rfl) ?_
  by_cases hz_0 : x1 = 0
  · rw [if_pos hz_0] at hF
    refine lv_tableIn (off := 74) (tgt := 80) C.1.1 C.1.2.1 dX12_count_6 (by rw [hz_0]; decide) (by rw [hz_0]; decide) (by rw [hz_0]; decide) (by decide) ?_
    exact bX12_count_80 C O X (lv_sub hl [0, 1] rfl) hF
  rw [if_neg hz_0] at hF
  by_cases hz_1 : x1 = 1
  · rw [if_pos hz_1] at hF
    refine lv_tableIn (off := 74) (tgt := 80) C.1.1 C.1.2.1 dX12_count_6 (by rw [hz_1]; decide) (by rw [hz_1]; decide) (by rw [hz_1]; decide) (by decide) ?_
    exact bX12_count_80 C O X (lv_sub hl [0, 1] rfl) hF
  rw [if_neg hz_1] at hF
  by_cases hz_2 : x1 = 2
  · rw [if_pos hz_2] at hF
    refine lv_tableIn (off := 81) (tgt := 87) C.1.1 C.1.2.1 dX12_count_6 (by rw [hz_2]; decide) (by rw [hz_2]; decide) (by rw [hz_2]; decide) (by decide) ?_
    exact bX12_count_87 C O X (lv_sub hl [0] rfl) hF
  rw [if_neg hz_2] at hF
  by_cases hz_3 : x1 = 3
  · rw [if_pos hz_3] at hF
    refine lv_tableIn (off := 86) (tgt := 92) C.1.1 C.1.2.1 dX12_count_6 (by rw [hz_3]; decide) (by rw [hz_3]; decide) (by rw [hz_3]; decide) (by decide) ?_
    exact bX12_count_92 C O X (lv_sub hl [0] rfl) hF
  rw [if_neg hz_3] at hF
  by_cases hz_4 : x1 = 4
  · rw [if_pos hz_4] at hF
    refine lv_tableIn (off := 91) (tgt := 97) C.1.1 C.1.2.1 dX12_count_6 (by rw [hz_4]; decide) (by rw [hz_4]; decide) (by rw [hz_4]; decide) (by decide) ?_
    exact bX12_count_97 C O X (lv_sub hl [0] rfl) hF
  rw [if_neg hz_4] at hF
  by_cases hz_5 : x1 = 5
  · rw [if_pos hz_5] at hF
    refine lv_tableIn (off := 98) (tgt := 104) C.1.1 C.1.2.1 dX12_count_6 (by rw [hz_5]; decide) (by rw [hz_5]; decide) (by rw [hz_5]; decide) (by decide) ?_
    exact bX12_count_104 C O X (lv_sub hl [0] rfl) hF
  rw [if_neg hz_5] at hF
  by_cases hz_6 : x1 = 6
  · rw [if_pos hz_6] at hF
    refine lv_tableIn (off := 103) (tgt := 109) C.1.1 C.1.2.1 dX12_count_6 (by rw [hz_6]; decide) (by rw [hz_6]; decide) (by rw [hz_6]; decide) (by decide) ?_
    exact bX12_count_109 C O X (lv_sub hl [0] rfl) hF
  rw [if_neg hz_6] at hF
  by_cases hz_7 : x1 = 7
  · rw [if_pos hz_7] at hF
    refine lv_tableIn (off := 108) (tgt := 114) C.1.1 C.1.2.1 dX12_count_6 (by rw [hz_7]; decide) (by rw [hz_7]; decide) (by rw [hz_7]; decide) (by decide) ?_
    exact bX12_count_114 C O X (lv_sub hl [0] rfl) hF
  rw [if_neg hz_7] at hF
  by_cases hz_8 : x1 = 8
  · rw [if_pos hz_8] at hF
    refine lv_tableIn (off := 117) (tgt := 123) C.1.1 C.1.2.1 dX12_count_6 (by rw [hz_8]; decide) (by rw [hz_8]; decide) (by rw [hz_8]; decide) (by decide) ?_
    exact bX12_count_123 C O X (lv_sub hl [0] rfl) hF
  rw [if_neg hz_8] at hF
  by_cases hz_9 : x1 = 9
  · rw [if_pos hz_9] at hF
    refine lv_tableIn (off := 126) (tgt := 132) C.1.1 C.1.2.1 dX12_count_6 (by rw [hz_9]; decide) (by rw [hz_9]; decide) (by rw [hz_9]; decide) (by decide) ?_
    exact bX12_count_132 C O X (lv_sub hl [0] rfl) hF
  rw [if_neg hz_9] at hF
  by_cases hz_10 : x1 = 10
  · rw [if_pos hz_10] at hF
    refine lv_tableIn (off := 131) (tgt := 137) C.1.1 C.1.2.1 dX12_count_6 (by rw [hz_10]; decide) (by rw [hz_10]; decide) (by rw [hz_10]; decide) (by decide) ?_
    exact bX12_count_137 C O X (lv_sub hl [0] rfl) hF
  rw [if_neg hz_10] at hF
  by_cases hz_11 : x1 = 11
  · rw [if_pos hz_11] at hF
    refine lv_tableIn (off := 136) (tgt := 142) C.1.1 C.1.2.1 dX12_count_6 (by rw [hz_11]; decide) (by rw [hz_11]; decide) (by rw [hz_11]; decide) (by decide) ?_
    exact bX12_count_142 C O X (lv_sub hl [0] rfl) hF
  rw [if_neg hz_11] at hF
  by_cases hz_12 : x1 = 12
  · rw [if_pos hz_12] at hF
    refine lv_tableIn (off := 141) (tgt := 147) C.1.1 C.1.2.1 dX12_count_6 (by rw [hz_12]; decide) (by rw [hz_12]; decide) (by rw [hz_12]; decide) (by decide) ?_
    exact bX12_count_147 C O X (lv_sub hl [0, 1] rfl) hF
  rw [if_neg hz_12] at hF
  by_cases hz_13 : x1 = 13
  · rw [if_pos hz_13] at hF
    refine lv_tableIn (off := 141) (tgt := 147) C.1.1 C.1.2.1 dX12_count_6 (by rw [hz_13]; decide) (by rw [hz_13]; decide) (by rw [hz_13]; decide) (by decide) ?_
    exact bX12_count_147 C O X (lv_sub hl [0, 1] rfl) hF
  rw [if_neg hz_13] at hF
  by_cases hz_14 : x1 = 14
  · rw [if_pos hz_14] at hF
    refine lv_tableIn (off := 141) (tgt := 147) C.1.1 C.1.2.1 dX12_count_6 (by rw [hz_14]; decide) (by rw [hz_14]; decide) (by rw [hz_14]; decide) (by decide) ?_
    exact bX12_count_147 C O X (lv_sub hl [0, 1] rfl) hF
  rw [if_neg hz_14] at hF
  refine lv_tableOut (tgt := 157) C.1.1 C.1.2.1 dX12_count_6 (g_tsw 0 14 _ ?_) (by decide) ?_
  · intro i hi1 hi2
    rcases (show i = 0 ∨ i = 1 ∨ i = 2 ∨ i = 3 ∨ i = 4 ∨ i = 5 ∨ i = 6 ∨ i = 7 ∨ i = 8 ∨ i = 9 ∨ i = 10 ∨ i = 11 ∨ i = 12 ∨ i = 13 ∨ i = 14 by omega) with rfl | rfl | rfl | rfl | rfl | rfl | rfl | rfl | rfl | rfl | rfl | rfl | rfl | rfl | rfl
    · exact hz_0
    · exact hz_1
    · exact hz_2
    · exact hz_3
    · exact hz_4
    · exact hz_5
    · exact hz_6
    · exact hz_7
    · exact hz_8
    · exact hz_9
    · exact hz_10
    · exact hz_11
    · exact hz_12
    · exact hz_13
    · exact hz_14
  exact bX12_count_157 C O X (lv_sub hl [0] rfl) hF
noncomputable def fX12_count (N : Nat) (x1 : Int32) (S : gS) : Option (Int32 × gS) := fX12_count_b0 N x1 S
theorem kX12_count {l : Launch} {D : va_G} {g : Nat → Nat} {cI cS : ClassId} {sa : Nat → Nat → Option Nat} {Am : (Nat → Prop) → State → Heap → Prop} (O : gO (mcell g cI cS sa) mord g) (P : gAm Am) (N : Nat) (x1 : Int32) (S : gS) (o : Int32 × gS) (hF : fX12_count N x1 S = some o) : gM l yX12_count cX12_count 2 ((some .int)) 1 D (mtys cI cS) (mcell g cI cS sa) mord g Am [.ref (g 99), .int x1] S (some (.int o.1)) o.2 :=
  gM_of O P (by decide) (Nat.le_of_ble_eq_true rfl) (fun p e s m args below meth c ls C X hl => bX12_count_0 C O X (lv_sub hl [0, 1] rfl) hF)
-- nextDrip
noncomputable def fX12_nextDrip_b53 (N : Nat) (x2 : Int32) (S : gS) : Option (Int32 × gS) := bnd (fX12_unpack N 46 0 S) fun q1 => (some (x2, q1.2))
theorem bX12_nextDrip_53 {N : Nat} {x2 : Int32} {S : gS} {H : Heap} {locs : List Loc} {ls : Array Slot} {o : Int32 × gS} (C : gC p s m args meth c cX12_nextDrip 4 RX12 ((some .int)) D (mtys cI cS) mord g Am) (O : gO (mcell g cI cS sa) mord g) (X : gX D (mcell g cI cS sa) mord g S s H locs) (hl : lv_has ls 4 [(0, .ref (g 99)), (2, .int x2)]) (hF : fX12_nextDrip_b53 N x2 S = some o) : W p l e (rmd 2) s m args below meth c H locs 0 0 (gE below args s D (mtys cI cS) (mcell g cI cS sa) mord g (some (.int o.1)) o.2) (F0 m 53 ls []) := by
  unfold fX12_nextDrip_b53 at hF
  refine lv_aload_n C.1.1 C.1.2.1 dX12_nextDrip_53 rfl (lv_at hl 0 rfl) ?_
  refine lv_aload_n C.1.1 C.1.2.1 dX12_nextDrip_54 rfl (lv_at hl 0 rfl) ?_
  refine m_g46 C X dX12_nextDrip_55 ?_
  refine lv_iconst (v := 0) C.1.1 C.1.2.1 dX12_nextDrip_58 (by decide) ?_
  obtain ⟨q1, hq1, hF⟩ := bnd_some hF
  refine m_callV C X vX12_unpack rfl (kX12_unpack O C.2.2.2.2.1 N 46 0 (rfl : mI 46 = true) S q1 hq1) (Nat.le_of_ble_eq_true rfl) (Nat.le_of_ble_eq_true rfl) (Nat.le_of_ble_eq_true rfl) (Nat.le_of_ble_eq_true rfl) rfl hl.1 rfl (Nat.le_of_ble_eq_true rfl) dX12_nextDrip_59 (fun H locs X => ?_)
  refine lv_iload_n C.1.1 C.1.2.1 dX12_nextDrip_62 rfl (lv_at hl 1 rfl) ?_
  cases hF
  exact g_iret C X dX12_nextDrip_63
noncomputable def fX12_nextDrip_b37 (N : Nat) (r13 : Int32 → Int32 → Int32 → gS → Option (Int32 × gS)) (x1 : Int32) (x2 : Int32) (x3 : Int32) (S : gS) : Option (Int32 × gS) := lt (sU S 99 37 (((S 99 37) + 1 : Int32))) fun S1 => (r13 x1 x2 ((x3 + 1 : Int32)) S1)
theorem bX12_nextDrip_37 {N : Nat} {r13 : Int32 → Int32 → Int32 → gS → Option (Int32 × gS)} {x1 : Int32} {x2 : Int32} {x3 : Int32} {S : gS} {H : Heap} {locs : List Loc} {ls : Array Slot} {o : Int32 × gS} (C : gC p s m args meth c cX12_nextDrip 4 RX12 ((some .int)) D (mtys cI cS) mord g Am) (O : gO (mcell g cI cS sa) mord g) (K13 : ∀ (x1 : Int32) (x2 : Int32) (x3 : Int32) (S : gS) (H : Heap) (locs : List Loc) (ls : Array Slot), gX D (mcell g cI cS sa) mord g S s H locs → lv_has ls 4 [(0, .ref (g 99)), (1, .int x1), (2, .int x2), (3, .int x3)] → r13 x1 x2 x3 S = some o → W p l e (rmd 2) s m args below meth c H locs 0 0 (gE below args s D (mtys cI cS) (mcell g cI cS sa) mord g (some (.int o.1)) o.2) (F0 m 13 ls [])) (X : gX D (mcell g cI cS sa) mord g S s H locs) (hl : lv_has ls 4 [(0, .ref (g 99)), (1, .int x1), (2, .int x2), (3, .int x3)]) (hF : fX12_nextDrip_b37 N r13 x1 x2 x3 S = some o) : W p l e (rmd 2) s m args below meth c H locs 0 0 (gE below args s D (mtys cI cS) (mcell g cI cS sa) mord g (some (.int o.1)) o.2) (F0 m 37 ls []) := by
  unfold fX12_nextDrip_b37 at hF
  refine lv_aload_n C.1.1 C.1.2.1 dX12_nextDrip_37 rfl (lv_at hl 0 rfl) ?_
  refine lv_dup C.1.1 C.1.2.1 dX12_nextDrip_38 rfl ?_
  refine m_g37 C X dX12_nextDrip_39 ?_
  refine lv_iconst (v := 1) C.1.1 C.1.2.1 dX12_nextDrip_42 (by decide) ?_
  refine lv_iadd C.1.1 C.1.2.1 dX12_nextDrip_43 ?_
  obtain ⟨S1, eS1, hF⟩ := lt_some hF
  refine m_p37 C O X eS1 dX12_nextDrip_44 (fun H locs X => ?_)
  refine lv_iinc (v := (x3 + 1 : Int32)) (lv' := [(3, .int ((x3 + 1 : Int32))), (0, .ref (g 99)), (1, .int x1), (2, .int x2)]) C.1.1 C.1.2.1 dX12_nextDrip_47 hl (k := 3) rfl rfl (by decide) rfl (fun ls hl => ?_)
  refine lv_goto (tgt := 13) C.1.1 C.1.2.1 dX12_nextDrip_50 (by decide) ?_
  exact K13 _ _ _ _ _ _ _ X (lv_sub hl [1, 2, 3, 0] rfl) hF
noncomputable def fX12_nextDrip_b35 (N : Nat) (r13 : Int32 → Int32 → Int32 → gS → Option (Int32 × gS)) (x1 : Int32) (x3 : Int32) (S : gS) : Option (Int32 × gS) := fX12_nextDrip_b37 N r13 x1 x3 x3 S
theorem bX12_nextDrip_35 {N : Nat} {r13 : Int32 → Int32 → Int32 → gS → Option (Int32 × gS)} {x1 : Int32} {x3 : Int32} {S : gS} {H : Heap} {locs : List Loc} {ls : Array Slot} {o : Int32 × gS} (C : gC p s m args meth c cX12_nextDrip 4 RX12 ((some .int)) D (mtys cI cS) mord g Am) (O : gO (mcell g cI cS sa) mord g) (K13 : ∀ (x1 : Int32) (x2 : Int32) (x3 : Int32) (S : gS) (H : Heap) (locs : List Loc) (ls : Array Slot), gX D (mcell g cI cS sa) mord g S s H locs → lv_has ls 4 [(0, .ref (g 99)), (1, .int x1), (2, .int x2), (3, .int x3)] → r13 x1 x2 x3 S = some o → W p l e (rmd 2) s m args below meth c H locs 0 0 (gE below args s D (mtys cI cS) (mcell g cI cS sa) mord g (some (.int o.1)) o.2) (F0 m 13 ls [])) (X : gX D (mcell g cI cS sa) mord g S s H locs) (hl : lv_has ls 4 [(0, .ref (g 99)), (1, .int x1), (3, .int x3)]) (hF : fX12_nextDrip_b35 N r13 x1 x3 S = some o) : W p l e (rmd 2) s m args below meth c H locs 0 0 (gE below args s D (mtys cI cS) (mcell g cI cS sa) mord g (some (.int o.1)) o.2) (F0 m 35 ls []) := by
  unfold fX12_nextDrip_b35 at hF
  refine lv_iload_n C.1.1 C.1.2.1 dX12_nextDrip_35 rfl (lv_at hl 2 rfl) ?_
  refine lv_istore_n (lv' := [(2, .int x3), (0, .ref (g 99)), (1, .int x1), (3, .int x3)]) C.1.1 C.1.2.1 dX12_nextDrip_36 rfl hl (by decide) rfl (fun ls hl => ?_)
  exact bX12_nextDrip_37 C O K13 X (lv_sub hl [1, 2, 0, 3] rfl) hF
noncomputable def fX12_nextDrip_b24 (N : Nat) (r13 : Int32 → Int32 → Int32 → gS → Option (Int32 × gS)) (x1 : Int32) (x2 : Int32) (x3 : Int32) (S : gS) : Option (Int32 × gS) := bnd (fX12_drippingNow N  S) fun q1 => (bnd (fX12_isOf N q1.1 x1 q1.2) fun q2 => (if q2.1 = 0 then fX12_nextDrip_b37 N r13 x1 x2 x3 q2.2 else fX12_nextDrip_b35 N r13 x1 x3 q2.2))
theorem bX12_nextDrip_24 {N : Nat} {r13 : Int32 → Int32 → Int32 → gS → Option (Int32 × gS)} {x1 : Int32} {x2 : Int32} {x3 : Int32} {S : gS} {H : Heap} {locs : List Loc} {ls : Array Slot} {o : Int32 × gS} (C : gC p s m args meth c cX12_nextDrip 4 RX12 ((some .int)) D (mtys cI cS) mord g Am) (O : gO (mcell g cI cS sa) mord g) (K13 : ∀ (x1 : Int32) (x2 : Int32) (x3 : Int32) (S : gS) (H : Heap) (locs : List Loc) (ls : Array Slot), gX D (mcell g cI cS sa) mord g S s H locs → lv_has ls 4 [(0, .ref (g 99)), (1, .int x1), (2, .int x2), (3, .int x3)] → r13 x1 x2 x3 S = some o → W p l e (rmd 2) s m args below meth c H locs 0 0 (gE below args s D (mtys cI cS) (mcell g cI cS sa) mord g (some (.int o.1)) o.2) (F0 m 13 ls [])) (X : gX D (mcell g cI cS sa) mord g S s H locs) (hl : lv_has ls 4 [(0, .ref (g 99)), (1, .int x1), (2, .int x2), (3, .int x3)]) (hF : fX12_nextDrip_b24 N r13 x1 x2 x3 S = some o) : W p l e (rmd 2) s m args below meth c H locs 0 0 (gE below args s D (mtys cI cS) (mcell g cI cS sa) mord g (some (.int o.1)) o.2) (F0 m 24 ls []) := by
  unfold fX12_nextDrip_b24 at hF
  refine lv_aload_n C.1.1 C.1.2.1 dX12_nextDrip_24 rfl (lv_at hl 0 rfl) ?_
  obtain ⟨q1, hq1, hF⟩ := bnd_some hF
  refine m_callVi C X vX12_drippingNow rfl (kX12_drippingNow O C.2.2.2.2.1 N   S q1 hq1) (Nat.le_of_ble_eq_true rfl) (Nat.le_of_ble_eq_true rfl) (Nat.le_of_ble_eq_true rfl) (Nat.le_of_ble_eq_true rfl) rfl hl.1 rfl (Nat.le_of_ble_eq_true rfl) dX12_nextDrip_25 (fun H locs X => ?_)
  refine lv_iload_n C.1.1 C.1.2.1 dX12_nextDrip_28 rfl (lv_at hl 1 rfl) ?_
  obtain ⟨q2, hq2, hF⟩ := bnd_some hF
  refine g_callSi C X vX12_isOf (kX12_isOf O C.2.2.2.2.1 N q1.1 x1  q1.2 q2 hq2) (Nat.le_of_ble_eq_true rfl) (Nat.le_of_ble_eq_true rfl) (Nat.le_of_ble_eq_true rfl) (Nat.le_of_ble_eq_true rfl) rfl hl.1 rfl (Nat.le_of_ble_eq_true rfl) dX12_nextDrip_29 (fun H locs X => ?_)
  refine lv_if_eq (tgt := 37) C.1.1 C.1.2.1 dX12_nextDrip_32 (by decide) (fun h_z => ?_) (fun h_z => ?_)
  · rw [if_pos h_z] at hF
    exact bX12_nextDrip_37 C O K13 X (lv_sub hl [0, 1, 2, 3] rfl) hF
  · rw [if_neg h_z] at hF
    exact bX12_nextDrip_35 C O K13 X (lv_sub hl [0, 1, 3] rfl) hF
noncomputable def fX12_nextDrip_b19 (N : Nat) (r13 : Int32 → Int32 → Int32 → gS → Option (Int32 × gS)) (x1 : Int32) (x2 : Int32) (x3 : Int32) (S : gS) : Option (Int32 × gS) := if x2 = ((-1)) then fX12_nextDrip_b24 N r13 x1 x2 x3 S else fX12_nextDrip_b53 N x2 S
theorem bX12_nextDrip_19 {N : Nat} {r13 : Int32 → Int32 → Int32 → gS → Option (Int32 × gS)} {x1 : Int32} {x2 : Int32} {x3 : Int32} {S : gS} {H : Heap} {locs : List Loc} {ls : Array Slot} {o : Int32 × gS} (C : gC p s m args meth c cX12_nextDrip 4 RX12 ((some .int)) D (mtys cI cS) mord g Am) (O : gO (mcell g cI cS sa) mord g) (K13 : ∀ (x1 : Int32) (x2 : Int32) (x3 : Int32) (S : gS) (H : Heap) (locs : List Loc) (ls : Array Slot), gX D (mcell g cI cS sa) mord g S s H locs → lv_has ls 4 [(0, .ref (g 99)), (1, .int x1), (2, .int x2), (3, .int x3)] → r13 x1 x2 x3 S = some o → W p l e (rmd 2) s m args below meth c H locs 0 0 (gE below args s D (mtys cI cS) (mcell g cI cS sa) mord g (some (.int o.1)) o.2) (F0 m 13 ls [])) (X : gX D (mcell g cI cS sa) mord g S s H locs) (hl : lv_has ls 4 [(0, .ref (g 99)), (1, .int x1), (2, .int x2), (3, .int x3)]) (hF : fX12_nextDrip_b19 N r13 x1 x2 x3 S = some o) : W p l e (rmd 2) s m args below meth c H locs 0 0 (gE below args s D (mtys cI cS) (mcell g cI cS sa) mord g (some (.int o.1)) o.2) (F0 m 19 ls []) := by
  unfold fX12_nextDrip_b19 at hF
  refine lv_iload_n C.1.1 C.1.2.1 dX12_nextDrip_19 rfl (lv_at hl 2 rfl) ?_
  refine lv_iconst (v := (-1)) C.1.1 C.1.2.1 dX12_nextDrip_20 (by decide) ?_
  refine lv_icmp_ne (tgt := 53) C.1.1 C.1.2.1 dX12_nextDrip_21 (by decide) (fun h_z => ?_) (fun h_z => ?_)
  · rw [if_neg h_z] at hF
    exact bX12_nextDrip_53 C O X (lv_sub hl [0, 2] rfl) hF
  · rw [if_pos h_z] at hF
    exact bX12_nextDrip_24 C O K13 X (lv_sub hl [0, 1, 2, 3] rfl) hF
noncomputable def fX12_nextDrip_b13 (N : Nat) (r13 : Int32 → Int32 → Int32 → gS → Option (Int32 × gS)) (x1 : Int32) (x2 : Int32) (x3 : Int32) (S : gS) : Option (Int32 × gS) := if 60 < x3 then fX12_nextDrip_b53 N x2 S else fX12_nextDrip_b19 N r13 x1 x2 x3 S
theorem bX12_nextDrip_13 {N : Nat} {r13 : Int32 → Int32 → Int32 → gS → Option (Int32 × gS)} {x1 : Int32} {x2 : Int32} {x3 : Int32} {S : gS} {H : Heap} {locs : List Loc} {ls : Array Slot} {o : Int32 × gS} (C : gC p s m args meth c cX12_nextDrip 4 RX12 ((some .int)) D (mtys cI cS) mord g Am) (O : gO (mcell g cI cS sa) mord g) (K13 : ∀ (x1 : Int32) (x2 : Int32) (x3 : Int32) (S : gS) (H : Heap) (locs : List Loc) (ls : Array Slot), gX D (mcell g cI cS sa) mord g S s H locs → lv_has ls 4 [(0, .ref (g 99)), (1, .int x1), (2, .int x2), (3, .int x3)] → r13 x1 x2 x3 S = some o → W p l e (rmd 2) s m args below meth c H locs 0 0 (gE below args s D (mtys cI cS) (mcell g cI cS sa) mord g (some (.int o.1)) o.2) (F0 m 13 ls [])) (X : gX D (mcell g cI cS sa) mord g S s H locs) (hl : lv_has ls 4 [(0, .ref (g 99)), (1, .int x1), (2, .int x2), (3, .int x3)]) (hF : fX12_nextDrip_b13 N r13 x1 x2 x3 S = some o) : W p l e (rmd 2) s m args below meth c H locs 0 0 (gE below args s D (mtys cI cS) (mcell g cI cS sa) mord g (some (.int o.1)) o.2) (F0 m 13 ls []) := by
  unfold fX12_nextDrip_b13 at hF
  refine lv_iload_n C.1.1 C.1.2.1 dX12_nextDrip_13 rfl (lv_at hl 3 rfl) ?_
  refine lv_bipush (v := 60) C.1.1 C.1.2.1 dX12_nextDrip_14 (by decide) ?_
  refine lv_icmp_gt (tgt := 53) C.1.1 C.1.2.1 dX12_nextDrip_16 (by decide) (fun h_z => ?_) (fun h_z => ?_)
  · rw [if_pos h_z] at hF
    exact bX12_nextDrip_53 C O X (lv_sub hl [0, 2] rfl) hF
  · rw [if_neg h_z] at hF
    exact bX12_nextDrip_19 C O K13 X (lv_sub hl [0, 1, 2, 3] rfl) hF
noncomputable def fX12_nextDrip_h13 (N : Nat) : Nat → Int32 → Int32 → Int32 → gS → Option (Int32 × gS)
  | 0, _, _, _, _ => none
  | n + 1, x1, x2, x3, S => fX12_nextDrip_b13 N (fX12_nextDrip_h13 N n) x1 x2 x3 S
theorem hX12_nextDrip_13 {N : Nat} {o : Int32 × gS} (C : gC p s m args meth c cX12_nextDrip 4 RX12 ((some .int)) D (mtys cI cS) mord g Am) (O : gO (mcell g cI cS sa) mord g) : ∀ (n : Nat) (x1 : Int32) (x2 : Int32) (x3 : Int32) (S : gS) (H : Heap) (locs : List Loc) (ls : Array Slot), gX D (mcell g cI cS sa) mord g S s H locs → lv_has ls 4 [(0, .ref (g 99)), (1, .int x1), (2, .int x2), (3, .int x3)] → fX12_nextDrip_h13 N n x1 x2 x3 S = some o → W p l e (rmd 2) s m args below meth c H locs 0 0 (gE below args s D (mtys cI cS) (mcell g cI cS sa) mord g (some (.int o.1)) o.2) (F0 m 13 ls []) := by
  intro n
  induction n with
  | zero =>
    intro x1 x2 x3 S H locs ls X hl hF
    exact absurd (show (none : Option (Int32 × gS)) = some o from hF) (by simp)
  | succ n ih =>
    intro x1 x2 x3 S H locs ls X hl hF
    have hF : fX12_nextDrip_b13 N (fX12_nextDrip_h13 N n) x1 x2 x3 S = some o := hF
    exact bX12_nextDrip_13 C O ih X hl hF
noncomputable def fX12_nextDrip_b0 (N : Nat) (x1 : Int32) (S : gS) : Option (Int32 × gS) := bnd (fX12_pack N 46 0 S) fun q1 => (fX12_nextDrip_h13 N N x1 ((-1)) 1 q1.2)
theorem bX12_nextDrip_0 {N : Nat} {x1 : Int32} {S : gS} {H : Heap} {locs : List Loc} {ls : Array Slot} {o : Int32 × gS} (C : gC p s m args meth c cX12_nextDrip 4 RX12 ((some .int)) D (mtys cI cS) mord g Am) (O : gO (mcell g cI cS sa) mord g) (X : gX D (mcell g cI cS sa) mord g S s H locs) (hl : lv_has ls 4 [(0, .ref (g 99)), (1, .int x1)]) (hF : fX12_nextDrip_b0 N x1 S = some o) : W p l e (rmd 2) s m args below meth c H locs 0 0 (gE below args s D (mtys cI cS) (mcell g cI cS sa) mord g (some (.int o.1)) o.2) (F0 m 0 ls []) := by
  unfold fX12_nextDrip_b0 at hF
  refine lv_aload_n C.1.1 C.1.2.1 dX12_nextDrip_0 rfl (lv_at hl 0 rfl) ?_
  refine lv_aload_n C.1.1 C.1.2.1 dX12_nextDrip_1 rfl (lv_at hl 0 rfl) ?_
  refine m_g46 C X dX12_nextDrip_2 ?_
  refine lv_iconst (v := 0) C.1.1 C.1.2.1 dX12_nextDrip_5 (by decide) ?_
  obtain ⟨q1, hq1, hF⟩ := bnd_some hF
  refine m_callV C X vX12_pack rfl (kX12_pack O C.2.2.2.2.1 N 46 0 (rfl : mI 46 = true) S q1 hq1) (Nat.le_of_ble_eq_true rfl) (Nat.le_of_ble_eq_true rfl) (Nat.le_of_ble_eq_true rfl) (Nat.le_of_ble_eq_true rfl) rfl hl.1 rfl (Nat.le_of_ble_eq_true rfl) dX12_nextDrip_6 (fun H locs X => ?_)
  refine lv_iconst (v := (-1)) C.1.1 C.1.2.1 dX12_nextDrip_9 (by decide) ?_
  refine lv_istore_n (lv' := [(2, .int ((-1))), (0, .ref (g 99)), (1, .int x1)]) C.1.1 C.1.2.1 dX12_nextDrip_10 rfl hl (by decide) rfl (fun ls hl => ?_)
  refine lv_iconst (v := 1) C.1.1 C.1.2.1 dX12_nextDrip_11 (by decide) ?_
  refine lv_istore_n (lv' := [(3, .int 1), (2, .int ((-1))), (0, .ref (g 99)), (1, .int x1)]) C.1.1 C.1.2.1 dX12_nextDrip_12 rfl hl (by decide) rfl (fun ls hl => ?_)
  exact hX12_nextDrip_13 C O N _ _ _ _ _ _ _ X (lv_sub hl [2, 3, 1, 0] rfl) hF
noncomputable def fX12_nextDrip (N : Nat) (x1 : Int32) (S : gS) : Option (Int32 × gS) := fX12_nextDrip_b0 N x1 S
theorem kX12_nextDrip {l : Launch} {D : va_G} {g : Nat → Nat} {cI cS : ClassId} {sa : Nat → Nat → Option Nat} {Am : (Nat → Prop) → State → Heap → Prop} (O : gO (mcell g cI cS sa) mord g) (P : gAm Am) (N : Nat) (x1 : Int32) (S : gS) (o : Int32 × gS) (hF : fX12_nextDrip N x1 S = some o) : gM l yX12_nextDrip cX12_nextDrip 4 ((some .int)) 2 D (mtys cI cS) (mcell g cI cS sa) mord g Am [.ref (g 99), .int x1] S (some (.int o.1)) o.2 :=
  gM_of O P (by decide) (Nat.le_of_ble_eq_true rfl) (fun p e s m args below meth c ls C X hl => bX12_nextDrip_0 C O X (lv_sub hl [0, 1] rfl) hF)
-- grotto
noncomputable def fX12_grotto_b113 (N : Nat) (S : gS) : Option (Int32 × gS) := bnd (fX12_fail N 1 S) fun q1 => (some (q1.1, q1.2))
theorem bX12_grotto_113 {N : Nat} {S : gS} {H : Heap} {locs : List Loc} {ls : Array Slot} {o : Int32 × gS} (C : gC p s m args meth c cX12_grotto 3 RX12 ((some .int)) D (mtys cI cS) mord g Am) (O : gO (mcell g cI cS sa) mord g) (X : gX D (mcell g cI cS sa) mord g S s H locs) (hl : lv_has ls 3 [(0, .ref (g 99))]) (hF : fX12_grotto_b113 N S = some o) : W p l e (rmd 3) s m args below meth c H locs 0 0 (gE below args s D (mtys cI cS) (mcell g cI cS sa) mord g (some (.int o.1)) o.2) (F0 m 113 ls []) := by
  unfold fX12_grotto_b113 at hF
  refine lv_aload_n C.1.1 C.1.2.1 dX12_grotto_113 rfl (lv_at hl 0 rfl) ?_
  refine lv_iconst (v := 1) C.1.1 C.1.2.1 dX12_grotto_114 (by decide) ?_
  obtain ⟨q1, hq1, hF⟩ := bnd_some hF
  refine m_callVi C X vX12_fail rfl (kX12_fail O C.2.2.2.2.1 N 1  S q1 hq1) (Nat.le_of_ble_eq_true rfl) (Nat.le_of_ble_eq_true rfl) (Nat.le_of_ble_eq_true rfl) (Nat.le_of_ble_eq_true rfl) rfl hl.1 rfl (Nat.le_of_ble_eq_true rfl) dX12_grotto_115 (fun H locs X => ?_)
  cases hF
  exact g_iret C X dX12_grotto_118
noncomputable def fX12_grotto_b107 (N : Nat) (x1 : Int32) (S : gS) : Option (Int32 × gS) := bnd (fX12_nextDrip N x1 S) fun q1 => (some (q1.1, q1.2))
theorem bX12_grotto_107 {N : Nat} {x1 : Int32} {S : gS} {H : Heap} {locs : List Loc} {ls : Array Slot} {o : Int32 × gS} (C : gC p s m args meth c cX12_grotto 3 RX12 ((some .int)) D (mtys cI cS) mord g Am) (O : gO (mcell g cI cS sa) mord g) (X : gX D (mcell g cI cS sa) mord g S s H locs) (hl : lv_has ls 3 [(0, .ref (g 99)), (1, .int x1)]) (hF : fX12_grotto_b107 N x1 S = some o) : W p l e (rmd 3) s m args below meth c H locs 0 0 (gE below args s D (mtys cI cS) (mcell g cI cS sa) mord g (some (.int o.1)) o.2) (F0 m 107 ls []) := by
  unfold fX12_grotto_b107 at hF
  refine lv_aload_n C.1.1 C.1.2.1 dX12_grotto_107 rfl (lv_at hl 0 rfl) ?_
  refine lv_iload_n C.1.1 C.1.2.1 dX12_grotto_108 rfl (lv_at hl 1 rfl) ?_
  obtain ⟨q1, hq1, hF⟩ := bnd_some hF
  refine m_callVi C X vX12_nextDrip rfl (kX12_nextDrip O C.2.2.2.2.1 N x1  S q1 hq1) (Nat.le_of_ble_eq_true rfl) (Nat.le_of_ble_eq_true rfl) (Nat.le_of_ble_eq_true rfl) (Nat.le_of_ble_eq_true rfl) rfl hl.1 rfl (Nat.le_of_ble_eq_true rfl) dX12_grotto_109 (fun H locs X => ?_)
  cases hF
  exact g_iret C X dX12_grotto_112
noncomputable def fX12_grotto_b101 (N : Nat) (x1 : Int32) (S : gS) : Option (Int32 × gS) := bnd (fX12_hirerOf N x1 S) fun q1 => (some (q1.1, q1.2))
theorem bX12_grotto_101 {N : Nat} {x1 : Int32} {S : gS} {H : Heap} {locs : List Loc} {ls : Array Slot} {o : Int32 × gS} (C : gC p s m args meth c cX12_grotto 3 RX12 ((some .int)) D (mtys cI cS) mord g Am) (O : gO (mcell g cI cS sa) mord g) (X : gX D (mcell g cI cS sa) mord g S s H locs) (hl : lv_has ls 3 [(0, .ref (g 99)), (1, .int x1)]) (hF : fX12_grotto_b101 N x1 S = some o) : W p l e (rmd 3) s m args below meth c H locs 0 0 (gE below args s D (mtys cI cS) (mcell g cI cS sa) mord g (some (.int o.1)) o.2) (F0 m 101 ls []) := by
  unfold fX12_grotto_b101 at hF
  refine lv_aload_n C.1.1 C.1.2.1 dX12_grotto_101 rfl (lv_at hl 0 rfl) ?_
  refine lv_iload_n C.1.1 C.1.2.1 dX12_grotto_102 rfl (lv_at hl 1 rfl) ?_
  obtain ⟨q1, hq1, hF⟩ := bnd_some hF
  refine m_callVi C X vX12_hirerOf rfl (kX12_hirerOf O C.2.2.2.2.1 N x1  S q1 hq1) (Nat.le_of_ble_eq_true rfl) (Nat.le_of_ble_eq_true rfl) (Nat.le_of_ble_eq_true rfl) (Nat.le_of_ble_eq_true rfl) rfl hl.1 rfl (Nat.le_of_ble_eq_true rfl) dX12_grotto_103 (fun H locs X => ?_)
  cases hF
  exact g_iret C X dX12_grotto_106
noncomputable def fX12_grotto_b92 (N : Nat) (x1 : Int32) (S : gS) : Option (Int32 × gS) := some (((((S 99 38) >>> (x1 &&& 31) : Int32)) &&& 1 : Int32), S)
theorem bX12_grotto_92 {N : Nat} {x1 : Int32} {S : gS} {H : Heap} {locs : List Loc} {ls : Array Slot} {o : Int32 × gS} (C : gC p s m args meth c cX12_grotto 3 RX12 ((some .int)) D (mtys cI cS) mord g Am) (O : gO (mcell g cI cS sa) mord g) (X : gX D (mcell g cI cS sa) mord g S s H locs) (hl : lv_has ls 3 [(0, .ref (g 99)), (1, .int x1)]) (hF : fX12_grotto_b92 N x1 S = some o) : W p l e (rmd 3) s m args below meth c H locs 0 0 (gE below args s D (mtys cI cS) (mcell g cI cS sa) mord g (some (.int o.1)) o.2) (F0 m 92 ls []) := by
  unfold fX12_grotto_b92 at hF
  refine lv_aload_n C.1.1 C.1.2.1 dX12_grotto_92 rfl (lv_at hl 0 rfl) ?_
  refine m_g38 C X dX12_grotto_93 ?_
  refine lv_iload_n C.1.1 C.1.2.1 dX12_grotto_96 rfl (lv_at hl 1 rfl) ?_
  refine lv_ishr C.1.1 C.1.2.1 dX12_grotto_97 ?_
  refine lv_iconst (v := 1) C.1.1 C.1.2.1 dX12_grotto_98 (by decide) ?_
  refine lv_iand C.1.1 C.1.2.1 dX12_grotto_99 ?_
  cases hF
  exact g_iret C X dX12_grotto_100
noncomputable def fX12_grotto_b85 (N : Nat) (x1 : Int32) (S : gS) : Option (Int32 × gS) := chk (inb x1 (16)) (some (S 6 (Int32.toNatClampNeg x1), S))
theorem bX12_grotto_85 {N : Nat} {x1 : Int32} {S : gS} {H : Heap} {locs : List Loc} {ls : Array Slot} {o : Int32 × gS} (C : gC p s m args meth c cX12_grotto 3 RX12 ((some .int)) D (mtys cI cS) mord g Am) (O : gO (mcell g cI cS sa) mord g) (X : gX D (mcell g cI cS sa) mord g S s H locs) (hl : lv_has ls 3 [(0, .ref (g 99)), (1, .int x1)]) (hF : fX12_grotto_b85 N x1 S = some o) : W p l e (rmd 3) s m args below meth c H locs 0 0 (gE below args s D (mtys cI cS) (mcell g cI cS sa) mord g (some (.int o.1)) o.2) (F0 m 85 ls []) := by
  unfold fX12_grotto_b85 at hF
  refine lv_aload_n C.1.1 C.1.2.1 dX12_grotto_85 rfl (lv_at hl 0 rfl) ?_
  refine m_g6 C X dX12_grotto_86 ?_
  refine lv_iload_n C.1.1 C.1.2.1 dX12_grotto_89 rfl (lv_at hl 1 rfl) ?_
  obtain ⟨h_1, hF⟩ := chk_some hF
  refine m_r6 C X  (inb_vp h_1) rfl dX12_grotto_90 ?_
  cases hF
  exact g_iret C X dX12_grotto_91
noncomputable def fX12_grotto_b78 (N : Nat) (x1 : Int32) (S : gS) : Option (Int32 × gS) := chk (inb x1 (16)) (some (S 9 (Int32.toNatClampNeg x1), S))
theorem bX12_grotto_78 {N : Nat} {x1 : Int32} {S : gS} {H : Heap} {locs : List Loc} {ls : Array Slot} {o : Int32 × gS} (C : gC p s m args meth c cX12_grotto 3 RX12 ((some .int)) D (mtys cI cS) mord g Am) (O : gO (mcell g cI cS sa) mord g) (X : gX D (mcell g cI cS sa) mord g S s H locs) (hl : lv_has ls 3 [(0, .ref (g 99)), (1, .int x1)]) (hF : fX12_grotto_b78 N x1 S = some o) : W p l e (rmd 3) s m args below meth c H locs 0 0 (gE below args s D (mtys cI cS) (mcell g cI cS sa) mord g (some (.int o.1)) o.2) (F0 m 78 ls []) := by
  unfold fX12_grotto_b78 at hF
  refine lv_aload_n C.1.1 C.1.2.1 dX12_grotto_78 rfl (lv_at hl 0 rfl) ?_
  refine m_g9 C X dX12_grotto_79 ?_
  refine lv_iload_n C.1.1 C.1.2.1 dX12_grotto_82 rfl (lv_at hl 1 rfl) ?_
  obtain ⟨h_1, hF⟩ := chk_some hF
  refine m_r9 C X  (inb_vp h_1) rfl dX12_grotto_83 ?_
  cases hF
  exact g_iret C X dX12_grotto_84
noncomputable def fX12_grotto_b71 (N : Nat) (x1 : Int32) (S : gS) : Option (Int32 × gS) := chk (inb x1 (16)) (some (S 8 (Int32.toNatClampNeg x1), S))
theorem bX12_grotto_71 {N : Nat} {x1 : Int32} {S : gS} {H : Heap} {locs : List Loc} {ls : Array Slot} {o : Int32 × gS} (C : gC p s m args meth c cX12_grotto 3 RX12 ((some .int)) D (mtys cI cS) mord g Am) (O : gO (mcell g cI cS sa) mord g) (X : gX D (mcell g cI cS sa) mord g S s H locs) (hl : lv_has ls 3 [(0, .ref (g 99)), (1, .int x1)]) (hF : fX12_grotto_b71 N x1 S = some o) : W p l e (rmd 3) s m args below meth c H locs 0 0 (gE below args s D (mtys cI cS) (mcell g cI cS sa) mord g (some (.int o.1)) o.2) (F0 m 71 ls []) := by
  unfold fX12_grotto_b71 at hF
  refine lv_aload_n C.1.1 C.1.2.1 dX12_grotto_71 rfl (lv_at hl 0 rfl) ?_
  refine m_g8 C X dX12_grotto_72 ?_
  refine lv_iload_n C.1.1 C.1.2.1 dX12_grotto_75 rfl (lv_at hl 1 rfl) ?_
  obtain ⟨h_1, hF⟩ := chk_some hF
  refine m_r8 C X  (inb_vp h_1) rfl dX12_grotto_76 ?_
  cases hF
  exact g_iret C X dX12_grotto_77
noncomputable def fX12_grotto_b64 (N : Nat) (x1 : Int32) (S : gS) : Option (Int32 × gS) := chk (inb x1 (16)) (some (S 7 (Int32.toNatClampNeg x1), S))
theorem bX12_grotto_64 {N : Nat} {x1 : Int32} {S : gS} {H : Heap} {locs : List Loc} {ls : Array Slot} {o : Int32 × gS} (C : gC p s m args meth c cX12_grotto 3 RX12 ((some .int)) D (mtys cI cS) mord g Am) (O : gO (mcell g cI cS sa) mord g) (X : gX D (mcell g cI cS sa) mord g S s H locs) (hl : lv_has ls 3 [(0, .ref (g 99)), (1, .int x1)]) (hF : fX12_grotto_b64 N x1 S = some o) : W p l e (rmd 3) s m args below meth c H locs 0 0 (gE below args s D (mtys cI cS) (mcell g cI cS sa) mord g (some (.int o.1)) o.2) (F0 m 64 ls []) := by
  unfold fX12_grotto_b64 at hF
  refine lv_aload_n C.1.1 C.1.2.1 dX12_grotto_64 rfl (lv_at hl 0 rfl) ?_
  refine m_g7 C X dX12_grotto_65 ?_
  refine lv_iload_n C.1.1 C.1.2.1 dX12_grotto_68 rfl (lv_at hl 1 rfl) ?_
  obtain ⟨h_1, hF⟩ := chk_some hF
  refine m_r7 C X  (inb_vp h_1) rfl dX12_grotto_69 ?_
  cases hF
  exact g_iret C X dX12_grotto_70
noncomputable def fX12_grotto_b19 (N : Nat) (x1 : Int32) (x2 : Int32) (S : gS) : Option (Int32 × gS) := if x2 = 0 then fX12_grotto_b64 N x1 S else if x2 = 1 then fX12_grotto_b71 N x1 S else if x2 = 2 then fX12_grotto_b78 N x1 S else if x2 = 3 then fX12_grotto_b85 N x1 S else if x2 = 4 then fX12_grotto_b92 N x1 S else if x2 = 5 then fX12_grotto_b101 N x1 S else if x2 = 6 then fX12_grotto_b107 N x1 S else fX12_grotto_b113 N S
theorem bX12_grotto_19 {N : Nat} {x1 : Int32} {x2 : Int32} {S : gS} {H : Heap} {locs : List Loc} {ls : Array Slot} {o : Int32 × gS} (C : gC p s m args meth c cX12_grotto 3 RX12 ((some .int)) D (mtys cI cS) mord g Am) (O : gO (mcell g cI cS sa) mord g) (X : gX D (mcell g cI cS sa) mord g S s H locs) (hl : lv_has ls 3 [(0, .ref (g 99)), (1, .int x1), (2, .int x2)]) (hF : fX12_grotto_b19 N x1 x2 S = some o) : W p l e (rmd 3) s m args below meth c H locs 0 0 (gE below args s D (mtys cI cS) (mcell g cI cS sa) mord g (some (.int o.1)) o.2) (F0 m 19 ls []) := by
  unfold fX12_grotto_b19 at hF
  refine lv_iload_n C.1.1 C.1.2.1 dX12_grotto_19 rfl (lv_at hl 2 rfl) ?_
  by_cases hz_0 : x2 = 0
  · rw [if_pos hz_0] at hF
    refine lv_tableIn (off := 44) (tgt := 64) C.1.1 C.1.2.1 dX12_grotto_20 (by rw [hz_0]; decide) (by rw [hz_0]; decide) (by rw [hz_0]; decide) (by decide) ?_
    exact bX12_grotto_64 C O X (lv_sub hl [0, 1] rfl) hF
  rw [if_neg hz_0] at hF
  by_cases hz_1 : x2 = 1
  · rw [if_pos hz_1] at hF
    refine lv_tableIn (off := 51) (tgt := 71) C.1.1 C.1.2.1 dX12_grotto_20 (by rw [hz_1]; decide) (by rw [hz_1]; decide) (by rw [hz_1]; decide) (by decide) ?_
    exact bX12_grotto_71 C O X (lv_sub hl [0, 1] rfl) hF
  rw [if_neg hz_1] at hF
  by_cases hz_2 : x2 = 2
  · rw [if_pos hz_2] at hF
    refine lv_tableIn (off := 58) (tgt := 78) C.1.1 C.1.2.1 dX12_grotto_20 (by rw [hz_2]; decide) (by rw [hz_2]; decide) (by rw [hz_2]; decide) (by decide) ?_
    exact bX12_grotto_78 C O X (lv_sub hl [0, 1] rfl) hF
  rw [if_neg hz_2] at hF
  by_cases hz_3 : x2 = 3
  · rw [if_pos hz_3] at hF
    refine lv_tableIn (off := 65) (tgt := 85) C.1.1 C.1.2.1 dX12_grotto_20 (by rw [hz_3]; decide) (by rw [hz_3]; decide) (by rw [hz_3]; decide) (by decide) ?_
    exact bX12_grotto_85 C O X (lv_sub hl [0, 1] rfl) hF
  rw [if_neg hz_3] at hF
  by_cases hz_4 : x2 = 4
  · rw [if_pos hz_4] at hF
    refine lv_tableIn (off := 72) (tgt := 92) C.1.1 C.1.2.1 dX12_grotto_20 (by rw [hz_4]; decide) (by rw [hz_4]; decide) (by rw [hz_4]; decide) (by decide) ?_
    exact bX12_grotto_92 C O X (lv_sub hl [0, 1] rfl) hF
  rw [if_neg hz_4] at hF
  by_cases hz_5 : x2 = 5
  · rw [if_pos hz_5] at hF
    refine lv_tableIn (off := 81) (tgt := 101) C.1.1 C.1.2.1 dX12_grotto_20 (by rw [hz_5]; decide) (by rw [hz_5]; decide) (by rw [hz_5]; decide) (by decide) ?_
    exact bX12_grotto_101 C O X (lv_sub hl [0, 1] rfl) hF
  rw [if_neg hz_5] at hF
  by_cases hz_6 : x2 = 6
  · rw [if_pos hz_6] at hF
    refine lv_tableIn (off := 87) (tgt := 107) C.1.1 C.1.2.1 dX12_grotto_20 (by rw [hz_6]; decide) (by rw [hz_6]; decide) (by rw [hz_6]; decide) (by decide) ?_
    exact bX12_grotto_107 C O X (lv_sub hl [0, 1] rfl) hF
  rw [if_neg hz_6] at hF
  refine lv_tableOut (tgt := 113) C.1.1 C.1.2.1 dX12_grotto_20 (g_tsw 0 6 _ ?_) (by decide) ?_
  · intro i hi1 hi2
    rcases (show i = 0 ∨ i = 1 ∨ i = 2 ∨ i = 3 ∨ i = 4 ∨ i = 5 ∨ i = 6 by omega) with rfl | rfl | rfl | rfl | rfl | rfl | rfl
    · exact hz_0
    · exact hz_1
    · exact hz_2
    · exact hz_3
    · exact hz_4
    · exact hz_5
    · exact hz_6
  exact bX12_grotto_113 C O X (lv_sub hl [0] rfl) hF
noncomputable def fX12_grotto_b13 (N : Nat) (S : gS) : Option (Int32 × gS) := bnd (fX12_fail N 1 S) fun q1 => (some (q1.1, q1.2))
theorem bX12_grotto_13 {N : Nat} {S : gS} {H : Heap} {locs : List Loc} {ls : Array Slot} {o : Int32 × gS} (C : gC p s m args meth c cX12_grotto 3 RX12 ((some .int)) D (mtys cI cS) mord g Am) (O : gO (mcell g cI cS sa) mord g) (X : gX D (mcell g cI cS sa) mord g S s H locs) (hl : lv_has ls 3 [(0, .ref (g 99))]) (hF : fX12_grotto_b13 N S = some o) : W p l e (rmd 3) s m args below meth c H locs 0 0 (gE below args s D (mtys cI cS) (mcell g cI cS sa) mord g (some (.int o.1)) o.2) (F0 m 13 ls []) := by
  unfold fX12_grotto_b13 at hF
  refine lv_aload_n C.1.1 C.1.2.1 dX12_grotto_13 rfl (lv_at hl 0 rfl) ?_
  refine lv_iconst (v := 1) C.1.1 C.1.2.1 dX12_grotto_14 (by decide) ?_
  obtain ⟨q1, hq1, hF⟩ := bnd_some hF
  refine m_callVi C X vX12_fail rfl (kX12_fail O C.2.2.2.2.1 N 1  S q1 hq1) (Nat.le_of_ble_eq_true rfl) (Nat.le_of_ble_eq_true rfl) (Nat.le_of_ble_eq_true rfl) (Nat.le_of_ble_eq_true rfl) rfl hl.1 rfl (Nat.le_of_ble_eq_true rfl) dX12_grotto_15 (fun H locs X => ?_)
  cases hF
  exact g_iret C X dX12_grotto_18
noncomputable def fX12_grotto_b0 (N : Nat) (x1 : Int32) (x2 : Int32) (S : gS) : Option (Int32 × gS) := lt (sU S 99 4 0) fun S1 => (bnd (fX12_isGrotto N x1 S1) fun q1 => (if q1.1 = 0 then fX12_grotto_b13 N q1.2 else fX12_grotto_b19 N x1 x2 q1.2))
theorem bX12_grotto_0 {N : Nat} {x1 : Int32} {x2 : Int32} {S : gS} {H : Heap} {locs : List Loc} {ls : Array Slot} {o : Int32 × gS} (C : gC p s m args meth c cX12_grotto 3 RX12 ((some .int)) D (mtys cI cS) mord g Am) (O : gO (mcell g cI cS sa) mord g) (X : gX D (mcell g cI cS sa) mord g S s H locs) (hl : lv_has ls 3 [(0, .ref (g 99)), (1, .int x1), (2, .int x2)]) (hF : fX12_grotto_b0 N x1 x2 S = some o) : W p l e (rmd 3) s m args below meth c H locs 0 0 (gE below args s D (mtys cI cS) (mcell g cI cS sa) mord g (some (.int o.1)) o.2) (F0 m 0 ls []) := by
  unfold fX12_grotto_b0 at hF
  refine lv_aload_n C.1.1 C.1.2.1 dX12_grotto_0 rfl (lv_at hl 0 rfl) ?_
  refine lv_iconst (v := 0) C.1.1 C.1.2.1 dX12_grotto_1 (by decide) ?_
  obtain ⟨S1, eS1, hF⟩ := lt_some hF
  refine m_p4 C O X eS1 dX12_grotto_2 (fun H locs X => ?_)
  refine lv_aload_n C.1.1 C.1.2.1 dX12_grotto_5 rfl (lv_at hl 0 rfl) ?_
  refine lv_iload_n C.1.1 C.1.2.1 dX12_grotto_6 rfl (lv_at hl 1 rfl) ?_
  obtain ⟨q1, hq1, hF⟩ := bnd_some hF
  refine m_callVi C X vX12_isGrotto rfl (kX12_isGrotto O C.2.2.2.2.1 N x1  S1 q1 hq1) (Nat.le_of_ble_eq_true rfl) (Nat.le_of_ble_eq_true rfl) (Nat.le_of_ble_eq_true rfl) (Nat.le_of_ble_eq_true rfl) rfl hl.1 rfl (Nat.le_of_ble_eq_true rfl) dX12_grotto_7 (fun H locs X => ?_)
  refine lv_if_ne (tgt := 19) C.1.1 C.1.2.1 dX12_grotto_10 (by decide) (fun h_z => ?_) (fun h_z => ?_)
  · rw [if_neg h_z] at hF
    exact bX12_grotto_19 C O X (lv_sub hl [0, 1, 2] rfl) hF
  · rw [if_pos h_z] at hF
    exact bX12_grotto_13 C O X (lv_sub hl [0] rfl) hF
noncomputable def fX12_grotto (N : Nat) (x1 : Int32) (x2 : Int32) (S : gS) : Option (Int32 × gS) := fX12_grotto_b0 N x1 x2 S
theorem kX12_grotto {l : Launch} {D : va_G} {g : Nat → Nat} {cI cS : ClassId} {sa : Nat → Nat → Option Nat} {Am : (Nat → Prop) → State → Heap → Prop} (O : gO (mcell g cI cS sa) mord g) (P : gAm Am) (N : Nat) (x1 : Int32) (x2 : Int32) (S : gS) (o : Int32 × gS) (hF : fX12_grotto N x1 x2 S = some o) : gM l yX12_grotto cX12_grotto 3 ((some .int)) 3 D (mtys cI cS) (mcell g cI cS sa) mord g Am [.ref (g 99), .int x1, .int x2] S (some (.int o.1)) o.2 :=
  gM_of O P (by decide) (Nat.le_of_ble_eq_true rfl) (fun p e s m args below meth c ls C X hl => bX12_grotto_0 C O X (lv_sub hl [0, 1, 2] rfl) hF)
-- guild
noncomputable def fX12_guild_b115 (N : Nat) (S : gS) : Option (Int32 × gS) := bnd (fX12_fail N 1 S) fun q1 => (some (q1.1, q1.2))
theorem bX12_guild_115 {N : Nat} {S : gS} {H : Heap} {locs : List Loc} {ls : Array Slot} {o : Int32 × gS} (C : gC p s m args meth c cX12_guild 3 RX12 ((some .int)) D (mtys cI cS) mord g Am) (O : gO (mcell g cI cS sa) mord g) (X : gX D (mcell g cI cS sa) mord g S s H locs) (hl : lv_has ls 3 [(0, .ref (g 99))]) (hF : fX12_guild_b115 N S = some o) : W p l e (rmd 4) s m args below meth c H locs 0 0 (gE below args s D (mtys cI cS) (mcell g cI cS sa) mord g (some (.int o.1)) o.2) (F0 m 115 ls []) := by
  unfold fX12_guild_b115 at hF
  refine lv_aload_n C.1.1 C.1.2.1 dX12_guild_115 rfl (lv_at hl 0 rfl) ?_
  refine lv_iconst (v := 1) C.1.1 C.1.2.1 dX12_guild_116 (by decide) ?_
  obtain ⟨q1, hq1, hF⟩ := bnd_some hF
  refine m_callVi C X vX12_fail rfl (kX12_fail O C.2.2.2.2.1 N 1  S q1 hq1) (Nat.le_of_ble_eq_true rfl) (Nat.le_of_ble_eq_true rfl) (Nat.le_of_ble_eq_true rfl) (Nat.le_of_ble_eq_true rfl) rfl hl.1 rfl (Nat.le_of_ble_eq_true rfl) dX12_guild_117 (fun H locs X => ?_)
  cases hF
  exact g_iret C X dX12_guild_120
noncomputable def fX12_guild_b114 (N : Nat) (t0 : Int32) (S : gS) : Option (Int32 × gS) := some (t0, S)
theorem bX12_guild_114 {N : Nat} {t0 : Int32} {S : gS} {H : Heap} {locs : List Loc} {ls : Array Slot} {o : Int32 × gS} (C : gC p s m args meth c cX12_guild 3 RX12 ((some .int)) D (mtys cI cS) mord g Am) (O : gO (mcell g cI cS sa) mord g) (X : gX D (mcell g cI cS sa) mord g S s H locs) (hl : lv_has ls 3 []) (hF : fX12_guild_b114 N t0 S = some o) : W p l e (rmd 4) s m args below meth c H locs 0 0 (gE below args s D (mtys cI cS) (mcell g cI cS sa) mord g (some (.int o.1)) o.2) (F0 m 114 ls [.int t0]) := by
  unfold fX12_guild_b114 at hF
  cases hF
  exact g_iret C X dX12_guild_114
noncomputable def fX12_guild_b109 (N : Nat) (x1 : Int32) (S : gS) : Option (Int32 × gS) := bnd (fX12_costsOf N x1 S) fun q1 => (fX12_guild_b114 N q1.1 q1.2)
theorem bX12_guild_109 {N : Nat} {x1 : Int32} {S : gS} {H : Heap} {locs : List Loc} {ls : Array Slot} {o : Int32 × gS} (C : gC p s m args meth c cX12_guild 3 RX12 ((some .int)) D (mtys cI cS) mord g Am) (O : gO (mcell g cI cS sa) mord g) (X : gX D (mcell g cI cS sa) mord g S s H locs) (hl : lv_has ls 3 [(0, .ref (g 99)), (1, .int x1)]) (hF : fX12_guild_b109 N x1 S = some o) : W p l e (rmd 4) s m args below meth c H locs 0 0 (gE below args s D (mtys cI cS) (mcell g cI cS sa) mord g (some (.int o.1)) o.2) (F0 m 109 ls []) := by
  unfold fX12_guild_b109 at hF
  refine lv_aload_n C.1.1 C.1.2.1 dX12_guild_109 rfl (lv_at hl 0 rfl) ?_
  refine lv_iload_n C.1.1 C.1.2.1 dX12_guild_110 rfl (lv_at hl 1 rfl) ?_
  obtain ⟨q1, hq1, hF⟩ := bnd_some hF
  refine m_callVi C X vX12_costsOf rfl (kX12_costsOf O C.2.2.2.2.1 N x1  S q1 hq1) (Nat.le_of_ble_eq_true rfl) (Nat.le_of_ble_eq_true rfl) (Nat.le_of_ble_eq_true rfl) (Nat.le_of_ble_eq_true rfl) rfl hl.1 rfl (Nat.le_of_ble_eq_true rfl) dX12_guild_111 (fun H locs X => ?_)
  exact bX12_guild_114 C O X (lv_sub hl [] rfl) hF
noncomputable def fX12_guild_b105 (N : Nat) (S : gS) : Option (Int32 × gS) := fX12_guild_b114 N 0 S
theorem bX12_guild_105 {N : Nat} {S : gS} {H : Heap} {locs : List Loc} {ls : Array Slot} {o : Int32 × gS} (C : gC p s m args meth c cX12_guild 3 RX12 ((some .int)) D (mtys cI cS) mord g Am) (O : gO (mcell g cI cS sa) mord g) (X : gX D (mcell g cI cS sa) mord g S s H locs) (hl : lv_has ls 3 []) (hF : fX12_guild_b105 N S = some o) : W p l e (rmd 4) s m args below meth c H locs 0 0 (gE below args s D (mtys cI cS) (mcell g cI cS sa) mord g (some (.int o.1)) o.2) (F0 m 105 ls []) := by
  unfold fX12_guild_b105 at hF
  refine lv_iconst (v := 0) C.1.1 C.1.2.1 dX12_guild_105 (by decide) ?_
  refine lv_goto (tgt := 114) C.1.1 C.1.2.1 dX12_guild_106 (by decide) ?_
  exact bX12_guild_114 C O X (lv_sub hl [] rfl) hF
noncomputable def fX12_guild_b95 (N : Nat) (x1 : Int32) (S : gS) : Option (Int32 × gS) := chk (inb x1 (6)) (if (S 35 (Int32.toNatClampNeg x1)) = ((-1)) then fX12_guild_b105 N S else fX12_guild_b109 N x1 S)
theorem bX12_guild_95 {N : Nat} {x1 : Int32} {S : gS} {H : Heap} {locs : List Loc} {ls : Array Slot} {o : Int32 × gS} (C : gC p s m args meth c cX12_guild 3 RX12 ((some .int)) D (mtys cI cS) mord g Am) (O : gO (mcell g cI cS sa) mord g) (X : gX D (mcell g cI cS sa) mord g S s H locs) (hl : lv_has ls 3 [(0, .ref (g 99)), (1, .int x1)]) (hF : fX12_guild_b95 N x1 S = some o) : W p l e (rmd 4) s m args below meth c H locs 0 0 (gE below args s D (mtys cI cS) (mcell g cI cS sa) mord g (some (.int o.1)) o.2) (F0 m 95 ls []) := by
  unfold fX12_guild_b95 at hF
  refine lv_aload_n C.1.1 C.1.2.1 dX12_guild_95 rfl (lv_at hl 0 rfl) ?_
  refine m_g35 C X dX12_guild_96 ?_
  refine lv_iload_n C.1.1 C.1.2.1 dX12_guild_99 rfl (lv_at hl 1 rfl) ?_
  obtain ⟨h_1, hF⟩ := chk_some hF
  refine m_r35 C X  (inb_vp h_1) rfl dX12_guild_100 ?_
  refine lv_iconst (v := (-1)) C.1.1 C.1.2.1 dX12_guild_101 (by decide) ?_
  refine lv_icmp_ne (tgt := 109) C.1.1 C.1.2.1 dX12_guild_102 (by decide) (fun h_z => ?_) (fun h_z => ?_)
  · rw [if_neg h_z] at hF
    exact bX12_guild_109 C O X (lv_sub hl [0, 1] rfl) hF
  · rw [if_pos h_z] at hF
    exact bX12_guild_105 C O X (lv_sub hl [] rfl) hF
noncomputable def fX12_guild_b88 (N : Nat) (x1 : Int32) (S : gS) : Option (Int32 × gS) := chk (inb x1 (6)) (some (S 35 (Int32.toNatClampNeg x1), S))
theorem bX12_guild_88 {N : Nat} {x1 : Int32} {S : gS} {H : Heap} {locs : List Loc} {ls : Array Slot} {o : Int32 × gS} (C : gC p s m args meth c cX12_guild 3 RX12 ((some .int)) D (mtys cI cS) mord g Am) (O : gO (mcell g cI cS sa) mord g) (X : gX D (mcell g cI cS sa) mord g S s H locs) (hl : lv_has ls 3 [(0, .ref (g 99)), (1, .int x1)]) (hF : fX12_guild_b88 N x1 S = some o) : W p l e (rmd 4) s m args below meth c H locs 0 0 (gE below args s D (mtys cI cS) (mcell g cI cS sa) mord g (some (.int o.1)) o.2) (F0 m 88 ls []) := by
  unfold fX12_guild_b88 at hF
  refine lv_aload_n C.1.1 C.1.2.1 dX12_guild_88 rfl (lv_at hl 0 rfl) ?_
  refine m_g35 C X dX12_guild_89 ?_
  refine lv_iload_n C.1.1 C.1.2.1 dX12_guild_92 rfl (lv_at hl 1 rfl) ?_
  obtain ⟨h_1, hF⟩ := chk_some hF
  refine m_r35 C X  (inb_vp h_1) rfl dX12_guild_93 ?_
  cases hF
  exact g_iret C X dX12_guild_94
noncomputable def fX12_guild_b81 (N : Nat) (x1 : Int32) (S : gS) : Option (Int32 × gS) := chk (inb x1 (6)) (some (S 34 (Int32.toNatClampNeg x1), S))
theorem bX12_guild_81 {N : Nat} {x1 : Int32} {S : gS} {H : Heap} {locs : List Loc} {ls : Array Slot} {o : Int32 × gS} (C : gC p s m args meth c cX12_guild 3 RX12 ((some .int)) D (mtys cI cS) mord g Am) (O : gO (mcell g cI cS sa) mord g) (X : gX D (mcell g cI cS sa) mord g S s H locs) (hl : lv_has ls 3 [(0, .ref (g 99)), (1, .int x1)]) (hF : fX12_guild_b81 N x1 S = some o) : W p l e (rmd 4) s m args below meth c H locs 0 0 (gE below args s D (mtys cI cS) (mcell g cI cS sa) mord g (some (.int o.1)) o.2) (F0 m 81 ls []) := by
  unfold fX12_guild_b81 at hF
  refine lv_aload_n C.1.1 C.1.2.1 dX12_guild_81 rfl (lv_at hl 0 rfl) ?_
  refine m_g34 C X dX12_guild_82 ?_
  refine lv_iload_n C.1.1 C.1.2.1 dX12_guild_85 rfl (lv_at hl 1 rfl) ?_
  obtain ⟨h_1, hF⟩ := chk_some hF
  refine m_r34 C X  (inb_vp h_1) rfl dX12_guild_86 ?_
  cases hF
  exact g_iret C X dX12_guild_87
noncomputable def fX12_guild_b74 (N : Nat) (x1 : Int32) (S : gS) : Option (Int32 × gS) := chk (inb x1 (6)) (some (S 33 (Int32.toNatClampNeg x1), S))
theorem bX12_guild_74 {N : Nat} {x1 : Int32} {S : gS} {H : Heap} {locs : List Loc} {ls : Array Slot} {o : Int32 × gS} (C : gC p s m args meth c cX12_guild 3 RX12 ((some .int)) D (mtys cI cS) mord g Am) (O : gO (mcell g cI cS sa) mord g) (X : gX D (mcell g cI cS sa) mord g S s H locs) (hl : lv_has ls 3 [(0, .ref (g 99)), (1, .int x1)]) (hF : fX12_guild_b74 N x1 S = some o) : W p l e (rmd 4) s m args below meth c H locs 0 0 (gE below args s D (mtys cI cS) (mcell g cI cS sa) mord g (some (.int o.1)) o.2) (F0 m 74 ls []) := by
  unfold fX12_guild_b74 at hF
  refine lv_aload_n C.1.1 C.1.2.1 dX12_guild_74 rfl (lv_at hl 0 rfl) ?_
  refine m_g33 C X dX12_guild_75 ?_
  refine lv_iload_n C.1.1 C.1.2.1 dX12_guild_78 rfl (lv_at hl 1 rfl) ?_
  obtain ⟨h_1, hF⟩ := chk_some hF
  refine m_r33 C X  (inb_vp h_1) rfl dX12_guild_79 ?_
  cases hF
  exact g_iret C X dX12_guild_80
noncomputable def fX12_guild_b67 (N : Nat) (x1 : Int32) (S : gS) : Option (Int32 × gS) := chk (inb x1 (6)) (some (S 32 (Int32.toNatClampNeg x1), S))
theorem bX12_guild_67 {N : Nat} {x1 : Int32} {S : gS} {H : Heap} {locs : List Loc} {ls : Array Slot} {o : Int32 × gS} (C : gC p s m args meth c cX12_guild 3 RX12 ((some .int)) D (mtys cI cS) mord g Am) (O : gO (mcell g cI cS sa) mord g) (X : gX D (mcell g cI cS sa) mord g S s H locs) (hl : lv_has ls 3 [(0, .ref (g 99)), (1, .int x1)]) (hF : fX12_guild_b67 N x1 S = some o) : W p l e (rmd 4) s m args below meth c H locs 0 0 (gE below args s D (mtys cI cS) (mcell g cI cS sa) mord g (some (.int o.1)) o.2) (F0 m 67 ls []) := by
  unfold fX12_guild_b67 at hF
  refine lv_aload_n C.1.1 C.1.2.1 dX12_guild_67 rfl (lv_at hl 0 rfl) ?_
  refine m_g32 C X dX12_guild_68 ?_
  refine lv_iload_n C.1.1 C.1.2.1 dX12_guild_71 rfl (lv_at hl 1 rfl) ?_
  obtain ⟨h_1, hF⟩ := chk_some hF
  refine m_r32 C X  (inb_vp h_1) rfl dX12_guild_72 ?_
  cases hF
  exact g_iret C X dX12_guild_73
noncomputable def fX12_guild_b60 (N : Nat) (x1 : Int32) (S : gS) : Option (Int32 × gS) := chk (inb x1 (6)) (some (S 18 (Int32.toNatClampNeg x1), S))
theorem bX12_guild_60 {N : Nat} {x1 : Int32} {S : gS} {H : Heap} {locs : List Loc} {ls : Array Slot} {o : Int32 × gS} (C : gC p s m args meth c cX12_guild 3 RX12 ((some .int)) D (mtys cI cS) mord g Am) (O : gO (mcell g cI cS sa) mord g) (X : gX D (mcell g cI cS sa) mord g S s H locs) (hl : lv_has ls 3 [(0, .ref (g 99)), (1, .int x1)]) (hF : fX12_guild_b60 N x1 S = some o) : W p l e (rmd 4) s m args below meth c H locs 0 0 (gE below args s D (mtys cI cS) (mcell g cI cS sa) mord g (some (.int o.1)) o.2) (F0 m 60 ls []) := by
  unfold fX12_guild_b60 at hF
  refine lv_aload_n C.1.1 C.1.2.1 dX12_guild_60 rfl (lv_at hl 0 rfl) ?_
  refine m_g18 C X dX12_guild_61 ?_
  refine lv_iload_n C.1.1 C.1.2.1 dX12_guild_64 rfl (lv_at hl 1 rfl) ?_
  obtain ⟨h_1, hF⟩ := chk_some hF
  refine m_r18 C X  (inb_vp h_1) rfl dX12_guild_65 ?_
  cases hF
  exact g_iret C X dX12_guild_66
noncomputable def fX12_guild_b19 (N : Nat) (x1 : Int32) (x2 : Int32) (S : gS) : Option (Int32 × gS) := if x2 = 0 then fX12_guild_b60 N x1 S else if x2 = 1 then fX12_guild_b67 N x1 S else if x2 = 2 then fX12_guild_b74 N x1 S else if x2 = 3 then fX12_guild_b81 N x1 S else if x2 = 4 then fX12_guild_b88 N x1 S else if x2 = 5 then fX12_guild_b95 N x1 S else fX12_guild_b115 N S
theorem bX12_guild_19 {N : Nat} {x1 : Int32} {x2 : Int32} {S : gS} {H : Heap} {locs : List Loc} {ls : Array Slot} {o : Int32 × gS} (C : gC p s m args meth c cX12_guild 3 RX12 ((some .int)) D (mtys cI cS) mord g Am) (O : gO (mcell g cI cS sa) mord g) (X : gX D (mcell g cI cS sa) mord g S s H locs) (hl : lv_has ls 3 [(0, .ref (g 99)), (1, .int x1), (2, .int x2)]) (hF : fX12_guild_b19 N x1 x2 S = some o) : W p l e (rmd 4) s m args below meth c H locs 0 0 (gE below args s D (mtys cI cS) (mcell g cI cS sa) mord g (some (.int o.1)) o.2) (F0 m 19 ls []) := by
  unfold fX12_guild_b19 at hF
  refine lv_iload_n C.1.1 C.1.2.1 dX12_guild_19 rfl (lv_at hl 2 rfl) ?_
  by_cases hz_0 : x2 = 0
  · rw [if_pos hz_0] at hF
    refine lv_tableIn (off := 40) (tgt := 60) C.1.1 C.1.2.1 dX12_guild_20 (by rw [hz_0]; decide) (by rw [hz_0]; decide) (by rw [hz_0]; decide) (by decide) ?_
    exact bX12_guild_60 C O X (lv_sub hl [0, 1] rfl) hF
  rw [if_neg hz_0] at hF
  by_cases hz_1 : x2 = 1
  · rw [if_pos hz_1] at hF
    refine lv_tableIn (off := 47) (tgt := 67) C.1.1 C.1.2.1 dX12_guild_20 (by rw [hz_1]; decide) (by rw [hz_1]; decide) (by rw [hz_1]; decide) (by decide) ?_
    exact bX12_guild_67 C O X (lv_sub hl [0, 1] rfl) hF
  rw [if_neg hz_1] at hF
  by_cases hz_2 : x2 = 2
  · rw [if_pos hz_2] at hF
    refine lv_tableIn (off := 54) (tgt := 74) C.1.1 C.1.2.1 dX12_guild_20 (by rw [hz_2]; decide) (by rw [hz_2]; decide) (by rw [hz_2]; decide) (by decide) ?_
    exact bX12_guild_74 C O X (lv_sub hl [0, 1] rfl) hF
  rw [if_neg hz_2] at hF
  by_cases hz_3 : x2 = 3
  · rw [if_pos hz_3] at hF
    refine lv_tableIn (off := 61) (tgt := 81) C.1.1 C.1.2.1 dX12_guild_20 (by rw [hz_3]; decide) (by rw [hz_3]; decide) (by rw [hz_3]; decide) (by decide) ?_
    exact bX12_guild_81 C O X (lv_sub hl [0, 1] rfl) hF
  rw [if_neg hz_3] at hF
  by_cases hz_4 : x2 = 4
  · rw [if_pos hz_4] at hF
    refine lv_tableIn (off := 68) (tgt := 88) C.1.1 C.1.2.1 dX12_guild_20 (by rw [hz_4]; decide) (by rw [hz_4]; decide) (by rw [hz_4]; decide) (by decide) ?_
    exact bX12_guild_88 C O X (lv_sub hl [0, 1] rfl) hF
  rw [if_neg hz_4] at hF
  by_cases hz_5 : x2 = 5
  · rw [if_pos hz_5] at hF
    refine lv_tableIn (off := 75) (tgt := 95) C.1.1 C.1.2.1 dX12_guild_20 (by rw [hz_5]; decide) (by rw [hz_5]; decide) (by rw [hz_5]; decide) (by decide) ?_
    exact bX12_guild_95 C O X (lv_sub hl [0, 1] rfl) hF
  rw [if_neg hz_5] at hF
  refine lv_tableOut (tgt := 115) C.1.1 C.1.2.1 dX12_guild_20 (g_tsw 0 5 _ ?_) (by decide) ?_
  · intro i hi1 hi2
    rcases (show i = 0 ∨ i = 1 ∨ i = 2 ∨ i = 3 ∨ i = 4 ∨ i = 5 by omega) with rfl | rfl | rfl | rfl | rfl | rfl
    · exact hz_0
    · exact hz_1
    · exact hz_2
    · exact hz_3
    · exact hz_4
    · exact hz_5
  exact bX12_guild_115 C O X (lv_sub hl [0] rfl) hF
noncomputable def fX12_guild_b13 (N : Nat) (S : gS) : Option (Int32 × gS) := bnd (fX12_fail N 1 S) fun q1 => (some (q1.1, q1.2))
theorem bX12_guild_13 {N : Nat} {S : gS} {H : Heap} {locs : List Loc} {ls : Array Slot} {o : Int32 × gS} (C : gC p s m args meth c cX12_guild 3 RX12 ((some .int)) D (mtys cI cS) mord g Am) (O : gO (mcell g cI cS sa) mord g) (X : gX D (mcell g cI cS sa) mord g S s H locs) (hl : lv_has ls 3 [(0, .ref (g 99))]) (hF : fX12_guild_b13 N S = some o) : W p l e (rmd 4) s m args below meth c H locs 0 0 (gE below args s D (mtys cI cS) (mcell g cI cS sa) mord g (some (.int o.1)) o.2) (F0 m 13 ls []) := by
  unfold fX12_guild_b13 at hF
  refine lv_aload_n C.1.1 C.1.2.1 dX12_guild_13 rfl (lv_at hl 0 rfl) ?_
  refine lv_iconst (v := 1) C.1.1 C.1.2.1 dX12_guild_14 (by decide) ?_
  obtain ⟨q1, hq1, hF⟩ := bnd_some hF
  refine m_callVi C X vX12_fail rfl (kX12_fail O C.2.2.2.2.1 N 1  S q1 hq1) (Nat.le_of_ble_eq_true rfl) (Nat.le_of_ble_eq_true rfl) (Nat.le_of_ble_eq_true rfl) (Nat.le_of_ble_eq_true rfl) rfl hl.1 rfl (Nat.le_of_ble_eq_true rfl) dX12_guild_15 (fun H locs X => ?_)
  cases hF
  exact g_iret C X dX12_guild_18
noncomputable def fX12_guild_b0 (N : Nat) (x1 : Int32) (x2 : Int32) (S : gS) : Option (Int32 × gS) := lt (sU S 99 4 0) fun S1 => (bnd (fX12_isGuild N x1 S1) fun q1 => (if q1.1 = 0 then fX12_guild_b13 N q1.2 else fX12_guild_b19 N x1 x2 q1.2))
theorem bX12_guild_0 {N : Nat} {x1 : Int32} {x2 : Int32} {S : gS} {H : Heap} {locs : List Loc} {ls : Array Slot} {o : Int32 × gS} (C : gC p s m args meth c cX12_guild 3 RX12 ((some .int)) D (mtys cI cS) mord g Am) (O : gO (mcell g cI cS sa) mord g) (X : gX D (mcell g cI cS sa) mord g S s H locs) (hl : lv_has ls 3 [(0, .ref (g 99)), (1, .int x1), (2, .int x2)]) (hF : fX12_guild_b0 N x1 x2 S = some o) : W p l e (rmd 4) s m args below meth c H locs 0 0 (gE below args s D (mtys cI cS) (mcell g cI cS sa) mord g (some (.int o.1)) o.2) (F0 m 0 ls []) := by
  unfold fX12_guild_b0 at hF
  refine lv_aload_n C.1.1 C.1.2.1 dX12_guild_0 rfl (lv_at hl 0 rfl) ?_
  refine lv_iconst (v := 0) C.1.1 C.1.2.1 dX12_guild_1 (by decide) ?_
  obtain ⟨S1, eS1, hF⟩ := lt_some hF
  refine m_p4 C O X eS1 dX12_guild_2 (fun H locs X => ?_)
  refine lv_aload_n C.1.1 C.1.2.1 dX12_guild_5 rfl (lv_at hl 0 rfl) ?_
  refine lv_iload_n C.1.1 C.1.2.1 dX12_guild_6 rfl (lv_at hl 1 rfl) ?_
  obtain ⟨q1, hq1, hF⟩ := bnd_some hF
  refine m_callVi C X vX12_isGuild rfl (kX12_isGuild O C.2.2.2.2.1 N x1  S1 q1 hq1) (Nat.le_of_ble_eq_true rfl) (Nat.le_of_ble_eq_true rfl) (Nat.le_of_ble_eq_true rfl) (Nat.le_of_ble_eq_true rfl) rfl hl.1 rfl (Nat.le_of_ble_eq_true rfl) dX12_guild_7 (fun H locs X => ?_)
  refine lv_if_ne (tgt := 19) C.1.1 C.1.2.1 dX12_guild_10 (by decide) (fun h_z => ?_) (fun h_z => ?_)
  · rw [if_neg h_z] at hF
    exact bX12_guild_19 C O X (lv_sub hl [0, 1, 2] rfl) hF
  · rw [if_pos h_z] at hF
    exact bX12_guild_13 C O X (lv_sub hl [0] rfl) hF
noncomputable def fX12_guild (N : Nat) (x1 : Int32) (x2 : Int32) (S : gS) : Option (Int32 × gS) := fX12_guild_b0 N x1 x2 S
theorem kX12_guild {l : Launch} {D : va_G} {g : Nat → Nat} {cI cS : ClassId} {sa : Nat → Nat → Option Nat} {Am : (Nat → Prop) → State → Heap → Prop} (O : gO (mcell g cI cS sa) mord g) (P : gAm Am) (N : Nat) (x1 : Int32) (x2 : Int32) (S : gS) (o : Int32 × gS) (hF : fX12_guild N x1 x2 S = some o) : gM l yX12_guild cX12_guild 3 ((some .int)) 4 D (mtys cI cS) (mcell g cI cS sa) mord g Am [.ref (g 99), .int x1, .int x2] S (some (.int o.1)) o.2 :=
  gM_of O P (by decide) (Nat.le_of_ble_eq_true rfl) (fun p e s m args below meth c ls C X hl => bX12_guild_0 C O X (lv_sub hl [0, 1, 2] rfl) hF)
-- refuse
noncomputable def fX12_refuse_b0 (N : Nat) (x1 : Int32) (S : gS) : Option (Int32 × gS) := chk (inb x1 (3)) (chk (inb x1 (3)) (lt (sU S 17 (Int32.toNatClampNeg x1) (((S 17 (Int32.toNatClampNeg x1)) + 1 : Int32))) fun S1 => (some ((-1), S1))))
theorem bX12_refuse_0 {N : Nat} {x1 : Int32} {S : gS} {H : Heap} {locs : List Loc} {ls : Array Slot} {o : Int32 × gS} (C : gC p s m args meth c cX12_refuse 2 RX12 ((some .int)) D (mtys cI cS) mord g Am) (O : gO (mcell g cI cS sa) mord g) (X : gX D (mcell g cI cS sa) mord g S s H locs) (hl : lv_has ls 2 [(0, .ref (g 99)), (1, .int x1)]) (hF : fX12_refuse_b0 N x1 S = some o) : W p l e (rmd 0) s m args below meth c H locs 0 0 (gE below args s D (mtys cI cS) (mcell g cI cS sa) mord g (some (.int o.1)) o.2) (F0 m 0 ls []) := by
  unfold fX12_refuse_b0 at hF
  refine lv_aload_n C.1.1 C.1.2.1 dX12_refuse_0 rfl (lv_at hl 0 rfl) ?_
  refine m_g17 C X dX12_refuse_1 ?_
  refine lv_iload_n C.1.1 C.1.2.1 dX12_refuse_4 rfl (lv_at hl 1 rfl) ?_
  refine lv_dup2_11 C.1.1 C.1.2.1 dX12_refuse_5 rfl rfl ?_
  obtain ⟨h_1, hF⟩ := chk_some hF
  refine m_r17 C X  (inb_vp h_1) rfl dX12_refuse_6 ?_
  refine lv_iconst (v := 1) C.1.1 C.1.2.1 dX12_refuse_7 (by decide) ?_
  refine lv_iadd C.1.1 C.1.2.1 dX12_refuse_8 ?_
  obtain ⟨h_2, hF⟩ := chk_some hF
  obtain ⟨S1, eS1, hF⟩ := lt_some hF
  refine m_w17 C O X  (inb_vp h_2) rfl eS1 dX12_refuse_9 (fun H locs X => ?_)
  refine lv_iconst (v := (-1)) C.1.1 C.1.2.1 dX12_refuse_10 (by decide) ?_
  cases hF
  exact g_iret C X dX12_refuse_11
noncomputable def fX12_refuse (N : Nat) (x1 : Int32) (S : gS) : Option (Int32 × gS) := fX12_refuse_b0 N x1 S
theorem kX12_refuse {l : Launch} {D : va_G} {g : Nat → Nat} {cI cS : ClassId} {sa : Nat → Nat → Option Nat} {Am : (Nat → Prop) → State → Heap → Prop} (O : gO (mcell g cI cS sa) mord g) (P : gAm Am) (N : Nat) (x1 : Int32) (S : gS) (o : Int32 × gS) (hF : fX12_refuse N x1 S = some o) : gM l yX12_refuse cX12_refuse 2 ((some .int)) 0 D (mtys cI cS) (mcell g cI cS sa) mord g Am [.ref (g 99), .int x1] S (some (.int o.1)) o.2 :=
  gM_of O P (by decide) (Nat.le_of_ble_eq_true rfl) (fun p e s m args below meth c ls C X hl => bX12_refuse_0 C O X (lv_sub hl [0, 1] rfl) hF)
-- refused
noncomputable def fX12_refused_b0 (N : Nat) (S : gS) : Option (Int32 × gS) := lt (sU S 17 1 (((S 17 1) + 1 : Int32))) fun S1 => (some (0, S1))
theorem bX12_refused_0 {N : Nat} {S : gS} {H : Heap} {locs : List Loc} {ls : Array Slot} {o : Int32 × gS} (C : gC p s m args meth c cX12_refused 1 RX12 ((some .boolean)) D (mtys cI cS) mord g Am) (O : gO (mcell g cI cS sa) mord g) (X : gX D (mcell g cI cS sa) mord g S s H locs) (hl : lv_has ls 1 [(0, .ref (g 99))]) (hF : fX12_refused_b0 N S = some o) : W p l e (rmd 0) s m args below meth c H locs 0 0 (gE below args s D (mtys cI cS) (mcell g cI cS sa) mord g (some (.int o.1)) o.2) (F0 m 0 ls []) := by
  unfold fX12_refused_b0 at hF
  refine lv_aload_n C.1.1 C.1.2.1 dX12_refused_0 rfl (lv_at hl 0 rfl) ?_
  refine m_g17 C X dX12_refused_1 ?_
  refine lv_iconst (v := 1) C.1.1 C.1.2.1 dX12_refused_4 (by decide) ?_
  refine lv_dup2_11 C.1.1 C.1.2.1 dX12_refused_5 rfl rfl ?_
  refine m_r17 C X (j := 1) (inb_vp (by decide)) (by decide) dX12_refused_6 ?_
  refine lv_iconst (v := 1) C.1.1 C.1.2.1 dX12_refused_7 (by decide) ?_
  refine lv_iadd C.1.1 C.1.2.1 dX12_refused_8 ?_
  obtain ⟨S1, eS1, hF⟩ := lt_some hF
  refine m_w17 C O X (j := 1) (inb_vp (by decide)) (by decide) eS1 dX12_refused_9 (fun H locs X => ?_)
  refine lv_iconst (v := 0) C.1.1 C.1.2.1 dX12_refused_10 (by decide) ?_
  cases hF
  exact g_zret (x := 0) C X (by decide) dX12_refused_11
noncomputable def fX12_refused (N : Nat) (S : gS) : Option (Int32 × gS) := fX12_refused_b0 N S
theorem kX12_refused {l : Launch} {D : va_G} {g : Nat → Nat} {cI cS : ClassId} {sa : Nat → Nat → Option Nat} {Am : (Nat → Prop) → State → Heap → Prop} (O : gO (mcell g cI cS sa) mord g) (P : gAm Am) (N : Nat) (S : gS) (o : Int32 × gS) (hF : fX12_refused N S = some o) : gM l yX12_refused cX12_refused 1 ((some .boolean)) 0 D (mtys cI cS) (mcell g cI cS sa) mord g Am [.ref (g 99)] S (some (.int o.1)) o.2 :=
  gM_of O P (by decide) (Nat.le_of_ble_eq_true rfl) (fun p e s m args below meth c ls C X hl => bX12_refused_0 C O X (lv_sub hl [0] rfl) hF)
end
end

/-! THE GENERAL WORLD: all cells of one side (class or reference) as one list; a state is what the cells hold; every method is a map of states that may fail; its contract: where the map gives a value, the method returns it and the cells hold the new state. -/
noncomputable def gT : List Cond := lw_tbl.filter goodWord
theorem gT_of {w : Cond} (i : Nat) (h : lw_tbl[i]? = some w) (hg : goodWord w = true) : w ∈ gT := List.mem_filter.mpr ⟨List.mem_of_getElem? h, hg⟩
theorem gT_sub {w : Cond} (h : w ∈ gT) : w ∈ lw_tbl := (List.mem_filter.mp h).1
theorem gT_good {w : Cond} (h : w ∈ gT) : (w.onTables && w.keeps) = true ∨ ∃ ty, w = .arrayClass ty := good_of_word (List.mem_filter.mp h).2
theorem gT_places {ws : List Cond} (ps : List Nat) (h : ws = ps.filterMap (fun i => lw_tbl[i]?)) (hg : ws.all goodWord = true) : ∀ w ∈ ws, w ∈ gT := by
  intro w hw
  have h1 := List.all_eq_true.mp hg w hw
  rw [h] at hw
  obtain ⟨i, -, hi⟩ := List.mem_filterMap.mp hw
  exact List.mem_filter.mpr ⟨List.mem_of_getElem? hi, h1⟩
theorem gT_in {ws : List Cond} (h : ∀ w ∈ ws, w ∈ gT) : GoodIn gT ws := fun w hw => ⟨h w hw, gT_good (h w hw)⟩
/-- a state: of each cell what it holds (an object's numbers by their slots, a row's elements) -/
abbrev gS : Type := Nat → Nat → Int32
noncomputable def sU (S : gS) (a b : Nat) (x : Int32) : gS := fun i => if i = a then upd (S a) b x else S i
theorem sU_ne {S : gS} {a b i : Nat} {x : Int32} (h : i ≠ a) : sU S a b x i = S i := if_neg h
theorem sU_eq {S : gS} {a b : Nat} {x : Int32} : sU S a b x a = upd (S a) b x := if_pos rfl
noncomputable def gw (cell : gS → Nat → Nat × va_E) (ord : List Nat) (S : gS) : va_W := ord.map (cell S)
def gA (ord : List Nat) (adr : Nat → Nat) (sz : Nat) : Nat → Prop := fun q => (∃ k, k ∈ ord ∧ q = adr k) ∨ sz ≤ q
def gO (cell : gS → Nat → Nat × va_E) (ord : List Nat) (adr : Nat → Nat) : Prop :=
  (∀ (S S' : gS) (j : Nat), S j = S' j → cell S j = cell S' j) ∧ (∀ (S : gS) (j : Nat), (cell S j).1 = adr j) ∧ (∀ (i j a b : Nat), ord[i]? = some a → ord[j]? = some b → adr a = adr b → i = j)
theorem gw_get {cell : gS → Nat → Nat × va_E} {ord : List Nat} {S : gS} {q k : Nat} (hq : ord[q]? = some k) {e : Nat × va_E} (he : cell S k = e) : (gw cell ord S)[q]? = some e := by
  unfold gw
  rw [List.getElem?_map, hq, ← he]
  rfl
theorem gw_of {cell : gS → Nat → Nat × va_E} {ord : List Nat} {S : gS} {q : Nat} {e : Nat × va_E} (h : (gw cell ord S)[q]? = some e) : ∃ k, ord[q]? = some k ∧ cell S k = e := by
  unfold gw at h
  rw [List.getElem?_map] at h
  cases hk : ord[q]? with
  | none => rw [hk] at h; cases h
  | some k => rw [hk] at h; exact ⟨k, rfl, Option.some.inj h⟩
theorem gw_D {cell : gS → Nat → Nat × va_E} {ord : List Nat} {adr : Nat → Nat} (O : gO cell ord adr) (S : gS) (sz : Nat) : va_D (gA ord adr sz) (gw cell ord S) := by
  refine ⟨fun i j p q hi hj e => ?_, fun k q h => ?_⟩
  · obtain ⟨a, ha, rfl⟩ := gw_of hi
    obtain ⟨b, hb, rfl⟩ := gw_of hj
    rw [O.2.1, O.2.1] at e
    exact O.2.2 i j a b ha hb e
  · obtain ⟨a, ha, rfl⟩ := gw_of h
    exact Or.inl ⟨a, List.mem_of_getElem? ha, O.2.1 S a⟩
theorem gw_set {cell : gS → Nat → Nat × va_E} {ord : List Nat} {adr : Nat → Nat} (O : gO cell ord adr) {S S' : gS} {q k : Nat} (hq : ord[q]? = some k) {e : Nat × va_E} (he : cell S' k = e) (hS : ∀ j, j ≠ k → S' j = S j) : (gw cell ord S).set q e = gw cell ord S' := by
  apply List.ext_getElem?
  intro i
  by_cases hi : i = q
  · subst hi
    have hl : i < (gw cell ord S).length := by
      unfold gw
      rw [List.length_map]
      exact (List.getElem?_eq_some_iff.mp hq).1
    rw [List.getElem?_set_self hl, gw_get hq he]
  · rw [List.getElem?_set_ne (Ne.symm hi)]
    unfold gw
    rw [List.getElem?_map, List.getElem?_map]
    cases hk : ord[i]? with
    | none => rfl
    | some a =>
      have : a ≠ k := fun h => hi (O.2.2 i q a k hk hq (by rw [h]))
      show some (cell S a) = some (cell S' a)
      rw [O.1 S S' a (hS a this).symm]
/-! maps of states that may fail -/
noncomputable def chk {α : Type} (b : Bool) (x : Option α) : Option α := match b with
  | true => x
  | false => none
theorem chk_some {α : Type} {b : Bool} {x : Option α} {o : α} (h : chk b x = some o) : b = true ∧ x = some o := by
  cases b with
  | true => exact ⟨rfl, h⟩
  | false => cases h
noncomputable def bnd {α β : Type} (x : Option α) (f : α → Option β) : Option β := match x with
  | some a => f a
  | none => none
theorem bnd_some {α β : Type} {x : Option α} {f : α → Option β} {o : β} (h : bnd x f = some o) : ∃ a, x = some a ∧ f a = some o := by
  cases x with
  | none => cases h
  | some a => exact ⟨a, rfl, h⟩
noncomputable def lt {α β : Type} (x : α) (f : α → β) : β := f x
theorem lt_some {α β : Type} {x : α} {f : α → β} {o : β} (h : lt x f = o) : ∃ a, a = x ∧ f a = o := ⟨x, rfl, h⟩
noncomputable def inb (i : Int32) (n : Nat) : Bool := decide (¬ (i < 0 ∨ n ≤ i.toNatClampNeg))
theorem inb_vp {i : Int32} {n : Nat} (h : inb i n = true) : vp_in i n := by
  unfold inb at h
  unfold vp_in
  exact of_decide_eq_true h
noncomputable def nz (x : Int32) : Bool := decide (¬ x = 0)
theorem nz_ne {x : Int32} (h : nz x = true) : ¬ x = 0 := of_decide_eq_true h
noncomputable def zb (x : Int32) : Bool := decide (x = 0 ∨ x = 1)
theorem zb_narrow {x : Int32} (h : zb x = true) : narrow .boolean (.int x) = .int x := by
  rcases of_decide_eq_true h with rfl | rfl <;> rfl
theorem zb_fits {x : Int32} (h : zb x = true) : fits .boolean (.int x) = true := by
  rcases of_decide_eq_true h with rfl | rfl <;> rfl
/-! rooms: d frames -/
noncomputable def rmd (d : Nat) : Room := { frames := d, cells := 0, slots := 0, locals := 40 * d + 13 }
/-- what a side rests on besides its cells (texts, words of nest mates): it stays while what is old stays -/
def gAm (Am : (Nat → Prop) → State → Heap → Prop) : Prop := ∀ (A B : Nat → Prop) (s U : State) (H : Heap), s.WarmedH U.vm → Am A s s.heap → (∀ q : Nat, q < s.heap.size → ¬ A q → H[q]? = s.heap[q]?) → (∀ q, B q → A q) → Am B U H
def gC (p : Program) (s : State) (m : MethodId) (args : Array Value) (meth : Method) (c : Code) (cc : ByteArray) (nL : Nat) (own : String) (ret : Option FieldType) (D : va_G) (tys : List (ClassId × FieldType)) (ord : List Nat) (adr : Nat → Nat) (Am : (Nat → Prop) → State → Heap → Prop) : Prop :=
  CallFix p m c cc nL s args gT own ∧ va_K D vwCl tys s ∧ meth.sig.returnType = ret ∧ meth.locks = false ∧ gAm Am ∧ Am (gA ord adr s.heap.size) s s.heap
def gX (D : va_G) (cell : gS → Nat → Nat × va_E) (ord : List Nat) (adr : Nat → Nat) (S : gS) (s : State) (H : Heap) (locs : List Loc) : Prop :=
  va_P D vwCl (gw cell ord S) H ∧ va_S (gA ord adr s.heap.size) s.heap H locs
def gQ (D : va_G) (tys : List (ClassId × FieldType)) (cell : gS → Nat → Nat × va_E) (ord : List Nat) (adr : Nat → Nat) (sz : Nat) (v : Option Value) (S' : gS) : Array Value → State → Outcome → State → Prop := fun _ st oc t =>
  (oc = .returned v ∧ va_P D vwCl (gw cell ord S') t.heap ∧ va_K D vwCl tys t) ∧ va_F (gA ord adr sz) st t
def gM (l : Launch) (y : MethodName) (cy : ByteArray) (mL : Nat) (rt : Option FieldType) (d : Nat) (D : va_G) (tys : List (ClassId × FieldType)) (cell : gS → Nat → Nat × va_E) (ord : List Nat) (adr : Nat → Nat) (Am : (Nat → Prop) → State → Heap → Prop) (av : List Value) (S : gS) (v : Option Value) (S' : gS) : Prop :=
  ∀ sz : Nat, Met l y (Cond.code y cy mL rt :: gT) (rmd d) (va_Pc av (fun U => U.heap.size = sz ∧ va_P D vwCl (gw cell ord S) U.heap ∧ va_K D vwCl tys U ∧ Am (gA ord adr sz) U U.heap)) (gQ D tys cell ord adr sz v S') 0 0 (gA ord adr sz)
def gE (below : List Frame) (args : Array Value) (s : State) (D : va_G) (tys : List (ClassId × FieldType)) (cell : gS → Nat → Nat × va_E) (ord : List Nat) (adr : Nat → Nat) (v : Option Value) (S' : gS) : State → Prop :=
  MQ below (gQ D tys cell ord adr s.heap.size v S') args s 0 0 (gA ord adr s.heap.size)
section GEN
variable {p : Program} {l : Launch} {e : Env} {R : Room} {s : State} {m : MethodId} {args : Array Value} {below : List Frame} {meth : Method} {c : Code} {H : Heap} {locs : List Loc} {cs sl : Nat} {Q : State → Prop} {Am : (Nat → Prop) → State → Heap → Prop}
variable {cc cy : ByteArray} {nL mL pc n index d : Nat} {own Cn : String} {ret rt : Option FieldType} {D : va_G} {tys : List (ClassId × FieldType)} {cell : gS → Nat → Nat × va_E} {ord : List Nat} {adr : Nat → Nat} {S S' : gS} {ls : Array Slot} {rest As av : List Value} {y : MethodName} {v : Option Value}
/-- a contract out of a walk of the body -/
theorem gM_of (O : gO cell ord adr) (P : gAm Am) (hy : plainName y.cls = true) (hn : (lg_sl av).length ≤ mL)
    (hw : ∀ (p : Program) (e : Env) (s : State) (m : MethodId) (args : Array Value) (below : List Frame) (meth : Method) (c : Code) (ls : Array Slot), gC p s m args meth c cy mL y.cls rt D tys ord adr Am → gX D cell ord adr S s s.heap [] → lv_has ls mL (lv_args 0 av) →
      W p l e (rmd d) s m args below meth c s.heap [] 0 0 (gE below args s D tys cell ord adr v S') (F0 m 0 ls [])) : gM l y cy mL rt d D tys cell ord adr Am av S v S' := by
  intro sz
  refine Met.ofW (cc := cy) (maxL := mL) (ret := rt) hy rfl ?_
  intro p e s m args below meth c s₁ B hml hv
  obtain ⟨rfl, hsz, hP, hK, hY⟩ := hv
  have hts := atoms_spec (ws := Cond.code y cy mL rt :: gT) B.pre
  subst hsz
  rw [lg_entry_eq]
  exact hw p e s m _ below meth c _ ⟨⟨B.exec, B.bytes, hml, findClass_of_methodNamed B.named, fun w h => hts w (List.mem_cons_of_mem _ h)⟩, hK, B.returns, B.notSynchronized, P, hY⟩ ⟨hP, va_S.rf⟩ (lv_entry av hn)
theorem g_iret (C : gC p s m args meth c cc nL own (some .int) D tys ord adr Am) (X : gX D cell ord adr S s H locs) {x : Int32} (hdg : decode cc pc = .ok (.ireturn, 1)) :
    W p l e R s m args below meth c H locs 0 0 (gE below args s D tys cell ord adr (some (.int x)) S) (F0 m pc ls [.int x]) :=
  W.iret (v := x) C.1.1 C.1.2.1 C.2.2.1 (fun t ht hW => ⟨⟨rfl, by rw [ht]; exact X.1, va_K.moved hW.alike C.2.1⟩, X.2.F ht⟩) X.2.2.2 hdg C.2.2.2.1
theorem g_zret (C : gC p s m args meth c cc nL own (some .boolean) D tys ord adr Am) (X : gX D cell ord adr S s H locs) {x : Int32} (hz : zb x = true) (hdg : decode cc pc = .ok (.ireturn, 1)) :
    W p l e R s m args below meth c H locs 0 0 (gE below args s D tys cell ord adr (some (.int x)) S) (F0 m pc ls [.int x]) :=
  W.zret (v := x) C.1.1 C.1.2.1 C.2.2.1 (zb_narrow hz) (fun t ht hW => ⟨⟨rfl, by rw [ht]; exact X.1, va_K.moved hW.alike C.2.1⟩, X.2.F ht⟩) X.2.2.2 hdg C.2.2.2.1
theorem g_vret (C : gC p s m args meth c cc nL own none D tys ord adr Am) (X : gX D cell ord adr S s H locs) (hdg : decode cc pc = .ok (.return_, 1)) :
    W p l e R s m args below meth c H locs 0 0 (gE below args s D tys cell ord adr none S) (F0 m pc ls []) :=
  W.vret C.1.1 C.1.2.1 C.2.2.1 (fun t ht hW => ⟨⟨rfl, by rw [ht]; exact X.1, va_K.moved hW.alike C.2.1⟩, X.2.F ht⟩) X.2.2.2 hdg C.2.2.2.1
/-- what came back of a call -/
theorem g_back {st0 : List Value} {a : Array Value} (hr : va_Run p l e R s m args below meth c H locs cs sl 0 0 (F0 m pc ls st0) rest (gQ D tys cell ord adr H.size v S' a) (gA ord adr H.size)) (X : gX D cell ord adr S s H locs)
    (kk : ∀ (H1 : Heap) (locs1 : List Loc), gX D cell ord adr S' s H1 locs1 → W p l e R s m args below meth c H1 locs1 cs sl Q (F0 m (pc + 3) ls (v.toList ++ rest))) : W p l e R s m args below meth c H locs cs sl Q (F0 m pc ls st0) := by
  intro T hT X0
  obtain ⟨v', st₀, t, T', L, h0, X', hL, e1, e2, ⟨⟨hv, hP, hK⟩, hz, hk⟩, st⟩ := hr T hT X0
  cases hv
  rw [h0] at hz hk
  have hAA : ∀ q, gA ord adr H.size q → gA ord adr s.heap.size q := fun q hq => hq.elim Or.inl (fun h => Or.inr (Nat.le_trans X.2.1 h))
  obtain ⟨t2, a1, b1⟩ := kk T'.heap (locs ++ L) ⟨by rw [e1]; exact hP, Nat.le_trans X.2.1 (by rw [e1]; exact hz), fun q h1 h2 => by rw [e1, hk q (Nat.lt_of_lt_of_le h1 X.2.1) (fun z => h2 (hAA q z))]; exact X.2.2.1 q h1 h2, fun q hq => by
      rcases List.mem_append.mp hq with h | h
      · exact X.2.2.2 q h
      · exact hAA _ (hL q h)⟩ T' rfl X'
  exact ⟨t2, st t2 a1, b1⟩
/-- the words of a call of an instance method -/
def gWV (own : String) (index : Nat) (y : MethodName) (cy : ByteArray) (mL : Nat) (rt : Option FieldType) (n : Nat) : Prop :=
  Cond.methodLink own index y ∈ gT ∧ Cond.instanceMethod y ∈ gT ∧ Cond.selects y.cls y y ∈ gT ∧ Cond.initialized y.cls ∈ gT ∧ Cond.code y cy mL rt ∈ gT ∧ (y.cls ≠ "java/lang/invoke/MethodHandle" ∧ y.cls ≠ "java/lang/invoke/VarHandle" ∧ (parseMethodDescriptor y.desc).map (fun d => d.parameters.length) = some n)
def gWS (own : String) (index : Nat) (y : MethodName) (cy : ByteArray) (mL : Nat) (rt : Option FieldType) (n : Nat) : Prop :=
  Cond.methodLink own index y ∈ gT ∧ Cond.static y ∈ gT ∧ Cond.initialized own ∈ gT ∧ Cond.code y cy mL rt ∈ gT ∧ y.cls = own ∧ (y.cls ≠ "java/lang/invoke/MethodHandle" ∧ y.cls ≠ "java/lang/invoke/VarHandle" ∧ (parseMethodDescriptor y.desc).map (fun d => d.parameters.length) = some n)
theorem g_pre (C : gC p s m args meth c cc nL own ret D tys ord adr Am) (X : gX D cell ord adr S s H locs) {a : List Value} : FrameBlind (va_Pc a (fun U => U.heap.size = H.size ∧ va_P D vwCl (gw cell ord S) U.heap ∧ va_K D vwCl tys U ∧ Am (gA ord adr H.size) U U.heap)) ∧ ∀ U : State, U.heap = H → s.WarmedH U.vm → va_Pc a (fun U => U.heap.size = H.size ∧ va_P D vwCl (gw cell ord S) U.heap ∧ va_K D vwCl tys U ∧ Am (gA ord adr H.size) U U.heap) a.toArray U :=
  ⟨fun a U g mk q => by obtain ⟨q0, q1, qP, qK, qY⟩ := q; exact ⟨q0, q1, qP, va_K.moved (u := U) (U := U.calling g mk a) (Vm.Alike.refl U.vm) qK, C.2.2.2.2.1 _ _ U (U.calling g mk a) U.heap (State.WarmedH.refl U) qY (fun _ _ _ => rfl) (fun _ h => h)⟩, fun U hU hW => ⟨rfl, by rw [hU], by rw [hU]; exact X.1, va_K.moved hW.alike C.2.1, by rw [hU]; exact C.2.2.2.2.1 _ _ s U H hW C.2.2.2.2.2 X.2.2.1 (fun q hq => hq.elim Or.inl (fun h => Or.inr (Nat.le_trans X.2.1 h)))⟩⟩
theorem g_callV (C : gC p s m args meth c cc nL own ret D tys ord adr Am) (X : gX D cell ord adr S s H locs) (w : gWV own index y cy mL rt n) {b q0 ci : Nat} {fs : List Value} {qc : vw_C} (hc : vwCl[ci]? = some qc) (hqc : qc.1 = y.cls) (he : (gw cell ord S)[q0]? = some (b, .inr (ci, fs)))
    (hM : gM l y cy mL rt d D tys cell ord adr Am (.ref b :: As) S v S') (hR : d + 1 ≤ R.frames) (hR2 : 8 + (mL + 11) + (40 * d + 13) ≤ R.locals) (hcs : cs ≤ R.cells) (hsl : sl ≤ R.slots) (hn : As.length = n) (hls : ls.size = nL) {st : List Value} (hst : st = As.reverse ++ .ref b :: rest) (hrest : (rest.map fun v => v.category).sum ≤ 8) (hdg : decode cc pc = .ok (.invokevirtual index, 3))
    (kk : ∀ (H1 : Heap) (locs1 : List Loc), gX D cell ord adr S' s H1 locs1 → W p l e R s m args below meth c H1 locs1 cs sl Q (F0 m (pc + 3) ls (v.toList ++ rest))) : W p l e R s m args below meth c H locs cs sl Q (F0 m pc ls st) := by
  subst hst
  refine g_back (va_runV C.1 (hM H.size) (cwV n C.1.2.2.2.2 (gT_in (fun w' h => ?_)) rfl rfl rfl ⟨rfl, w.2.2.2.2.2⟩ ⟨hR, hR2⟩) ⟨(g_pre C X).1, ?_, (g_pre C X).2⟩ rfl hn hls rfl (lv_room hrest) hdg ⟨hcs, hsl⟩) X kk
  · unfold wsV at h
    rcases List.mem_append.mp h with h | h
    · simp only [List.mem_cons, List.not_mem_nil, or_false] at h
      rcases h with rfl | rfl | rfl | rfl
      · exact w.1
      · exact w.2.1
      · exact w.2.2.1
      · exact w.2.2.2.1
    · rcases List.mem_cons.mp h with rfl | h
      · exact w.2.2.2.2.1
      · exact h
  · have := va_recv C.2.1 X.1 hc he
    rw [hqc] at this
    exact this
theorem g_callS (C : gC p s m args meth c cc nL own ret D tys ord adr Am) (X : gX D cell ord adr S s H locs) (w : gWS own index y cy mL rt n)
    (hM : gM l y cy mL rt d D tys cell ord adr Am As S v S') (hR : d + 1 ≤ R.frames) (hR2 : 8 + (mL + 11) + (40 * d + 13) ≤ R.locals) (hcs : cs ≤ R.cells) (hsl : sl ≤ R.slots) (hn : As.length = n) (hls : ls.size = nL) {st : List Value} (hst : st = As.reverse ++ rest) (hrest : (rest.map fun v => v.category).sum ≤ 8) (hdg : decode cc pc = .ok (.invokestatic index, 3))
    (kk : ∀ (H1 : Heap) (locs1 : List Loc), gX D cell ord adr S' s H1 locs1 → W p l e R s m args below meth c H1 locs1 cs sl Q (F0 m (pc + 3) ls (v.toList ++ rest))) : W p l e R s m args below meth c H locs cs sl Q (F0 m pc ls st) := by
  subst hst
  refine g_back (va_runS C.1 (hM H.size) (cwS n C.1.2.2.2.2 (gT_in (fun w' h => ?_)) rfl rfl rfl ⟨w.2.2.2.2.1, w.2.2.2.2.2⟩ ⟨hR, hR2⟩) (g_pre C X) rfl hn hls rfl (lv_room hrest) hdg ⟨hcs, hsl⟩) X kk
  unfold wsS at h
  rcases List.mem_append.mp h with h | h
  · simp only [List.mem_cons, List.not_mem_nil, or_false] at h
    rcases h with rfl | rfl | rfl
    · exact w.1
    · exact w.2.1
    · exact w.2.2.1
  · rcases List.mem_cons.mp h with rfl | h
    · exact w.2.2.2.1
    · exact h
theorem g_callSi (C : gC p s m args meth c cc nL own ret D tys ord adr Am) (X : gX D cell ord adr S s H locs) (w : gWS own index y cy mL rt n) {x : Int32}
    (hM : gM l y cy mL rt d D tys cell ord adr Am As S (some (.int x)) S') (hR : d + 1 ≤ R.frames) (hR2 : 8 + (mL + 11) + (40 * d + 13) ≤ R.locals) (hcs : cs ≤ R.cells) (hsl : sl ≤ R.slots) (hn : As.length = n) (hls : ls.size = nL) {st : List Value} (hst : st = As.reverse ++ rest) (hrest : (rest.map fun v => v.category).sum ≤ 8) (hdg : decode cc pc = .ok (.invokestatic index, 3))
    (kk : ∀ (H1 : Heap) (locs1 : List Loc), gX D cell ord adr S' s H1 locs1 → W p l e R s m args below meth c H1 locs1 cs sl Q (F0 m (pc + 3) ls (.int x :: rest))) : W p l e R s m args below meth c H locs cs sl Q (F0 m pc ls st) :=
  g_callS C X w hM hR hR2 hcs hsl hn hls hst hrest hdg kk
theorem g_tsw (lo hi : Int) (x : Int32) (h : ∀ i : Int, lo ≤ i → i ≤ hi → ¬ x = Int32.ofInt i) : x.toInt < lo ∨ hi < x.toInt := by
  rcases Int.lt_or_le x.toInt lo with h1 | h1
  · exact Or.inl h1
  · rcases Int.lt_or_le hi x.toInt with h2 | h2
    · exact Or.inr h2
    · exact absurd (by simp) (h x.toInt h1 h2)
/-! fields and rows -/
theorem g_get (C : gC p s m args meth c cc nL own ret D tys ord adr Am) (X : gX D cell ord adr S s H locs) {q k ci N : Nat} {T : u_T} {fs : List Value} {x : Value} (hq : ord[q]? = some k) (hc : cell S k = (adr k, .inr (ci, fs))) (hcl : vwCl[ci]? = some (Cn, T, N)) (hin : ∀ w ∈ u_ws Cn T N, w ∈ gT) (j : Nat) (hj : j < N) (hl : Cond.fieldLink own index (T j).1 (T j).2.1 (T j).2.2.1 ∈ gT) (hv : fs[j]? = some x) (hdg : decode cc pc = .ok (.getfield index, 3))
    (kk : W p l e R s m args below meth c H locs cs sl Q (F0 m (pc + 3) ls (x :: rest))) : W p l e R s m args below meth c H locs cs sl Q (F0 m pc ls (.ref (adr k) :: rest)) :=
  va_get (D := D) C.1.1 C.1.2.1 C.1.2.2.2.2 hin C.1.2.2.2.1 C.2.1 X.1 q (gw_get hq hc) hcl j hj (C.1.2.2.2.2 _ hl) (fun _ h => h) hv hdg kk
theorem g_put (C : gC p s m args meth c cc nL own ret D tys ord adr Am) (O : gO cell ord adr) (X : gX D cell ord adr S s H locs) {q k ci N : Nat} {T : u_T} {fs : List Value} {x : Value} (hq : ord[q]? = some k) (hc : cell S k = (adr k, .inr (ci, fs))) (hcl : vwCl[ci]? = some (Cn, T, N)) (hin : ∀ w ∈ u_ws Cn T N, w ∈ gT) (ty0 : Nat → FieldType) (hty : ∀ k, k < N → parseFieldDescriptor (T k).2.2.1 = some (ty0 k)) (hnm : ∀ a, a < N → ∀ b, b < N → a ≠ b → (T a).2.1 ≠ (T b).2.1) (j : Nat) (hj : j < N) (hl : Cond.fieldLink own index (T j).1 (T j).2.1 (T j).2.2.1 ∈ gT) (hfin : (T j).2.2.2 = false) (hn : narrow (ty0 j) x = x) (hfit : fits (ty0 j) x = true) (hlen : j < fs.length) (hS : ∀ i, i ≠ k → S' i = S i) (hc' : cell S' k = (adr k, .inr (ci, fs.set j x))) (hdg : decode cc pc = .ok (.putfield index, 3))
    (kk : ∀ (H1 : Heap) (locs1 : List Loc), gX D cell ord adr S' s H1 locs1 → W p l e R s m args below meth c H1 locs1 cs sl Q (F0 m (pc + 3) ls rest)) : W p l e R s m args below meth c H locs cs sl Q (F0 m pc ls (x :: .ref (adr k) :: rest)) :=
  va_put (D := D) (ty := ty0 j) C.1.1 C.1.2.1 C.1.2.2.2.2 hin ty0 hty hnm C.1.2.2.2.1 C.2.1 X.1 (gw_D O S _) X.2 q (gw_get hq hc) hcl j hj (C.1.2.2.2.2 _ hl) (fun _ h => h) hfin (hty j hj) hn hfit hlen hdg (fun H1 locs1 hP hD hS1 => kk H1 locs1 ⟨by rw [gw_set O hq hc' hS] at hP; exact hP, hS1⟩)
theorem g_iald (C : gC p s m args meth c cc nL own ret D tys ord adr Am) (X : gX D cell ord adr S s H locs) {q k t0 n : Nat} {cA : ClassId} {f : Nat → Int32} (hq : ord[q]? = some k) (hc : cell S k = (adr k, .inl (cA, n, .inl f))) (ht : tys[t0]? = some (cA, .int)) {i : Int32} {j : Nat} (hin : vp_in i n) (hj : i.toNatClampNeg = j) (hdg : decode cc pc = .ok (.iaload, 1))
    (kk : W p l e R s m args below meth c H locs cs sl Q (F0 m (pc + 1) ls (.int (f j) :: rest))) : W p l e R s m args below meth c H locs cs sl Q (F0 m pc ls (.int i :: .ref (adr k) :: rest)) := by
  subst hj
  exact va_iald C.1.1 C.1.2.1 C.2.1 X.1 q t0 (gw_get hq hc) ht hin hdg kk
theorem g_iast (C : gC p s m args meth c cc nL own ret D tys ord adr Am) (O : gO cell ord adr) (X : gX D cell ord adr S s H locs) {q k t0 n : Nat} {cA : ClassId} {f : Nat → Int32} (hq : ord[q]? = some k) (hc : cell S k = (adr k, .inl (cA, n, .inl f))) (ht : tys[t0]? = some (cA, .int)) {i x : Int32} {j : Nat} (hin : vp_in i n) (hj : i.toNatClampNeg = j) (hS : ∀ i, i ≠ k → S' i = S i) (hc' : cell S' k = (adr k, .inl (cA, n, .inl (upd f j x)))) (hdg : decode cc pc = .ok (.iastore, 1))
    (kk : ∀ (H1 : Heap) (locs1 : List Loc), gX D cell ord adr S' s H1 locs1 → W p l e R s m args below meth c H1 locs1 cs sl Q (F0 m (pc + 1) ls rest)) : W p l e R s m args below meth c H locs cs sl Q (F0 m pc ls (.int x :: .int i :: .ref (adr k) :: rest)) := by
  subst hj
  exact va_iast C.1.1 C.1.2.1 C.2.1 X.1 (gw_D O S _) X.2 q t0 (gw_get hq hc) ht hin hdg (fun H1 locs1 hP hD hS1 => kk H1 locs1 ⟨by rw [gw_set O hq hc' hS] at hP; exact hP, hS1⟩)
theorem g_alen (C : gC p s m args meth c cc nL own ret D tys ord adr Am) (X : gX D cell ord adr S s H locs) {q k t0 : Nat} {cA : ClassId} {z : vp_A} {ty : FieldType} (hq : ord[q]? = some k) (hc : cell S k = (adr k, .inl (cA, z))) (ht : tys[t0]? = some (cA, ty)) {x : Int32} (hx : Int32.ofNat z.1 = x) (hdg : decode cc pc = .ok (.arraylength, 1))
    (kk : W p l e R s m args below meth c H locs cs sl Q (F0 m (pc + 1) ls (.int x :: rest))) : W p l e R s m args below meth c H locs cs sl Q (F0 m pc ls (.ref (adr k) :: rest)) :=
  va_alen C.1.1 C.1.2.1 C.2.1 X.1 q t0 (gw_get hq hc) ht hx hdg kk
theorem g_max (C : gC p s m args meth c cc nL own ret D tys ord adr Am) (hls : ls.size = nL) (w : Cond.methodLink own index Lib.Math.max.name ∈ gT ∧ Cond.static Lib.Math.max.name ∈ gT ∧ Cond.initialized "java/lang/Math" ∈ gT ∧ Cond.code Lib.Math.max.name Lib.Math.max.code 2 (some .int) ∈ gT) (hR : 1 ≤ R.frames ∧ (rest.map fun v => v.category).sum + 13 ≤ R.locals) (hcs : cs ≤ R.cells) (hsl : sl ≤ R.slots) {x y : Int32} (hdg : decode cc pc = .ok (.invokestatic index, 3))
    (kk : W p l e R s m args below meth c H locs cs sl Q (F0 m (pc + 3) ls (.int (if x < y then y else x) :: rest))) : W p l e R s m args below meth c H locs cs sl Q (F0 m pc ls (.int y :: .int x :: rest)) :=
  va_mmax C.1.1 C.1.2.1 (C.1.2.2.1.trans hls.symm) C.1.2.2.2.1 (C.1.2.2.2.2 _ w.1) (C.1.2.2.2.2 _ w.2.1) (C.1.2.2.2.2 _ w.2.2.1) (C.1.2.2.2.2 _ w.2.2.2) hR.1 hR.2 hcs hsl hdg kk
theorem g_min (C : gC p s m args meth c cc nL own ret D tys ord adr Am) (hls : ls.size = nL) (w : Cond.methodLink own index Lib.Math.min.name ∈ gT ∧ Cond.static Lib.Math.min.name ∈ gT ∧ Cond.initialized "java/lang/Math" ∈ gT ∧ Cond.code Lib.Math.min.name Lib.Math.min.code 2 (some .int) ∈ gT) (hR : 1 ≤ R.frames ∧ (rest.map fun v => v.category).sum + 13 ≤ R.locals) (hcs : cs ≤ R.cells) (hsl : sl ≤ R.slots) {x y : Int32} (hdg : decode cc pc = .ok (.invokestatic index, 3))
    (kk : W p l e R s m args below meth c H locs cs sl Q (F0 m (pc + 3) ls (.int (if y < x then y else x) :: rest))) : W p l e R s m args below meth c H locs cs sl Q (F0 m pc ls (.int y :: .int x :: rest)) :=
  va_mmin C.1.1 C.1.2.1 (C.1.2.2.1.trans hls.symm) C.1.2.2.2.1 (C.1.2.2.2.2 _ w.1) (C.1.2.2.2.2 _ w.2.1) (C.1.2.2.2.2 _ w.2.2.1) (C.1.2.2.2.2 _ w.2.2.2) hR.1 hR.2 hcs hsl hdg kk
end GEN

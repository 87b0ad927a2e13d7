/-! more general rows: fields and methods of nest mates, rows of bytes and booleans, rows of rows -/
section GEN2
variable {p : Program} {l : Launch} {e : Env} {R : Room} {s : State} {m : MethodId} {args : Array Value} {below : List Frame} {meth : Method} {c : Code} {H : Heap} {locs : List Loc} {cs sl : Nat} {Q : State → Prop} {Am : (Nat → Prop) → State → Heap → Prop}
variable {cc cy : ByteArray} {nL mL pc n index d : Nat} {own Cn host : String} {ret rt : Option FieldType} {D : va_G} {tys : List (ClassId × FieldType)} {cell : gS → Nat → Nat × va_E} {ord : List Nat} {adr : Nat → Nat} {S S' : gS} {ls : Array Slot} {rest As av : List Value} {y : MethodName} {v : Option Value}
theorem g_getN (C : gC p s m args meth c cc nL own ret D tys ord adr Am) (X : gX D cell ord adr S s H locs) {q k ci N : Nat} {T : u_T} {fs : List Value} {x : Value} (hq : ord[q]? = some k) (hc : cell S k = (adr k, .inr (ci, fs))) (hcl : vwCl[ci]? = some (Cn, T, N)) (hin : ∀ w ∈ u_ws Cn T N, w ∈ gT) (j : Nat) (hj : j < N) (hl : va_Nw (Cond.fieldLinkNest own index (T j).1 (T j).2.1 (T j).2.2.1 host) s) (hv : fs[j]? = some x) (hdg : decode cc pc = .ok (.getfield index, 3))
    (kk : W p l e R s m args below meth c H locs cs sl Q (F0 m (pc + 3) ls (x :: rest))) : W p l e R s m args below meth c H locs cs sl Q (F0 m pc ls (.ref (adr k) :: rest)) :=
  va_getN (D := D) C.1.1 C.1.2.1 C.1.2.2.2.2 hin C.1.2.2.2.1 C.2.1 X.1 q (gw_get hq hc) hcl j hj (va_Nw.use rfl hl) (fun _ h => h) hv hdg kk
theorem g_putN (C : gC p s m args meth c cc nL own ret D tys ord adr Am) (O : gO cell ord adr) (X : gX D cell ord adr S s H locs) {q k ci N : Nat} {T : u_T} {fs : List Value} {x : Value} (hq : ord[q]? = some k) (hc : cell S k = (adr k, .inr (ci, fs))) (hcl : vwCl[ci]? = some (Cn, T, N)) (hin : ∀ w ∈ u_ws Cn T N, w ∈ gT) (ty0 : Nat → FieldType) (hty : ∀ k, k < N → parseFieldDescriptor (T k).2.2.1 = some (ty0 k)) (hnm : ∀ a, a < N → ∀ b, b < N → a ≠ b → (T a).2.1 ≠ (T b).2.1) (j : Nat) (hj : j < N) (hl : va_Nw (Cond.fieldLinkNest own index (T j).1 (T j).2.1 (T j).2.2.1 host) s) (hfin : (T j).2.2.2 = false) (hn : narrow (ty0 j) x = x) (hfit : fits (ty0 j) x = true) (hlen : j < fs.length) (hS : ∀ i, i ≠ k → S' i = S i) (hc' : cell S' k = (adr k, .inr (ci, fs.set j x))) (hdg : decode cc pc = .ok (.putfield index, 3))
    (kk : ∀ (H1 : Heap) (locs1 : List Loc), gX D cell ord adr S' s H1 locs1 → W p l e R s m args below meth c H1 locs1 cs sl Q (F0 m (pc + 3) ls rest)) : W p l e R s m args below meth c H locs cs sl Q (F0 m pc ls (x :: .ref (adr k) :: rest)) :=
  va_putN (D := D) (ty := ty0 j) C.1.1 C.1.2.1 C.1.2.2.2.2 hin ty0 hty hnm C.1.2.2.2.1 C.2.1 X.1 (gw_D O S _) X.2 q (gw_get hq hc) hcl j hj (va_Nw.use rfl hl) (fun _ h => h) hfin (hty j hj) hn hfit hlen hdg (fun H1 locs1 hP hD hS1 => kk H1 locs1 ⟨by rw [gw_set O hq hc' hS] at hP; exact hP, hS1⟩)
theorem g_bald (C : gC p s m args meth c cc nL own ret D tys ord adr Am) (X : gX D cell ord adr S s H locs) {q k t0 n : Nat} {cA : ClassId} {f : Nat → Int32} (hq : ord[q]? = some k) (hc : cell S k = (adr k, .inl (cA, n, .inl f))) (ht : tys[t0]? = some (cA, .byte)) {i : Int32} {j : Nat} (hin : vp_in i n) (hj : i.toNatClampNeg = j) (hdg : decode cc pc = .ok (.baload, 1))
    (kk : W p l e R s m args below meth c H locs cs sl Q (F0 m (pc + 1) ls (.int (f j) :: rest))) : W p l e R s m args below meth c H locs cs sl Q (F0 m pc ls (.int i :: .ref (adr k) :: rest)) := by
  subst hj
  exact va_bald C.1.1 C.1.2.1 C.2.1 X.1 q t0 (gw_get hq hc) ht hin hdg kk
theorem g_zald (C : gC p s m args meth c cc nL own ret D tys ord adr Am) (X : gX D cell ord adr S s H locs) {q k t0 n : Nat} {cA : ClassId} {f : Nat → Int32} (hq : ord[q]? = some k) (hc : cell S k = (adr k, .inl (cA, n, .inl f))) (ht : tys[t0]? = some (cA, .boolean)) {i : Int32} {j : Nat} (hin : vp_in i n) (hj : i.toNatClampNeg = j) (hdg : decode cc pc = .ok (.baload, 1))
    (kk : W p l e R s m args below meth c H locs cs sl Q (F0 m (pc + 1) ls (.int (f j) :: rest))) : W p l e R s m args below meth c H locs cs sl Q (F0 m pc ls (.int i :: .ref (adr k) :: rest)) := by
  subst hj
  exact va_zald C.1.1 C.1.2.1 C.2.1 X.1 q t0 (gw_get hq hc) ht hin hdg kk
theorem g_bast (C : gC p s m args meth c cc nL own ret D tys ord adr Am) (O : gO cell ord adr) (X : gX D cell ord adr S s H locs) {q k t0 n : Nat} {cA : ClassId} {f : Nat → Int32} (hq : ord[q]? = some k) (hc : cell S k = (adr k, .inl (cA, n, .inl f))) (ht : tys[t0]? = some (cA, .byte)) {i x : Int32} {j : Nat} (hin : vp_in i n) (hj : i.toNatClampNeg = j) (hS : ∀ i, i ≠ k → S' i = S i) (hc' : cell S' k = (adr k, .inl (cA, n, .inl (upd f j (vp_nar .byte x))))) (hdg : decode cc pc = .ok (.bastore, 1))
    (kk : ∀ (H1 : Heap) (locs1 : List Loc), gX D cell ord adr S' s H1 locs1 → W p l e R s m args below meth c H1 locs1 cs sl Q (F0 m (pc + 1) ls rest)) : W p l e R s m args below meth c H locs cs sl Q (F0 m pc ls (.int x :: .int i :: .ref (adr k) :: rest)) := by
  subst hj
  exact va_bast C.1.1 C.1.2.1 C.2.1 X.1 (gw_D O S _) X.2 q t0 (gw_get hq hc) ht hin hdg (fun H1 locs1 hP hD hS1 => kk H1 locs1 ⟨by rw [gw_set O hq hc' hS] at hP; exact hP, hS1⟩)
theorem g_zast (C : gC p s m args meth c cc nL own ret D tys ord adr Am) (O : gO cell ord adr) (X : gX D cell ord adr S s H locs) {q k t0 n : Nat} {cA : ClassId} {f : Nat → Int32} (hq : ord[q]? = some k) (hc : cell S k = (adr k, .inl (cA, n, .inl f))) (ht : tys[t0]? = some (cA, .boolean)) {i x : Int32} {j : Nat} (hin : vp_in i n) (hj : i.toNatClampNeg = j) (hS : ∀ i, i ≠ k → S' i = S i) (hc' : cell S' k = (adr k, .inl (cA, n, .inl (upd f j (vp_nar .boolean x))))) (hdg : decode cc pc = .ok (.bastore, 1))
    (kk : ∀ (H1 : Heap) (locs1 : List Loc), gX D cell ord adr S' s H1 locs1 → W p l e R s m args below meth c H1 locs1 cs sl Q (F0 m (pc + 1) ls rest)) : W p l e R s m args below meth c H locs cs sl Q (F0 m pc ls (.int x :: .int i :: .ref (adr k) :: rest)) := by
  subst hj
  exact va_zast C.1.1 C.1.2.1 C.2.1 X.1 (gw_D O S _) X.2 q t0 (gw_get hq hc) ht hin hdg (fun H1 locs1 hP hD hS1 => kk H1 locs1 ⟨by rw [gw_set O hq hc' hS] at hP; exact hP, hS1⟩)
/-- a row out of a row of rows -/
theorem g_aald (C : gC p s m args meth c cc nL own ret D tys ord adr Am) (X : gX D cell ord adr S s H locs) {q k t0 n : Nat} {cA : ClassId} {f : Nat → Option Nat} {ty : FieldType} (hq : ord[q]? = some k) (hc : cell S k = (adr k, .inl (cA, n, .inr (.inr (.inr (.inr f)))))) (ht : tys[t0]? = some (cA, .array ty)) {i : Int32} {a : Nat} (hin : vp_in i n) (hj : f i.toNatClampNeg = some a) (hdg : decode cc pc = .ok (.aaload, 1))
    (kk : W p l e R s m args below meth c H locs cs sl Q (F0 m (pc + 1) ls (.ref a :: rest))) : W p l e R s m args below meth c H locs cs sl Q (F0 m pc ls (.int i :: .ref (adr k) :: rest)) := by
  have hlt : i.toNatClampNeg < n := Nat.not_le.mp fun q => hin (Or.inr q)
  exact W.aald (v := .ref a) (ty := .array ty) C.1.1 C.1.2.1 (X.1 q _ (gw_get hq hc)) ((C.2.1.2 t0 _ ht).1 n (fun j => va_rf (f j))) rfl (fun q => by cases q) (by show ¬ (i < 0 ∨ (arrV _ _ _).slots.size ≤ _); rw [arrV_size]; exact hin) (by show (arrV _ _ _).slots[_]? = _; rw [arrV_read _ _ hlt, hj]; rfl) rfl rfl hdg kk
/-- the words of a static method of a nest mate -/
def gWN (own host : String) (index : Nat) (y : MethodName) (cy : ByteArray) (mL : Nat) (rt : Option FieldType) (n : Nat) : Prop :=
  Cond.static y ∈ gT ∧ Cond.initialized y.cls ∈ gT ∧ Cond.code y cy mL rt ∈ gT ∧ (y.cls ≠ "java/lang/invoke/MethodHandle" ∧ y.cls ≠ "java/lang/invoke/VarHandle" ∧ (parseMethodDescriptor y.desc).map (fun d => d.parameters.length) = some n)
theorem g_callSNi (C : gC p s m args meth c cc nL own ret D tys ord adr Am) (X : gX D cell ord adr S s H locs) (w : gWN own host index y cy mL rt n) (hl : va_Nw (.methodLinkNest own index y host) s) {x : Int32}
    (hM : gM l y cy mL rt d D tys cell ord adr Am As S (some (.int x)) S') (hR : d + 1 ≤ R.frames) (hR2 : 8 + (mL + 11) + (40 * d + 13) ≤ R.locals) (hcs : cs ≤ R.cells) (hsl : sl ≤ R.slots) (hn : As.length = n) (hls : ls.size = nL) {st : List Value} (hst : st = As.reverse ++ rest) (hrest : (rest.map fun v => v.category).sum ≤ 8) (hdg : decode cc pc = .ok (.invokestatic index, 3))
    (kk : ∀ (H1 : Heap) (locs1 : List Loc), gX D cell ord adr S' s H1 locs1 → W p l e R s m args below meth c H1 locs1 cs sl Q (F0 m (pc + 3) ls (.int x :: rest))) : W p l e R s m args below meth c H locs cs sl Q (F0 m pc ls st) := by
  subst hst
  refine g_back (va_runSN (host := host) C.1 (hM H.size) ⟨va_cnB n C.1.2.2.2.2 (gT_in (fun w' h => ?_)) rfl rfl rfl hl (C.1.2.2.2.2 _ w.2.1) w.2.2.2 ⟨hR, hR2⟩, C.1.2.2.2.2 _ w.1, trivial⟩ (g_pre C X) rfl hn hls rfl (lv_room hrest) hdg ⟨hcs, hsl⟩) X kk
  rcases List.mem_cons.mp h with rfl | h
  · exact w.2.2.1
  · exact h
/-- a static method of another class -/
def gWO (own : String) (index : Nat) (y : MethodName) (cy : ByteArray) (mL : Nat) (rt : Option FieldType) (n : Nat) : Prop :=
  Cond.methodLink own index y ∈ gT ∧ Cond.static y ∈ gT ∧ Cond.initialized y.cls ∈ gT ∧ Cond.code y cy mL rt ∈ gT ∧ (y.cls ≠ "java/lang/invoke/MethodHandle" ∧ y.cls ≠ "java/lang/invoke/VarHandle" ∧ (parseMethodDescriptor y.desc).map (fun d => d.parameters.length) = some n)
theorem g_callOi (C : gC p s m args meth c cc nL own ret D tys ord adr Am) (X : gX D cell ord adr S s H locs) (w : gWO own index y cy mL rt n) {x : Int32}
    (hM : gM l y cy mL rt d D tys cell ord adr Am As S (some (.int x)) S') (hR : d + 1 ≤ R.frames) (hR2 : 8 + (mL + 11) + (40 * d + 13) ≤ R.locals) (hcs : cs ≤ R.cells) (hsl : sl ≤ R.slots) (hn : As.length = n) (hls : ls.size = nL) {st : List Value} (hst : st = As.reverse ++ rest) (hrest : (rest.map fun v => v.category).sum ≤ 8) (hdg : decode cc pc = .ok (.invokestatic index, 3))
    (kk : ∀ (H1 : Heap) (locs1 : List Loc), gX D cell ord adr S' s H1 locs1 → W p l e R s m args below meth c H1 locs1 cs sl Q (F0 m (pc + 3) ls (.int x :: rest))) : W p l e R s m args below meth c H locs cs sl Q (F0 m pc ls st) := by
  subst hst
  refine g_back (va_runS C.1 (hM H.size) ⟨callB_of n C.1.2.2.2.2 (gT_in (fun w' h => ?_)) rfl rfl rfl (C.1.2.2.2.2 _ w.2.2.1) (C.1.2.2.2.2 _ w.1) w.2.2.2.2 ⟨hR, hR2⟩, C.1.2.2.2.2 _ w.2.1⟩ (g_pre C X) rfl hn hls rfl (lv_room hrest) hdg ⟨hcs, hsl⟩) X kk
  rcases List.mem_cons.mp h with rfl | h
  · exact w.2.2.2.1
  · exact h
/-- an instance method, what comes back told -/
theorem g_callVi (C : gC p s m args meth c cc nL own ret D tys ord adr Am) (X : gX D cell ord adr S s H locs) (w : gWV own index y cy mL rt n) {b q0 ci : Nat} {fs : List Value} {qc : vw_C} (hc : vwCl[ci]? = some qc) (hqc : qc.1 = y.cls) (he : (gw cell ord S)[q0]? = some (b, .inr (ci, fs))) {x : Int32}
    (hM : gM l y cy mL rt d D tys cell ord adr Am (.ref b :: As) S (some (.int x)) S') (hR : d + 1 ≤ R.frames) (hR2 : 8 + (mL + 11) + (40 * d + 13) ≤ R.locals) (hcs : cs ≤ R.cells) (hsl : sl ≤ R.slots) (hn : As.length = n) (hls : ls.size = nL) {st : List Value} (hst : st = As.reverse ++ .ref b :: rest) (hrest : (rest.map fun v => v.category).sum ≤ 8) (hdg : decode cc pc = .ok (.invokevirtual index, 3))
    (kk : ∀ (H1 : Heap) (locs1 : List Loc), gX D cell ord adr S' s H1 locs1 → W p l e R s m args below meth c H1 locs1 cs sl Q (F0 m (pc + 3) ls (.int x :: rest))) : W p l e R s m args below meth c H locs cs sl Q (F0 m pc ls st) :=
  g_callV C X w hc hqc he hM hR hR2 hcs hsl hn hls hst hrest hdg kk
end GEN2

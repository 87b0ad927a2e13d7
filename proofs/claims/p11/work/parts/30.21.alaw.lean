/-! THE LAW'S BODY: the worlds of class and reference side by side, and the row out -/
theorem gA_all {ord : List Nat} {adr : Nat → Nat} {sz : Nat} (h : ∀ k, k ∈ ord → sz ≤ adr k) : gA ord adr sz = fun q => sz ≤ q := by
  funext q
  apply propext
  constructor
  · rintro (⟨k, hk, rfl⟩ | h1)
    · exact h k hk
    · exact h1
  · exact Or.inr
def Lsp (g g2 : Nat → Nat) (aO b sz : Nat) : Prop :=
  (∀ k, k ∈ xord → sz ≤ g k ∧ g k ≠ aO ∧ ∀ j, j ∈ mord → g k ≠ g2 j) ∧ (∀ j, j ∈ mord → sz ≤ g2 j ∧ g2 j ≠ aO) ∧ sz ≤ aO ∧ b < sz
def LX (D : va_G) (g g2 : Nat → Nat) (cI cB cZ cQ cS cJ : ClassId) (aK : Nat → Nat) (aO b L : Nat) (xs : Nat → Int32) (SX SM : gS) (f : Nat → Int64) (s : State) (H : Heap) (locs : List Loc) : Prop :=
  gX D (xcell g cI cB cZ cQ) xord g SX s H locs ∧ gX D (mcell g2 cI cS (msa aK)) mord g2 SM s H locs ∧ va_P D vwCl [(aO, .inl (cJ, 1, .inr (.inl f)))] H ∧ va_X b L xs s H
section LAW2
variable {p : Program} {l : Launch} {e : Env} {R : Room} {s : State} {m : MethodId} {args : Array Value} {below : List Frame} {meth : Method} {c : Code} {H : Heap} {locs : List Loc} {cs sl : Nat} {Q : State → Prop} {Am Am2 : (Nat → Prop) → State → Heap → Prop}
variable {cc cy : ByteArray} {nL mL pc n index d u : Nat} {own : String} {hh : List (Nat × Nat × Nat × Nat)} {ret rt : Option FieldType} {D : va_G} {tys : List (ClassId × FieldType)} {cell : gS → Nat → Nat × va_E} {ord : List Nat} {adr : Nat → Nat} {S S' : gS} {g g2 : Nat → Nat} {cI cB cZ cQ cS cJ : ClassId} {aO b L : Nat} {xs : Nat → Int32} {SX SM SX' SM' : gS} {f f' : Nat → Int64} {ls : Array Slot} {rest As av : List Value} {y : MethodName} {v : Option Value} {k : Int32} {aK aV : Nat → Nat}
theorem g_backF {st0 : List Value} {a : Array Value} (hr : va_Run p l e R s m args below meth c H locs cs sl 0 0 (F0 m pc ls st0) rest (gQ D tys cell ord adr H.size v S' a) (gA ord adr H.size)) (X : gX D cell ord adr S s H locs)
    (kk : ∀ (H1 : Heap) (locs1 : List Loc), gX D cell ord adr S' s H1 locs1 → (∀ q : Nat, q < H.size → ¬ gA ord adr H.size q → H1[q]? = H[q]?) → W p l e R s m args below meth c H1 locs1 cs sl Q (F0 m (pc + 3) ls (v.toList ++ rest))) : W p l e R s m args below meth c H locs cs sl Q (F0 m pc ls st0) := by
  intro T hT X0
  obtain ⟨v', st₀, t, T', L, h0, X', hL, e1, e2, ⟨⟨hv, hP, hK⟩, hz, hk⟩, st⟩ := hr T hT X0
  cases hv
  rewrite [h0] at hz hk
  have hAA : ∀ q, gA ord adr H.size q → gA ord adr s.heap.size q := fun q hq => hq.elim Or.inl (fun h => Or.inr (Nat.le_trans X.2.1 h))
  obtain ⟨t2, a1, b1⟩ := kk T'.heap (locs ++ L) ⟨by rw [e1]; exact hP, Nat.le_trans X.2.1 (by rw [e1]; exact hz), fun q h1 h2 => by rw [e1, hk q (Nat.lt_of_lt_of_le h1 X.2.1) (fun z => h2 (hAA q z))]; exact X.2.2.1 q h1 h2, fun q hq => by
      rcases List.mem_append.mp hq with h | h
      · exact X.2.2.2 q h
      · exact hAA _ (hL q h)⟩ (by rw [e1]; exact hk) T' rfl X'
  exact ⟨t2, st t2 a1, b1⟩
theorem g_callVF (C : gC p s m args meth c cc nL own ret D tys ord adr Am) (X : gX D cell ord adr S s H locs) (w : gWV own index y cy mL rt n) {b q0 ci : Nat} {fs : List Value} {qc : vw_C} (hc : vwCl[ci]? = some qc) (hqc : qc.1 = y.cls) (he : (gw cell ord S)[q0]? = some (b, .inr (ci, fs)))
    (hM : gM l y cy mL rt d D tys cell ord adr Am (.ref b :: As) S v S') (hR : d + 1 ≤ R.frames) (hR2 : 8 + (mL + 11) + (40 * d + 13) ≤ R.locals) (hcs : cs ≤ R.cells) (hsl : sl ≤ R.slots) (hn : As.length = n) (hls : ls.size = nL) {st : List Value} (hst : st = As.reverse ++ .ref b :: rest) (hrest : (rest.map fun v => v.category).sum ≤ 8) (hdg : decode cc pc = .ok (.invokevirtual index, 3))
    (kk : ∀ (H1 : Heap) (locs1 : List Loc), gX D cell ord adr S' s H1 locs1 → (∀ q : Nat, q < H.size → ¬ gA ord adr H.size q → H1[q]? = H[q]?) → W p l e R s m args below meth c H1 locs1 cs sl Q (F0 m (pc + 3) ls (v.toList ++ rest))) : W p l e R s m args below meth c H locs cs sl Q (F0 m pc ls st) := by
  subst hst
  refine g_backF (va_runV C.1 (hM H.size) (cwV n C.1.2.2.2.2 (gT_in (fun w' h => ?_)) rfl rfl rfl ⟨rfl, w.2.2.2.2.2⟩ ⟨hR, hR2⟩) ⟨(g_pre C X).1, ?_, (g_pre C X).2⟩ rfl hn hls rfl (lv_room hrest) hdg ⟨hcs, hsl⟩) X kk
  · unfold wsV at h
    rcases List.mem_append.mp h with h | h
    · simp only [List.mem_cons, List.not_mem_nil, or_false] at h
      rcases h with rfl | rfl | rfl | rfl
      · exact w.1
      · exact w.2.1
      · exact w.2.2.1
      · exact w.2.2.2.1
    · rcases List.mem_cons.mp h with rfl | h
      · exact w.2.2.2.2.1
      · exact h
  · have := va_recv C.2.1 X.1 hc he
    rewrite [hqc] at this
    exact this
theorem Lsp.allX (hs : Lsp g g2 aO b s.heap.size) : gA xord g s.heap.size = fun q => s.heap.size ≤ q := gA_all (fun k hk => (hs.1 k hk).1)
theorem Lsp.allM (hs : Lsp g g2 aO b s.heap.size) : gA mord g2 s.heap.size = fun q => s.heap.size ≤ q := gA_all (fun k hk => (hs.2.1 k hk).1)
/-- what stays of the worlds when a call has changed new cells alone -/
theorem LX_keep {H1 : Heap} {B : Nat → Prop} (hs : Lsp g g2 aO b s.heap.size) (X : LX D g g2 cI cB cZ cQ cS cJ aK aO b L xs SX SM f s H locs) (hB : ∀ q, B q → s.heap.size ≤ q) (hk : ∀ q : Nat, q < H.size → ¬ B q → H1[q]? = H[q]?) : va_X b L xs s H1 := by
  obtain ⟨scr, h1, h2⟩ := X.2.2.2
  refine ⟨scr, ?_, h2⟩
  rw [hk b (Nat.lt_of_lt_of_le hs.2.2.2 X.1.2.1) (fun z => absurd (hB b z) (Nat.not_le.mpr hs.2.2.2))]
  exact h1
theorem LX_out {H1 : Heap} {B : Nat → Prop} (X : LX D g g2 cI cB cZ cQ cS cJ aK aO b L xs SX SM f s H locs) (hB : ¬ B aO) (hk : ∀ q : Nat, q < H.size → ¬ B q → H1[q]? = H[q]?) : va_P D vwCl [(aO, .inl (cJ, 1, .inr (.inl f)))] H1 := by
  refine X.2.2.1.kept (fun i q hq => ?_)
  have h3 := (X.2.2.1 i q hq).lt
  have h2 : q.1 = aO := by
    cases i with
    | zero => cases Option.some.inj hq; rfl
    | succ i => cases hq
  rewrite [h2] at h3 ⊢
  exact hk aO h3 hB
theorem LX_gX {H1 : Heap} {locs1 : List Loc} {B : Nat → Prop} {cell2 : gS → Nat → Nat × va_E} {ord2 : List Nat} {adr2 : Nat → Nat} {S2 : gS} (O : gO cell2 ord2 adr2) (X : gX D cell2 ord2 adr2 S2 s H locs) (hB : ∀ k, k ∈ ord2 → ¬ B (adr2 k)) (hk : ∀ q : Nat, q < H.size → ¬ B q → H1[q]? = H[q]?) (hS : va_S (gA ord2 adr2 s.heap.size) s.heap H1 locs1) : gX D cell2 ord2 adr2 S2 s H1 locs1 := by
  refine ⟨X.1.kept (fun i q hq => ?_), hS⟩
  have h3 := (X.1 i q hq).lt
  obtain ⟨k, hk2, rfl⟩ := gw_of hq
  rewrite [O.2.1] at h3 ⊢
  exact hk _ h3 (hB k (List.mem_of_getElem? hk2))
theorem LX_lt (O : gO cell ord adr) (X : gX D cell ord adr S s H locs) {k : Nat} (hk : k ∈ ord) : adr k < H.size := by
  obtain ⟨i, hi⟩ := List.mem_iff_getElem?.mp hk
  have h := (X.1 i _ (gw_get hi rfl)).lt
  rewrite [O.2.1] at h
  exact h
theorem L_callX (OX : gO (xcell g cI cB cZ cQ) xord g) (OM : gO (mcell g2 cI cS (msa aK)) mord g2) (hs : Lsp g g2 aO b s.heap.size) (C : gC p s m args meth c cc nL own ret D (xtys cI cB cZ cQ) xord g Am) (X : LX D g g2 cI cB cZ cQ cS cJ aK aO b L xs SX SM f s H locs) (w : gWV own index y cy mL rt n) (hy : RX11 = y.cls)
    (hM : gM l y cy mL rt d D (xtys cI cB cZ cQ) (xcell g cI cB cZ cQ) xord g Am (.ref (g 0) :: As) SX v SX') (hR : d + 1 ≤ R.frames) (hR2 : 8 + (mL + 11) + (40 * d + 13) ≤ R.locals) (hcs : cs ≤ R.cells) (hsl : sl ≤ R.slots) (hn : As.length = n) (hls : ls.size = nL) {st : List Value} (hst : st = As.reverse ++ .ref (g 0) :: rest) (hrest : (rest.map fun v => v.category).sum ≤ 8) (hdg : decode cc pc = .ok (.invokevirtual index, 3))
    (kk : ∀ (H1 : Heap) (locs1 : List Loc), LX D g g2 cI cB cZ cQ cS cJ aK aO b L xs SX' SM f s H1 locs1 → W p l e R s m args below meth c H1 locs1 cs sl Q (F0 m (pc + 3) ls (v.toList ++ rest))) : W p l e R s m args below meth c H locs cs sl Q (F0 m pc ls st) := by
  refine g_callVF C X.1 w (ci := 11) rfl hy (gw_get (q := 0) (k := 0) rfl (x_c11 g cI cB cZ cQ SX (k := 0) rfl)) hM hR hR2 hcs hsl hn hls hst hrest hdg (fun H1 locs1 h1 h2 => kk H1 locs1 ⟨h1, ?_, ?_, ?_⟩)
  · refine LX_gX OM X.2.1 (fun k hk => ?_) h2 ?_
    · rintro (⟨j, hj, h3⟩ | h3)
      · exact (hs.1 j hj).2.2 k hk h3.symm
      · exact absurd (LX_lt OM X.2.1 hk) (Nat.not_lt.mpr h3)
    · rw [hs.allM]
      have h4 := h1.2
      rewrite [hs.allX] at h4
      exact h4
  · refine LX_out X ?_ h2
    rintro (⟨j, hj, h3⟩ | h3)
    · exact (hs.1 j hj).2.1 h3.symm
    · exact absurd (X.2.2.1 0 _ rfl).lt (Nat.not_lt.mpr h3)
  · refine LX_keep hs X (fun q hq => ?_) h2
    rcases hq with ⟨j, hj, rfl⟩ | hq
    · exact (hs.1 j hj).1
    · exact Nat.le_trans X.1.2.1 hq
theorem L_callM (OX : gO (xcell g cI cB cZ cQ) xord g) (OM : gO (mcell g2 cI cS (msa aK)) mord g2) (hs : Lsp g g2 aO b s.heap.size) (C : gC p s m args meth c cc nL own ret D (mtys cI cS) mord g2 Am) (X : LX D g g2 cI cB cZ cQ cS cJ aK aO b L xs SX SM f s H locs) (w : gWV own index y cy mL rt n) (hy : RX12 = y.cls)
    (hM : gM l y cy mL rt d D (mtys cI cS) (mcell g2 cI cS (msa aK)) mord g2 Am (.ref (g2 99) :: As) SM v SM') (hR : d + 1 ≤ R.frames) (hR2 : 8 + (mL + 11) + (40 * d + 13) ≤ R.locals) (hcs : cs ≤ R.cells) (hsl : sl ≤ R.slots) (hn : As.length = n) (hls : ls.size = nL) {st : List Value} (hst : st = As.reverse ++ .ref (g2 99) :: rest) (hrest : (rest.map fun v => v.category).sum ≤ 8) (hdg : decode cc pc = .ok (.invokevirtual index, 3))
    (kk : ∀ (H1 : Heap) (locs1 : List Loc), LX D g g2 cI cB cZ cQ cS cJ aK aO b L xs SX SM' f s H1 locs1 → W p l e R s m args below meth c H1 locs1 cs sl Q (F0 m (pc + 3) ls (v.toList ++ rest))) : W p l e R s m args below meth c H locs cs sl Q (F0 m pc ls st) := by
  refine g_callVF C X.2.1 w (ci := 12) rfl hy (gw_get (q := 0) (k := 99) rfl rfl) hM hR hR2 hcs hsl hn hls hst hrest hdg (fun H1 locs1 h1 h2 => kk H1 locs1 ⟨?_, h1, ?_, ?_⟩)
  · refine LX_gX OX X.1 (fun k hk => ?_) h2 ?_
    · rintro (⟨j, hj, h3⟩ | h3)
      · exact (hs.1 k hk).2.2 j hj h3
      · exact absurd (LX_lt OX X.1 hk) (Nat.not_lt.mpr h3)
    · rw [hs.allX]
      have h4 := h1.2
      rewrite [hs.allM] at h4
      exact h4
  · refine LX_out X ?_ h2
    rintro (⟨j, hj, h3⟩ | h3)
    · exact (hs.2.1 j hj).2 h3.symm
    · exact absurd (X.2.2.1 0 _ rfl).lt (Nat.not_lt.mpr h3)
  · refine LX_keep hs X (fun q hq => ?_) h2
    rcases hq with ⟨j, hj, rfl⟩ | hq
    · exact (hs.2.1 j hj).1
    · exact Nat.le_trans X.1.2.1 hq
theorem L_callS (OX : gO (xcell g cI cB cZ cQ) xord g) (OM : gO (mcell g2 cI cS (msa aK)) mord g2) (hs : Lsp g g2 aO b s.heap.size) (C : gC p s m args meth c cc nL RL ret D (xtys cI cB cZ cQ) xord g Am) (K2 : va_K D vwCl [(cJ, .long)] s) (Nc : va_Nc (tE 2) (tE 1) s) (X : LX D g g2 cI cB cZ cQ cS cJ aK aO b L xs SX SM f s H locs)
    (w : Cond.methodLink RL index y ∈ gT ∧ Cond.static y ∈ gT ∧ Cond.initialized RL ∈ gT ∧ Cond.codeWith y cy mL (some .int) hh ∈ gT ∧ (y.cls ≠ "java/lang/invoke/MethodHandle" ∧ y.cls ≠ "java/lang/invoke/VarHandle" ∧ (parseMethodDescriptor y.desc).map (fun d => d.parameters.length) = some n)) (hyl : y.cls = RL)
    (hM : lM l y cy mL hh d u D g cI cB cZ cQ cJ aO Am As SX f k SX' f') (hR : d + 1 ≤ R.frames) (hR2 : 8 + (mL + 11) + (40 * d + 13) ≤ R.locals) (hcs : cs + u ≤ R.cells) (hsl : sl + 6 * u ≤ R.slots) (hn : As.length = n) (hls : ls.size = nL) {st : List Value} (hst : st = As.reverse ++ rest) (hrest : (rest.map fun v => v.category).sum ≤ 8) (hdg : decode cc pc = .ok (.invokestatic index, 3))
    (kk : ∀ (H1 : Heap) (locs1 : List Loc), LX D g g2 cI cB cZ cQ cS cJ aK aO b L xs SX' SM f' s H1 locs1 → W p l e R s m args below meth c H1 locs1 (cs + u) (sl + 6 * u) Q (F0 m (pc + 3) ls (.int k :: rest))) : W p l e R s m args below meth c H locs cs sl Q (F0 m pc ls st) := by
  subst hst
  have hG : GoodIn gT (va_wsS RL index y (Cond.codeWith y cy mL (some .int) hh :: gT)) := gT_in (fun w' h => by
    unfold va_wsS at h
    rewrite [hyl] at h
    rcases List.mem_append.mp h with h | h
    · simp only [List.mem_cons, List.not_mem_nil, or_false] at h
      rcases h with rfl | rfl | rfl
      · exact w.1
      · exact w.2.1
      · exact w.2.2.1
    · rcases List.mem_cons.mp h with rfl | h
      · exact w.2.2.2.1
      · exact h)
  have hp : PreS s H (va_Pc As (fun U => U.heap.size = H.size ∧ lP D g cI cB cZ cQ cJ aO SX f U.heap ∧ va_K D vwCl (xtys cI cB cZ cQ) U ∧ va_K D vwCl [(cJ, .long)] U ∧ Am (gA xord g H.size) U U.heap ∧ va_Nc (tE 2) (tE 1) U)) As := by
    refine ⟨fun a U g mk q => ?_, fun U hU hW => ?_⟩
    · obtain ⟨q0, q1, qP, qK, qK2, qY, qN⟩ := q
      exact ⟨q0, q1, qP, va_K.moved (u := U) (U := U.calling g mk a) (Vm.Alike.refl U.vm) qK, va_K.moved (u := U) (U := U.calling g mk a) (Vm.Alike.refl U.vm) qK2, C.2.2.2.2.1 _ _ U (U.calling g mk a) U.heap (State.WarmedH.refl U) qY (fun _ _ _ => rfl) (fun _ h => h), va_Nc.moved (u := U) (U := U.calling g mk a) (Vm.Alike.refl U.vm) qN⟩
    · have h9 := (g_pre C X.1 (a := As)).2 U hU hW
      exact ⟨rfl, by rw [hU], by rw [hU]; exact ⟨X.1.1, X.2.2.1⟩, va_K.moved hW.alike C.2.1, va_K.moved hW.alike K2, h9.2.2.2.2, va_Nc.moved hW.alike Nc⟩
  have hr := vx_runSW (locs := locs) (cells := cs) (slots := sl) (R := R) (rest := rest) (g := F0 m pc ls (As.reverse ++ rest)) (below := below) (meth := meth) (e := e) C.1 (hM H.size) (vx_cwSW n C.1.2.2.2.2 hG rfl rfl rfl w.2.2.2.2 ⟨hR, hR2⟩) hp rfl hn hls rfl (lv_room hrest) hdg ⟨hcs, hsl⟩
  intro T hT X0
  obtain ⟨v', st₀, t, T', L', h0, X', hL, e1, e2, ⟨⟨hv, hP⟩, hz, hk⟩, st⟩ := hr T hT X0
  cases hv
  rewrite [h0] at hz hk
  have hB : ∀ q, lA g aO H.size q → s.heap.size ≤ q := by
    rintro q ((⟨j, hj, rfl⟩ | hq) | rfl)
    · exact (hs.1 j hj).1
    · exact Nat.le_trans X.1.2.1 hq
    · exact hs.2.2.1
  have hk' : ∀ q : Nat, q < H.size → ¬ lA g aO H.size q → T'.heap[q]? = H[q]? := by rw [e1]; exact hk
  have hS : va_S (fun q => s.heap.size ≤ q) s.heap T'.heap (locs ++ L') := by
    refine ⟨Nat.le_trans X.1.2.1 (by rw [e1]; exact hz), fun q h1 h2 => ?_, fun q hq => ?_⟩
    · rw [hk' q (Nat.lt_of_lt_of_le h1 X.1.2.1) (fun z => h2 (hB q z))]
      refine X.1.2.2.1 q h1 ?_
      rw [hs.allX]
      exact h2
    · rcases List.mem_append.mp hq with h | h
      · have h5 := X.1.2.2.2 q h
        rewrite [hs.allX] at h5
        exact h5
      · exact hB _ (hL q h)
  obtain ⟨t2, a1, b1⟩ := kk T'.heap (locs ++ L') ⟨⟨by rw [e1]; exact hP.1, by rw [hs.allX]; exact hS⟩, LX_gX OM X.2.1 (fun k hk => by
      rintro ((⟨j, hj, h3⟩ | h3) | h3)
      · exact (hs.1 j hj).2.2 k hk h3.symm
      · exact absurd (LX_lt OM X.2.1 hk) (Nat.not_lt.mpr h3)
      · exact (hs.2.1 k hk).2 h3) hk' (by rw [hs.allM]; exact hS), by rw [e1]; exact hP.2, LX_keep hs X hB hk'⟩ T' rfl X'
  exact ⟨t2, st t2 a1, b1⟩
end LAW2

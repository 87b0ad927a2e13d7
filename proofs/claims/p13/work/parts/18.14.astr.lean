/-! TEXTS: the constants that both sides name (printed by wip/whole/mkstr.py) -/
noncomputable def sB : List (List Int32) := [[116, 104, 101, 32, 116, 97, 112, 101, 32, 104, 97, 115, 32, 110, 111, 116, 32, 115, 111, 32, 109, 97, 110, 121, 32, 98, 121, 116, 101, 115], [59, 40, 41, 43, 45, 42, 47, 60, 61], [103, 114, 111, 116, 116, 111], [104, 111, 108, 108, 111, 119], [103, 117, 105, 108, 100], [104, 105, 114, 101, 115], [119, 101, 116], [98, 111, 117, 110, 100], [112, 114, 97, 121, 115], [110, 111, 116], [115, 105, 110], [112, 117, 114, 115, 101], [100, 114, 105, 112], [112, 114, 105, 99, 101], [104, 111, 117, 114], [103, 114, 101, 101, 100], [97, 110, 100], [111, 114], [99, 111, 115, 116, 115], [110, 111, 32, 115, 117, 99, 104, 32, 99, 111, 117, 110, 116], [110, 111, 32, 115, 117, 99, 104, 32, 103, 114, 111, 116, 116, 111], [110, 111, 32, 115, 117, 99, 104, 32, 102, 97, 99, 116, 32, 111, 102, 32, 97, 32, 103, 114, 111, 116, 116, 111], [110, 111, 32, 115, 117, 99, 104, 32, 103, 117, 105, 108, 100], [110, 111, 32, 115, 117, 99, 104, 32, 102, 97, 99, 116, 32, 111, 102, 32, 97, 32, 103, 117, 105, 108, 100], [110, 111, 32, 115, 117, 99, 104, 32, 113, 117, 101, 115, 116, 105, 111, 110], [97, 32, 110, 117, 109, 98, 101, 114, 32, 111, 117, 116, 32, 111, 102, 32, 105, 116, 115, 32, 98, 111, 117, 110, 100, 115], [110, 111, 116, 32, 98, 105, 116, 115, 32, 111, 102, 32, 103, 114, 111, 116, 116, 111, 101, 115], [97, 32, 103, 97, 109, 101, 32, 110, 101, 101, 100, 115, 32, 116, 119, 111, 32, 103, 117, 105, 108, 100, 115], [103, 114, 111, 116, 116, 111], [104, 111, 108, 108, 111, 119], [115, 105, 110], [112, 117, 114, 115, 101], [100, 114, 105, 112], [112, 114, 105, 99, 101], [119, 101, 116], [104, 111, 117, 114], [103, 114, 101, 101, 100], [98, 111, 117, 110, 100], [112, 114, 97, 121, 115], [99, 111, 115, 116, 115], [110, 111, 116], [97, 110, 100], [111, 114], [103, 117, 105, 108, 100], [104, 105, 114, 101, 115]]
noncomputable def sW : List (String × Nat × String) := [("GrottoHours", 84, "the tape has not so many bytes"), ("GrottoHours$Tape", 59, ";()+-*/<="), ("GrottoHours$Reader", 73, "grotto"), ("GrottoHours$Reader", 83, "hollow"), ("GrottoHours$Reader", 85, "guild"), ("GrottoHours$Reader", 148, "hires"), ("GrottoHours$Reader", 90, "wet"), ("GrottoHours$Reader", 95, "bound"), ("GrottoHours$Reader", 100, "prays"), ("GrottoHours$Reader", 193, "not"), ("GrottoHours$Reader", 211, "sin"), ("GrottoHours$Reader", 212, "purse"), ("GrottoHours$Reader", 213, "drip"), ("GrottoHours$Reader", 214, "price"), ("GrottoHours$Reader", 215, "hour"), ("GrottoHours$Reader", 221, "greed"), ("GrottoHours$Reader", 191, "and"), ("GrottoHours$Reader", 183, "or"), ("GrottoHours$Reader", 109, "costs"), ("GrottoHours", 159, "no such count"), ("GrottoHours", 369, "no such grotto"), ("GrottoHours", 189, "no such fact of a grotto"), ("GrottoHours", 374, "no such guild"), ("GrottoHours", 212, "no such fact of a guild"), ("GrottoHours", 376, "no such question"), ("GrottoHours", 378, "a number out of its bounds"), ("GrottoHours", 380, "not bits of grottoes"), ("GrottoHours", 344, "a game needs two guilds"), ("GrottoHoursModel", 11, "grotto"), ("GrottoHoursModel", 13, "hollow"), ("GrottoHoursModel", 19, "sin"), ("GrottoHoursModel", 21, "purse"), ("GrottoHoursModel", 23, "drip"), ("GrottoHoursModel", 25, "price"), ("GrottoHoursModel", 27, "wet"), ("GrottoHoursModel", 29, "hour"), ("GrottoHoursModel", 34, "greed"), ("GrottoHoursModel", 291, "bound"), ("GrottoHoursModel", 293, "prays"), ("GrottoHoursModel", 295, "costs"), ("GrottoHoursModel", 261, "not"), ("GrottoHoursModel", 269, "and"), ("GrottoHoursModel", 274, "or"), ("GrottoHoursModel", 303, "guild"), ("GrottoHoursModel", 280, "hires")]
noncomputable def sLen (i : Nat) : Nat := (sB.getD i []).length
noncomputable def sByt (i j : Nat) : Int32 := (sB.getD i []).getD j 0
noncomputable def sI (i : Nat) : Bool := decide (i < 45)
def sAll (aK aV : Nat → Nat) (A : Nat → Prop) (U : State) (H : Heap) : Prop :=
  (∀ i : Nat, sI i = true → va_O "java/lang/String" (aK i) A U H ∧ va_OF "java/lang/String" "coder" "B" (.int 0) (aK i) A U H ∧ va_OF "java/lang/String" "value" "[B" (.ref (aV i)) (aK i) A U H ∧ va_T .byte (aV i) (sLen i) (fun j => .int (sByt i j)) A U H)
  ∧ (∀ (i : Nat) (q : String × Nat × String), sW[i]? = some q → vk_R q.1 q.2.1 q.2.2 (aK i) U)
  ∧ va_Z "java/lang/String" "COMPACT_STRINGS" "Z" (.int 1) A U H
  ∧ va_Zq "jdk/internal/util/Preconditions" "SIOOBE_FORMATTER" "Ljava/util/function/BiFunction;" A U H
theorem sAll.txt {aK aV : Nat → Nat} {A : Nat → Prop} {U : State} {H : Heap} {i index : Nat} {own tx : String} (h : sAll aK aV A U H) (hw : sW[i]? = some (own, index, tx)) : vk_R own index tx (aK i) U := by
  unfold sAll at h
  exact h.2.1 i (own, index, tx) hw
theorem sAll.on {aK aV : Nat → Nat} {A B : Nat → Prop} {s U : State} {H : Heap} (hW : s.WarmedH U.vm) (h : sAll aK aV A s s.heap) (hq : ∀ q : Nat, q < s.heap.size → ¬ A q → H[q]? = s.heap[q]?) (hAB : ∀ q, B q → A q) : sAll aK aV B U H :=
  ⟨fun i hi => ⟨((va_O.moved hW.alike (h.1 i hi).1).kept hq).narrow hAB, ((va_OF.moved hW.alike (h.1 i hi).2.1).kept hq).narrow hAB, ((va_OF.moved hW.alike (h.1 i hi).2.2.1).kept hq).narrow hAB, ((va_T.moved hW.alike (h.1 i hi).2.2.2).kept hq).narrow hAB⟩,
   fun i q hi => vk_R.warm hW (h.2.1 i q hi), ((va_Z.moved hW.alike h.2.2.1).kept hq).narrow hAB, ((va_Zq.moved hW.alike h.2.2.2).kept hq).narrow hAB⟩
/-- a side's world, and the texts -/
def sO (cell : gS → Nat → Nat × va_E) (ord : List Nat) (adr : Nat → Nat) (Am : (Nat → Prop) → State → Heap → Prop) (aK aV : Nat → Nat) : Prop := gO cell ord adr ∧ ∀ (A : Nat → Prop) (U : State) (H : Heap), Am A U H → sAll aK aV A U H
noncomputable def nb (x : Int32) : Bool := decide (x.toInt8.toInt32 = x)
noncomputable def nc (x : Int32) : Bool := decide ((x.toUInt32 % 65536).toInt32 = x)
theorem nb_narrow {x : Int32} (h : nb x = true) : narrow .byte (.int x) = .int x := by
  have h1 := of_decide_eq_true h
  rw [← h1]
  exact pk_nb x
theorem nc_narrow {x : Int32} (h : nc x = true) : narrow .char (.int x) = .int x := by
  have h1 := of_decide_eq_true h
  rw [← h1]
  exact pk_nc x
section STR
variable {p : Program} {l : Launch} {e : Env} {R : Room} {s : State} {m : MethodId} {args : Array Value} {below : List Frame} {meth : Method} {c : Code} {H : Heap} {locs : List Loc} {cs sl : Nat} {Q : State → Prop} {Am : (Nat → Prop) → State → Heap → Prop}
variable {cc cy : ByteArray} {nL mL pc n index d : Nat} {own Cn host : String} {ret rt : Option FieldType} {D : va_G} {tys : List (ClassId × FieldType)} {cell : gS → Nat → Nat × va_E} {ord : List Nat} {adr : Nat → Nat} {S S' : gS} {ls : Array Slot} {rest As av : List Value} {y : MethodName} {v : Option Value} {aK aV : Nat → Nat} {i : Nat}
theorem g_nret {ty : FieldType} (C : gC p s m args meth c cc nL own (some ty) D tys ord adr Am) (X : gX D cell ord adr S s H locs) {x : Int32} (hz : narrow ty (.int x) = .int x) (hdg : decode cc pc = .ok (.ireturn, 1)) :
    W p l e R s m args below meth c H locs 0 0 (gE below args s D tys cell ord adr (some (.int x)) S) (F0 m pc ls [.int x]) :=
  W.zret (v := x) C.1.1 C.1.2.1 C.2.2.1 hz (fun t ht hW => ⟨⟨rfl, by rw [ht]; exact X.1, va_K.moved hW.alike C.2.1⟩, X.2.F ht⟩) X.2.2.2 hdg C.2.2.2.1
theorem s_value (C : gC p s m args meth c cc nL own ret D tys ord adr Am) (O : sO cell ord adr Am aK aV) (X : gX D cell ord adr S s H locs) (hi : sI i = true) (hl : Cond.fieldLink own index "java/lang/String" "value" "[B" ∈ gT) (hdg : decode cc pc = .ok (.getfield index, 3))
    (kk : W p l e R s m args below meth c H locs cs sl Q (F0 m (pc + 3) ls (.ref (aV i) :: rest))) : W p l e R s m args below meth c H locs cs sl Q (F0 m pc ls (.ref (aK i) :: rest)) :=
  vk_getf C.1.1 C.1.2.1 ((O.2 _ _ _ C.2.2.2.2.2).1 i hi).2.2.1 X.2 C.1.2.2.2.1 (C.1.2.2.2.2 _ hl) (fun _ h => h) hdg kk
theorem s_coder (C : gC p s m args meth c cc nL own ret D tys ord adr Am) (O : sO cell ord adr Am aK aV) (X : gX D cell ord adr S s H locs) (hi : sI i = true) (hl : Cond.fieldLink own index "java/lang/String" "coder" "B" ∈ gT) (hdg : decode cc pc = .ok (.getfield index, 3))
    (kk : W p l e R s m args below meth c H locs cs sl Q (F0 m (pc + 3) ls (.int 0 :: rest))) : W p l e R s m args below meth c H locs cs sl Q (F0 m pc ls (.ref (aK i) :: rest)) :=
  vk_getf C.1.1 C.1.2.1 ((O.2 _ _ _ C.2.2.2.2.2).1 i hi).2.1 X.2 C.1.2.2.2.1 (C.1.2.2.2.2 _ hl) (fun _ h => h) hdg kk
theorem s_comp (C : gC p s m args meth c cc nL own ret D tys ord adr Am) (O : sO cell ord adr Am aK aV) (X : gX D cell ord adr S s H locs) (hl : Cond.fieldLink own index "java/lang/String" "COMPACT_STRINGS" "Z" ∈ gT) (hdg : decode cc pc = .ok (.getstatic index, 3))
    (kk : W p l e R s m args below meth c H locs cs sl Q (F0 m (pc + 3) ls (.int 1 :: rest))) : W p l e R s m args below meth c H locs cs sl Q (F0 m pc ls rest) :=
  va_gets C.1.1 C.1.2.1 (O.2 _ _ _ C.2.2.2.2.2).2.2.1 X.2 C.1.2.2.2.1 (C.1.2.2.2.2 _ hl) (fun _ h => h) hdg kk
theorem s_len (C : gC p s m args meth c cc nL own ret D tys ord adr Am) (O : sO cell ord adr Am aK aV) (X : gX D cell ord adr S s H locs) (hi : sI i = true) (hdg : decode cc pc = .ok (.arraylength, 1))
    (kk : W p l e R s m args below meth c H locs cs sl Q (F0 m (pc + 1) ls (.int (Int32.ofNat (sLen i)) :: rest))) : W p l e R s m args below meth c H locs cs sl Q (F0 m pc ls (.ref (aV i) :: rest)) :=
  va_tlen C.1.1 C.1.2.1 ((O.2 _ _ _ C.2.2.2.2.2).1 i hi).2.2.2 X.2 rfl hdg kk
theorem s_byte (C : gC p s m args meth c cc nL own ret D tys ord adr Am) (O : sO cell ord adr Am aK aV) (X : gX D cell ord adr S s H locs) (hi : sI i = true) {k : Int32} (hin : vp_in k (sLen i)) (hdg : decode cc pc = .ok (.baload, 1))
    (kk : W p l e R s m args below meth c H locs cs sl Q (F0 m (pc + 1) ls (.int (sByt i k.toNatClampNeg) :: rest))) : W p l e R s m args below meth c H locs cs sl Q (F0 m pc ls (.int k :: .ref (aV i) :: rest)) :=
  va_tb C.1.1 C.1.2.1 ((O.2 _ _ _ C.2.2.2.2.2).1 i hi).2.2.2 X.2 hin rfl hdg kk
/-- a call of a text's method -/
theorem s_callV (C : gC p s m args meth c cc nL own ret D tys ord adr Am) (O : sO cell ord adr Am aK aV) (X : gX D cell ord adr S s H locs) (w : gWV own index y cy mL rt n) (hy : "java/lang/String" = y.cls) (hi : sI i = true) {x : Int32}
    (hM : gM l y cy mL rt d D tys cell ord adr Am (.ref (aK i) :: As) S (some (.int x)) S') (hR : d + 1 ≤ R.frames) (hR2 : 8 + (mL + 11) + (40 * d + 13) ≤ R.locals) (hcs : cs ≤ R.cells) (hsl : sl ≤ R.slots) (hn : As.length = n) (hls : ls.size = nL) {st : List Value} (hst : st = As.reverse ++ .ref (aK i) :: rest) (hrest : (rest.map fun v => v.category).sum ≤ 8) (hdg : decode cc pc = .ok (.invokevirtual index, 3))
    (kk : ∀ (H1 : Heap) (locs1 : List Loc), gX D cell ord adr S' s H1 locs1 → W p l e R s m args below meth c H1 locs1 cs sl Q (F0 m (pc + 3) ls (.int x :: rest))) : W p l e R s m args below meth c H locs cs sl Q (F0 m pc ls st) := by
  subst hst
  refine g_back (va_runV C.1 (hM H.size) (cwV n C.1.2.2.2.2 (gT_in (fun w' h => ?_)) rfl rfl rfl ⟨rfl, w.2.2.2.2.2⟩ ⟨hR, hR2⟩) ⟨(g_pre C X).1, ?_, (g_pre C X).2⟩ rfl hn hls rfl (lv_room hrest) hdg ⟨hcs, hsl⟩) X kk
  · unfold wsV at h
    rcases List.mem_append.mp h with h | h
    · simp only [List.mem_cons, List.not_mem_nil, or_false] at h
      rcases h with rfl | rfl | rfl | rfl
      · exact w.1
      · exact w.2.1
      · exact w.2.2.1
      · exact w.2.2.2.1
    · rcases List.mem_cons.mp h with rfl | h
      · exact w.2.2.2.2.1
      · exact h
  · rw [← hy]
    obtain ⟨cell0, h1, h2, h3, -⟩ := ((O.2 _ _ _ C.2.2.2.2.2).1 i hi).1.kept X.2.2.1
    exact ⟨cell0, h1, h2, h3⟩
theorem s_ldc (C : gC p s m args meth c cc nL own ret D tys ord adr Am) (O : sO cell ord adr Am aK aV) {tx : String} (hw : sW[i]? = some (own, index, tx)) (hdg : decode cc pc = .ok (.ldc index, 2))
    (kk : W p l e R s m args below meth c H locs cs sl Q (F0 m (pc + 2) ls (.ref (aK i) :: rest))) : W p l e R s m args below meth c H locs cs sl Q (F0 m pc ls rest) :=
  va_ldcS C.1.1 C.1.2.1 C.1.2.2.2.1 (sAll.txt (O.2 _ _ _ C.2.2.2.2.2) hw) hdg kk
theorem s_ldcw (C : gC p s m args meth c cc nL own ret D tys ord adr Am) (O : sO cell ord adr Am aK aV) {tx : String} (hw : sW[i]? = some (own, index, tx)) (hdg : decode cc pc = .ok (.ldc_w index, 3))
    (kk : W p l e R s m args below meth c H locs cs sl Q (F0 m (pc + 3) ls (.ref (aK i) :: rest))) : W p l e R s m args below meth c H locs cs sl Q (F0 m pc ls rest) := by
  intro T hT X
  obtain ⟨t, a1, b1⟩ := kk T hT X
  have hZ : vk_R own index tx (aK i) s := sAll.txt (O.2 _ _ _ C.2.2.2.2.2) hw
  exact ⟨t, X.ldcStringW C.1.1 C.1.2.2.2.1 (text := tx) (a := aK i) hZ.1 hZ.2 (g := F0 m pc ls rest) rfl (by rw [C.1.2.1]; exact hdg) t a1, b1⟩
theorem s_fmt (C : gC p s m args meth c cc nL own ret D tys ord adr Am) (O : sO cell ord adr Am aK aV) (X : gX D cell ord adr S s H locs) (hl : Cond.fieldLink own index "jdk/internal/util/Preconditions" "SIOOBE_FORMATTER" "Ljava/util/function/BiFunction;" ∈ gT) (hdg : decode cc pc = .ok (.getstatic index, 3))
    (kk : ∀ z : Option Nat, W p l e R s m args below meth c H locs cs sl Q (F0 m (pc + 3) ls (va_rf z :: rest))) : W p l e R s m args below meth c H locs cs sl Q (F0 m pc ls rest) := by
  rcases (O.2 _ _ _ C.2.2.2.2.2).2.2.2 with hz | ⟨t, hz⟩
  · exact va_gets C.1.1 C.1.2.1 hz X.2 C.1.2.2.2.1 (C.1.2.2.2.2 _ hl) (fun _ h => h) hdg (kk none)
  · exact va_gets C.1.1 C.1.2.1 hz X.2 C.1.2.2.2.1 (C.1.2.2.2.2 _ hl) (fun _ h => h) hdg (kk (some t))
theorem s_popz {z : Option Nat} (C : gC p s m args meth c cc nL own ret D tys ord adr Am) (hdg : decode cc pc = .ok (.pop, 1)) (kk : W p l e R s m args below meth c H locs cs sl Q (F0 m (pc + 1) ls rest)) : W p l e R s m args below meth c H locs cs sl Q (F0 m pc ls (va_rf z :: rest)) := by
  cases z
  · exact lv_pop C.1.1 C.1.2.1 hdg rfl kk
  · exact lv_pop C.1.1 C.1.2.1 hdg rfl kk
theorem g_callO (C : gC p s m args meth c cc nL own ret D tys ord adr Am) (X : gX D cell ord adr S s H locs) (w : gWO own index y cy mL rt n)
    (hM : gM l y cy mL rt d D tys cell ord adr Am As S none S') (hR : d + 1 ≤ R.frames) (hR2 : 8 + (mL + 11) + (40 * d + 13) ≤ R.locals) (hcs : cs ≤ R.cells) (hsl : sl ≤ R.slots) (hn : As.length = n) (hls : ls.size = nL) {st : List Value} (hst : st = As.reverse ++ rest) (hrest : (rest.map fun v => v.category).sum ≤ 8) (hdg : decode cc pc = .ok (.invokestatic index, 3))
    (kk : ∀ (H1 : Heap) (locs1 : List Loc), gX D cell ord adr S' s H1 locs1 → W p l e R s m args below meth c H1 locs1 cs sl Q (F0 m (pc + 3) ls rest)) : W p l e R s m args below meth c H locs cs sl Q (F0 m pc ls st) := by
  subst hst
  refine g_back (va_runS C.1 (hM H.size) ⟨callB_of n C.1.2.2.2.2 (gT_in (fun w' h => ?_)) rfl rfl rfl (C.1.2.2.2.2 _ w.2.2.1) (C.1.2.2.2.2 _ w.1) w.2.2.2.2 ⟨hR, hR2⟩, C.1.2.2.2.2 _ w.2.1⟩ (g_pre C X) rfl hn hls rfl (lv_room hrest) hdg ⟨hcs, hsl⟩) X kk
  rcases List.mem_cons.mp h with rfl | h
  · exact w.2.2.2.1
  · exact h
theorem g_lsw2 {x : Int32} {a b : Int32} {o1 o2 dd : Int} (h1 : ¬ x = a) (h2 : ¬ x = b) : Op.lookupswitch.offset (#[(a.toInt, o1), (b.toInt, o2)] : Array (Int × Int)).toList dd x.toInt = dd := by
  show Op.lookupswitch.offset [(a.toInt, o1), (b.toInt, o2)] dd x.toInt = dd
  rw [Op.lookupswitch.offset_cons, if_neg (fun h => h1 (Int32.toInt_inj.mp h.symm)), Op.lookupswitch.offset_cons, if_neg (fun h => h2 (Int32.toInt_inj.mp h.symm)), Op.lookupswitch.offset_nil]
end STR

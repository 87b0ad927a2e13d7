/-! the reference's methods as maps of states, and their walks (printed by wip/whole/mkm.py) -/
section
variable {p : Program} {l : Launch} {e : Env} {s : State} {m : MethodId} {args : Array Value} {below : List Frame} {meth : Method} {c : Code} {D : va_G} {g : Nat → Nat} {cI cS : ClassId} {sa : Nat → Nat → Option Nat} {Am : (Nat → Prop) → State → Heap → Prop}
-- thrown
noncomputable def fX12_thrown_b0 (N : Nat) (S : gS) : Option (Int32 × gS) := some (S 99 4, S)
theorem bX12_thrown_0 {N : Nat} {S : gS} {H : Heap} {locs : List Loc} {ls : Array Slot} {o : Int32 × gS} (C : gC p s m args meth c cX12_thrown 1 RX12 ((some .int)) D (mtys cI cS) mord g Am) (O : gO (mcell g cI cS sa) mord g) (X : gX D (mcell g cI cS sa) mord g S s H locs) (hl : lv_has ls 1 [(0, .ref (g 99))]) (hF : fX12_thrown_b0 N S = some o) : W p l e (rmd 0) s m args below meth c H locs 0 0 (gE below args s D (mtys cI cS) (mcell g cI cS sa) mord g (some (.int o.1)) o.2) (F0 m 0 ls []) := by
  unfold fX12_thrown_b0 at hF
  refine lv_aload_n C.1.1 C.1.2.1 dX12_thrown_0 rfl (lv_at hl 0 rfl) ?_
  refine m_g4 C X dX12_thrown_1 ?_
  cases hF
  exact g_iret C X dX12_thrown_4
noncomputable def fX12_thrown (N : Nat) (S : gS) : Option (Int32 × gS) := fX12_thrown_b0 N S
theorem kX12_thrown {l : Launch} {D : va_G} {g : Nat → Nat} {cI cS : ClassId} {sa : Nat → Nat → Option Nat} {Am : (Nat → Prop) → State → Heap → Prop} (O : gO (mcell g cI cS sa) mord g) (P : gAm Am) (N : Nat) (S : gS) (o : Int32 × gS) (hF : fX12_thrown N S = some o) : gM l yX12_thrown cX12_thrown 1 ((some .int)) 0 D (mtys cI cS) (mcell g cI cS sa) mord g Am [.ref (g 99)] S (some (.int o.1)) o.2 :=
  gM_of O P (by decide) (Nat.le_of_ble_eq_true rfl) (fun p e s m args below meth c ls C X hl => bX12_thrown_0 C O X (lv_sub hl [0] rfl) hF)
-- fail
noncomputable def fX12_fail_b0 (N : Nat) (x1 : Int32) (S : gS) : Option (Int32 × gS) := lt (sU S 99 4 x1) fun S1 => (some (0, S1))
theorem bX12_fail_0 {N : Nat} {x1 : Int32} {S : gS} {H : Heap} {locs : List Loc} {ls : Array Slot} {o : Int32 × gS} (C : gC p s m args meth c cX12_fail 2 RX12 ((some .int)) D (mtys cI cS) mord g Am) (O : gO (mcell g cI cS sa) mord g) (X : gX D (mcell g cI cS sa) mord g S s H locs) (hl : lv_has ls 2 [(0, .ref (g 99)), (1, .int x1)]) (hF : fX12_fail_b0 N x1 S = some o) : W p l e (rmd 0) s m args below meth c H locs 0 0 (gE below args s D (mtys cI cS) (mcell g cI cS sa) mord g (some (.int o.1)) o.2) (F0 m 0 ls []) := by
  unfold fX12_fail_b0 at hF
  refine lv_aload_n C.1.1 C.1.2.1 dX12_fail_0 rfl (lv_at hl 0 rfl) ?_
  refine lv_iload_n C.1.1 C.1.2.1 dX12_fail_1 rfl (lv_at hl 1 rfl) ?_
  obtain ⟨S1, eS1, hF⟩ := lt_some hF
  refine m_p4 C O X eS1 dX12_fail_2 (fun H locs X => ?_)
  refine lv_iconst (v := 0) C.1.1 C.1.2.1 dX12_fail_5 (by decide) ?_
  cases hF
  exact g_iret C X dX12_fail_6
noncomputable def fX12_fail (N : Nat) (x1 : Int32) (S : gS) : Option (Int32 × gS) := fX12_fail_b0 N x1 S
theorem kX12_fail {l : Launch} {D : va_G} {g : Nat → Nat} {cI cS : ClassId} {sa : Nat → Nat → Option Nat} {Am : (Nat → Prop) → State → Heap → Prop} (O : gO (mcell g cI cS sa) mord g) (P : gAm Am) (N : Nat) (x1 : Int32) (S : gS) (o : Int32 × gS) (hF : fX12_fail N x1 S = some o) : gM l yX12_fail cX12_fail 2 ((some .int)) 0 D (mtys cI cS) (mcell g cI cS sa) mord g Am [.ref (g 99), .int x1] S (some (.int o.1)) o.2 :=
  gM_of O P (by decide) (Nat.le_of_ble_eq_true rfl) (fun p e s m args below meth c ls C X hl => bX12_fail_0 C O X (lv_sub hl [0, 1] rfl) hF)
-- failing
noncomputable def fX12_failing_b0 (N : Nat) (x1 : Int32) (S : gS) : Option (Int32 × gS) := lt (sU S 99 4 x1) fun S1 => (some (0, S1))
theorem bX12_failing_0 {N : Nat} {x1 : Int32} {S : gS} {H : Heap} {locs : List Loc} {ls : Array Slot} {o : Int32 × gS} (C : gC p s m args meth c cX12_failing 2 RX12 ((some .boolean)) D (mtys cI cS) mord g Am) (O : gO (mcell g cI cS sa) mord g) (X : gX D (mcell g cI cS sa) mord g S s H locs) (hl : lv_has ls 2 [(0, .ref (g 99)), (1, .int x1)]) (hF : fX12_failing_b0 N x1 S = some o) : W p l e (rmd 0) s m args below meth c H locs 0 0 (gE below args s D (mtys cI cS) (mcell g cI cS sa) mord g (some (.int o.1)) o.2) (F0 m 0 ls []) := by
  unfold fX12_failing_b0 at hF
  refine lv_aload_n C.1.1 C.1.2.1 dX12_failing_0 rfl (lv_at hl 0 rfl) ?_
  refine lv_iload_n C.1.1 C.1.2.1 dX12_failing_1 rfl (lv_at hl 1 rfl) ?_
  obtain ⟨S1, eS1, hF⟩ := lt_some hF
  refine m_p4 C O X eS1 dX12_failing_2 (fun H locs X => ?_)
  refine lv_iconst (v := 0) C.1.1 C.1.2.1 dX12_failing_5 (by decide) ?_
  cases hF
  exact g_zret (x := 0) C X (by decide) dX12_failing_6
noncomputable def fX12_failing (N : Nat) (x1 : Int32) (S : gS) : Option (Int32 × gS) := fX12_failing_b0 N x1 S
theorem kX12_failing {l : Launch} {D : va_G} {g : Nat → Nat} {cI cS : ClassId} {sa : Nat → Nat → Option Nat} {Am : (Nat → Prop) → State → Heap → Prop} (O : gO (mcell g cI cS sa) mord g) (P : gAm Am) (N : Nat) (x1 : Int32) (S : gS) (o : Int32 × gS) (hF : fX12_failing N x1 S = some o) : gM l yX12_failing cX12_failing 2 ((some .boolean)) 0 D (mtys cI cS) (mcell g cI cS sa) mord g Am [.ref (g 99), .int x1] S (some (.int o.1)) o.2 :=
  gM_of O P (by decide) (Nat.le_of_ble_eq_true rfl) (fun p e s m args below meth c ls C X hl => bX12_failing_0 C O X (lv_sub hl [0, 1] rfl) hF)
-- isIn
noncomputable def fX12_isIn_b18 (N : Nat) (t0 : Int32) (S : gS) : Option (Int32 × gS) := chk (zb t0) (some (t0, S))
theorem bX12_isIn_18 {N : Nat} {t0 : Int32} {S : gS} {H : Heap} {locs : List Loc} {ls : Array Slot} {o : Int32 × gS} (C : gC p s m args meth c cX12_isIn 6 RX12 ((some .boolean)) D (mtys cI cS) mord g Am) (O : gO (mcell g cI cS sa) mord g) (X : gX D (mcell g cI cS sa) mord g S s H locs) (hl : lv_has ls 6 []) (hF : fX12_isIn_b18 N t0 S = some o) : W p l e (rmd 0) s m args below meth c H locs 0 0 (gE below args s D (mtys cI cS) (mcell g cI cS sa) mord g (some (.int o.1)) o.2) (F0 m 18 ls [.int t0]) := by
  unfold fX12_isIn_b18 at hF
  obtain ⟨h_1, hF⟩ := chk_some hF
  cases hF
  exact g_zret C X h_1 dX12_isIn_18
noncomputable def fX12_isIn_b17 (N : Nat) (S : gS) : Option (Int32 × gS) := fX12_isIn_b18 N 0 S
theorem bX12_isIn_17 {N : Nat} {S : gS} {H : Heap} {locs : List Loc} {ls : Array Slot} {o : Int32 × gS} (C : gC p s m args meth c cX12_isIn 6 RX12 ((some .boolean)) D (mtys cI cS) mord g Am) (O : gO (mcell g cI cS sa) mord g) (X : gX D (mcell g cI cS sa) mord g S s H locs) (hl : lv_has ls 6 []) (hF : fX12_isIn_b17 N S = some o) : W p l e (rmd 0) s m args below meth c H locs 0 0 (gE below args s D (mtys cI cS) (mcell g cI cS sa) mord g (some (.int o.1)) o.2) (F0 m 17 ls []) := by
  unfold fX12_isIn_b17 at hF
  refine lv_iconst (v := 0) C.1.1 C.1.2.1 dX12_isIn_17 (by decide) ?_
  exact bX12_isIn_18 C O X (lv_sub hl [] rfl) hF
noncomputable def fX12_isIn_b13 (N : Nat) (S : gS) : Option (Int32 × gS) := fX12_isIn_b18 N 1 S
theorem bX12_isIn_13 {N : Nat} {S : gS} {H : Heap} {locs : List Loc} {ls : Array Slot} {o : Int32 × gS} (C : gC p s m args meth c cX12_isIn 6 RX12 ((some .boolean)) D (mtys cI cS) mord g Am) (O : gO (mcell g cI cS sa) mord g) (X : gX D (mcell g cI cS sa) mord g S s H locs) (hl : lv_has ls 6 []) (hF : fX12_isIn_b13 N S = some o) : W p l e (rmd 0) s m args below meth c H locs 0 0 (gE below args s D (mtys cI cS) (mcell g cI cS sa) mord g (some (.int o.1)) o.2) (F0 m 13 ls []) := by
  unfold fX12_isIn_b13 at hF
  refine lv_iconst (v := 1) C.1.1 C.1.2.1 dX12_isIn_13 (by decide) ?_
  refine lv_goto (tgt := 18) C.1.1 C.1.2.1 dX12_isIn_14 (by decide) ?_
  exact bX12_isIn_18 C O X (lv_sub hl [] rfl) hF
noncomputable def fX12_isIn_b6 (N : Nat) (x0 : Int64) (x4 : Int64) (S : gS) : Option (Int32 × gS) := if 0 < (lg_cmp x0 x4) then fX12_isIn_b17 N S else fX12_isIn_b13 N S
theorem bX12_isIn_6 {N : Nat} {x0 : Int64} {x4 : Int64} {S : gS} {H : Heap} {locs : List Loc} {ls : Array Slot} {o : Int32 × gS} (C : gC p s m args meth c cX12_isIn 6 RX12 ((some .boolean)) D (mtys cI cS) mord g Am) (O : gO (mcell g cI cS sa) mord g) (X : gX D (mcell g cI cS sa) mord g S s H locs) (hl : lv_has ls 6 [(0, .long x0), (4, .long x4)]) (hF : fX12_isIn_b6 N x0 x4 S = some o) : W p l e (rmd 0) s m args below meth c H locs 0 0 (gE below args s D (mtys cI cS) (mcell g cI cS sa) mord g (some (.int o.1)) o.2) (F0 m 6 ls []) := by
  unfold fX12_isIn_b6 at hF
  refine lv_lload_n C.1.1 C.1.2.1 dX12_isIn_6 rfl (lv_at hl 0 rfl) ?_
  refine lv_lload C.1.1 C.1.2.1 dX12_isIn_7 (lv_at hl 1 rfl) ?_
  refine W.lcmp C.1.1 C.1.2.1 dX12_isIn_9 ?_
  refine lv_if_gt (tgt := 17) C.1.1 C.1.2.1 dX12_isIn_10 (by decide) (fun h_z => ?_) (fun h_z => ?_)
  · rw [if_pos h_z] at hF
    exact bX12_isIn_17 C O X (lv_sub hl [] rfl) hF
  · rw [if_neg h_z] at hF
    exact bX12_isIn_13 C O X (lv_sub hl [] rfl) hF
noncomputable def fX12_isIn_b0 (N : Nat) (x0 : Int64) (x2 : Int64) (x4 : Int64) (S : gS) : Option (Int32 × gS) := if (lg_cmp x0 x2) < 0 then fX12_isIn_b17 N S else fX12_isIn_b6 N x0 x4 S
theorem bX12_isIn_0 {N : Nat} {x0 : Int64} {x2 : Int64} {x4 : Int64} {S : gS} {H : Heap} {locs : List Loc} {ls : Array Slot} {o : Int32 × gS} (C : gC p s m args meth c cX12_isIn 6 RX12 ((some .boolean)) D (mtys cI cS) mord g Am) (O : gO (mcell g cI cS sa) mord g) (X : gX D (mcell g cI cS sa) mord g S s H locs) (hl : lv_has ls 6 [(0, .long x0), (2, .long x2), (4, .long x4)]) (hF : fX12_isIn_b0 N x0 x2 x4 S = some o) : W p l e (rmd 0) s m args below meth c H locs 0 0 (gE below args s D (mtys cI cS) (mcell g cI cS sa) mord g (some (.int o.1)) o.2) (F0 m 0 ls []) := by
  unfold fX12_isIn_b0 at hF
  refine lv_lload_n C.1.1 C.1.2.1 dX12_isIn_0 rfl (lv_at hl 0 rfl) ?_
  refine lv_lload_n C.1.1 C.1.2.1 dX12_isIn_1 rfl (lv_at hl 1 rfl) ?_
  refine W.lcmp C.1.1 C.1.2.1 dX12_isIn_2 ?_
  refine lv_if_lt (tgt := 17) C.1.1 C.1.2.1 dX12_isIn_3 (by decide) (fun h_z => ?_) (fun h_z => ?_)
  · rw [if_pos h_z] at hF
    exact bX12_isIn_17 C O X (lv_sub hl [] rfl) hF
  · rw [if_neg h_z] at hF
    exact bX12_isIn_6 C O X (lv_sub hl [0, 2] rfl) hF
noncomputable def fX12_isIn (N : Nat) (x0 : Int64) (x2 : Int64) (x4 : Int64) (S : gS) : Option (Int32 × gS) := fX12_isIn_b0 N x0 x2 x4 S
theorem kX12_isIn {l : Launch} {D : va_G} {g : Nat → Nat} {cI cS : ClassId} {sa : Nat → Nat → Option Nat} {Am : (Nat → Prop) → State → Heap → Prop} (O : gO (mcell g cI cS sa) mord g) (P : gAm Am) (N : Nat) (x0 : Int64) (x2 : Int64) (x4 : Int64) (S : gS) (o : Int32 × gS) (hF : fX12_isIn N x0 x2 x4 S = some o) : gM l yX12_isIn cX12_isIn 6 ((some .boolean)) 0 D (mtys cI cS) (mcell g cI cS sa) mord g Am [.long x0, .long x2, .long x4] S (some (.int o.1)) o.2 :=
  gM_of O P (by decide) (Nat.le_of_ble_eq_true rfl) (fun p e s m args below meth c ls C X hl => bX12_isIn_0 C O X (lv_sub hl [0, 1, 2] rfl) hF)
-- isOf
noncomputable def fX12_isOf_b14 (N : Nat) (t0 : Int32) (S : gS) : Option (Int32 × gS) := chk (zb t0) (some (t0, S))
theorem bX12_isOf_14 {N : Nat} {t0 : Int32} {S : gS} {H : Heap} {locs : List Loc} {ls : Array Slot} {o : Int32 × gS} (C : gC p s m args meth c cX12_isOf 2 RX12 ((some .boolean)) D (mtys cI cS) mord g Am) (O : gO (mcell g cI cS sa) mord g) (X : gX D (mcell g cI cS sa) mord g S s H locs) (hl : lv_has ls 2 []) (hF : fX12_isOf_b14 N t0 S = some o) : W p l e (rmd 0) s m args below meth c H locs 0 0 (gE below args s D (mtys cI cS) (mcell g cI cS sa) mord g (some (.int o.1)) o.2) (F0 m 14 ls [.int t0]) := by
  unfold fX12_isOf_b14 at hF
  obtain ⟨h_1, hF⟩ := chk_some hF
  cases hF
  exact g_zret C X h_1 dX12_isOf_14
noncomputable def fX12_isOf_b13 (N : Nat) (S : gS) : Option (Int32 × gS) := fX12_isOf_b14 N 0 S
theorem bX12_isOf_13 {N : Nat} {S : gS} {H : Heap} {locs : List Loc} {ls : Array Slot} {o : Int32 × gS} (C : gC p s m args meth c cX12_isOf 2 RX12 ((some .boolean)) D (mtys cI cS) mord g Am) (O : gO (mcell g cI cS sa) mord g) (X : gX D (mcell g cI cS sa) mord g S s H locs) (hl : lv_has ls 2 []) (hF : fX12_isOf_b13 N S = some o) : W p l e (rmd 0) s m args below meth c H locs 0 0 (gE below args s D (mtys cI cS) (mcell g cI cS sa) mord g (some (.int o.1)) o.2) (F0 m 13 ls []) := by
  unfold fX12_isOf_b13 at hF
  refine lv_iconst (v := 0) C.1.1 C.1.2.1 dX12_isOf_13 (by decide) ?_
  exact bX12_isOf_14 C O X (lv_sub hl [] rfl) hF
noncomputable def fX12_isOf_b9 (N : Nat) (S : gS) : Option (Int32 × gS) := fX12_isOf_b14 N 1 S
theorem bX12_isOf_9 {N : Nat} {S : gS} {H : Heap} {locs : List Loc} {ls : Array Slot} {o : Int32 × gS} (C : gC p s m args meth c cX12_isOf 2 RX12 ((some .boolean)) D (mtys cI cS) mord g Am) (O : gO (mcell g cI cS sa) mord g) (X : gX D (mcell g cI cS sa) mord g S s H locs) (hl : lv_has ls 2 []) (hF : fX12_isOf_b9 N S = some o) : W p l e (rmd 0) s m args below meth c H locs 0 0 (gE below args s D (mtys cI cS) (mcell g cI cS sa) mord g (some (.int o.1)) o.2) (F0 m 9 ls []) := by
  unfold fX12_isOf_b9 at hF
  refine lv_iconst (v := 1) C.1.1 C.1.2.1 dX12_isOf_9 (by decide) ?_
  refine lv_goto (tgt := 14) C.1.1 C.1.2.1 dX12_isOf_10 (by decide) ?_
  exact bX12_isOf_14 C O X (lv_sub hl [] rfl) hF
noncomputable def fX12_isOf_b0 (N : Nat) (x0 : Int32) (x1 : Int32) (S : gS) : Option (Int32 × gS) := if ((((x0 >>> (x1 &&& 31) : Int32)) &&& 1 : Int32)) = 1 then fX12_isOf_b9 N S else fX12_isOf_b13 N S
theorem bX12_isOf_0 {N : Nat} {x0 : Int32} {x1 : Int32} {S : gS} {H : Heap} {locs : List Loc} {ls : Array Slot} {o : Int32 × gS} (C : gC p s m args meth c cX12_isOf 2 RX12 ((some .boolean)) D (mtys cI cS) mord g Am) (O : gO (mcell g cI cS sa) mord g) (X : gX D (mcell g cI cS sa) mord g S s H locs) (hl : lv_has ls 2 [(0, .int x0), (1, .int x1)]) (hF : fX12_isOf_b0 N x0 x1 S = some o) : W p l e (rmd 0) s m args below meth c H locs 0 0 (gE below args s D (mtys cI cS) (mcell g cI cS sa) mord g (some (.int o.1)) o.2) (F0 m 0 ls []) := by
  unfold fX12_isOf_b0 at hF
  refine lv_iload_n C.1.1 C.1.2.1 dX12_isOf_0 rfl (lv_at hl 0 rfl) ?_
  refine lv_iload_n C.1.1 C.1.2.1 dX12_isOf_1 rfl (lv_at hl 1 rfl) ?_
  refine lv_ishr C.1.1 C.1.2.1 dX12_isOf_2 ?_
  refine lv_iconst (v := 1) C.1.1 C.1.2.1 dX12_isOf_3 (by decide) ?_
  refine lv_iand C.1.1 C.1.2.1 dX12_isOf_4 ?_
  refine lv_iconst (v := 1) C.1.1 C.1.2.1 dX12_isOf_5 (by decide) ?_
  refine lv_icmp_ne (tgt := 13) C.1.1 C.1.2.1 dX12_isOf_6 (by decide) (fun h_z => ?_) (fun h_z => ?_)
  · rw [if_neg h_z] at hF
    exact bX12_isOf_13 C O X (lv_sub hl [] rfl) hF
  · rw [if_pos h_z] at hF
    exact bX12_isOf_9 C O X (lv_sub hl [] rfl) hF
noncomputable def fX12_isOf (N : Nat) (x0 : Int32) (x1 : Int32) (S : gS) : Option (Int32 × gS) := fX12_isOf_b0 N x0 x1 S
theorem kX12_isOf {l : Launch} {D : va_G} {g : Nat → Nat} {cI cS : ClassId} {sa : Nat → Nat → Option Nat} {Am : (Nat → Prop) → State → Heap → Prop} (O : gO (mcell g cI cS sa) mord g) (P : gAm Am) (N : Nat) (x0 : Int32) (x1 : Int32) (S : gS) (o : Int32 × gS) (hF : fX12_isOf N x0 x1 S = some o) : gM l yX12_isOf cX12_isOf 2 ((some .boolean)) 0 D (mtys cI cS) (mcell g cI cS sa) mord g Am [.int x0, .int x1] S (some (.int o.1)) o.2 :=
  gM_of O P (by decide) (Nat.le_of_ble_eq_true rfl) (fun p e s m args below meth c ls C X hl => bX12_isOf_0 C O X (lv_sub hl [0, 1] rfl) hF)
-- bitsOf
noncomputable def fX12_bitsOf_b20 (N : Nat) (x1 : Int32) (S : gS) : Option (Int32 × gS) := some (x1, S)
theorem bX12_bitsOf_20 {N : Nat} {x1 : Int32} {S : gS} {H : Heap} {locs : List Loc} {ls : Array Slot} {o : Int32 × gS} (C : gC p s m args meth c cX12_bitsOf 3 RX12 ((some .int)) D (mtys cI cS) mord g Am) (O : gO (mcell g cI cS sa) mord g) (X : gX D (mcell g cI cS sa) mord g S s H locs) (hl : lv_has ls 3 [(1, .int x1)]) (hF : fX12_bitsOf_b20 N x1 S = some o) : W p l e (rmd 0) s m args below meth c H locs 0 0 (gE below args s D (mtys cI cS) (mcell g cI cS sa) mord g (some (.int o.1)) o.2) (F0 m 20 ls []) := by
  unfold fX12_bitsOf_b20 at hF
  refine lv_iload_n C.1.1 C.1.2.1 dX12_bitsOf_20 rfl (lv_at hl 0 rfl) ?_
  cases hF
  exact g_iret C X dX12_bitsOf_21
noncomputable def fX12_bitsOf_b8 (N : Nat) (r4 : Int32 → Int32 → gS → Option (Int32 × gS)) (x1 : Int32) (x2 : Int32) (S : gS) : Option (Int32 × gS) := r4 ((x1 + 1 : Int32)) ((x2 &&& ((x2 - 1 : Int32)) : Int32)) S
theorem bX12_bitsOf_8 {N : Nat} {r4 : Int32 → Int32 → gS → Option (Int32 × gS)} {x1 : Int32} {x2 : Int32} {S : gS} {H : Heap} {locs : List Loc} {ls : Array Slot} {o : Int32 × gS} (C : gC p s m args meth c cX12_bitsOf 3 RX12 ((some .int)) D (mtys cI cS) mord g Am) (O : gO (mcell g cI cS sa) mord g) (K4 : ∀ (x1 : Int32) (x2 : Int32) (S : gS) (H : Heap) (locs : List Loc) (ls : Array Slot), gX D (mcell g cI cS sa) mord g S s H locs → lv_has ls 3 [(1, .int x1), (2, .int x2)] → r4 x1 x2 S = some o → W p l e (rmd 0) s m args below meth c H locs 0 0 (gE below args s D (mtys cI cS) (mcell g cI cS sa) mord g (some (.int o.1)) o.2) (F0 m 4 ls [])) (X : gX D (mcell g cI cS sa) mord g S s H locs) (hl : lv_has ls 3 [(1, .int x1), (2, .int x2)]) (hF : fX12_bitsOf_b8 N r4 x1 x2 S = some o) : W p l e (rmd 0) s m args below meth c H locs 0 0 (gE below args s D (mtys cI cS) (mcell g cI cS sa) mord g (some (.int o.1)) o.2) (F0 m 8 ls []) := by
  unfold fX12_bitsOf_b8 at hF
  refine lv_iinc (v := (x1 + 1 : Int32)) (lv' := [(1, .int ((x1 + 1 : Int32))), (2, .int x2)]) C.1.1 C.1.2.1 dX12_bitsOf_8 hl (k := 0) rfl rfl (by decide) rfl (fun ls hl => ?_)
  refine lv_iload_n C.1.1 C.1.2.1 dX12_bitsOf_11 rfl (lv_at hl 1 rfl) ?_
  refine lv_iload_n C.1.1 C.1.2.1 dX12_bitsOf_12 rfl (lv_at hl 1 rfl) ?_
  refine lv_iconst (v := 1) C.1.1 C.1.2.1 dX12_bitsOf_13 (by decide) ?_
  refine lv_isub C.1.1 C.1.2.1 dX12_bitsOf_14 ?_
  refine lv_iand C.1.1 C.1.2.1 dX12_bitsOf_15 ?_
  refine lv_istore_n (lv' := [(2, .int ((x2 &&& ((x2 - 1 : Int32)) : Int32))), (1, .int ((x1 + 1 : Int32)))]) C.1.1 C.1.2.1 dX12_bitsOf_16 rfl hl (by decide) rfl (fun ls hl => ?_)
  refine lv_goto (tgt := 4) C.1.1 C.1.2.1 dX12_bitsOf_17 (by decide) ?_
  exact K4 _ _ _ _ _ _ X (lv_sub hl [1, 0] rfl) hF
noncomputable def fX12_bitsOf_b4 (N : Nat) (r4 : Int32 → Int32 → gS → Option (Int32 × gS)) (x1 : Int32) (x2 : Int32) (S : gS) : Option (Int32 × gS) := if x2 = 0 then fX12_bitsOf_b20 N x1 S else fX12_bitsOf_b8 N r4 x1 x2 S
theorem bX12_bitsOf_4 {N : Nat} {r4 : Int32 → Int32 → gS → Option (Int32 × gS)} {x1 : Int32} {x2 : Int32} {S : gS} {H : Heap} {locs : List Loc} {ls : Array Slot} {o : Int32 × gS} (C : gC p s m args meth c cX12_bitsOf 3 RX12 ((some .int)) D (mtys cI cS) mord g Am) (O : gO (mcell g cI cS sa) mord g) (K4 : ∀ (x1 : Int32) (x2 : Int32) (S : gS) (H : Heap) (locs : List Loc) (ls : Array Slot), gX D (mcell g cI cS sa) mord g S s H locs → lv_has ls 3 [(1, .int x1), (2, .int x2)] → r4 x1 x2 S = some o → W p l e (rmd 0) s m args below meth c H locs 0 0 (gE below args s D (mtys cI cS) (mcell g cI cS sa) mord g (some (.int o.1)) o.2) (F0 m 4 ls [])) (X : gX D (mcell g cI cS sa) mord g S s H locs) (hl : lv_has ls 3 [(1, .int x1), (2, .int x2)]) (hF : fX12_bitsOf_b4 N r4 x1 x2 S = some o) : W p l e (rmd 0) s m args below meth c H locs 0 0 (gE below args s D (mtys cI cS) (mcell g cI cS sa) mord g (some (.int o.1)) o.2) (F0 m 4 ls []) := by
  unfold fX12_bitsOf_b4 at hF
  refine lv_iload_n C.1.1 C.1.2.1 dX12_bitsOf_4 rfl (lv_at hl 1 rfl) ?_
  refine lv_if_eq (tgt := 20) C.1.1 C.1.2.1 dX12_bitsOf_5 (by decide) (fun h_z => ?_) (fun h_z => ?_)
  · rw [if_pos h_z] at hF
    exact bX12_bitsOf_20 C O X (lv_sub hl [0] rfl) hF
  · rw [if_neg h_z] at hF
    exact bX12_bitsOf_8 C O K4 X (lv_sub hl [0, 1] rfl) hF
noncomputable def fX12_bitsOf_h4 (N : Nat) : Nat → Int32 → Int32 → gS → Option (Int32 × gS)
  | 0, _, _, _ => none
  | n + 1, x1, x2, S => fX12_bitsOf_b4 N (fX12_bitsOf_h4 N n) x1 x2 S
theorem hX12_bitsOf_4 {N : Nat} {o : Int32 × gS} (C : gC p s m args meth c cX12_bitsOf 3 RX12 ((some .int)) D (mtys cI cS) mord g Am) (O : gO (mcell g cI cS sa) mord g) : ∀ (n : Nat) (x1 : Int32) (x2 : Int32) (S : gS) (H : Heap) (locs : List Loc) (ls : Array Slot), gX D (mcell g cI cS sa) mord g S s H locs → lv_has ls 3 [(1, .int x1), (2, .int x2)] → fX12_bitsOf_h4 N n x1 x2 S = some o → W p l e (rmd 0) s m args below meth c H locs 0 0 (gE below args s D (mtys cI cS) (mcell g cI cS sa) mord g (some (.int o.1)) o.2) (F0 m 4 ls []) := by
  intro n
  induction n with
  | zero =>
    intro x1 x2 S H locs ls X hl hF
    exact absurd (show (none : Option (Int32 × gS)) = some o from hF) (by simp)
  | succ n ih =>
    intro x1 x2 S H locs ls X hl hF
    have hF : fX12_bitsOf_b4 N (fX12_bitsOf_h4 N n) x1 x2 S = some o := hF
    exact bX12_bitsOf_4 C O ih X hl hF
noncomputable def fX12_bitsOf_b0 (N : Nat) (x0 : Int32) (S : gS) : Option (Int32 × gS) := fX12_bitsOf_h4 N N 0 x0 S
theorem bX12_bitsOf_0 {N : Nat} {x0 : Int32} {S : gS} {H : Heap} {locs : List Loc} {ls : Array Slot} {o : Int32 × gS} (C : gC p s m args meth c cX12_bitsOf 3 RX12 ((some .int)) D (mtys cI cS) mord g Am) (O : gO (mcell g cI cS sa) mord g) (X : gX D (mcell g cI cS sa) mord g S s H locs) (hl : lv_has ls 3 [(0, .int x0)]) (hF : fX12_bitsOf_b0 N x0 S = some o) : W p l e (rmd 0) s m args below meth c H locs 0 0 (gE below args s D (mtys cI cS) (mcell g cI cS sa) mord g (some (.int o.1)) o.2) (F0 m 0 ls []) := by
  unfold fX12_bitsOf_b0 at hF
  refine lv_iconst (v := 0) C.1.1 C.1.2.1 dX12_bitsOf_0 (by decide) ?_
  refine lv_istore_n (lv' := [(1, .int 0), (0, .int x0)]) C.1.1 C.1.2.1 dX12_bitsOf_1 rfl hl (by decide) rfl (fun ls hl => ?_)
  refine lv_iload_n C.1.1 C.1.2.1 dX12_bitsOf_2 rfl (lv_at hl 1 rfl) ?_
  refine lv_istore_n (lv' := [(2, .int x0), (1, .int 0), (0, .int x0)]) C.1.1 C.1.2.1 dX12_bitsOf_3 rfl hl (by decide) rfl (fun ls hl => ?_)
  exact hX12_bitsOf_4 C O N _ _ _ _ _ _ X (lv_sub hl [1, 0] rfl) hF
noncomputable def fX12_bitsOf (N : Nat) (x0 : Int32) (S : gS) : Option (Int32 × gS) := fX12_bitsOf_b0 N x0 S
theorem kX12_bitsOf {l : Launch} {D : va_G} {g : Nat → Nat} {cI cS : ClassId} {sa : Nat → Nat → Option Nat} {Am : (Nat → Prop) → State → Heap → Prop} (O : gO (mcell g cI cS sa) mord g) (P : gAm Am) (N : Nat) (x0 : Int32) (S : gS) (o : Int32 × gS) (hF : fX12_bitsOf N x0 S = some o) : gM l yX12_bitsOf cX12_bitsOf 3 ((some .int)) 0 D (mtys cI cS) (mcell g cI cS sa) mord g Am [.int x0] S (some (.int o.1)) o.2 :=
  gM_of O P (by decide) (Nat.le_of_ble_eq_true rfl) (fun p e s m args below meth c ls C X hl => bX12_bitsOf_0 C O X (lv_sub hl [0] rfl) hF)
-- isGrotto
noncomputable def fX12_isGrotto_b0 (N : Nat) (x1 : Int32) (S : gS) : Option (Int32 × gS) := bnd (fX12_isIn N (Int32.toInt64 x1) 0 (Int32.toInt64 (((S 5 0) - 1 : Int32))) S) fun q1 => (chk (zb q1.1) (some (q1.1, q1.2)))
theorem bX12_isGrotto_0 {N : Nat} {x1 : Int32} {S : gS} {H : Heap} {locs : List Loc} {ls : Array Slot} {o : Int32 × gS} (C : gC p s m args meth c cX12_isGrotto 2 RX12 ((some .boolean)) D (mtys cI cS) mord g Am) (O : gO (mcell g cI cS sa) mord g) (X : gX D (mcell g cI cS sa) mord g S s H locs) (hl : lv_has ls 2 [(0, .ref (g 99)), (1, .int x1)]) (hF : fX12_isGrotto_b0 N x1 S = some o) : W p l e (rmd 1) s m args below meth c H locs 0 0 (gE below args s D (mtys cI cS) (mcell g cI cS sa) mord g (some (.int o.1)) o.2) (F0 m 0 ls []) := by
  unfold fX12_isGrotto_b0 at hF
  refine lv_iload_n C.1.1 C.1.2.1 dX12_isGrotto_0 rfl (lv_at hl 1 rfl) ?_
  refine lv_i2l (v := Int32.toInt64 x1) C.1.1 C.1.2.1 dX12_isGrotto_1 rfl ?_
  refine lv_lconst (v := 0) C.1.1 C.1.2.1 dX12_isGrotto_2 (by decide) ?_
  refine lv_aload_n C.1.1 C.1.2.1 dX12_isGrotto_3 rfl (lv_at hl 0 rfl) ?_
  refine m_g5 C X dX12_isGrotto_4 ?_
  refine lv_iconst (v := 0) C.1.1 C.1.2.1 dX12_isGrotto_7 (by decide) ?_
  refine m_r5 C X (j := 0) (inb_vp (by decide)) (by decide) dX12_isGrotto_8 ?_
  refine lv_iconst (v := 1) C.1.1 C.1.2.1 dX12_isGrotto_9 (by decide) ?_
  refine lv_isub C.1.1 C.1.2.1 dX12_isGrotto_10 ?_
  refine lv_i2l (v := Int32.toInt64 (((S 5 0) - 1 : Int32))) C.1.1 C.1.2.1 dX12_isGrotto_11 rfl ?_
  obtain ⟨q1, hq1, hF⟩ := bnd_some hF
  refine g_callSi C X vX12_isIn (kX12_isIn O C.2.2.2.2.1 N (Int32.toInt64 x1) 0 (Int32.toInt64 (((S 5 0) - 1 : Int32)))  S q1 hq1) (Nat.le_of_ble_eq_true rfl) (Nat.le_of_ble_eq_true rfl) (Nat.le_of_ble_eq_true rfl) (Nat.le_of_ble_eq_true rfl) rfl hl.1 rfl (Nat.le_of_ble_eq_true rfl) dX12_isGrotto_12 (fun H locs X => ?_)
  obtain ⟨h_1, hF⟩ := chk_some hF
  cases hF
  exact g_zret C X h_1 dX12_isGrotto_15
noncomputable def fX12_isGrotto (N : Nat) (x1 : Int32) (S : gS) : Option (Int32 × gS) := fX12_isGrotto_b0 N x1 S
theorem kX12_isGrotto {l : Launch} {D : va_G} {g : Nat → Nat} {cI cS : ClassId} {sa : Nat → Nat → Option Nat} {Am : (Nat → Prop) → State → Heap → Prop} (O : gO (mcell g cI cS sa) mord g) (P : gAm Am) (N : Nat) (x1 : Int32) (S : gS) (o : Int32 × gS) (hF : fX12_isGrotto N x1 S = some o) : gM l yX12_isGrotto cX12_isGrotto 2 ((some .boolean)) 1 D (mtys cI cS) (mcell g cI cS sa) mord g Am [.ref (g 99), .int x1] S (some (.int o.1)) o.2 :=
  gM_of O P (by decide) (Nat.le_of_ble_eq_true rfl) (fun p e s m args below meth c ls C X hl => bX12_isGrotto_0 C O X (lv_sub hl [0, 1] rfl) hF)
-- isGuild
noncomputable def fX12_isGuild_b0 (N : Nat) (x1 : Int32) (S : gS) : Option (Int32 × gS) := bnd (fX12_isIn N (Int32.toInt64 x1) 0 (Int32.toInt64 (((S 5 1) - 1 : Int32))) S) fun q1 => (chk (zb q1.1) (some (q1.1, q1.2)))
theorem bX12_isGuild_0 {N : Nat} {x1 : Int32} {S : gS} {H : Heap} {locs : List Loc} {ls : Array Slot} {o : Int32 × gS} (C : gC p s m args meth c cX12_isGuild 2 RX12 ((some .boolean)) D (mtys cI cS) mord g Am) (O : gO (mcell g cI cS sa) mord g) (X : gX D (mcell g cI cS sa) mord g S s H locs) (hl : lv_has ls 2 [(0, .ref (g 99)), (1, .int x1)]) (hF : fX12_isGuild_b0 N x1 S = some o) : W p l e (rmd 1) s m args below meth c H locs 0 0 (gE below args s D (mtys cI cS) (mcell g cI cS sa) mord g (some (.int o.1)) o.2) (F0 m 0 ls []) := by
  unfold fX12_isGuild_b0 at hF
  refine lv_iload_n C.1.1 C.1.2.1 dX12_isGuild_0 rfl (lv_at hl 1 rfl) ?_
  refine lv_i2l (v := Int32.toInt64 x1) C.1.1 C.1.2.1 dX12_isGuild_1 rfl ?_
  refine lv_lconst (v := 0) C.1.1 C.1.2.1 dX12_isGuild_2 (by decide) ?_
  refine lv_aload_n C.1.1 C.1.2.1 dX12_isGuild_3 rfl (lv_at hl 0 rfl) ?_
  refine m_g5 C X dX12_isGuild_4 ?_
  refine lv_iconst (v := 1) C.1.1 C.1.2.1 dX12_isGuild_7 (by decide) ?_
  refine m_r5 C X (j := 1) (inb_vp (by decide)) (by decide) dX12_isGuild_8 ?_
  refine lv_iconst (v := 1) C.1.1 C.1.2.1 dX12_isGuild_9 (by decide) ?_
  refine lv_isub C.1.1 C.1.2.1 dX12_isGuild_10 ?_
  refine lv_i2l (v := Int32.toInt64 (((S 5 1) - 1 : Int32))) C.1.1 C.1.2.1 dX12_isGuild_11 rfl ?_
  obtain ⟨q1, hq1, hF⟩ := bnd_some hF
  refine g_callSi C X vX12_isIn (kX12_isIn O C.2.2.2.2.1 N (Int32.toInt64 x1) 0 (Int32.toInt64 (((S 5 1) - 1 : Int32)))  S q1 hq1) (Nat.le_of_ble_eq_true rfl) (Nat.le_of_ble_eq_true rfl) (Nat.le_of_ble_eq_true rfl) (Nat.le_of_ble_eq_true rfl) rfl hl.1 rfl (Nat.le_of_ble_eq_true rfl) dX12_isGuild_12 (fun H locs X => ?_)
  obtain ⟨h_1, hF⟩ := chk_some hF
  cases hF
  exact g_zret C X h_1 dX12_isGuild_15
noncomputable def fX12_isGuild (N : Nat) (x1 : Int32) (S : gS) : Option (Int32 × gS) := fX12_isGuild_b0 N x1 S
theorem kX12_isGuild {l : Launch} {D : va_G} {g : Nat → Nat} {cI cS : ClassId} {sa : Nat → Nat → Option Nat} {Am : (Nat → Prop) → State → Heap → Prop} (O : gO (mcell g cI cS sa) mord g) (P : gAm Am) (N : Nat) (x1 : Int32) (S : gS) (o : Int32 × gS) (hF : fX12_isGuild N x1 S = some o) : gM l yX12_isGuild cX12_isGuild 2 ((some .boolean)) 1 D (mtys cI cS) (mcell g cI cS sa) mord g Am [.ref (g 99), .int x1] S (some (.int o.1)) o.2 :=
  gM_of O P (by decide) (Nat.le_of_ble_eq_true rfl) (fun p e s m args below meth c ls C X hl => bX12_isGuild_0 C O X (lv_sub hl [0, 1] rfl) hF)
-- feed
noncomputable def fX12_feed_b120 (N : Nat) (S : gS) : Option (Int32 × gS) := some (S 99 20, S)
theorem bX12_feed_120 {N : Nat} {S : gS} {H : Heap} {locs : List Loc} {ls : Array Slot} {o : Int32 × gS} (C : gC p s m args meth c cX12_feed 8 RX12 ((some .int)) D (mtys cI cS) mord g Am) (O : gO (mcell g cI cS sa) mord g) (X : gX D (mcell g cI cS sa) mord g S s H locs) (hl : lv_has ls 8 [(0, .ref (g 99))]) (hF : fX12_feed_b120 N S = some o) : W p l e (rmd 0) s m args below meth c H locs 0 0 (gE below args s D (mtys cI cS) (mcell g cI cS sa) mord g (some (.int o.1)) o.2) (F0 m 120 ls []) := by
  unfold fX12_feed_b120 at hF
  refine lv_aload_n C.1.1 C.1.2.1 dX12_feed_120 rfl (lv_at hl 0 rfl) ?_
  refine m_g20 C X dX12_feed_121 ?_
  cases hF
  exact g_iret C X dX12_feed_124
noncomputable def fX12_feed_b76 (N : Nat) (r23 : Int32 → Int32 → Int32 → Int32 → Int32 → Int32 → gS → Option (Int32 × gS)) (x1 : Int32) (x2 : Int32) (x3 : Int32) (x4 : Int32) (x5 : Int32) (x6 : Int32) (t0 : Int32) (S : gS) : Option (Int32 × gS) := chk (inb (S 99 20) (700)) (lt (sU S 19 (Int32.toNatClampNeg (S 99 20)) ((((t0 >>> (((24 - ((8 * ((x6 - x6 / 4 * 4 : Int32)) : Int32)) : Int32)) &&& 31) : Int32)) &&& 255 : Int32))) fun S1 => (lt (sU S1 99 20 (((S1 99 20) + 1 : Int32))) fun S2 => (r23 x1 x2 x3 x4 x5 ((x6 + 1 : Int32)) S2)))
theorem bX12_feed_76 {N : Nat} {r23 : Int32 → Int32 → Int32 → Int32 → Int32 → Int32 → gS → Option (Int32 × gS)} {x1 : Int32} {x2 : Int32} {x3 : Int32} {x4 : Int32} {x5 : Int32} {x6 : Int32} {t0 : Int32} {S : gS} {H : Heap} {locs : List Loc} {ls : Array Slot} {o : Int32 × gS} (C : gC p s m args meth c cX12_feed 8 RX12 ((some .int)) D (mtys cI cS) mord g Am) (O : gO (mcell g cI cS sa) mord g) (K23 : ∀ (x1 : Int32) (x2 : Int32) (x3 : Int32) (x4 : Int32) (x5 : Int32) (x6 : Int32) (S : gS) (H : Heap) (locs : List Loc) (ls : Array Slot), gX D (mcell g cI cS sa) mord g S s H locs → lv_has ls 8 [(0, .ref (g 99)), (1, .int x1), (2, .int x2), (3, .int x3), (4, .int x4), (5, .int x5), (6, .int x6)] → r23 x1 x2 x3 x4 x5 x6 S = some o → W p l e (rmd 0) s m args below meth c H locs 0 0 (gE below args s D (mtys cI cS) (mcell g cI cS sa) mord g (some (.int o.1)) o.2) (F0 m 23 ls [])) (X : gX D (mcell g cI cS sa) mord g S s H locs) (hl : lv_has ls 8 [(0, .ref (g 99)), (1, .int x1), (2, .int x2), (3, .int x3), (4, .int x4), (5, .int x5), (6, .int x6)]) (hF : fX12_feed_b76 N r23 x1 x2 x3 x4 x5 x6 t0 S = some o) : W p l e (rmd 0) s m args below meth c H locs 0 0 (gE below args s D (mtys cI cS) (mcell g cI cS sa) mord g (some (.int o.1)) o.2) (F0 m 76 ls [.int t0]) := by
  unfold fX12_feed_b76 at hF
  refine lv_istore (lv' := [(7, .int t0), (0, .ref (g 99)), (1, .int x1), (2, .int x2), (3, .int x3), (4, .int x4), (5, .int x5), (6, .int x6)]) C.1.1 C.1.2.1 dX12_feed_76 hl (by decide) rfl (fun ls hl => ?_)
  refine lv_aload_n C.1.1 C.1.2.1 dX12_feed_78 rfl (lv_at hl 1 rfl) ?_
  refine m_g19 C X dX12_feed_79 ?_
  refine lv_aload_n C.1.1 C.1.2.1 dX12_feed_82 rfl (lv_at hl 1 rfl) ?_
  refine m_g20 C X dX12_feed_83 ?_
  refine lv_iload C.1.1 C.1.2.1 dX12_feed_86 (lv_at hl 0 rfl) ?_
  refine lv_bipush (v := 24) C.1.1 C.1.2.1 dX12_feed_88 (by decide) ?_
  refine lv_bipush (v := 8) C.1.1 C.1.2.1 dX12_feed_90 (by decide) ?_
  refine lv_iload C.1.1 C.1.2.1 dX12_feed_92 (lv_at hl 7 rfl) ?_
  refine lv_iconst (v := 4) C.1.1 C.1.2.1 dX12_feed_94 (by decide) ?_
  refine lv_irem C.1.1 C.1.2.1 dX12_feed_95 (by decide) ?_
  refine lv_imul C.1.1 C.1.2.1 dX12_feed_96 ?_
  refine lv_isub C.1.1 C.1.2.1 dX12_feed_97 ?_
  refine lv_ishr C.1.1 C.1.2.1 dX12_feed_98 ?_
  refine lv_sipush (v := 255) C.1.1 C.1.2.1 dX12_feed_99 (by decide) ?_
  refine lv_iand C.1.1 C.1.2.1 dX12_feed_102 ?_
  obtain ⟨h_1, hF⟩ := chk_some hF
  obtain ⟨S1, eS1, hF⟩ := lt_some hF
  refine m_w19 C O X  (inb_vp h_1) rfl eS1 dX12_feed_103 (fun H locs X => ?_)
  refine lv_aload_n C.1.1 C.1.2.1 dX12_feed_104 rfl (lv_at hl 1 rfl) ?_
  refine lv_dup C.1.1 C.1.2.1 dX12_feed_105 rfl ?_
  refine m_g20 C X dX12_feed_106 ?_
  refine lv_iconst (v := 1) C.1.1 C.1.2.1 dX12_feed_109 (by decide) ?_
  refine lv_iadd C.1.1 C.1.2.1 dX12_feed_110 ?_
  obtain ⟨S2, eS2, hF⟩ := lt_some hF
  refine m_p20 C O X eS2 dX12_feed_111 (fun H locs X => ?_)
  refine lv_iinc (v := (x6 + 1 : Int32)) (lv' := [(6, .int ((x6 + 1 : Int32))), (7, .int t0), (0, .ref (g 99)), (1, .int x1), (2, .int x2), (3, .int x3), (4, .int x4), (5, .int x5)]) C.1.1 C.1.2.1 dX12_feed_114 hl (k := 7) rfl rfl (by decide) rfl (fun ls hl => ?_)
  refine lv_goto (tgt := 23) C.1.1 C.1.2.1 dX12_feed_117 (by decide) ?_
  exact K23 _ _ _ _ _ _ _ _ _ _ X (lv_sub hl [2, 3, 4, 5, 6, 7, 0] rfl) hF
noncomputable def fX12_feed_b74 (N : Nat) (r23 : Int32 → Int32 → Int32 → Int32 → Int32 → Int32 → gS → Option (Int32 × gS)) (x1 : Int32) (x2 : Int32) (x3 : Int32) (x4 : Int32) (x5 : Int32) (x6 : Int32) (S : gS) : Option (Int32 × gS) := fX12_feed_b76 N r23 x1 x2 x3 x4 x5 x6 x5 S
theorem bX12_feed_74 {N : Nat} {r23 : Int32 → Int32 → Int32 → Int32 → Int32 → Int32 → gS → Option (Int32 × gS)} {x1 : Int32} {x2 : Int32} {x3 : Int32} {x4 : Int32} {x5 : Int32} {x6 : Int32} {S : gS} {H : Heap} {locs : List Loc} {ls : Array Slot} {o : Int32 × gS} (C : gC p s m args meth c cX12_feed 8 RX12 ((some .int)) D (mtys cI cS) mord g Am) (O : gO (mcell g cI cS sa) mord g) (K23 : ∀ (x1 : Int32) (x2 : Int32) (x3 : Int32) (x4 : Int32) (x5 : Int32) (x6 : Int32) (S : gS) (H : Heap) (locs : List Loc) (ls : Array Slot), gX D (mcell g cI cS sa) mord g S s H locs → lv_has ls 8 [(0, .ref (g 99)), (1, .int x1), (2, .int x2), (3, .int x3), (4, .int x4), (5, .int x5), (6, .int x6)] → r23 x1 x2 x3 x4 x5 x6 S = some o → W p l e (rmd 0) s m args below meth c H locs 0 0 (gE below args s D (mtys cI cS) (mcell g cI cS sa) mord g (some (.int o.1)) o.2) (F0 m 23 ls [])) (X : gX D (mcell g cI cS sa) mord g S s H locs) (hl : lv_has ls 8 [(0, .ref (g 99)), (1, .int x1), (2, .int x2), (3, .int x3), (4, .int x4), (5, .int x5), (6, .int x6)]) (hF : fX12_feed_b74 N r23 x1 x2 x3 x4 x5 x6 S = some o) : W p l e (rmd 0) s m args below meth c H locs 0 0 (gE below args s D (mtys cI cS) (mcell g cI cS sa) mord g (some (.int o.1)) o.2) (F0 m 74 ls []) := by
  unfold fX12_feed_b74 at hF
  refine lv_iload C.1.1 C.1.2.1 dX12_feed_74 (lv_at hl 5 rfl) ?_
  exact bX12_feed_76 C O K23 X (lv_sub hl [0, 1, 2, 3, 4, 5, 6] rfl) hF
noncomputable def fX12_feed_b69 (N : Nat) (r23 : Int32 → Int32 → Int32 → Int32 → Int32 → Int32 → gS → Option (Int32 × gS)) (x1 : Int32) (x2 : Int32) (x3 : Int32) (x4 : Int32) (x5 : Int32) (x6 : Int32) (S : gS) : Option (Int32 × gS) := fX12_feed_b76 N r23 x1 x2 x3 x4 x5 x6 x4 S
theorem bX12_feed_69 {N : Nat} {r23 : Int32 → Int32 → Int32 → Int32 → Int32 → Int32 → gS → Option (Int32 × gS)} {x1 : Int32} {x2 : Int32} {x3 : Int32} {x4 : Int32} {x5 : Int32} {x6 : Int32} {S : gS} {H : Heap} {locs : List Loc} {ls : Array Slot} {o : Int32 × gS} (C : gC p s m args meth c cX12_feed 8 RX12 ((some .int)) D (mtys cI cS) mord g Am) (O : gO (mcell g cI cS sa) mord g) (K23 : ∀ (x1 : Int32) (x2 : Int32) (x3 : Int32) (x4 : Int32) (x5 : Int32) (x6 : Int32) (S : gS) (H : Heap) (locs : List Loc) (ls : Array Slot), gX D (mcell g cI cS sa) mord g S s H locs → lv_has ls 8 [(0, .ref (g 99)), (1, .int x1), (2, .int x2), (3, .int x3), (4, .int x4), (5, .int x5), (6, .int x6)] → r23 x1 x2 x3 x4 x5 x6 S = some o → W p l e (rmd 0) s m args below meth c H locs 0 0 (gE below args s D (mtys cI cS) (mcell g cI cS sa) mord g (some (.int o.1)) o.2) (F0 m 23 ls [])) (X : gX D (mcell g cI cS sa) mord g S s H locs) (hl : lv_has ls 8 [(0, .ref (g 99)), (1, .int x1), (2, .int x2), (3, .int x3), (4, .int x4), (5, .int x5), (6, .int x6)]) (hF : fX12_feed_b69 N r23 x1 x2 x3 x4 x5 x6 S = some o) : W p l e (rmd 0) s m args below meth c H locs 0 0 (gE below args s D (mtys cI cS) (mcell g cI cS sa) mord g (some (.int o.1)) o.2) (F0 m 69 ls []) := by
  unfold fX12_feed_b69 at hF
  refine lv_iload C.1.1 C.1.2.1 dX12_feed_69 (lv_at hl 4 rfl) ?_
  refine lv_goto (tgt := 76) C.1.1 C.1.2.1 dX12_feed_71 (by decide) ?_
  exact bX12_feed_76 C O K23 X (lv_sub hl [0, 1, 2, 3, 4, 5, 6] rfl) hF
noncomputable def fX12_feed_b62 (N : Nat) (r23 : Int32 → Int32 → Int32 → Int32 → Int32 → Int32 → gS → Option (Int32 × gS)) (x1 : Int32) (x2 : Int32) (x3 : Int32) (x4 : Int32) (x5 : Int32) (x6 : Int32) (S : gS) : Option (Int32 × gS) := if 16 ≤ x6 then fX12_feed_b74 N r23 x1 x2 x3 x4 x5 x6 S else fX12_feed_b69 N r23 x1 x2 x3 x4 x5 x6 S
theorem bX12_feed_62 {N : Nat} {r23 : Int32 → Int32 → Int32 → Int32 → Int32 → Int32 → gS → Option (Int32 × gS)} {x1 : Int32} {x2 : Int32} {x3 : Int32} {x4 : Int32} {x5 : Int32} {x6 : Int32} {S : gS} {H : Heap} {locs : List Loc} {ls : Array Slot} {o : Int32 × gS} (C : gC p s m args meth c cX12_feed 8 RX12 ((some .int)) D (mtys cI cS) mord g Am) (O : gO (mcell g cI cS sa) mord g) (K23 : ∀ (x1 : Int32) (x2 : Int32) (x3 : Int32) (x4 : Int32) (x5 : Int32) (x6 : Int32) (S : gS) (H : Heap) (locs : List Loc) (ls : Array Slot), gX D (mcell g cI cS sa) mord g S s H locs → lv_has ls 8 [(0, .ref (g 99)), (1, .int x1), (2, .int x2), (3, .int x3), (4, .int x4), (5, .int x5), (6, .int x6)] → r23 x1 x2 x3 x4 x5 x6 S = some o → W p l e (rmd 0) s m args below meth c H locs 0 0 (gE below args s D (mtys cI cS) (mcell g cI cS sa) mord g (some (.int o.1)) o.2) (F0 m 23 ls [])) (X : gX D (mcell g cI cS sa) mord g S s H locs) (hl : lv_has ls 8 [(0, .ref (g 99)), (1, .int x1), (2, .int x2), (3, .int x3), (4, .int x4), (5, .int x5), (6, .int x6)]) (hF : fX12_feed_b62 N r23 x1 x2 x3 x4 x5 x6 S = some o) : W p l e (rmd 0) s m args below meth c H locs 0 0 (gE below args s D (mtys cI cS) (mcell g cI cS sa) mord g (some (.int o.1)) o.2) (F0 m 62 ls []) := by
  unfold fX12_feed_b62 at hF
  refine lv_iload C.1.1 C.1.2.1 dX12_feed_62 (lv_at hl 6 rfl) ?_
  refine lv_bipush (v := 16) C.1.1 C.1.2.1 dX12_feed_64 (by decide) ?_
  refine lv_icmp_ge (tgt := 74) C.1.1 C.1.2.1 dX12_feed_66 (by decide) (fun h_z => ?_) (fun h_z => ?_)
  · rw [if_pos h_z] at hF
    exact bX12_feed_74 C O K23 X (lv_sub hl [0, 1, 2, 3, 4, 5, 6] rfl) hF
  · rw [if_neg h_z] at hF
    exact bX12_feed_69 C O K23 X (lv_sub hl [0, 1, 2, 3, 4, 5, 6] rfl) hF
noncomputable def fX12_feed_b58 (N : Nat) (r23 : Int32 → Int32 → Int32 → Int32 → Int32 → Int32 → gS → Option (Int32 × gS)) (x1 : Int32) (x2 : Int32) (x3 : Int32) (x4 : Int32) (x5 : Int32) (x6 : Int32) (S : gS) : Option (Int32 × gS) := fX12_feed_b76 N r23 x1 x2 x3 x4 x5 x6 x3 S
theorem bX12_feed_58 {N : Nat} {r23 : Int32 → Int32 → Int32 → Int32 → Int32 → Int32 → gS → Option (Int32 × gS)} {x1 : Int32} {x2 : Int32} {x3 : Int32} {x4 : Int32} {x5 : Int32} {x6 : Int32} {S : gS} {H : Heap} {locs : List Loc} {ls : Array Slot} {o : Int32 × gS} (C : gC p s m args meth c cX12_feed 8 RX12 ((some .int)) D (mtys cI cS) mord g Am) (O : gO (mcell g cI cS sa) mord g) (K23 : ∀ (x1 : Int32) (x2 : Int32) (x3 : Int32) (x4 : Int32) (x5 : Int32) (x6 : Int32) (S : gS) (H : Heap) (locs : List Loc) (ls : Array Slot), gX D (mcell g cI cS sa) mord g S s H locs → lv_has ls 8 [(0, .ref (g 99)), (1, .int x1), (2, .int x2), (3, .int x3), (4, .int x4), (5, .int x5), (6, .int x6)] → r23 x1 x2 x3 x4 x5 x6 S = some o → W p l e (rmd 0) s m args below meth c H locs 0 0 (gE below args s D (mtys cI cS) (mcell g cI cS sa) mord g (some (.int o.1)) o.2) (F0 m 23 ls [])) (X : gX D (mcell g cI cS sa) mord g S s H locs) (hl : lv_has ls 8 [(0, .ref (g 99)), (1, .int x1), (2, .int x2), (3, .int x3), (4, .int x4), (5, .int x5), (6, .int x6)]) (hF : fX12_feed_b58 N r23 x1 x2 x3 x4 x5 x6 S = some o) : W p l e (rmd 0) s m args below meth c H locs 0 0 (gE below args s D (mtys cI cS) (mcell g cI cS sa) mord g (some (.int o.1)) o.2) (F0 m 58 ls []) := by
  unfold fX12_feed_b58 at hF
  refine lv_iload_n C.1.1 C.1.2.1 dX12_feed_58 rfl (lv_at hl 3 rfl) ?_
  refine lv_goto (tgt := 76) C.1.1 C.1.2.1 dX12_feed_59 (by decide) ?_
  exact bX12_feed_76 C O K23 X (lv_sub hl [0, 1, 2, 3, 4, 5, 6] rfl) hF
noncomputable def fX12_feed_b51 (N : Nat) (r23 : Int32 → Int32 → Int32 → Int32 → Int32 → Int32 → gS → Option (Int32 × gS)) (x1 : Int32) (x2 : Int32) (x3 : Int32) (x4 : Int32) (x5 : Int32) (x6 : Int32) (S : gS) : Option (Int32 × gS) := if 12 ≤ x6 then fX12_feed_b62 N r23 x1 x2 x3 x4 x5 x6 S else fX12_feed_b58 N r23 x1 x2 x3 x4 x5 x6 S
theorem bX12_feed_51 {N : Nat} {r23 : Int32 → Int32 → Int32 → Int32 → Int32 → Int32 → gS → Option (Int32 × gS)} {x1 : Int32} {x2 : Int32} {x3 : Int32} {x4 : Int32} {x5 : Int32} {x6 : Int32} {S : gS} {H : Heap} {locs : List Loc} {ls : Array Slot} {o : Int32 × gS} (C : gC p s m args meth c cX12_feed 8 RX12 ((some .int)) D (mtys cI cS) mord g Am) (O : gO (mcell g cI cS sa) mord g) (K23 : ∀ (x1 : Int32) (x2 : Int32) (x3 : Int32) (x4 : Int32) (x5 : Int32) (x6 : Int32) (S : gS) (H : Heap) (locs : List Loc) (ls : Array Slot), gX D (mcell g cI cS sa) mord g S s H locs → lv_has ls 8 [(0, .ref (g 99)), (1, .int x1), (2, .int x2), (3, .int x3), (4, .int x4), (5, .int x5), (6, .int x6)] → r23 x1 x2 x3 x4 x5 x6 S = some o → W p l e (rmd 0) s m args below meth c H locs 0 0 (gE below args s D (mtys cI cS) (mcell g cI cS sa) mord g (some (.int o.1)) o.2) (F0 m 23 ls [])) (X : gX D (mcell g cI cS sa) mord g S s H locs) (hl : lv_has ls 8 [(0, .ref (g 99)), (1, .int x1), (2, .int x2), (3, .int x3), (4, .int x4), (5, .int x5), (6, .int x6)]) (hF : fX12_feed_b51 N r23 x1 x2 x3 x4 x5 x6 S = some o) : W p l e (rmd 0) s m args below meth c H locs 0 0 (gE below args s D (mtys cI cS) (mcell g cI cS sa) mord g (some (.int o.1)) o.2) (F0 m 51 ls []) := by
  unfold fX12_feed_b51 at hF
  refine lv_iload C.1.1 C.1.2.1 dX12_feed_51 (lv_at hl 6 rfl) ?_
  refine lv_bipush (v := 12) C.1.1 C.1.2.1 dX12_feed_53 (by decide) ?_
  refine lv_icmp_ge (tgt := 62) C.1.1 C.1.2.1 dX12_feed_55 (by decide) (fun h_z => ?_) (fun h_z => ?_)
  · rw [if_pos h_z] at hF
    exact bX12_feed_62 C O K23 X (lv_sub hl [0, 1, 2, 3, 4, 5, 6] rfl) hF
  · rw [if_neg h_z] at hF
    exact bX12_feed_58 C O K23 X (lv_sub hl [0, 1, 2, 3, 4, 5, 6] rfl) hF
noncomputable def fX12_feed_b47 (N : Nat) (r23 : Int32 → Int32 → Int32 → Int32 → Int32 → Int32 → gS → Option (Int32 × gS)) (x1 : Int32) (x2 : Int32) (x3 : Int32) (x4 : Int32) (x5 : Int32) (x6 : Int32) (S : gS) : Option (Int32 × gS) := fX12_feed_b76 N r23 x1 x2 x3 x4 x5 x6 x2 S
theorem bX12_feed_47 {N : Nat} {r23 : Int32 → Int32 → Int32 → Int32 → Int32 → Int32 → gS → Option (Int32 × gS)} {x1 : Int32} {x2 : Int32} {x3 : Int32} {x4 : Int32} {x5 : Int32} {x6 : Int32} {S : gS} {H : Heap} {locs : List Loc} {ls : Array Slot} {o : Int32 × gS} (C : gC p s m args meth c cX12_feed 8 RX12 ((some .int)) D (mtys cI cS) mord g Am) (O : gO (mcell g cI cS sa) mord g) (K23 : ∀ (x1 : Int32) (x2 : Int32) (x3 : Int32) (x4 : Int32) (x5 : Int32) (x6 : Int32) (S : gS) (H : Heap) (locs : List Loc) (ls : Array Slot), gX D (mcell g cI cS sa) mord g S s H locs → lv_has ls 8 [(0, .ref (g 99)), (1, .int x1), (2, .int x2), (3, .int x3), (4, .int x4), (5, .int x5), (6, .int x6)] → r23 x1 x2 x3 x4 x5 x6 S = some o → W p l e (rmd 0) s m args below meth c H locs 0 0 (gE below args s D (mtys cI cS) (mcell g cI cS sa) mord g (some (.int o.1)) o.2) (F0 m 23 ls [])) (X : gX D (mcell g cI cS sa) mord g S s H locs) (hl : lv_has ls 8 [(0, .ref (g 99)), (1, .int x1), (2, .int x2), (3, .int x3), (4, .int x4), (5, .int x5), (6, .int x6)]) (hF : fX12_feed_b47 N r23 x1 x2 x3 x4 x5 x6 S = some o) : W p l e (rmd 0) s m args below meth c H locs 0 0 (gE below args s D (mtys cI cS) (mcell g cI cS sa) mord g (some (.int o.1)) o.2) (F0 m 47 ls []) := by
  unfold fX12_feed_b47 at hF
  refine lv_iload_n C.1.1 C.1.2.1 dX12_feed_47 rfl (lv_at hl 2 rfl) ?_
  refine lv_goto (tgt := 76) C.1.1 C.1.2.1 dX12_feed_48 (by decide) ?_
  exact bX12_feed_76 C O K23 X (lv_sub hl [0, 1, 2, 3, 4, 5, 6] rfl) hF
noncomputable def fX12_feed_b40 (N : Nat) (r23 : Int32 → Int32 → Int32 → Int32 → Int32 → Int32 → gS → Option (Int32 × gS)) (x1 : Int32) (x2 : Int32) (x3 : Int32) (x4 : Int32) (x5 : Int32) (x6 : Int32) (S : gS) : Option (Int32 × gS) := if 8 ≤ x6 then fX12_feed_b51 N r23 x1 x2 x3 x4 x5 x6 S else fX12_feed_b47 N r23 x1 x2 x3 x4 x5 x6 S
theorem bX12_feed_40 {N : Nat} {r23 : Int32 → Int32 → Int32 → Int32 → Int32 → Int32 → gS → Option (Int32 × gS)} {x1 : Int32} {x2 : Int32} {x3 : Int32} {x4 : Int32} {x5 : Int32} {x6 : Int32} {S : gS} {H : Heap} {locs : List Loc} {ls : Array Slot} {o : Int32 × gS} (C : gC p s m args meth c cX12_feed 8 RX12 ((some .int)) D (mtys cI cS) mord g Am) (O : gO (mcell g cI cS sa) mord g) (K23 : ∀ (x1 : Int32) (x2 : Int32) (x3 : Int32) (x4 : Int32) (x5 : Int32) (x6 : Int32) (S : gS) (H : Heap) (locs : List Loc) (ls : Array Slot), gX D (mcell g cI cS sa) mord g S s H locs → lv_has ls 8 [(0, .ref (g 99)), (1, .int x1), (2, .int x2), (3, .int x3), (4, .int x4), (5, .int x5), (6, .int x6)] → r23 x1 x2 x3 x4 x5 x6 S = some o → W p l e (rmd 0) s m args below meth c H locs 0 0 (gE below args s D (mtys cI cS) (mcell g cI cS sa) mord g (some (.int o.1)) o.2) (F0 m 23 ls [])) (X : gX D (mcell g cI cS sa) mord g S s H locs) (hl : lv_has ls 8 [(0, .ref (g 99)), (1, .int x1), (2, .int x2), (3, .int x3), (4, .int x4), (5, .int x5), (6, .int x6)]) (hF : fX12_feed_b40 N r23 x1 x2 x3 x4 x5 x6 S = some o) : W p l e (rmd 0) s m args below meth c H locs 0 0 (gE below args s D (mtys cI cS) (mcell g cI cS sa) mord g (some (.int o.1)) o.2) (F0 m 40 ls []) := by
  unfold fX12_feed_b40 at hF
  refine lv_iload C.1.1 C.1.2.1 dX12_feed_40 (lv_at hl 6 rfl) ?_
  refine lv_bipush (v := 8) C.1.1 C.1.2.1 dX12_feed_42 (by decide) ?_
  refine lv_icmp_ge (tgt := 51) C.1.1 C.1.2.1 dX12_feed_44 (by decide) (fun h_z => ?_) (fun h_z => ?_)
  · rw [if_pos h_z] at hF
    exact bX12_feed_51 C O K23 X (lv_sub hl [0, 1, 2, 3, 4, 5, 6] rfl) hF
  · rw [if_neg h_z] at hF
    exact bX12_feed_47 C O K23 X (lv_sub hl [0, 1, 2, 3, 4, 5, 6] rfl) hF
noncomputable def fX12_feed_b36 (N : Nat) (r23 : Int32 → Int32 → Int32 → Int32 → Int32 → Int32 → gS → Option (Int32 × gS)) (x1 : Int32) (x2 : Int32) (x3 : Int32) (x4 : Int32) (x5 : Int32) (x6 : Int32) (S : gS) : Option (Int32 × gS) := fX12_feed_b76 N r23 x1 x2 x3 x4 x5 x6 x1 S
theorem bX12_feed_36 {N : Nat} {r23 : Int32 → Int32 → Int32 → Int32 → Int32 → Int32 → gS → Option (Int32 × gS)} {x1 : Int32} {x2 : Int32} {x3 : Int32} {x4 : Int32} {x5 : Int32} {x6 : Int32} {S : gS} {H : Heap} {locs : List Loc} {ls : Array Slot} {o : Int32 × gS} (C : gC p s m args meth c cX12_feed 8 RX12 ((some .int)) D (mtys cI cS) mord g Am) (O : gO (mcell g cI cS sa) mord g) (K23 : ∀ (x1 : Int32) (x2 : Int32) (x3 : Int32) (x4 : Int32) (x5 : Int32) (x6 : Int32) (S : gS) (H : Heap) (locs : List Loc) (ls : Array Slot), gX D (mcell g cI cS sa) mord g S s H locs → lv_has ls 8 [(0, .ref (g 99)), (1, .int x1), (2, .int x2), (3, .int x3), (4, .int x4), (5, .int x5), (6, .int x6)] → r23 x1 x2 x3 x4 x5 x6 S = some o → W p l e (rmd 0) s m args below meth c H locs 0 0 (gE below args s D (mtys cI cS) (mcell g cI cS sa) mord g (some (.int o.1)) o.2) (F0 m 23 ls [])) (X : gX D (mcell g cI cS sa) mord g S s H locs) (hl : lv_has ls 8 [(0, .ref (g 99)), (1, .int x1), (2, .int x2), (3, .int x3), (4, .int x4), (5, .int x5), (6, .int x6)]) (hF : fX12_feed_b36 N r23 x1 x2 x3 x4 x5 x6 S = some o) : W p l e (rmd 0) s m args below meth c H locs 0 0 (gE below args s D (mtys cI cS) (mcell g cI cS sa) mord g (some (.int o.1)) o.2) (F0 m 36 ls []) := by
  unfold fX12_feed_b36 at hF
  refine lv_iload_n C.1.1 C.1.2.1 dX12_feed_36 rfl (lv_at hl 1 rfl) ?_
  refine lv_goto (tgt := 76) C.1.1 C.1.2.1 dX12_feed_37 (by decide) ?_
  exact bX12_feed_76 C O K23 X (lv_sub hl [0, 1, 2, 3, 4, 5, 6] rfl) hF
noncomputable def fX12_feed_b30 (N : Nat) (r23 : Int32 → Int32 → Int32 → Int32 → Int32 → Int32 → gS → Option (Int32 × gS)) (x1 : Int32) (x2 : Int32) (x3 : Int32) (x4 : Int32) (x5 : Int32) (x6 : Int32) (S : gS) : Option (Int32 × gS) := if 4 ≤ x6 then fX12_feed_b40 N r23 x1 x2 x3 x4 x5 x6 S else fX12_feed_b36 N r23 x1 x2 x3 x4 x5 x6 S
theorem bX12_feed_30 {N : Nat} {r23 : Int32 → Int32 → Int32 → Int32 → Int32 → Int32 → gS → Option (Int32 × gS)} {x1 : Int32} {x2 : Int32} {x3 : Int32} {x4 : Int32} {x5 : Int32} {x6 : Int32} {S : gS} {H : Heap} {locs : List Loc} {ls : Array Slot} {o : Int32 × gS} (C : gC p s m args meth c cX12_feed 8 RX12 ((some .int)) D (mtys cI cS) mord g Am) (O : gO (mcell g cI cS sa) mord g) (K23 : ∀ (x1 : Int32) (x2 : Int32) (x3 : Int32) (x4 : Int32) (x5 : Int32) (x6 : Int32) (S : gS) (H : Heap) (locs : List Loc) (ls : Array Slot), gX D (mcell g cI cS sa) mord g S s H locs → lv_has ls 8 [(0, .ref (g 99)), (1, .int x1), (2, .int x2), (3, .int x3), (4, .int x4), (5, .int x5), (6, .int x6)] → r23 x1 x2 x3 x4 x5 x6 S = some o → W p l e (rmd 0) s m args below meth c H locs 0 0 (gE below args s D (mtys cI cS) (mcell g cI cS sa) mord g (some (.int o.1)) o.2) (F0 m 23 ls [])) (X : gX D (mcell g cI cS sa) mord g S s H locs) (hl : lv_has ls 8 [(0, .ref (g 99)), (1, .int x1), (2, .int x2), (3, .int x3), (4, .int x4), (5, .int x5), (6, .int x6)]) (hF : fX12_feed_b30 N r23 x1 x2 x3 x4 x5 x6 S = some o) : W p l e (rmd 0) s m args below meth c H locs 0 0 (gE below args s D (mtys cI cS) (mcell g cI cS sa) mord g (some (.int o.1)) o.2) (F0 m 30 ls []) := by
  unfold fX12_feed_b30 at hF
  refine lv_iload C.1.1 C.1.2.1 dX12_feed_30 (lv_at hl 6 rfl) ?_
  refine lv_iconst (v := 4) C.1.1 C.1.2.1 dX12_feed_32 (by decide) ?_
  refine lv_icmp_ge (tgt := 40) C.1.1 C.1.2.1 dX12_feed_33 (by decide) (fun h_z => ?_) (fun h_z => ?_)
  · rw [if_pos h_z] at hF
    exact bX12_feed_40 C O K23 X (lv_sub hl [0, 1, 2, 3, 4, 5, 6] rfl) hF
  · rw [if_neg h_z] at hF
    exact bX12_feed_36 C O K23 X (lv_sub hl [0, 1, 2, 3, 4, 5, 6] rfl) hF
noncomputable def fX12_feed_b23 (N : Nat) (r23 : Int32 → Int32 → Int32 → Int32 → Int32 → Int32 → gS → Option (Int32 × gS)) (x1 : Int32) (x2 : Int32) (x3 : Int32) (x4 : Int32) (x5 : Int32) (x6 : Int32) (S : gS) : Option (Int32 × gS) := if 20 ≤ x6 then fX12_feed_b120 N S else fX12_feed_b30 N r23 x1 x2 x3 x4 x5 x6 S
theorem bX12_feed_23 {N : Nat} {r23 : Int32 → Int32 → Int32 → Int32 → Int32 → Int32 → gS → Option (Int32 × gS)} {x1 : Int32} {x2 : Int32} {x3 : Int32} {x4 : Int32} {x5 : Int32} {x6 : Int32} {S : gS} {H : Heap} {locs : List Loc} {ls : Array Slot} {o : Int32 × gS} (C : gC p s m args meth c cX12_feed 8 RX12 ((some .int)) D (mtys cI cS) mord g Am) (O : gO (mcell g cI cS sa) mord g) (K23 : ∀ (x1 : Int32) (x2 : Int32) (x3 : Int32) (x4 : Int32) (x5 : Int32) (x6 : Int32) (S : gS) (H : Heap) (locs : List Loc) (ls : Array Slot), gX D (mcell g cI cS sa) mord g S s H locs → lv_has ls 8 [(0, .ref (g 99)), (1, .int x1), (2, .int x2), (3, .int x3), (4, .int x4), (5, .int x5), (6, .int x6)] → r23 x1 x2 x3 x4 x5 x6 S = some o → W p l e (rmd 0) s m args below meth c H locs 0 0 (gE below args s D (mtys cI cS) (mcell g cI cS sa) mord g (some (.int o.1)) o.2) (F0 m 23 ls [])) (X : gX D (mcell g cI cS sa) mord g S s H locs) (hl : lv_has ls 8 [(0, .ref (g 99)), (1, .int x1), (2, .int x2), (3, .int x3), (4, .int x4), (5, .int x5), (6, .int x6)]) (hF : fX12_feed_b23 N r23 x1 x2 x3 x4 x5 x6 S = some o) : W p l e (rmd 0) s m args below meth c H locs 0 0 (gE below args s D (mtys cI cS) (mcell g cI cS sa) mord g (some (.int o.1)) o.2) (F0 m 23 ls []) := by
  unfold fX12_feed_b23 at hF
  refine lv_iload C.1.1 C.1.2.1 dX12_feed_23 (lv_at hl 6 rfl) ?_
  refine lv_bipush (v := 20) C.1.1 C.1.2.1 dX12_feed_25 (by decide) ?_
  refine lv_icmp_ge (tgt := 120) C.1.1 C.1.2.1 dX12_feed_27 (by decide) (fun h_z => ?_) (fun h_z => ?_)
  · rw [if_pos h_z] at hF
    exact bX12_feed_120 C O X (lv_sub hl [0] rfl) hF
  · rw [if_neg h_z] at hF
    exact bX12_feed_30 C O K23 X (lv_sub hl [0, 1, 2, 3, 4, 5, 6] rfl) hF
noncomputable def fX12_feed_h23 (N : Nat) : Nat → Int32 → Int32 → Int32 → Int32 → Int32 → Int32 → gS → Option (Int32 × gS)
  | 0, _, _, _, _, _, _, _ => none
  | n + 1, x1, x2, x3, x4, x5, x6, S => fX12_feed_b23 N (fX12_feed_h23 N n) x1 x2 x3 x4 x5 x6 S
theorem hX12_feed_23 {N : Nat} {o : Int32 × gS} (C : gC p s m args meth c cX12_feed 8 RX12 ((some .int)) D (mtys cI cS) mord g Am) (O : gO (mcell g cI cS sa) mord g) : ∀ (n : Nat) (x1 : Int32) (x2 : Int32) (x3 : Int32) (x4 : Int32) (x5 : Int32) (x6 : Int32) (S : gS) (H : Heap) (locs : List Loc) (ls : Array Slot), gX D (mcell g cI cS sa) mord g S s H locs → lv_has ls 8 [(0, .ref (g 99)), (1, .int x1), (2, .int x2), (3, .int x3), (4, .int x4), (5, .int x5), (6, .int x6)] → fX12_feed_h23 N n x1 x2 x3 x4 x5 x6 S = some o → W p l e (rmd 0) s m args below meth c H locs 0 0 (gE below args s D (mtys cI cS) (mcell g cI cS sa) mord g (some (.int o.1)) o.2) (F0 m 23 ls []) := by
  intro n
  induction n with
  | zero =>
    intro x1 x2 x3 x4 x5 x6 S H locs ls X hl hF
    exact absurd (show (none : Option (Int32 × gS)) = some o from hF) (by simp)
  | succ n ih =>
    intro x1 x2 x3 x4 x5 x6 S H locs ls X hl hF
    have hF : fX12_feed_b23 N (fX12_feed_h23 N n) x1 x2 x3 x4 x5 x6 S = some o := hF
    exact bX12_feed_23 C O ih X hl hF
noncomputable def fX12_feed_b20 (N : Nat) (x1 : Int32) (x2 : Int32) (x3 : Int32) (x4 : Int32) (x5 : Int32) (S : gS) : Option (Int32 × gS) := fX12_feed_h23 N N x1 x2 x3 x4 x5 0 S
theorem bX12_feed_20 {N : Nat} {x1 : Int32} {x2 : Int32} {x3 : Int32} {x4 : Int32} {x5 : Int32} {S : gS} {H : Heap} {locs : List Loc} {ls : Array Slot} {o : Int32 × gS} (C : gC p s m args meth c cX12_feed 8 RX12 ((some .int)) D (mtys cI cS) mord g Am) (O : gO (mcell g cI cS sa) mord g) (X : gX D (mcell g cI cS sa) mord g S s H locs) (hl : lv_has ls 8 [(0, .ref (g 99)), (1, .int x1), (2, .int x2), (3, .int x3), (4, .int x4), (5, .int x5)]) (hF : fX12_feed_b20 N x1 x2 x3 x4 x5 S = some o) : W p l e (rmd 0) s m args below meth c H locs 0 0 (gE below args s D (mtys cI cS) (mcell g cI cS sa) mord g (some (.int o.1)) o.2) (F0 m 20 ls []) := by
  unfold fX12_feed_b20 at hF
  refine lv_iconst (v := 0) C.1.1 C.1.2.1 dX12_feed_20 (by decide) ?_
  refine lv_istore (lv' := [(6, .int 0), (0, .ref (g 99)), (1, .int x1), (2, .int x2), (3, .int x3), (4, .int x4), (5, .int x5)]) C.1.1 C.1.2.1 dX12_feed_21 hl (by decide) rfl (fun ls hl => ?_)
  exact hX12_feed_23 C O N _ _ _ _ _ _ _ _ _ _ X (lv_sub hl [1, 2, 3, 4, 5, 6, 0] rfl) hF
noncomputable def fX12_feed_b18 (N : Nat) (S : gS) : Option (Int32 × gS) := some ((-1), S)
theorem bX12_feed_18 {N : Nat} {S : gS} {H : Heap} {locs : List Loc} {ls : Array Slot} {o : Int32 × gS} (C : gC p s m args meth c cX12_feed 8 RX12 ((some .int)) D (mtys cI cS) mord g Am) (O : gO (mcell g cI cS sa) mord g) (X : gX D (mcell g cI cS sa) mord g S s H locs) (hl : lv_has ls 8 []) (hF : fX12_feed_b18 N S = some o) : W p l e (rmd 0) s m args below meth c H locs 0 0 (gE below args s D (mtys cI cS) (mcell g cI cS sa) mord g (some (.int o.1)) o.2) (F0 m 18 ls []) := by
  unfold fX12_feed_b18 at hF
  refine lv_iconst (v := (-1)) C.1.1 C.1.2.1 dX12_feed_18 (by decide) ?_
  cases hF
  exact g_iret C X dX12_feed_19
noncomputable def fX12_feed_b0 (N : Nat) (x1 : Int32) (x2 : Int32) (x3 : Int32) (x4 : Int32) (x5 : Int32) (S : gS) : Option (Int32 × gS) := lt (sU S 99 4 0) fun S1 => (if (((S1 99 20) + 20 : Int32)) ≤ 700 then fX12_feed_b20 N x1 x2 x3 x4 x5 S1 else fX12_feed_b18 N S1)
theorem bX12_feed_0 {N : Nat} {x1 : Int32} {x2 : Int32} {x3 : Int32} {x4 : Int32} {x5 : Int32} {S : gS} {H : Heap} {locs : List Loc} {ls : Array Slot} {o : Int32 × gS} (C : gC p s m args meth c cX12_feed 8 RX12 ((some .int)) D (mtys cI cS) mord g Am) (O : gO (mcell g cI cS sa) mord g) (X : gX D (mcell g cI cS sa) mord g S s H locs) (hl : lv_has ls 8 [(0, .ref (g 99)), (1, .int x1), (2, .int x2), (3, .int x3), (4, .int x4), (5, .int x5)]) (hF : fX12_feed_b0 N x1 x2 x3 x4 x5 S = some o) : W p l e (rmd 0) s m args below meth c H locs 0 0 (gE below args s D (mtys cI cS) (mcell g cI cS sa) mord g (some (.int o.1)) o.2) (F0 m 0 ls []) := by
  unfold fX12_feed_b0 at hF
  refine lv_aload_n C.1.1 C.1.2.1 dX12_feed_0 rfl (lv_at hl 0 rfl) ?_
  refine lv_iconst (v := 0) C.1.1 C.1.2.1 dX12_feed_1 (by decide) ?_
  obtain ⟨S1, eS1, hF⟩ := lt_some hF
  refine m_p4 C O X eS1 dX12_feed_2 (fun H locs X => ?_)
  refine lv_aload_n C.1.1 C.1.2.1 dX12_feed_5 rfl (lv_at hl 0 rfl) ?_
  refine m_g20 C X dX12_feed_6 ?_
  refine lv_bipush (v := 20) C.1.1 C.1.2.1 dX12_feed_9 (by decide) ?_
  refine lv_iadd C.1.1 C.1.2.1 dX12_feed_11 ?_
  refine lv_sipush (v := 700) C.1.1 C.1.2.1 dX12_feed_12 (by decide) ?_
  refine lv_icmp_le (tgt := 20) C.1.1 C.1.2.1 dX12_feed_15 (by decide) (fun h_z => ?_) (fun h_z => ?_)
  · rw [if_pos h_z] at hF
    exact bX12_feed_20 C O X (lv_sub hl [0, 1, 2, 3, 4, 5] rfl) hF
  · rw [if_neg h_z] at hF
    exact bX12_feed_18 C O X (lv_sub hl [] rfl) hF
noncomputable def fX12_feed (N : Nat) (x1 : Int32) (x2 : Int32) (x3 : Int32) (x4 : Int32) (x5 : Int32) (S : gS) : Option (Int32 × gS) := fX12_feed_b0 N x1 x2 x3 x4 x5 S
theorem kX12_feed {l : Launch} {D : va_G} {g : Nat → Nat} {cI cS : ClassId} {sa : Nat → Nat → Option Nat} {Am : (Nat → Prop) → State → Heap → Prop} (O : gO (mcell g cI cS sa) mord g) (P : gAm Am) (N : Nat) (x1 : Int32) (x2 : Int32) (x3 : Int32) (x4 : Int32) (x5 : Int32) (S : gS) (o : Int32 × gS) (hF : fX12_feed N x1 x2 x3 x4 x5 S = some o) : gM l yX12_feed cX12_feed 8 ((some .int)) 0 D (mtys cI cS) (mcell g cI cS sa) mord g Am [.ref (g 99), .int x1, .int x2, .int x3, .int x4, .int x5] S (some (.int o.1)) o.2 :=
  gM_of O P (by decide) (Nat.le_of_ble_eq_true rfl) (fun p e s m args below meth c ls C X hl => bX12_feed_0 C O X (lv_sub hl [0, 1, 2, 3, 4, 5] rfl) hF)
-- byteAt
noncomputable def fX12_byteAt_b18 (N : Nat) (t0 : Int32) (S : gS) : Option (Int32 × gS) := some (t0, S)
theorem bX12_byteAt_18 {N : Nat} {t0 : Int32} {S : gS} {H : Heap} {locs : List Loc} {ls : Array Slot} {o : Int32 × gS} (C : gC p s m args meth c cX12_byteAt 2 RX12 ((some .int)) D (mtys cI cS) mord g Am) (O : gO (mcell g cI cS sa) mord g) (X : gX D (mcell g cI cS sa) mord g S s H locs) (hl : lv_has ls 2 []) (hF : fX12_byteAt_b18 N t0 S = some o) : W p l e (rmd 0) s m args below meth c H locs 0 0 (gE below args s D (mtys cI cS) (mcell g cI cS sa) mord g (some (.int o.1)) o.2) (F0 m 18 ls [.int t0]) := by
  unfold fX12_byteAt_b18 at hF
  cases hF
  exact g_iret C X dX12_byteAt_18
noncomputable def fX12_byteAt_b17 (N : Nat) (S : gS) : Option (Int32 × gS) := fX12_byteAt_b18 N ((-1)) S
theorem bX12_byteAt_17 {N : Nat} {S : gS} {H : Heap} {locs : List Loc} {ls : Array Slot} {o : Int32 × gS} (C : gC p s m args meth c cX12_byteAt 2 RX12 ((some .int)) D (mtys cI cS) mord g Am) (O : gO (mcell g cI cS sa) mord g) (X : gX D (mcell g cI cS sa) mord g S s H locs) (hl : lv_has ls 2 []) (hF : fX12_byteAt_b17 N S = some o) : W p l e (rmd 0) s m args below meth c H locs 0 0 (gE below args s D (mtys cI cS) (mcell g cI cS sa) mord g (some (.int o.1)) o.2) (F0 m 17 ls []) := by
  unfold fX12_byteAt_b17 at hF
  refine lv_iconst (v := (-1)) C.1.1 C.1.2.1 dX12_byteAt_17 (by decide) ?_
  exact bX12_byteAt_18 C O X (lv_sub hl [] rfl) hF
noncomputable def fX12_byteAt_b8 (N : Nat) (x1 : Int32) (S : gS) : Option (Int32 × gS) := chk (inb x1 (700)) (fX12_byteAt_b18 N (S 19 (Int32.toNatClampNeg x1)) S)
theorem bX12_byteAt_8 {N : Nat} {x1 : Int32} {S : gS} {H : Heap} {locs : List Loc} {ls : Array Slot} {o : Int32 × gS} (C : gC p s m args meth c cX12_byteAt 2 RX12 ((some .int)) D (mtys cI cS) mord g Am) (O : gO (mcell g cI cS sa) mord g) (X : gX D (mcell g cI cS sa) mord g S s H locs) (hl : lv_has ls 2 [(0, .ref (g 99)), (1, .int x1)]) (hF : fX12_byteAt_b8 N x1 S = some o) : W p l e (rmd 0) s m args below meth c H locs 0 0 (gE below args s D (mtys cI cS) (mcell g cI cS sa) mord g (some (.int o.1)) o.2) (F0 m 8 ls []) := by
  unfold fX12_byteAt_b8 at hF
  refine lv_aload_n C.1.1 C.1.2.1 dX12_byteAt_8 rfl (lv_at hl 0 rfl) ?_
  refine m_g19 C X dX12_byteAt_9 ?_
  refine lv_iload_n C.1.1 C.1.2.1 dX12_byteAt_12 rfl (lv_at hl 1 rfl) ?_
  obtain ⟨h_1, hF⟩ := chk_some hF
  refine m_r19 C X  (inb_vp h_1) rfl dX12_byteAt_13 ?_
  refine lv_goto (tgt := 18) C.1.1 C.1.2.1 dX12_byteAt_14 (by decide) ?_
  exact bX12_byteAt_18 C O X (lv_sub hl [] rfl) hF
noncomputable def fX12_byteAt_b0 (N : Nat) (x1 : Int32) (S : gS) : Option (Int32 × gS) := if (S 99 22) ≤ x1 then fX12_byteAt_b17 N S else fX12_byteAt_b8 N x1 S
theorem bX12_byteAt_0 {N : Nat} {x1 : Int32} {S : gS} {H : Heap} {locs : List Loc} {ls : Array Slot} {o : Int32 × gS} (C : gC p s m args meth c cX12_byteAt 2 RX12 ((some .int)) D (mtys cI cS) mord g Am) (O : gO (mcell g cI cS sa) mord g) (X : gX D (mcell g cI cS sa) mord g S s H locs) (hl : lv_has ls 2 [(0, .ref (g 99)), (1, .int x1)]) (hF : fX12_byteAt_b0 N x1 S = some o) : W p l e (rmd 0) s m args below meth c H locs 0 0 (gE below args s D (mtys cI cS) (mcell g cI cS sa) mord g (some (.int o.1)) o.2) (F0 m 0 ls []) := by
  unfold fX12_byteAt_b0 at hF
  refine lv_iload_n C.1.1 C.1.2.1 dX12_byteAt_0 rfl (lv_at hl 1 rfl) ?_
  refine lv_aload_n C.1.1 C.1.2.1 dX12_byteAt_1 rfl (lv_at hl 0 rfl) ?_
  refine m_g22 C X dX12_byteAt_2 ?_
  refine lv_icmp_ge (tgt := 17) C.1.1 C.1.2.1 dX12_byteAt_5 (by decide) (fun h_z => ?_) (fun h_z => ?_)
  · rw [if_pos h_z] at hF
    exact bX12_byteAt_17 C O X (lv_sub hl [] rfl) hF
  · rw [if_neg h_z] at hF
    exact bX12_byteAt_8 C O X (lv_sub hl [0, 1] rfl) hF
noncomputable def fX12_byteAt (N : Nat) (x1 : Int32) (S : gS) : Option (Int32 × gS) := fX12_byteAt_b0 N x1 S
theorem kX12_byteAt {l : Launch} {D : va_G} {g : Nat → Nat} {cI cS : ClassId} {sa : Nat → Nat → Option Nat} {Am : (Nat → Prop) → State → Heap → Prop} (O : gO (mcell g cI cS sa) mord g) (P : gAm Am) (N : Nat) (x1 : Int32) (S : gS) (o : Int32 × gS) (hF : fX12_byteAt N x1 S = some o) : gM l yX12_byteAt cX12_byteAt 2 ((some .int)) 0 D (mtys cI cS) (mcell g cI cS sa) mord g Am [.ref (g 99), .int x1] S (some (.int o.1)) o.2 :=
  gM_of O P (by decide) (Nat.le_of_ble_eq_true rfl) (fun p e s m args below meth c ls C X hl => bX12_byteAt_0 C O X (lv_sub hl [0, 1] rfl) hF)
-- isLetter
noncomputable def fX12_isLetter_b17 (N : Nat) (t0 : Int32) (S : gS) : Option (Int32 × gS) := chk (zb t0) (some (t0, S))
theorem bX12_isLetter_17 {N : Nat} {t0 : Int32} {S : gS} {H : Heap} {locs : List Loc} {ls : Array Slot} {o : Int32 × gS} (C : gC p s m args meth c cX12_isLetter 1 RX12 ((some .boolean)) D (mtys cI cS) mord g Am) (O : gO (mcell g cI cS sa) mord g) (X : gX D (mcell g cI cS sa) mord g S s H locs) (hl : lv_has ls 1 []) (hF : fX12_isLetter_b17 N t0 S = some o) : W p l e (rmd 0) s m args below meth c H locs 0 0 (gE below args s D (mtys cI cS) (mcell g cI cS sa) mord g (some (.int o.1)) o.2) (F0 m 17 ls [.int t0]) := by
  unfold fX12_isLetter_b17 at hF
  obtain ⟨h_1, hF⟩ := chk_some hF
  cases hF
  exact g_zret C X h_1 dX12_isLetter_17
noncomputable def fX12_isLetter_b16 (N : Nat) (S : gS) : Option (Int32 × gS) := fX12_isLetter_b17 N 0 S
theorem bX12_isLetter_16 {N : Nat} {S : gS} {H : Heap} {locs : List Loc} {ls : Array Slot} {o : Int32 × gS} (C : gC p s m args meth c cX12_isLetter 1 RX12 ((some .boolean)) D (mtys cI cS) mord g Am) (O : gO (mcell g cI cS sa) mord g) (X : gX D (mcell g cI cS sa) mord g S s H locs) (hl : lv_has ls 1 []) (hF : fX12_isLetter_b16 N S = some o) : W p l e (rmd 0) s m args below meth c H locs 0 0 (gE below args s D (mtys cI cS) (mcell g cI cS sa) mord g (some (.int o.1)) o.2) (F0 m 16 ls []) := by
  unfold fX12_isLetter_b16 at hF
  refine lv_iconst (v := 0) C.1.1 C.1.2.1 dX12_isLetter_16 (by decide) ?_
  exact bX12_isLetter_17 C O X (lv_sub hl [] rfl) hF
noncomputable def fX12_isLetter_b12 (N : Nat) (S : gS) : Option (Int32 × gS) := fX12_isLetter_b17 N 1 S
theorem bX12_isLetter_12 {N : Nat} {S : gS} {H : Heap} {locs : List Loc} {ls : Array Slot} {o : Int32 × gS} (C : gC p s m args meth c cX12_isLetter 1 RX12 ((some .boolean)) D (mtys cI cS) mord g Am) (O : gO (mcell g cI cS sa) mord g) (X : gX D (mcell g cI cS sa) mord g S s H locs) (hl : lv_has ls 1 []) (hF : fX12_isLetter_b12 N S = some o) : W p l e (rmd 0) s m args below meth c H locs 0 0 (gE below args s D (mtys cI cS) (mcell g cI cS sa) mord g (some (.int o.1)) o.2) (F0 m 12 ls []) := by
  unfold fX12_isLetter_b12 at hF
  refine lv_iconst (v := 1) C.1.1 C.1.2.1 dX12_isLetter_12 (by decide) ?_
  refine lv_goto (tgt := 17) C.1.1 C.1.2.1 dX12_isLetter_13 (by decide) ?_
  exact bX12_isLetter_17 C O X (lv_sub hl [] rfl) hF
noncomputable def fX12_isLetter_b6 (N : Nat) (x0 : Int32) (S : gS) : Option (Int32 × gS) := if 122 < x0 then fX12_isLetter_b16 N S else fX12_isLetter_b12 N S
theorem bX12_isLetter_6 {N : Nat} {x0 : Int32} {S : gS} {H : Heap} {locs : List Loc} {ls : Array Slot} {o : Int32 × gS} (C : gC p s m args meth c cX12_isLetter 1 RX12 ((some .boolean)) D (mtys cI cS) mord g Am) (O : gO (mcell g cI cS sa) mord g) (X : gX D (mcell g cI cS sa) mord g S s H locs) (hl : lv_has ls 1 [(0, .int x0)]) (hF : fX12_isLetter_b6 N x0 S = some o) : W p l e (rmd 0) s m args below meth c H locs 0 0 (gE below args s D (mtys cI cS) (mcell g cI cS sa) mord g (some (.int o.1)) o.2) (F0 m 6 ls []) := by
  unfold fX12_isLetter_b6 at hF
  refine lv_iload_n C.1.1 C.1.2.1 dX12_isLetter_6 rfl (lv_at hl 0 rfl) ?_
  refine lv_bipush (v := 122) C.1.1 C.1.2.1 dX12_isLetter_7 (by decide) ?_
  refine lv_icmp_gt (tgt := 16) C.1.1 C.1.2.1 dX12_isLetter_9 (by decide) (fun h_z => ?_) (fun h_z => ?_)
  · rw [if_pos h_z] at hF
    exact bX12_isLetter_16 C O X (lv_sub hl [] rfl) hF
  · rw [if_neg h_z] at hF
    exact bX12_isLetter_12 C O X (lv_sub hl [] rfl) hF
noncomputable def fX12_isLetter_b0 (N : Nat) (x0 : Int32) (S : gS) : Option (Int32 × gS) := if x0 < 97 then fX12_isLetter_b16 N S else fX12_isLetter_b6 N x0 S
theorem bX12_isLetter_0 {N : Nat} {x0 : Int32} {S : gS} {H : Heap} {locs : List Loc} {ls : Array Slot} {o : Int32 × gS} (C : gC p s m args meth c cX12_isLetter 1 RX12 ((some .boolean)) D (mtys cI cS) mord g Am) (O : gO (mcell g cI cS sa) mord g) (X : gX D (mcell g cI cS sa) mord g S s H locs) (hl : lv_has ls 1 [(0, .int x0)]) (hF : fX12_isLetter_b0 N x0 S = some o) : W p l e (rmd 0) s m args below meth c H locs 0 0 (gE below args s D (mtys cI cS) (mcell g cI cS sa) mord g (some (.int o.1)) o.2) (F0 m 0 ls []) := by
  unfold fX12_isLetter_b0 at hF
  refine lv_iload_n C.1.1 C.1.2.1 dX12_isLetter_0 rfl (lv_at hl 0 rfl) ?_
  refine lv_bipush (v := 97) C.1.1 C.1.2.1 dX12_isLetter_1 (by decide) ?_
  refine lv_icmp_lt (tgt := 16) C.1.1 C.1.2.1 dX12_isLetter_3 (by decide) (fun h_z => ?_) (fun h_z => ?_)
  · rw [if_pos h_z] at hF
    exact bX12_isLetter_16 C O X (lv_sub hl [] rfl) hF
  · rw [if_neg h_z] at hF
    exact bX12_isLetter_6 C O X (lv_sub hl [0] rfl) hF
noncomputable def fX12_isLetter (N : Nat) (x0 : Int32) (S : gS) : Option (Int32 × gS) := fX12_isLetter_b0 N x0 S
theorem kX12_isLetter {l : Launch} {D : va_G} {g : Nat → Nat} {cI cS : ClassId} {sa : Nat → Nat → Option Nat} {Am : (Nat → Prop) → State → Heap → Prop} (O : gO (mcell g cI cS sa) mord g) (P : gAm Am) (N : Nat) (x0 : Int32) (S : gS) (o : Int32 × gS) (hF : fX12_isLetter N x0 S = some o) : gM l yX12_isLetter cX12_isLetter 1 ((some .boolean)) 0 D (mtys cI cS) (mcell g cI cS sa) mord g Am [.int x0] S (some (.int o.1)) o.2 :=
  gM_of O P (by decide) (Nat.le_of_ble_eq_true rfl) (fun p e s m args below meth c ls C X hl => bX12_isLetter_0 C O X (lv_sub hl [0] rfl) hF)
-- isDigit
noncomputable def fX12_isDigit_b17 (N : Nat) (t0 : Int32) (S : gS) : Option (Int32 × gS) := chk (zb t0) (some (t0, S))
theorem bX12_isDigit_17 {N : Nat} {t0 : Int32} {S : gS} {H : Heap} {locs : List Loc} {ls : Array Slot} {o : Int32 × gS} (C : gC p s m args meth c cX12_isDigit 1 RX12 ((some .boolean)) D (mtys cI cS) mord g Am) (O : gO (mcell g cI cS sa) mord g) (X : gX D (mcell g cI cS sa) mord g S s H locs) (hl : lv_has ls 1 []) (hF : fX12_isDigit_b17 N t0 S = some o) : W p l e (rmd 0) s m args below meth c H locs 0 0 (gE below args s D (mtys cI cS) (mcell g cI cS sa) mord g (some (.int o.1)) o.2) (F0 m 17 ls [.int t0]) := by
  unfold fX12_isDigit_b17 at hF
  obtain ⟨h_1, hF⟩ := chk_some hF
  cases hF
  exact g_zret C X h_1 dX12_isDigit_17
noncomputable def fX12_isDigit_b16 (N : Nat) (S : gS) : Option (Int32 × gS) := fX12_isDigit_b17 N 0 S
theorem bX12_isDigit_16 {N : Nat} {S : gS} {H : Heap} {locs : List Loc} {ls : Array Slot} {o : Int32 × gS} (C : gC p s m args meth c cX12_isDigit 1 RX12 ((some .boolean)) D (mtys cI cS) mord g Am) (O : gO (mcell g cI cS sa) mord g) (X : gX D (mcell g cI cS sa) mord g S s H locs) (hl : lv_has ls 1 []) (hF : fX12_isDigit_b16 N S = some o) : W p l e (rmd 0) s m args below meth c H locs 0 0 (gE below args s D (mtys cI cS) (mcell g cI cS sa) mord g (some (.int o.1)) o.2) (F0 m 16 ls []) := by
  unfold fX12_isDigit_b16 at hF
  refine lv_iconst (v := 0) C.1.1 C.1.2.1 dX12_isDigit_16 (by decide) ?_
  exact bX12_isDigit_17 C O X (lv_sub hl [] rfl) hF
noncomputable def fX12_isDigit_b12 (N : Nat) (S : gS) : Option (Int32 × gS) := fX12_isDigit_b17 N 1 S
theorem bX12_isDigit_12 {N : Nat} {S : gS} {H : Heap} {locs : List Loc} {ls : Array Slot} {o : Int32 × gS} (C : gC p s m args meth c cX12_isDigit 1 RX12 ((some .boolean)) D (mtys cI cS) mord g Am) (O : gO (mcell g cI cS sa) mord g) (X : gX D (mcell g cI cS sa) mord g S s H locs) (hl : lv_has ls 1 []) (hF : fX12_isDigit_b12 N S = some o) : W p l e (rmd 0) s m args below meth c H locs 0 0 (gE below args s D (mtys cI cS) (mcell g cI cS sa) mord g (some (.int o.1)) o.2) (F0 m 12 ls []) := by
  unfold fX12_isDigit_b12 at hF
  refine lv_iconst (v := 1) C.1.1 C.1.2.1 dX12_isDigit_12 (by decide) ?_
  refine lv_goto (tgt := 17) C.1.1 C.1.2.1 dX12_isDigit_13 (by decide) ?_
  exact bX12_isDigit_17 C O X (lv_sub hl [] rfl) hF
noncomputable def fX12_isDigit_b6 (N : Nat) (x0 : Int32) (S : gS) : Option (Int32 × gS) := if 57 < x0 then fX12_isDigit_b16 N S else fX12_isDigit_b12 N S
theorem bX12_isDigit_6 {N : Nat} {x0 : Int32} {S : gS} {H : Heap} {locs : List Loc} {ls : Array Slot} {o : Int32 × gS} (C : gC p s m args meth c cX12_isDigit 1 RX12 ((some .boolean)) D (mtys cI cS) mord g Am) (O : gO (mcell g cI cS sa) mord g) (X : gX D (mcell g cI cS sa) mord g S s H locs) (hl : lv_has ls 1 [(0, .int x0)]) (hF : fX12_isDigit_b6 N x0 S = some o) : W p l e (rmd 0) s m args below meth c H locs 0 0 (gE below args s D (mtys cI cS) (mcell g cI cS sa) mord g (some (.int o.1)) o.2) (F0 m 6 ls []) := by
  unfold fX12_isDigit_b6 at hF
  refine lv_iload_n C.1.1 C.1.2.1 dX12_isDigit_6 rfl (lv_at hl 0 rfl) ?_
  refine lv_bipush (v := 57) C.1.1 C.1.2.1 dX12_isDigit_7 (by decide) ?_
  refine lv_icmp_gt (tgt := 16) C.1.1 C.1.2.1 dX12_isDigit_9 (by decide) (fun h_z => ?_) (fun h_z => ?_)
  · rw [if_pos h_z] at hF
    exact bX12_isDigit_16 C O X (lv_sub hl [] rfl) hF
  · rw [if_neg h_z] at hF
    exact bX12_isDigit_12 C O X (lv_sub hl [] rfl) hF
noncomputable def fX12_isDigit_b0 (N : Nat) (x0 : Int32) (S : gS) : Option (Int32 × gS) := if x0 < 48 then fX12_isDigit_b16 N S else fX12_isDigit_b6 N x0 S
theorem bX12_isDigit_0 {N : Nat} {x0 : Int32} {S : gS} {H : Heap} {locs : List Loc} {ls : Array Slot} {o : Int32 × gS} (C : gC p s m args meth c cX12_isDigit 1 RX12 ((some .boolean)) D (mtys cI cS) mord g Am) (O : gO (mcell g cI cS sa) mord g) (X : gX D (mcell g cI cS sa) mord g S s H locs) (hl : lv_has ls 1 [(0, .int x0)]) (hF : fX12_isDigit_b0 N x0 S = some o) : W p l e (rmd 0) s m args below meth c H locs 0 0 (gE below args s D (mtys cI cS) (mcell g cI cS sa) mord g (some (.int o.1)) o.2) (F0 m 0 ls []) := by
  unfold fX12_isDigit_b0 at hF
  refine lv_iload_n C.1.1 C.1.2.1 dX12_isDigit_0 rfl (lv_at hl 0 rfl) ?_
  refine lv_bipush (v := 48) C.1.1 C.1.2.1 dX12_isDigit_1 (by decide) ?_
  refine lv_icmp_lt (tgt := 16) C.1.1 C.1.2.1 dX12_isDigit_3 (by decide) (fun h_z => ?_) (fun h_z => ?_)
  · rw [if_pos h_z] at hF
    exact bX12_isDigit_16 C O X (lv_sub hl [] rfl) hF
  · rw [if_neg h_z] at hF
    exact bX12_isDigit_6 C O X (lv_sub hl [0] rfl) hF
noncomputable def fX12_isDigit (N : Nat) (x0 : Int32) (S : gS) : Option (Int32 × gS) := fX12_isDigit_b0 N x0 S
theorem kX12_isDigit {l : Launch} {D : va_G} {g : Nat → Nat} {cI cS : ClassId} {sa : Nat → Nat → Option Nat} {Am : (Nat → Prop) → State → Heap → Prop} (O : gO (mcell g cI cS sa) mord g) (P : gAm Am) (N : Nat) (x0 : Int32) (S : gS) (o : Int32 × gS) (hF : fX12_isDigit N x0 S = some o) : gM l yX12_isDigit cX12_isDigit 1 ((some .boolean)) 0 D (mtys cI cS) (mcell g cI cS sa) mord g Am [.int x0] S (some (.int o.1)) o.2 :=
  gM_of O P (by decide) (Nat.le_of_ble_eq_true rfl) (fun p e s m args below meth c ls C X hl => bX12_isDigit_0 C O X (lv_sub hl [0] rfl) hF)
-- isMark
noncomputable def fX12_isMark_b59 (N : Nat) (t0 : Int32) (S : gS) : Option (Int32 × gS) := chk (zb t0) (some (t0, S))
theorem bX12_isMark_59 {N : Nat} {t0 : Int32} {S : gS} {H : Heap} {locs : List Loc} {ls : Array Slot} {o : Int32 × gS} (C : gC p s m args meth c cX12_isMark 1 RX12 ((some .boolean)) D (mtys cI cS) mord g Am) (O : gO (mcell g cI cS sa) mord g) (X : gX D (mcell g cI cS sa) mord g S s H locs) (hl : lv_has ls 1 []) (hF : fX12_isMark_b59 N t0 S = some o) : W p l e (rmd 0) s m args below meth c H locs 0 0 (gE below args s D (mtys cI cS) (mcell g cI cS sa) mord g (some (.int o.1)) o.2) (F0 m 59 ls [.int t0]) := by
  unfold fX12_isMark_b59 at hF
  obtain ⟨h_1, hF⟩ := chk_some hF
  cases hF
  exact g_zret C X h_1 dX12_isMark_59
noncomputable def fX12_isMark_b58 (N : Nat) (S : gS) : Option (Int32 × gS) := fX12_isMark_b59 N 0 S
theorem bX12_isMark_58 {N : Nat} {S : gS} {H : Heap} {locs : List Loc} {ls : Array Slot} {o : Int32 × gS} (C : gC p s m args meth c cX12_isMark 1 RX12 ((some .boolean)) D (mtys cI cS) mord g Am) (O : gO (mcell g cI cS sa) mord g) (X : gX D (mcell g cI cS sa) mord g S s H locs) (hl : lv_has ls 1 []) (hF : fX12_isMark_b58 N S = some o) : W p l e (rmd 0) s m args below meth c H locs 0 0 (gE below args s D (mtys cI cS) (mcell g cI cS sa) mord g (some (.int o.1)) o.2) (F0 m 58 ls []) := by
  unfold fX12_isMark_b58 at hF
  refine lv_iconst (v := 0) C.1.1 C.1.2.1 dX12_isMark_58 (by decide) ?_
  exact bX12_isMark_59 C O X (lv_sub hl [] rfl) hF
noncomputable def fX12_isMark_b54 (N : Nat) (S : gS) : Option (Int32 × gS) := fX12_isMark_b59 N 1 S
theorem bX12_isMark_54 {N : Nat} {S : gS} {H : Heap} {locs : List Loc} {ls : Array Slot} {o : Int32 × gS} (C : gC p s m args meth c cX12_isMark 1 RX12 ((some .boolean)) D (mtys cI cS) mord g Am) (O : gO (mcell g cI cS sa) mord g) (X : gX D (mcell g cI cS sa) mord g S s H locs) (hl : lv_has ls 1 []) (hF : fX12_isMark_b54 N S = some o) : W p l e (rmd 0) s m args below meth c H locs 0 0 (gE below args s D (mtys cI cS) (mcell g cI cS sa) mord g (some (.int o.1)) o.2) (F0 m 54 ls []) := by
  unfold fX12_isMark_b54 at hF
  refine lv_iconst (v := 1) C.1.1 C.1.2.1 dX12_isMark_54 (by decide) ?_
  refine lv_goto (tgt := 59) C.1.1 C.1.2.1 dX12_isMark_55 (by decide) ?_
  exact bX12_isMark_59 C O X (lv_sub hl [] rfl) hF
noncomputable def fX12_isMark_b48 (N : Nat) (x0 : Int32) (S : gS) : Option (Int32 × gS) := if x0 = 61 then fX12_isMark_b54 N S else fX12_isMark_b58 N S
theorem bX12_isMark_48 {N : Nat} {x0 : Int32} {S : gS} {H : Heap} {locs : List Loc} {ls : Array Slot} {o : Int32 × gS} (C : gC p s m args meth c cX12_isMark 1 RX12 ((some .boolean)) D (mtys cI cS) mord g Am) (O : gO (mcell g cI cS sa) mord g) (X : gX D (mcell g cI cS sa) mord g S s H locs) (hl : lv_has ls 1 [(0, .int x0)]) (hF : fX12_isMark_b48 N x0 S = some o) : W p l e (rmd 0) s m args below meth c H locs 0 0 (gE below args s D (mtys cI cS) (mcell g cI cS sa) mord g (some (.int o.1)) o.2) (F0 m 48 ls []) := by
  unfold fX12_isMark_b48 at hF
  refine lv_iload_n C.1.1 C.1.2.1 dX12_isMark_48 rfl (lv_at hl 0 rfl) ?_
  refine lv_bipush (v := 61) C.1.1 C.1.2.1 dX12_isMark_49 (by decide) ?_
  refine lv_icmp_ne (tgt := 58) C.1.1 C.1.2.1 dX12_isMark_51 (by decide) (fun h_z => ?_) (fun h_z => ?_)
  · rw [if_neg h_z] at hF
    exact bX12_isMark_58 C O X (lv_sub hl [] rfl) hF
  · rw [if_pos h_z] at hF
    exact bX12_isMark_54 C O X (lv_sub hl [] rfl) hF
noncomputable def fX12_isMark_b42 (N : Nat) (x0 : Int32) (S : gS) : Option (Int32 × gS) := if x0 = 60 then fX12_isMark_b54 N S else fX12_isMark_b48 N x0 S
theorem bX12_isMark_42 {N : Nat} {x0 : Int32} {S : gS} {H : Heap} {locs : List Loc} {ls : Array Slot} {o : Int32 × gS} (C : gC p s m args meth c cX12_isMark 1 RX12 ((some .boolean)) D (mtys cI cS) mord g Am) (O : gO (mcell g cI cS sa) mord g) (X : gX D (mcell g cI cS sa) mord g S s H locs) (hl : lv_has ls 1 [(0, .int x0)]) (hF : fX12_isMark_b42 N x0 S = some o) : W p l e (rmd 0) s m args below meth c H locs 0 0 (gE below args s D (mtys cI cS) (mcell g cI cS sa) mord g (some (.int o.1)) o.2) (F0 m 42 ls []) := by
  unfold fX12_isMark_b42 at hF
  refine lv_iload_n C.1.1 C.1.2.1 dX12_isMark_42 rfl (lv_at hl 0 rfl) ?_
  refine lv_bipush (v := 60) C.1.1 C.1.2.1 dX12_isMark_43 (by decide) ?_
  refine lv_icmp_eq (tgt := 54) C.1.1 C.1.2.1 dX12_isMark_45 (by decide) (fun h_z => ?_) (fun h_z => ?_)
  · rw [if_pos h_z] at hF
    exact bX12_isMark_54 C O X (lv_sub hl [] rfl) hF
  · rw [if_neg h_z] at hF
    exact bX12_isMark_48 C O X (lv_sub hl [0] rfl) hF
noncomputable def fX12_isMark_b36 (N : Nat) (x0 : Int32) (S : gS) : Option (Int32 × gS) := if x0 = 47 then fX12_isMark_b54 N S else fX12_isMark_b42 N x0 S
theorem bX12_isMark_36 {N : Nat} {x0 : Int32} {S : gS} {H : Heap} {locs : List Loc} {ls : Array Slot} {o : Int32 × gS} (C : gC p s m args meth c cX12_isMark 1 RX12 ((some .boolean)) D (mtys cI cS) mord g Am) (O : gO (mcell g cI cS sa) mord g) (X : gX D (mcell g cI cS sa) mord g S s H locs) (hl : lv_has ls 1 [(0, .int x0)]) (hF : fX12_isMark_b36 N x0 S = some o) : W p l e (rmd 0) s m args below meth c H locs 0 0 (gE below args s D (mtys cI cS) (mcell g cI cS sa) mord g (some (.int o.1)) o.2) (F0 m 36 ls []) := by
  unfold fX12_isMark_b36 at hF
  refine lv_iload_n C.1.1 C.1.2.1 dX12_isMark_36 rfl (lv_at hl 0 rfl) ?_
  refine lv_bipush (v := 47) C.1.1 C.1.2.1 dX12_isMark_37 (by decide) ?_
  refine lv_icmp_eq (tgt := 54) C.1.1 C.1.2.1 dX12_isMark_39 (by decide) (fun h_z => ?_) (fun h_z => ?_)
  · rw [if_pos h_z] at hF
    exact bX12_isMark_54 C O X (lv_sub hl [] rfl) hF
  · rw [if_neg h_z] at hF
    exact bX12_isMark_42 C O X (lv_sub hl [0] rfl) hF
noncomputable def fX12_isMark_b30 (N : Nat) (x0 : Int32) (S : gS) : Option (Int32 × gS) := if x0 = 42 then fX12_isMark_b54 N S else fX12_isMark_b36 N x0 S
theorem bX12_isMark_30 {N : Nat} {x0 : Int32} {S : gS} {H : Heap} {locs : List Loc} {ls : Array Slot} {o : Int32 × gS} (C : gC p s m args meth c cX12_isMark 1 RX12 ((some .boolean)) D (mtys cI cS) mord g Am) (O : gO (mcell g cI cS sa) mord g) (X : gX D (mcell g cI cS sa) mord g S s H locs) (hl : lv_has ls 1 [(0, .int x0)]) (hF : fX12_isMark_b30 N x0 S = some o) : W p l e (rmd 0) s m args below meth c H locs 0 0 (gE below args s D (mtys cI cS) (mcell g cI cS sa) mord g (some (.int o.1)) o.2) (F0 m 30 ls []) := by
  unfold fX12_isMark_b30 at hF
  refine lv_iload_n C.1.1 C.1.2.1 dX12_isMark_30 rfl (lv_at hl 0 rfl) ?_
  refine lv_bipush (v := 42) C.1.1 C.1.2.1 dX12_isMark_31 (by decide) ?_
  refine lv_icmp_eq (tgt := 54) C.1.1 C.1.2.1 dX12_isMark_33 (by decide) (fun h_z => ?_) (fun h_z => ?_)
  · rw [if_pos h_z] at hF
    exact bX12_isMark_54 C O X (lv_sub hl [] rfl) hF
  · rw [if_neg h_z] at hF
    exact bX12_isMark_36 C O X (lv_sub hl [0] rfl) hF
noncomputable def fX12_isMark_b24 (N : Nat) (x0 : Int32) (S : gS) : Option (Int32 × gS) := if x0 = 45 then fX12_isMark_b54 N S else fX12_isMark_b30 N x0 S
theorem bX12_isMark_24 {N : Nat} {x0 : Int32} {S : gS} {H : Heap} {locs : List Loc} {ls : Array Slot} {o : Int32 × gS} (C : gC p s m args meth c cX12_isMark 1 RX12 ((some .boolean)) D (mtys cI cS) mord g Am) (O : gO (mcell g cI cS sa) mord g) (X : gX D (mcell g cI cS sa) mord g S s H locs) (hl : lv_has ls 1 [(0, .int x0)]) (hF : fX12_isMark_b24 N x0 S = some o) : W p l e (rmd 0) s m args below meth c H locs 0 0 (gE below args s D (mtys cI cS) (mcell g cI cS sa) mord g (some (.int o.1)) o.2) (F0 m 24 ls []) := by
  unfold fX12_isMark_b24 at hF
  refine lv_iload_n C.1.1 C.1.2.1 dX12_isMark_24 rfl (lv_at hl 0 rfl) ?_
  refine lv_bipush (v := 45) C.1.1 C.1.2.1 dX12_isMark_25 (by decide) ?_
  refine lv_icmp_eq (tgt := 54) C.1.1 C.1.2.1 dX12_isMark_27 (by decide) (fun h_z => ?_) (fun h_z => ?_)
  · rw [if_pos h_z] at hF
    exact bX12_isMark_54 C O X (lv_sub hl [] rfl) hF
  · rw [if_neg h_z] at hF
    exact bX12_isMark_30 C O X (lv_sub hl [0] rfl) hF
noncomputable def fX12_isMark_b18 (N : Nat) (x0 : Int32) (S : gS) : Option (Int32 × gS) := if x0 = 43 then fX12_isMark_b54 N S else fX12_isMark_b24 N x0 S
theorem bX12_isMark_18 {N : Nat} {x0 : Int32} {S : gS} {H : Heap} {locs : List Loc} {ls : Array Slot} {o : Int32 × gS} (C : gC p s m args meth c cX12_isMark 1 RX12 ((some .boolean)) D (mtys cI cS) mord g Am) (O : gO (mcell g cI cS sa) mord g) (X : gX D (mcell g cI cS sa) mord g S s H locs) (hl : lv_has ls 1 [(0, .int x0)]) (hF : fX12_isMark_b18 N x0 S = some o) : W p l e (rmd 0) s m args below meth c H locs 0 0 (gE below args s D (mtys cI cS) (mcell g cI cS sa) mord g (some (.int o.1)) o.2) (F0 m 18 ls []) := by
  unfold fX12_isMark_b18 at hF
  refine lv_iload_n C.1.1 C.1.2.1 dX12_isMark_18 rfl (lv_at hl 0 rfl) ?_
  refine lv_bipush (v := 43) C.1.1 C.1.2.1 dX12_isMark_19 (by decide) ?_
  refine lv_icmp_eq (tgt := 54) C.1.1 C.1.2.1 dX12_isMark_21 (by decide) (fun h_z => ?_) (fun h_z => ?_)
  · rw [if_pos h_z] at hF
    exact bX12_isMark_54 C O X (lv_sub hl [] rfl) hF
  · rw [if_neg h_z] at hF
    exact bX12_isMark_24 C O X (lv_sub hl [0] rfl) hF
noncomputable def fX12_isMark_b12 (N : Nat) (x0 : Int32) (S : gS) : Option (Int32 × gS) := if x0 = 41 then fX12_isMark_b54 N S else fX12_isMark_b18 N x0 S
theorem bX12_isMark_12 {N : Nat} {x0 : Int32} {S : gS} {H : Heap} {locs : List Loc} {ls : Array Slot} {o : Int32 × gS} (C : gC p s m args meth c cX12_isMark 1 RX12 ((some .boolean)) D (mtys cI cS) mord g Am) (O : gO (mcell g cI cS sa) mord g) (X : gX D (mcell g cI cS sa) mord g S s H locs) (hl : lv_has ls 1 [(0, .int x0)]) (hF : fX12_isMark_b12 N x0 S = some o) : W p l e (rmd 0) s m args below meth c H locs 0 0 (gE below args s D (mtys cI cS) (mcell g cI cS sa) mord g (some (.int o.1)) o.2) (F0 m 12 ls []) := by
  unfold fX12_isMark_b12 at hF
  refine lv_iload_n C.1.1 C.1.2.1 dX12_isMark_12 rfl (lv_at hl 0 rfl) ?_
  refine lv_bipush (v := 41) C.1.1 C.1.2.1 dX12_isMark_13 (by decide) ?_
  refine lv_icmp_eq (tgt := 54) C.1.1 C.1.2.1 dX12_isMark_15 (by decide) (fun h_z => ?_) (fun h_z => ?_)
  · rw [if_pos h_z] at hF
    exact bX12_isMark_54 C O X (lv_sub hl [] rfl) hF
  · rw [if_neg h_z] at hF
    exact bX12_isMark_18 C O X (lv_sub hl [0] rfl) hF
noncomputable def fX12_isMark_b6 (N : Nat) (x0 : Int32) (S : gS) : Option (Int32 × gS) := if x0 = 40 then fX12_isMark_b54 N S else fX12_isMark_b12 N x0 S
theorem bX12_isMark_6 {N : Nat} {x0 : Int32} {S : gS} {H : Heap} {locs : List Loc} {ls : Array Slot} {o : Int32 × gS} (C : gC p s m args meth c cX12_isMark 1 RX12 ((some .boolean)) D (mtys cI cS) mord g Am) (O : gO (mcell g cI cS sa) mord g) (X : gX D (mcell g cI cS sa) mord g S s H locs) (hl : lv_has ls 1 [(0, .int x0)]) (hF : fX12_isMark_b6 N x0 S = some o) : W p l e (rmd 0) s m args below meth c H locs 0 0 (gE below args s D (mtys cI cS) (mcell g cI cS sa) mord g (some (.int o.1)) o.2) (F0 m 6 ls []) := by
  unfold fX12_isMark_b6 at hF
  refine lv_iload_n C.1.1 C.1.2.1 dX12_isMark_6 rfl (lv_at hl 0 rfl) ?_
  refine lv_bipush (v := 40) C.1.1 C.1.2.1 dX12_isMark_7 (by decide) ?_
  refine lv_icmp_eq (tgt := 54) C.1.1 C.1.2.1 dX12_isMark_9 (by decide) (fun h_z => ?_) (fun h_z => ?_)
  · rw [if_pos h_z] at hF
    exact bX12_isMark_54 C O X (lv_sub hl [] rfl) hF
  · rw [if_neg h_z] at hF
    exact bX12_isMark_12 C O X (lv_sub hl [0] rfl) hF
noncomputable def fX12_isMark_b0 (N : Nat) (x0 : Int32) (S : gS) : Option (Int32 × gS) := if x0 = 59 then fX12_isMark_b54 N S else fX12_isMark_b6 N x0 S
theorem bX12_isMark_0 {N : Nat} {x0 : Int32} {S : gS} {H : Heap} {locs : List Loc} {ls : Array Slot} {o : Int32 × gS} (C : gC p s m args meth c cX12_isMark 1 RX12 ((some .boolean)) D (mtys cI cS) mord g Am) (O : gO (mcell g cI cS sa) mord g) (X : gX D (mcell g cI cS sa) mord g S s H locs) (hl : lv_has ls 1 [(0, .int x0)]) (hF : fX12_isMark_b0 N x0 S = some o) : W p l e (rmd 0) s m args below meth c H locs 0 0 (gE below args s D (mtys cI cS) (mcell g cI cS sa) mord g (some (.int o.1)) o.2) (F0 m 0 ls []) := by
  unfold fX12_isMark_b0 at hF
  refine lv_iload_n C.1.1 C.1.2.1 dX12_isMark_0 rfl (lv_at hl 0 rfl) ?_
  refine lv_bipush (v := 59) C.1.1 C.1.2.1 dX12_isMark_1 (by decide) ?_
  refine lv_icmp_eq (tgt := 54) C.1.1 C.1.2.1 dX12_isMark_3 (by decide) (fun h_z => ?_) (fun h_z => ?_)
  · rw [if_pos h_z] at hF
    exact bX12_isMark_54 C O X (lv_sub hl [] rfl) hF
  · rw [if_neg h_z] at hF
    exact bX12_isMark_6 C O X (lv_sub hl [0] rfl) hF
noncomputable def fX12_isMark (N : Nat) (x0 : Int32) (S : gS) : Option (Int32 × gS) := fX12_isMark_b0 N x0 S
theorem kX12_isMark {l : Launch} {D : va_G} {g : Nat → Nat} {cI cS : ClassId} {sa : Nat → Nat → Option Nat} {Am : (Nat → Prop) → State → Heap → Prop} (O : gO (mcell g cI cS sa) mord g) (P : gAm Am) (N : Nat) (x0 : Int32) (S : gS) (o : Int32 × gS) (hF : fX12_isMark N x0 S = some o) : gM l yX12_isMark cX12_isMark 1 ((some .boolean)) 0 D (mtys cI cS) (mcell g cI cS sa) mord g Am [.int x0] S (some (.int o.1)) o.2 :=
  gM_of O P (by decide) (Nat.le_of_ble_eq_true rfl) (fun p e s m args below meth c ls C X hl => bX12_isMark_0 C O X (lv_sub hl [0] rfl) hF)
-- stepOn
noncomputable def fX12_stepOn_b212 (N : Nat) (S : gS) : Option (Int32 × gS) := lt (sU S 99 26 (S 99 21)) fun S1 => (some (0, S1))
theorem bX12_stepOn_212 {N : Nat} {S : gS} {H : Heap} {locs : List Loc} {ls : Array Slot} {o : Int32 × gS} (C : gC p s m args meth c cX12_stepOn 2 RX12 none D (mtys cI cS) mord g Am) (O : gO (mcell g cI cS sa) mord g) (X : gX D (mcell g cI cS sa) mord g S s H locs) (hl : lv_has ls 2 [(0, .ref (g 99))]) (hF : fX12_stepOn_b212 N S = some o) : W p l e (rmd 1) s m args below meth c H locs 0 0 (gE below args s D (mtys cI cS) (mcell g cI cS sa) mord g none o.2) (F0 m 212 ls []) := by
  unfold fX12_stepOn_b212 at hF
  refine lv_aload_n C.1.1 C.1.2.1 dX12_stepOn_212 rfl (lv_at hl 0 rfl) ?_
  refine lv_aload_n C.1.1 C.1.2.1 dX12_stepOn_213 rfl (lv_at hl 0 rfl) ?_
  refine m_g21 C X dX12_stepOn_214 ?_
  obtain ⟨S1, eS1, hF⟩ := lt_some hF
  refine m_p26 C O X eS1 dX12_stepOn_217 (fun H locs X => ?_)
  cases hF
  exact g_vret C X dX12_stepOn_220
noncomputable def fX12_stepOn_b209 (N : Nat) (t1 : Int32) (S : gS) : Option (Int32 × gS) := lt (sU S 99 23 t1) fun S1 => (fX12_stepOn_b212 N S1)
theorem bX12_stepOn_209 {N : Nat} {t1 : Int32} {S : gS} {H : Heap} {locs : List Loc} {ls : Array Slot} {o : Int32 × gS} (C : gC p s m args meth c cX12_stepOn 2 RX12 none D (mtys cI cS) mord g Am) (O : gO (mcell g cI cS sa) mord g) (X : gX D (mcell g cI cS sa) mord g S s H locs) (hl : lv_has ls 2 [(0, .ref (g 99))]) (hF : fX12_stepOn_b209 N t1 S = some o) : W p l e (rmd 1) s m args below meth c H locs 0 0 (gE below args s D (mtys cI cS) (mcell g cI cS sa) mord g none o.2) (F0 m 209 ls [.int t1, .ref (g 99)]) := by
  unfold fX12_stepOn_b209 at hF
  obtain ⟨S1, eS1, hF⟩ := lt_some hF
  refine m_p23 C O X eS1 dX12_stepOn_209 (fun H locs X => ?_)
  exact bX12_stepOn_212 C O X (lv_sub hl [0] rfl) hF
noncomputable def fX12_stepOn_b208 (N : Nat) (S : gS) : Option (Int32 × gS) := fX12_stepOn_b209 N 4 S
theorem bX12_stepOn_208 {N : Nat} {S : gS} {H : Heap} {locs : List Loc} {ls : Array Slot} {o : Int32 × gS} (C : gC p s m args meth c cX12_stepOn 2 RX12 none D (mtys cI cS) mord g Am) (O : gO (mcell g cI cS sa) mord g) (X : gX D (mcell g cI cS sa) mord g S s H locs) (hl : lv_has ls 2 [(0, .ref (g 99))]) (hF : fX12_stepOn_b208 N S = some o) : W p l e (rmd 1) s m args below meth c H locs 0 0 (gE below args s D (mtys cI cS) (mcell g cI cS sa) mord g none o.2) (F0 m 208 ls [.ref (g 99)]) := by
  unfold fX12_stepOn_b208 at hF
  refine lv_iconst (v := 4) C.1.1 C.1.2.1 dX12_stepOn_208 (by decide) ?_
  exact bX12_stepOn_209 C O X (lv_sub hl [0] rfl) hF
noncomputable def fX12_stepOn_b204 (N : Nat) (S : gS) : Option (Int32 × gS) := fX12_stepOn_b209 N 3 S
theorem bX12_stepOn_204 {N : Nat} {S : gS} {H : Heap} {locs : List Loc} {ls : Array Slot} {o : Int32 × gS} (C : gC p s m args meth c cX12_stepOn 2 RX12 none D (mtys cI cS) mord g Am) (O : gO (mcell g cI cS sa) mord g) (X : gX D (mcell g cI cS sa) mord g S s H locs) (hl : lv_has ls 2 [(0, .ref (g 99))]) (hF : fX12_stepOn_b204 N S = some o) : W p l e (rmd 1) s m args below meth c H locs 0 0 (gE below args s D (mtys cI cS) (mcell g cI cS sa) mord g none o.2) (F0 m 204 ls [.ref (g 99)]) := by
  unfold fX12_stepOn_b204 at hF
  refine lv_iconst (v := 3) C.1.1 C.1.2.1 dX12_stepOn_204 (by decide) ?_
  refine lv_goto (tgt := 209) C.1.1 C.1.2.1 dX12_stepOn_205 (by decide) ?_
  exact bX12_stepOn_209 C O X (lv_sub hl [0] rfl) hF
noncomputable def fX12_stepOn_b186 (N : Nat) (x1 : Int32) (S : gS) : Option (Int32 × gS) := lt (sU S 99 21 (((S 99 21) + 1 : Int32))) fun S1 => (bnd (fX12_isMark N x1 S1) fun q1 => (if q1.1 = 0 then fX12_stepOn_b208 N q1.2 else fX12_stepOn_b204 N q1.2))
theorem bX12_stepOn_186 {N : Nat} {x1 : Int32} {S : gS} {H : Heap} {locs : List Loc} {ls : Array Slot} {o : Int32 × gS} (C : gC p s m args meth c cX12_stepOn 2 RX12 none D (mtys cI cS) mord g Am) (O : gO (mcell g cI cS sa) mord g) (X : gX D (mcell g cI cS sa) mord g S s H locs) (hl : lv_has ls 2 [(0, .ref (g 99)), (1, .int x1)]) (hF : fX12_stepOn_b186 N x1 S = some o) : W p l e (rmd 1) s m args below meth c H locs 0 0 (gE below args s D (mtys cI cS) (mcell g cI cS sa) mord g none o.2) (F0 m 186 ls []) := by
  unfold fX12_stepOn_b186 at hF
  refine lv_aload_n C.1.1 C.1.2.1 dX12_stepOn_186 rfl (lv_at hl 0 rfl) ?_
  refine lv_dup C.1.1 C.1.2.1 dX12_stepOn_187 rfl ?_
  refine m_g21 C X dX12_stepOn_188 ?_
  refine lv_iconst (v := 1) C.1.1 C.1.2.1 dX12_stepOn_191 (by decide) ?_
  refine lv_iadd C.1.1 C.1.2.1 dX12_stepOn_192 ?_
  obtain ⟨S1, eS1, hF⟩ := lt_some hF
  refine m_p21 C O X eS1 dX12_stepOn_193 (fun H locs X => ?_)
  refine lv_aload_n C.1.1 C.1.2.1 dX12_stepOn_196 rfl (lv_at hl 0 rfl) ?_
  refine lv_iload_n C.1.1 C.1.2.1 dX12_stepOn_197 rfl (lv_at hl 1 rfl) ?_
  obtain ⟨q1, hq1, hF⟩ := bnd_some hF
  refine g_callSi C X vX12_isMark (kX12_isMark O C.2.2.2.2.1 N x1  S1 q1 hq1) (Nat.le_of_ble_eq_true rfl) (Nat.le_of_ble_eq_true rfl) (Nat.le_of_ble_eq_true rfl) (Nat.le_of_ble_eq_true rfl) rfl hl.1 rfl (Nat.le_of_ble_eq_true rfl) dX12_stepOn_198 (fun H locs X => ?_)
  refine lv_if_eq (tgt := 208) C.1.1 C.1.2.1 dX12_stepOn_201 (by decide) (fun h_z => ?_) (fun h_z => ?_)
  · rw [if_pos h_z] at hF
    exact bX12_stepOn_208 C O X (lv_sub hl [0] rfl) hF
  · rw [if_neg h_z] at hF
    exact bX12_stepOn_204 C O X (lv_sub hl [0] rfl) hF
noncomputable def fX12_stepOn_b178 (N : Nat) (S : gS) : Option (Int32 × gS) := lt (sU S 99 23 2) fun S1 => (fX12_stepOn_b212 N S1)
theorem bX12_stepOn_178 {N : Nat} {S : gS} {H : Heap} {locs : List Loc} {ls : Array Slot} {o : Int32 × gS} (C : gC p s m args meth c cX12_stepOn 2 RX12 none D (mtys cI cS) mord g Am) (O : gO (mcell g cI cS sa) mord g) (X : gX D (mcell g cI cS sa) mord g S s H locs) (hl : lv_has ls 2 [(0, .ref (g 99))]) (hF : fX12_stepOn_b178 N S = some o) : W p l e (rmd 1) s m args below meth c H locs 0 0 (gE below args s D (mtys cI cS) (mcell g cI cS sa) mord g none o.2) (F0 m 178 ls []) := by
  unfold fX12_stepOn_b178 at hF
  refine lv_aload_n C.1.1 C.1.2.1 dX12_stepOn_178 rfl (lv_at hl 0 rfl) ?_
  refine lv_iconst (v := 2) C.1.1 C.1.2.1 dX12_stepOn_179 (by decide) ?_
  obtain ⟨S1, eS1, hF⟩ := lt_some hF
  refine m_p23 C O X eS1 dX12_stepOn_180 (fun H locs X => ?_)
  refine lv_goto (tgt := 212) C.1.1 C.1.2.1 dX12_stepOn_183 (by decide) ?_
  exact bX12_stepOn_212 C O X (lv_sub hl [0] rfl) hF
noncomputable def fX12_stepOn_b137 (N : Nat) (r123 : gS → Option (Int32 × gS)) (S : gS) : Option (Int32 × gS) := bnd (fX12_byteAt N (S 99 21) S) fun q1 => (lt (sU q1.2 99 24 (if ((((((10 * (S 99 24) : Int32)) + q1.1 : Int32)) - 48 : Int32)) < 100000 then ((((((10 * (S 99 24) : Int32)) + q1.1 : Int32)) - 48 : Int32)) else 100000)) fun S2 => (lt (sU S2 99 21 (((S2 99 21) + 1 : Int32))) fun S3 => (r123 S3)))
theorem bX12_stepOn_137 {N : Nat} {r123 : gS → Option (Int32 × gS)} {S : gS} {H : Heap} {locs : List Loc} {ls : Array Slot} {o : Int32 × gS} (C : gC p s m args meth c cX12_stepOn 2 RX12 none D (mtys cI cS) mord g Am) (O : gO (mcell g cI cS sa) mord g) (K123 : ∀ (S : gS) (H : Heap) (locs : List Loc) (ls : Array Slot), gX D (mcell g cI cS sa) mord g S s H locs → lv_has ls 2 [(0, .ref (g 99))] → r123 S = some o → W p l e (rmd 1) s m args below meth c H locs 0 0 (gE below args s D (mtys cI cS) (mcell g cI cS sa) mord g none o.2) (F0 m 123 ls [])) (X : gX D (mcell g cI cS sa) mord g S s H locs) (hl : lv_has ls 2 [(0, .ref (g 99))]) (hF : fX12_stepOn_b137 N r123 S = some o) : W p l e (rmd 1) s m args below meth c H locs 0 0 (gE below args s D (mtys cI cS) (mcell g cI cS sa) mord g none o.2) (F0 m 137 ls []) := by
  unfold fX12_stepOn_b137 at hF
  refine lv_aload_n C.1.1 C.1.2.1 dX12_stepOn_137 rfl (lv_at hl 0 rfl) ?_
  refine lv_ldc C.1.1 C.1.2.1 C.1.2.2.2.1 (C.1.2.2.2.2 _ mKI191) dX12_stepOn_138 ?_
  refine lv_bipush (v := 10) C.1.1 C.1.2.1 dX12_stepOn_140 (by decide) ?_
  refine lv_aload_n C.1.1 C.1.2.1 dX12_stepOn_142 rfl (lv_at hl 0 rfl) ?_
  refine m_g24 C X dX12_stepOn_143 ?_
  refine lv_imul C.1.1 C.1.2.1 dX12_stepOn_146 ?_
  refine lv_aload_n C.1.1 C.1.2.1 dX12_stepOn_147 rfl (lv_at hl 0 rfl) ?_
  refine lv_aload_n C.1.1 C.1.2.1 dX12_stepOn_148 rfl (lv_at hl 0 rfl) ?_
  refine m_g21 C X dX12_stepOn_149 ?_
  obtain ⟨q1, hq1, hF⟩ := bnd_some hF
  refine m_callVi C X vX12_byteAt rfl (kX12_byteAt O C.2.2.2.2.1 N (S 99 21)  S q1 hq1) (Nat.le_of_ble_eq_true rfl) (Nat.le_of_ble_eq_true rfl) (Nat.le_of_ble_eq_true rfl) (Nat.le_of_ble_eq_true rfl) rfl hl.1 rfl (Nat.le_of_ble_eq_true rfl) dX12_stepOn_152 (fun H locs X => ?_)
  refine lv_iadd C.1.1 C.1.2.1 dX12_stepOn_155 ?_
  refine lv_bipush (v := 48) C.1.1 C.1.2.1 dX12_stepOn_156 (by decide) ?_
  refine lv_isub C.1.1 C.1.2.1 dX12_stepOn_158 ?_
  refine g_min C hl.1 mMmin192 ⟨Nat.le_of_ble_eq_true rfl, Nat.le_of_ble_eq_true rfl⟩ (Nat.le_of_ble_eq_true rfl) (Nat.le_of_ble_eq_true rfl) dX12_stepOn_159 ?_
  obtain ⟨S2, eS2, hF⟩ := lt_some hF
  refine m_p24 C O X eS2 dX12_stepOn_162 (fun H locs X => ?_)
  refine lv_aload_n C.1.1 C.1.2.1 dX12_stepOn_165 rfl (lv_at hl 0 rfl) ?_
  refine lv_dup C.1.1 C.1.2.1 dX12_stepOn_166 rfl ?_
  refine m_g21 C X dX12_stepOn_167 ?_
  refine lv_iconst (v := 1) C.1.1 C.1.2.1 dX12_stepOn_170 (by decide) ?_
  refine lv_iadd C.1.1 C.1.2.1 dX12_stepOn_171 ?_
  obtain ⟨S3, eS3, hF⟩ := lt_some hF
  refine m_p21 C O X eS3 dX12_stepOn_172 (fun H locs X => ?_)
  refine lv_goto (tgt := 123) C.1.1 C.1.2.1 dX12_stepOn_175 (by decide) ?_
  exact K123 _ _ _ _ X (lv_sub hl [0] rfl) hF
noncomputable def fX12_stepOn_b123 (N : Nat) (r123 : gS → Option (Int32 × gS)) (S : gS) : Option (Int32 × gS) := bnd (fX12_byteAt N (S 99 21) S) fun q1 => (bnd (fX12_isDigit N q1.1 q1.2) fun q2 => (if q2.1 = 0 then fX12_stepOn_b178 N q2.2 else fX12_stepOn_b137 N r123 q2.2))
theorem bX12_stepOn_123 {N : Nat} {r123 : gS → Option (Int32 × gS)} {S : gS} {H : Heap} {locs : List Loc} {ls : Array Slot} {o : Int32 × gS} (C : gC p s m args meth c cX12_stepOn 2 RX12 none D (mtys cI cS) mord g Am) (O : gO (mcell g cI cS sa) mord g) (K123 : ∀ (S : gS) (H : Heap) (locs : List Loc) (ls : Array Slot), gX D (mcell g cI cS sa) mord g S s H locs → lv_has ls 2 [(0, .ref (g 99))] → r123 S = some o → W p l e (rmd 1) s m args below meth c H locs 0 0 (gE below args s D (mtys cI cS) (mcell g cI cS sa) mord g none o.2) (F0 m 123 ls [])) (X : gX D (mcell g cI cS sa) mord g S s H locs) (hl : lv_has ls 2 [(0, .ref (g 99))]) (hF : fX12_stepOn_b123 N r123 S = some o) : W p l e (rmd 1) s m args below meth c H locs 0 0 (gE below args s D (mtys cI cS) (mcell g cI cS sa) mord g none o.2) (F0 m 123 ls []) := by
  unfold fX12_stepOn_b123 at hF
  refine lv_aload_n C.1.1 C.1.2.1 dX12_stepOn_123 rfl (lv_at hl 0 rfl) ?_
  refine lv_aload_n C.1.1 C.1.2.1 dX12_stepOn_124 rfl (lv_at hl 0 rfl) ?_
  refine m_g21 C X dX12_stepOn_125 ?_
  obtain ⟨q1, hq1, hF⟩ := bnd_some hF
  refine m_callVi C X vX12_byteAt rfl (kX12_byteAt O C.2.2.2.2.1 N (S 99 21)  S q1 hq1) (Nat.le_of_ble_eq_true rfl) (Nat.le_of_ble_eq_true rfl) (Nat.le_of_ble_eq_true rfl) (Nat.le_of_ble_eq_true rfl) rfl hl.1 rfl (Nat.le_of_ble_eq_true rfl) dX12_stepOn_128 (fun H locs X => ?_)
  obtain ⟨q2, hq2, hF⟩ := bnd_some hF
  refine g_callSi C X vX12_isDigit (kX12_isDigit O C.2.2.2.2.1 N q1.1  q1.2 q2 hq2) (Nat.le_of_ble_eq_true rfl) (Nat.le_of_ble_eq_true rfl) (Nat.le_of_ble_eq_true rfl) (Nat.le_of_ble_eq_true rfl) rfl hl.1 rfl (Nat.le_of_ble_eq_true rfl) dX12_stepOn_131 (fun H locs X => ?_)
  refine lv_if_eq (tgt := 178) C.1.1 C.1.2.1 dX12_stepOn_134 (by decide) (fun h_z => ?_) (fun h_z => ?_)
  · rw [if_pos h_z] at hF
    exact bX12_stepOn_178 C O X (lv_sub hl [0] rfl) hF
  · rw [if_neg h_z] at hF
    exact bX12_stepOn_137 C O K123 X (lv_sub hl [0] rfl) hF
noncomputable def fX12_stepOn_h123 (N : Nat) : Nat → gS → Option (Int32 × gS)
  | 0, _ => none
  | n + 1, S => fX12_stepOn_b123 N (fX12_stepOn_h123 N n) S
theorem hX12_stepOn_123 {N : Nat} {o : Int32 × gS} (C : gC p s m args meth c cX12_stepOn 2 RX12 none D (mtys cI cS) mord g Am) (O : gO (mcell g cI cS sa) mord g) : ∀ (n : Nat) (S : gS) (H : Heap) (locs : List Loc) (ls : Array Slot), gX D (mcell g cI cS sa) mord g S s H locs → lv_has ls 2 [(0, .ref (g 99))] → fX12_stepOn_h123 N n S = some o → W p l e (rmd 1) s m args below meth c H locs 0 0 (gE below args s D (mtys cI cS) (mcell g cI cS sa) mord g none o.2) (F0 m 123 ls []) := by
  intro n
  induction n with
  | zero =>
    intro S H locs ls X hl hF
    exact absurd (show (none : Option (Int32 × gS)) = some o from hF) (by simp)
  | succ n ih =>
    intro S H locs ls X hl hF
    have hF : fX12_stepOn_b123 N (fX12_stepOn_h123 N n) S = some o := hF
    exact bX12_stepOn_123 C O ih X hl hF
noncomputable def fX12_stepOn_b118 (N : Nat) (S : gS) : Option (Int32 × gS) := lt (sU S 99 24 0) fun S1 => (fX12_stepOn_h123 N N S1)
theorem bX12_stepOn_118 {N : Nat} {S : gS} {H : Heap} {locs : List Loc} {ls : Array Slot} {o : Int32 × gS} (C : gC p s m args meth c cX12_stepOn 2 RX12 none D (mtys cI cS) mord g Am) (O : gO (mcell g cI cS sa) mord g) (X : gX D (mcell g cI cS sa) mord g S s H locs) (hl : lv_has ls 2 [(0, .ref (g 99))]) (hF : fX12_stepOn_b118 N S = some o) : W p l e (rmd 1) s m args below meth c H locs 0 0 (gE below args s D (mtys cI cS) (mcell g cI cS sa) mord g none o.2) (F0 m 118 ls []) := by
  unfold fX12_stepOn_b118 at hF
  refine lv_aload_n C.1.1 C.1.2.1 dX12_stepOn_118 rfl (lv_at hl 0 rfl) ?_
  refine lv_iconst (v := 0) C.1.1 C.1.2.1 dX12_stepOn_119 (by decide) ?_
  obtain ⟨S1, eS1, hF⟩ := lt_some hF
  refine m_p24 C O X eS1 dX12_stepOn_120 (fun H locs X => ?_)
  exact hX12_stepOn_123 C O N _ _ _ _ X (lv_sub hl [0] rfl) hF
noncomputable def fX12_stepOn_b111 (N : Nat) (x1 : Int32) (S : gS) : Option (Int32 × gS) := bnd (fX12_isDigit N x1 S) fun q1 => (if q1.1 = 0 then fX12_stepOn_b186 N x1 q1.2 else fX12_stepOn_b118 N q1.2)
theorem bX12_stepOn_111 {N : Nat} {x1 : Int32} {S : gS} {H : Heap} {locs : List Loc} {ls : Array Slot} {o : Int32 × gS} (C : gC p s m args meth c cX12_stepOn 2 RX12 none D (mtys cI cS) mord g Am) (O : gO (mcell g cI cS sa) mord g) (X : gX D (mcell g cI cS sa) mord g S s H locs) (hl : lv_has ls 2 [(0, .ref (g 99)), (1, .int x1)]) (hF : fX12_stepOn_b111 N x1 S = some o) : W p l e (rmd 1) s m args below meth c H locs 0 0 (gE below args s D (mtys cI cS) (mcell g cI cS sa) mord g none o.2) (F0 m 111 ls []) := by
  unfold fX12_stepOn_b111 at hF
  refine lv_iload_n C.1.1 C.1.2.1 dX12_stepOn_111 rfl (lv_at hl 1 rfl) ?_
  obtain ⟨q1, hq1, hF⟩ := bnd_some hF
  refine g_callSi C X vX12_isDigit (kX12_isDigit O C.2.2.2.2.1 N x1  S q1 hq1) (Nat.le_of_ble_eq_true rfl) (Nat.le_of_ble_eq_true rfl) (Nat.le_of_ble_eq_true rfl) (Nat.le_of_ble_eq_true rfl) rfl hl.1 rfl (Nat.le_of_ble_eq_true rfl) dX12_stepOn_112 (fun H locs X => ?_)
  refine lv_if_eq (tgt := 186) C.1.1 C.1.2.1 dX12_stepOn_115 (by decide) (fun h_z => ?_) (fun h_z => ?_)
  · rw [if_pos h_z] at hF
    exact bX12_stepOn_186 C O X (lv_sub hl [0, 1] rfl) hF
  · rw [if_neg h_z] at hF
    exact bX12_stepOn_118 C O X (lv_sub hl [0] rfl) hF
noncomputable def fX12_stepOn_b103 (N : Nat) (S : gS) : Option (Int32 × gS) := lt (sU S 99 23 1) fun S1 => (fX12_stepOn_b212 N S1)
theorem bX12_stepOn_103 {N : Nat} {S : gS} {H : Heap} {locs : List Loc} {ls : Array Slot} {o : Int32 × gS} (C : gC p s m args meth c cX12_stepOn 2 RX12 none D (mtys cI cS) mord g Am) (O : gO (mcell g cI cS sa) mord g) (X : gX D (mcell g cI cS sa) mord g S s H locs) (hl : lv_has ls 2 [(0, .ref (g 99))]) (hF : fX12_stepOn_b103 N S = some o) : W p l e (rmd 1) s m args below meth c H locs 0 0 (gE below args s D (mtys cI cS) (mcell g cI cS sa) mord g none o.2) (F0 m 103 ls []) := by
  unfold fX12_stepOn_b103 at hF
  refine lv_aload_n C.1.1 C.1.2.1 dX12_stepOn_103 rfl (lv_at hl 0 rfl) ?_
  refine lv_iconst (v := 1) C.1.1 C.1.2.1 dX12_stepOn_104 (by decide) ?_
  obtain ⟨S1, eS1, hF⟩ := lt_some hF
  refine m_p23 C O X eS1 dX12_stepOn_105 (fun H locs X => ?_)
  refine lv_goto (tgt := 212) C.1.1 C.1.2.1 dX12_stepOn_108 (by decide) ?_
  exact bX12_stepOn_212 C O X (lv_sub hl [0] rfl) hF
noncomputable def fX12_stepOn_b90 (N : Nat) (r76 : gS → Option (Int32 × gS)) (S : gS) : Option (Int32 × gS) := lt (sU S 99 21 (((S 99 21) + 1 : Int32))) fun S1 => (r76 S1)
theorem bX12_stepOn_90 {N : Nat} {r76 : gS → Option (Int32 × gS)} {S : gS} {H : Heap} {locs : List Loc} {ls : Array Slot} {o : Int32 × gS} (C : gC p s m args meth c cX12_stepOn 2 RX12 none D (mtys cI cS) mord g Am) (O : gO (mcell g cI cS sa) mord g) (K76 : ∀ (S : gS) (H : Heap) (locs : List Loc) (ls : Array Slot), gX D (mcell g cI cS sa) mord g S s H locs → lv_has ls 2 [(0, .ref (g 99))] → r76 S = some o → W p l e (rmd 1) s m args below meth c H locs 0 0 (gE below args s D (mtys cI cS) (mcell g cI cS sa) mord g none o.2) (F0 m 76 ls [])) (X : gX D (mcell g cI cS sa) mord g S s H locs) (hl : lv_has ls 2 [(0, .ref (g 99))]) (hF : fX12_stepOn_b90 N r76 S = some o) : W p l e (rmd 1) s m args below meth c H locs 0 0 (gE below args s D (mtys cI cS) (mcell g cI cS sa) mord g none o.2) (F0 m 90 ls []) := by
  unfold fX12_stepOn_b90 at hF
  refine lv_aload_n C.1.1 C.1.2.1 dX12_stepOn_90 rfl (lv_at hl 0 rfl) ?_
  refine lv_dup C.1.1 C.1.2.1 dX12_stepOn_91 rfl ?_
  refine m_g21 C X dX12_stepOn_92 ?_
  refine lv_iconst (v := 1) C.1.1 C.1.2.1 dX12_stepOn_95 (by decide) ?_
  refine lv_iadd C.1.1 C.1.2.1 dX12_stepOn_96 ?_
  obtain ⟨S1, eS1, hF⟩ := lt_some hF
  refine m_p21 C O X eS1 dX12_stepOn_97 (fun H locs X => ?_)
  refine lv_goto (tgt := 76) C.1.1 C.1.2.1 dX12_stepOn_100 (by decide) ?_
  exact K76 _ _ _ _ X (lv_sub hl [0] rfl) hF
noncomputable def fX12_stepOn_b76 (N : Nat) (r76 : gS → Option (Int32 × gS)) (S : gS) : Option (Int32 × gS) := bnd (fX12_byteAt N (S 99 21) S) fun q1 => (bnd (fX12_isLetter N q1.1 q1.2) fun q2 => (if q2.1 = 0 then fX12_stepOn_b103 N q2.2 else fX12_stepOn_b90 N r76 q2.2))
theorem bX12_stepOn_76 {N : Nat} {r76 : gS → Option (Int32 × gS)} {S : gS} {H : Heap} {locs : List Loc} {ls : Array Slot} {o : Int32 × gS} (C : gC p s m args meth c cX12_stepOn 2 RX12 none D (mtys cI cS) mord g Am) (O : gO (mcell g cI cS sa) mord g) (K76 : ∀ (S : gS) (H : Heap) (locs : List Loc) (ls : Array Slot), gX D (mcell g cI cS sa) mord g S s H locs → lv_has ls 2 [(0, .ref (g 99))] → r76 S = some o → W p l e (rmd 1) s m args below meth c H locs 0 0 (gE below args s D (mtys cI cS) (mcell g cI cS sa) mord g none o.2) (F0 m 76 ls [])) (X : gX D (mcell g cI cS sa) mord g S s H locs) (hl : lv_has ls 2 [(0, .ref (g 99))]) (hF : fX12_stepOn_b76 N r76 S = some o) : W p l e (rmd 1) s m args below meth c H locs 0 0 (gE below args s D (mtys cI cS) (mcell g cI cS sa) mord g none o.2) (F0 m 76 ls []) := by
  unfold fX12_stepOn_b76 at hF
  refine lv_aload_n C.1.1 C.1.2.1 dX12_stepOn_76 rfl (lv_at hl 0 rfl) ?_
  refine lv_aload_n C.1.1 C.1.2.1 dX12_stepOn_77 rfl (lv_at hl 0 rfl) ?_
  refine m_g21 C X dX12_stepOn_78 ?_
  obtain ⟨q1, hq1, hF⟩ := bnd_some hF
  refine m_callVi C X vX12_byteAt rfl (kX12_byteAt O C.2.2.2.2.1 N (S 99 21)  S q1 hq1) (Nat.le_of_ble_eq_true rfl) (Nat.le_of_ble_eq_true rfl) (Nat.le_of_ble_eq_true rfl) (Nat.le_of_ble_eq_true rfl) rfl hl.1 rfl (Nat.le_of_ble_eq_true rfl) dX12_stepOn_81 (fun H locs X => ?_)
  obtain ⟨q2, hq2, hF⟩ := bnd_some hF
  refine g_callSi C X vX12_isLetter (kX12_isLetter O C.2.2.2.2.1 N q1.1  q1.2 q2 hq2) (Nat.le_of_ble_eq_true rfl) (Nat.le_of_ble_eq_true rfl) (Nat.le_of_ble_eq_true rfl) (Nat.le_of_ble_eq_true rfl) rfl hl.1 rfl (Nat.le_of_ble_eq_true rfl) dX12_stepOn_84 (fun H locs X => ?_)
  refine lv_if_eq (tgt := 103) C.1.1 C.1.2.1 dX12_stepOn_87 (by decide) (fun h_z => ?_) (fun h_z => ?_)
  · rw [if_pos h_z] at hF
    exact bX12_stepOn_103 C O X (lv_sub hl [0] rfl) hF
  · rw [if_neg h_z] at hF
    exact bX12_stepOn_90 C O K76 X (lv_sub hl [0] rfl) hF
noncomputable def fX12_stepOn_h76 (N : Nat) : Nat → gS → Option (Int32 × gS)
  | 0, _ => none
  | n + 1, S => fX12_stepOn_b76 N (fX12_stepOn_h76 N n) S
theorem hX12_stepOn_76 {N : Nat} {o : Int32 × gS} (C : gC p s m args meth c cX12_stepOn 2 RX12 none D (mtys cI cS) mord g Am) (O : gO (mcell g cI cS sa) mord g) : ∀ (n : Nat) (S : gS) (H : Heap) (locs : List Loc) (ls : Array Slot), gX D (mcell g cI cS sa) mord g S s H locs → lv_has ls 2 [(0, .ref (g 99))] → fX12_stepOn_h76 N n S = some o → W p l e (rmd 1) s m args below meth c H locs 0 0 (gE below args s D (mtys cI cS) (mcell g cI cS sa) mord g none o.2) (F0 m 76 ls []) := by
  intro n
  induction n with
  | zero =>
    intro S H locs ls X hl hF
    exact absurd (show (none : Option (Int32 × gS)) = some o from hF) (by simp)
  | succ n ih =>
    intro S H locs ls X hl hF
    have hF : fX12_stepOn_b76 N (fX12_stepOn_h76 N n) S = some o := hF
    exact bX12_stepOn_76 C O ih X hl hF
noncomputable def fX12_stepOn_b69 (N : Nat) (x1 : Int32) (S : gS) : Option (Int32 × gS) := bnd (fX12_isLetter N x1 S) fun q1 => (if q1.1 = 0 then fX12_stepOn_b111 N x1 q1.2 else fX12_stepOn_h76 N N q1.2)
theorem bX12_stepOn_69 {N : Nat} {x1 : Int32} {S : gS} {H : Heap} {locs : List Loc} {ls : Array Slot} {o : Int32 × gS} (C : gC p s m args meth c cX12_stepOn 2 RX12 none D (mtys cI cS) mord g Am) (O : gO (mcell g cI cS sa) mord g) (X : gX D (mcell g cI cS sa) mord g S s H locs) (hl : lv_has ls 2 [(0, .ref (g 99)), (1, .int x1)]) (hF : fX12_stepOn_b69 N x1 S = some o) : W p l e (rmd 1) s m args below meth c H locs 0 0 (gE below args s D (mtys cI cS) (mcell g cI cS sa) mord g none o.2) (F0 m 69 ls []) := by
  unfold fX12_stepOn_b69 at hF
  refine lv_iload_n C.1.1 C.1.2.1 dX12_stepOn_69 rfl (lv_at hl 1 rfl) ?_
  obtain ⟨q1, hq1, hF⟩ := bnd_some hF
  refine g_callSi C X vX12_isLetter (kX12_isLetter O C.2.2.2.2.1 N x1  S q1 hq1) (Nat.le_of_ble_eq_true rfl) (Nat.le_of_ble_eq_true rfl) (Nat.le_of_ble_eq_true rfl) (Nat.le_of_ble_eq_true rfl) rfl hl.1 rfl (Nat.le_of_ble_eq_true rfl) dX12_stepOn_70 (fun H locs X => ?_)
  refine lv_if_eq (tgt := 111) C.1.1 C.1.2.1 dX12_stepOn_73 (by decide) (fun h_z => ?_) (fun h_z => ?_)
  · rw [if_pos h_z] at hF
    exact bX12_stepOn_111 C O X (lv_sub hl [0, 1] rfl) hF
  · rw [if_neg h_z] at hF
    exact hX12_stepOn_76 C O N _ _ _ _ X (lv_sub hl [0] rfl) hF
noncomputable def fX12_stepOn_b61 (N : Nat) (S : gS) : Option (Int32 × gS) := lt (sU S 99 23 0) fun S1 => (fX12_stepOn_b212 N S1)
theorem bX12_stepOn_61 {N : Nat} {S : gS} {H : Heap} {locs : List Loc} {ls : Array Slot} {o : Int32 × gS} (C : gC p s m args meth c cX12_stepOn 2 RX12 none D (mtys cI cS) mord g Am) (O : gO (mcell g cI cS sa) mord g) (X : gX D (mcell g cI cS sa) mord g S s H locs) (hl : lv_has ls 2 [(0, .ref (g 99))]) (hF : fX12_stepOn_b61 N S = some o) : W p l e (rmd 1) s m args below meth c H locs 0 0 (gE below args s D (mtys cI cS) (mcell g cI cS sa) mord g none o.2) (F0 m 61 ls []) := by
  unfold fX12_stepOn_b61 at hF
  refine lv_aload_n C.1.1 C.1.2.1 dX12_stepOn_61 rfl (lv_at hl 0 rfl) ?_
  refine lv_iconst (v := 0) C.1.1 C.1.2.1 dX12_stepOn_62 (by decide) ?_
  obtain ⟨S1, eS1, hF⟩ := lt_some hF
  refine m_p23 C O X eS1 dX12_stepOn_63 (fun H locs X => ?_)
  refine lv_goto (tgt := 212) C.1.1 C.1.2.1 dX12_stepOn_66 (by decide) ?_
  exact bX12_stepOn_212 C O X (lv_sub hl [0] rfl) hF
noncomputable def fX12_stepOn_b39 (N : Nat) (S : gS) : Option (Int32 × gS) := lt (sU S 99 25 (S 99 21)) fun S1 => (bnd (fX12_byteAt N (S1 99 21) S1) fun q1 => (if q1.1 = ((-1)) then fX12_stepOn_b61 N q1.2 else fX12_stepOn_b69 N q1.1 q1.2))
theorem bX12_stepOn_39 {N : Nat} {S : gS} {H : Heap} {locs : List Loc} {ls : Array Slot} {o : Int32 × gS} (C : gC p s m args meth c cX12_stepOn 2 RX12 none D (mtys cI cS) mord g Am) (O : gO (mcell g cI cS sa) mord g) (X : gX D (mcell g cI cS sa) mord g S s H locs) (hl : lv_has ls 2 [(0, .ref (g 99))]) (hF : fX12_stepOn_b39 N S = some o) : W p l e (rmd 1) s m args below meth c H locs 0 0 (gE below args s D (mtys cI cS) (mcell g cI cS sa) mord g none o.2) (F0 m 39 ls []) := by
  unfold fX12_stepOn_b39 at hF
  refine lv_aload_n C.1.1 C.1.2.1 dX12_stepOn_39 rfl (lv_at hl 0 rfl) ?_
  refine lv_aload_n C.1.1 C.1.2.1 dX12_stepOn_40 rfl (lv_at hl 0 rfl) ?_
  refine m_g21 C X dX12_stepOn_41 ?_
  obtain ⟨S1, eS1, hF⟩ := lt_some hF
  refine m_p25 C O X eS1 dX12_stepOn_44 (fun H locs X => ?_)
  refine lv_aload_n C.1.1 C.1.2.1 dX12_stepOn_47 rfl (lv_at hl 0 rfl) ?_
  refine lv_aload_n C.1.1 C.1.2.1 dX12_stepOn_48 rfl (lv_at hl 0 rfl) ?_
  refine m_g21 C X dX12_stepOn_49 ?_
  obtain ⟨q1, hq1, hF⟩ := bnd_some hF
  refine m_callVi C X vX12_byteAt rfl (kX12_byteAt O C.2.2.2.2.1 N (S1 99 21)  S1 q1 hq1) (Nat.le_of_ble_eq_true rfl) (Nat.le_of_ble_eq_true rfl) (Nat.le_of_ble_eq_true rfl) (Nat.le_of_ble_eq_true rfl) rfl hl.1 rfl (Nat.le_of_ble_eq_true rfl) dX12_stepOn_52 (fun H locs X => ?_)
  refine lv_istore_n (lv' := [(1, .int q1.1), (0, .ref (g 99))]) C.1.1 C.1.2.1 dX12_stepOn_55 rfl hl (by decide) rfl (fun ls hl => ?_)
  refine lv_iload_n C.1.1 C.1.2.1 dX12_stepOn_56 rfl (lv_at hl 0 rfl) ?_
  refine lv_iconst (v := (-1)) C.1.1 C.1.2.1 dX12_stepOn_57 (by decide) ?_
  refine lv_icmp_ne (tgt := 69) C.1.1 C.1.2.1 dX12_stepOn_58 (by decide) (fun h_z => ?_) (fun h_z => ?_)
  · rw [if_neg h_z] at hF
    exact bX12_stepOn_69 C O X (lv_sub hl [1, 0] rfl) hF
  · rw [if_pos h_z] at hF
    exact bX12_stepOn_61 C O X (lv_sub hl [1] rfl) hF
noncomputable def fX12_stepOn_b26 (N : Nat) (r0 : gS → Option (Int32 × gS)) (S : gS) : Option (Int32 × gS) := lt (sU S 99 21 (((S 99 21) + 1 : Int32))) fun S1 => (r0 S1)
theorem bX12_stepOn_26 {N : Nat} {r0 : gS → Option (Int32 × gS)} {S : gS} {H : Heap} {locs : List Loc} {ls : Array Slot} {o : Int32 × gS} (C : gC p s m args meth c cX12_stepOn 2 RX12 none D (mtys cI cS) mord g Am) (O : gO (mcell g cI cS sa) mord g) (K0 : ∀ (S : gS) (H : Heap) (locs : List Loc) (ls : Array Slot), gX D (mcell g cI cS sa) mord g S s H locs → lv_has ls 2 [(0, .ref (g 99))] → r0 S = some o → W p l e (rmd 1) s m args below meth c H locs 0 0 (gE below args s D (mtys cI cS) (mcell g cI cS sa) mord g none o.2) (F0 m 0 ls [])) (X : gX D (mcell g cI cS sa) mord g S s H locs) (hl : lv_has ls 2 [(0, .ref (g 99))]) (hF : fX12_stepOn_b26 N r0 S = some o) : W p l e (rmd 1) s m args below meth c H locs 0 0 (gE below args s D (mtys cI cS) (mcell g cI cS sa) mord g none o.2) (F0 m 26 ls []) := by
  unfold fX12_stepOn_b26 at hF
  refine lv_aload_n C.1.1 C.1.2.1 dX12_stepOn_26 rfl (lv_at hl 0 rfl) ?_
  refine lv_dup C.1.1 C.1.2.1 dX12_stepOn_27 rfl ?_
  refine m_g21 C X dX12_stepOn_28 ?_
  refine lv_iconst (v := 1) C.1.1 C.1.2.1 dX12_stepOn_31 (by decide) ?_
  refine lv_iadd C.1.1 C.1.2.1 dX12_stepOn_32 ?_
  obtain ⟨S1, eS1, hF⟩ := lt_some hF
  refine m_p21 C O X eS1 dX12_stepOn_33 (fun H locs X => ?_)
  refine lv_goto (tgt := 0) C.1.1 C.1.2.1 dX12_stepOn_36 (by decide) ?_
  exact K0 _ _ _ _ X (lv_sub hl [0] rfl) hF
noncomputable def fX12_stepOn_b13 (N : Nat) (r0 : gS → Option (Int32 × gS)) (S : gS) : Option (Int32 × gS) := bnd (fX12_byteAt N (S 99 21) S) fun q1 => (if q1.1 = 10 then fX12_stepOn_b26 N r0 q1.2 else fX12_stepOn_b39 N q1.2)
theorem bX12_stepOn_13 {N : Nat} {r0 : gS → Option (Int32 × gS)} {S : gS} {H : Heap} {locs : List Loc} {ls : Array Slot} {o : Int32 × gS} (C : gC p s m args meth c cX12_stepOn 2 RX12 none D (mtys cI cS) mord g Am) (O : gO (mcell g cI cS sa) mord g) (K0 : ∀ (S : gS) (H : Heap) (locs : List Loc) (ls : Array Slot), gX D (mcell g cI cS sa) mord g S s H locs → lv_has ls 2 [(0, .ref (g 99))] → r0 S = some o → W p l e (rmd 1) s m args below meth c H locs 0 0 (gE below args s D (mtys cI cS) (mcell g cI cS sa) mord g none o.2) (F0 m 0 ls [])) (X : gX D (mcell g cI cS sa) mord g S s H locs) (hl : lv_has ls 2 [(0, .ref (g 99))]) (hF : fX12_stepOn_b13 N r0 S = some o) : W p l e (rmd 1) s m args below meth c H locs 0 0 (gE below args s D (mtys cI cS) (mcell g cI cS sa) mord g none o.2) (F0 m 13 ls []) := by
  unfold fX12_stepOn_b13 at hF
  refine lv_aload_n C.1.1 C.1.2.1 dX12_stepOn_13 rfl (lv_at hl 0 rfl) ?_
  refine lv_aload_n C.1.1 C.1.2.1 dX12_stepOn_14 rfl (lv_at hl 0 rfl) ?_
  refine m_g21 C X dX12_stepOn_15 ?_
  obtain ⟨q1, hq1, hF⟩ := bnd_some hF
  refine m_callVi C X vX12_byteAt rfl (kX12_byteAt O C.2.2.2.2.1 N (S 99 21)  S q1 hq1) (Nat.le_of_ble_eq_true rfl) (Nat.le_of_ble_eq_true rfl) (Nat.le_of_ble_eq_true rfl) (Nat.le_of_ble_eq_true rfl) rfl hl.1 rfl (Nat.le_of_ble_eq_true rfl) dX12_stepOn_18 (fun H locs X => ?_)
  refine lv_bipush (v := 10) C.1.1 C.1.2.1 dX12_stepOn_21 (by decide) ?_
  refine lv_icmp_ne (tgt := 39) C.1.1 C.1.2.1 dX12_stepOn_23 (by decide) (fun h_z => ?_) (fun h_z => ?_)
  · rw [if_neg h_z] at hF
    exact bX12_stepOn_39 C O X (lv_sub hl [0] rfl) hF
  · rw [if_pos h_z] at hF
    exact bX12_stepOn_26 C O K0 X (lv_sub hl [0] rfl) hF
noncomputable def fX12_stepOn_b0 (N : Nat) (r0 : gS → Option (Int32 × gS)) (S : gS) : Option (Int32 × gS) := bnd (fX12_byteAt N (S 99 21) S) fun q1 => (if q1.1 = 32 then fX12_stepOn_b26 N r0 q1.2 else fX12_stepOn_b13 N r0 q1.2)
theorem bX12_stepOn_0 {N : Nat} {r0 : gS → Option (Int32 × gS)} {S : gS} {H : Heap} {locs : List Loc} {ls : Array Slot} {o : Int32 × gS} (C : gC p s m args meth c cX12_stepOn 2 RX12 none D (mtys cI cS) mord g Am) (O : gO (mcell g cI cS sa) mord g) (K0 : ∀ (S : gS) (H : Heap) (locs : List Loc) (ls : Array Slot), gX D (mcell g cI cS sa) mord g S s H locs → lv_has ls 2 [(0, .ref (g 99))] → r0 S = some o → W p l e (rmd 1) s m args below meth c H locs 0 0 (gE below args s D (mtys cI cS) (mcell g cI cS sa) mord g none o.2) (F0 m 0 ls [])) (X : gX D (mcell g cI cS sa) mord g S s H locs) (hl : lv_has ls 2 [(0, .ref (g 99))]) (hF : fX12_stepOn_b0 N r0 S = some o) : W p l e (rmd 1) s m args below meth c H locs 0 0 (gE below args s D (mtys cI cS) (mcell g cI cS sa) mord g none o.2) (F0 m 0 ls []) := by
  unfold fX12_stepOn_b0 at hF
  refine lv_aload_n C.1.1 C.1.2.1 dX12_stepOn_0 rfl (lv_at hl 0 rfl) ?_
  refine lv_aload_n C.1.1 C.1.2.1 dX12_stepOn_1 rfl (lv_at hl 0 rfl) ?_
  refine m_g21 C X dX12_stepOn_2 ?_
  obtain ⟨q1, hq1, hF⟩ := bnd_some hF
  refine m_callVi C X vX12_byteAt rfl (kX12_byteAt O C.2.2.2.2.1 N (S 99 21)  S q1 hq1) (Nat.le_of_ble_eq_true rfl) (Nat.le_of_ble_eq_true rfl) (Nat.le_of_ble_eq_true rfl) (Nat.le_of_ble_eq_true rfl) rfl hl.1 rfl (Nat.le_of_ble_eq_true rfl) dX12_stepOn_5 (fun H locs X => ?_)
  refine lv_bipush (v := 32) C.1.1 C.1.2.1 dX12_stepOn_8 (by decide) ?_
  refine lv_icmp_eq (tgt := 26) C.1.1 C.1.2.1 dX12_stepOn_10 (by decide) (fun h_z => ?_) (fun h_z => ?_)
  · rw [if_pos h_z] at hF
    exact bX12_stepOn_26 C O K0 X (lv_sub hl [0] rfl) hF
  · rw [if_neg h_z] at hF
    exact bX12_stepOn_13 C O K0 X (lv_sub hl [0] rfl) hF
noncomputable def fX12_stepOn_h0 (N : Nat) : Nat → gS → Option (Int32 × gS)
  | 0, _ => none
  | n + 1, S => fX12_stepOn_b0 N (fX12_stepOn_h0 N n) S
theorem hX12_stepOn_0 {N : Nat} {o : Int32 × gS} (C : gC p s m args meth c cX12_stepOn 2 RX12 none D (mtys cI cS) mord g Am) (O : gO (mcell g cI cS sa) mord g) : ∀ (n : Nat) (S : gS) (H : Heap) (locs : List Loc) (ls : Array Slot), gX D (mcell g cI cS sa) mord g S s H locs → lv_has ls 2 [(0, .ref (g 99))] → fX12_stepOn_h0 N n S = some o → W p l e (rmd 1) s m args below meth c H locs 0 0 (gE below args s D (mtys cI cS) (mcell g cI cS sa) mord g none o.2) (F0 m 0 ls []) := by
  intro n
  induction n with
  | zero =>
    intro S H locs ls X hl hF
    exact absurd (show (none : Option (Int32 × gS)) = some o from hF) (by simp)
  | succ n ih =>
    intro S H locs ls X hl hF
    have hF : fX12_stepOn_b0 N (fX12_stepOn_h0 N n) S = some o := hF
    exact bX12_stepOn_0 C O ih X hl hF
noncomputable def fX12_stepOn (N : Nat) (S : gS) : Option (Int32 × gS) := fX12_stepOn_h0 N N S
theorem kX12_stepOn {l : Launch} {D : va_G} {g : Nat → Nat} {cI cS : ClassId} {sa : Nat → Nat → Option Nat} {Am : (Nat → Prop) → State → Heap → Prop} (O : gO (mcell g cI cS sa) mord g) (P : gAm Am) (N : Nat) (S : gS) (o : Int32 × gS) (hF : fX12_stepOn N S = some o) : gM l yX12_stepOn cX12_stepOn 2 none 1 D (mtys cI cS) (mcell g cI cS sa) mord g Am [.ref (g 99)] S none o.2 :=
  gM_of O P (by decide) (Nat.le_of_ble_eq_true rfl) (fun p e s m args below meth c ls C X hl => hX12_stepOn_0 C O N _ _ _ _ X (lv_sub hl [0] rfl) hF)
-- wrong
noncomputable def fX12_wrong_b8 (N : Nat) (x1 : Int32) (S : gS) : Option (Int32 × gS) := lt (sU S 99 27 x1) fun S1 => (lt (sU S1 99 28 (S1 99 25)) fun S2 => (some (0, S2)))
theorem bX12_wrong_8 {N : Nat} {x1 : Int32} {S : gS} {H : Heap} {locs : List Loc} {ls : Array Slot} {o : Int32 × gS} (C : gC p s m args meth c cX12_wrong 2 RX12 none D (mtys cI cS) mord g Am) (O : gO (mcell g cI cS sa) mord g) (X : gX D (mcell g cI cS sa) mord g S s H locs) (hl : lv_has ls 2 [(0, .ref (g 99)), (1, .int x1)]) (hF : fX12_wrong_b8 N x1 S = some o) : W p l e (rmd 0) s m args below meth c H locs 0 0 (gE below args s D (mtys cI cS) (mcell g cI cS sa) mord g none o.2) (F0 m 8 ls []) := by
  unfold fX12_wrong_b8 at hF
  refine lv_aload_n C.1.1 C.1.2.1 dX12_wrong_8 rfl (lv_at hl 0 rfl) ?_
  refine lv_iload_n C.1.1 C.1.2.1 dX12_wrong_9 rfl (lv_at hl 1 rfl) ?_
  obtain ⟨S1, eS1, hF⟩ := lt_some hF
  refine m_p27 C O X eS1 dX12_wrong_10 (fun H locs X => ?_)
  refine lv_aload_n C.1.1 C.1.2.1 dX12_wrong_13 rfl (lv_at hl 0 rfl) ?_
  refine lv_aload_n C.1.1 C.1.2.1 dX12_wrong_14 rfl (lv_at hl 0 rfl) ?_
  refine m_g25 C X dX12_wrong_15 ?_
  obtain ⟨S2, eS2, hF⟩ := lt_some hF
  refine m_p28 C O X eS2 dX12_wrong_18 (fun H locs X => ?_)
  cases hF
  exact g_vret C X dX12_wrong_21
noncomputable def fX12_wrong_b7 (N : Nat) (S : gS) : Option (Int32 × gS) := some (0, S)
theorem bX12_wrong_7 {N : Nat} {S : gS} {H : Heap} {locs : List Loc} {ls : Array Slot} {o : Int32 × gS} (C : gC p s m args meth c cX12_wrong 2 RX12 none D (mtys cI cS) mord g Am) (O : gO (mcell g cI cS sa) mord g) (X : gX D (mcell g cI cS sa) mord g S s H locs) (hl : lv_has ls 2 []) (hF : fX12_wrong_b7 N S = some o) : W p l e (rmd 0) s m args below meth c H locs 0 0 (gE below args s D (mtys cI cS) (mcell g cI cS sa) mord g none o.2) (F0 m 7 ls []) := by
  unfold fX12_wrong_b7 at hF
  cases hF
  exact g_vret C X dX12_wrong_7
noncomputable def fX12_wrong_b0 (N : Nat) (x1 : Int32) (S : gS) : Option (Int32 × gS) := if (S 99 27) = 0 then fX12_wrong_b8 N x1 S else fX12_wrong_b7 N S
theorem bX12_wrong_0 {N : Nat} {x1 : Int32} {S : gS} {H : Heap} {locs : List Loc} {ls : Array Slot} {o : Int32 × gS} (C : gC p s m args meth c cX12_wrong 2 RX12 none D (mtys cI cS) mord g Am) (O : gO (mcell g cI cS sa) mord g) (X : gX D (mcell g cI cS sa) mord g S s H locs) (hl : lv_has ls 2 [(0, .ref (g 99)), (1, .int x1)]) (hF : fX12_wrong_b0 N x1 S = some o) : W p l e (rmd 0) s m args below meth c H locs 0 0 (gE below args s D (mtys cI cS) (mcell g cI cS sa) mord g none o.2) (F0 m 0 ls []) := by
  unfold fX12_wrong_b0 at hF
  refine lv_aload_n C.1.1 C.1.2.1 dX12_wrong_0 rfl (lv_at hl 0 rfl) ?_
  refine m_g27 C X dX12_wrong_1 ?_
  refine lv_if_eq (tgt := 8) C.1.1 C.1.2.1 dX12_wrong_4 (by decide) (fun h_z => ?_) (fun h_z => ?_)
  · rw [if_pos h_z] at hF
    exact bX12_wrong_8 C O X (lv_sub hl [0, 1] rfl) hF
  · rw [if_neg h_z] at hF
    exact bX12_wrong_7 C O X (lv_sub hl [] rfl) hF
noncomputable def fX12_wrong (N : Nat) (x1 : Int32) (S : gS) : Option (Int32 × gS) := fX12_wrong_b0 N x1 S
theorem kX12_wrong {l : Launch} {D : va_G} {g : Nat → Nat} {cI cS : ClassId} {sa : Nat → Nat → Option Nat} {Am : (Nat → Prop) → State → Heap → Prop} (O : gO (mcell g cI cS sa) mord g) (P : gAm Am) (N : Nat) (x1 : Int32) (S : gS) (o : Int32 × gS) (hF : fX12_wrong N x1 S = some o) : gM l yX12_wrong cX12_wrong 2 none 0 D (mtys cI cS) (mcell g cI cS sa) mord g Am [.ref (g 99), .int x1] S none o.2 :=
  gM_of O P (by decide) (Nat.le_of_ble_eq_true rfl) (fun p e s m args below meth c ls C X hl => bX12_wrong_0 C O X (lv_sub hl [0, 1] rfl) hF)
-- isMarked
noncomputable def fX12_isMarked_b33 (N : Nat) (t0 : Int32) (S : gS) : Option (Int32 × gS) := chk (zb t0) (some (t0, S))
theorem bX12_isMarked_33 {N : Nat} {t0 : Int32} {S : gS} {H : Heap} {locs : List Loc} {ls : Array Slot} {o : Int32 × gS} (C : gC p s m args meth c cX12_isMarked 2 RX12 ((some .boolean)) D (mtys cI cS) mord g Am) (O : gO (mcell g cI cS sa) mord g) (X : gX D (mcell g cI cS sa) mord g S s H locs) (hl : lv_has ls 2 []) (hF : fX12_isMarked_b33 N t0 S = some o) : W p l e (rmd 0) s m args below meth c H locs 0 0 (gE below args s D (mtys cI cS) (mcell g cI cS sa) mord g (some (.int o.1)) o.2) (F0 m 33 ls [.int t0]) := by
  unfold fX12_isMarked_b33 at hF
  obtain ⟨h_1, hF⟩ := chk_some hF
  cases hF
  exact g_zret C X h_1 dX12_isMarked_33
noncomputable def fX12_isMarked_b32 (N : Nat) (S : gS) : Option (Int32 × gS) := fX12_isMarked_b33 N 0 S
theorem bX12_isMarked_32 {N : Nat} {S : gS} {H : Heap} {locs : List Loc} {ls : Array Slot} {o : Int32 × gS} (C : gC p s m args meth c cX12_isMarked 2 RX12 ((some .boolean)) D (mtys cI cS) mord g Am) (O : gO (mcell g cI cS sa) mord g) (X : gX D (mcell g cI cS sa) mord g S s H locs) (hl : lv_has ls 2 []) (hF : fX12_isMarked_b32 N S = some o) : W p l e (rmd 0) s m args below meth c H locs 0 0 (gE below args s D (mtys cI cS) (mcell g cI cS sa) mord g (some (.int o.1)) o.2) (F0 m 32 ls []) := by
  unfold fX12_isMarked_b32 at hF
  refine lv_iconst (v := 0) C.1.1 C.1.2.1 dX12_isMarked_32 (by decide) ?_
  exact bX12_isMarked_33 C O X (lv_sub hl [] rfl) hF
noncomputable def fX12_isMarked_b28 (N : Nat) (S : gS) : Option (Int32 × gS) := fX12_isMarked_b33 N 1 S
theorem bX12_isMarked_28 {N : Nat} {S : gS} {H : Heap} {locs : List Loc} {ls : Array Slot} {o : Int32 × gS} (C : gC p s m args meth c cX12_isMarked 2 RX12 ((some .boolean)) D (mtys cI cS) mord g Am) (O : gO (mcell g cI cS sa) mord g) (X : gX D (mcell g cI cS sa) mord g S s H locs) (hl : lv_has ls 2 []) (hF : fX12_isMarked_b28 N S = some o) : W p l e (rmd 0) s m args below meth c H locs 0 0 (gE below args s D (mtys cI cS) (mcell g cI cS sa) mord g (some (.int o.1)) o.2) (F0 m 28 ls []) := by
  unfold fX12_isMarked_b28 at hF
  refine lv_iconst (v := 1) C.1.1 C.1.2.1 dX12_isMarked_28 (by decide) ?_
  refine lv_goto (tgt := 33) C.1.1 C.1.2.1 dX12_isMarked_29 (by decide) ?_
  exact bX12_isMarked_33 C O X (lv_sub hl [] rfl) hF
noncomputable def fX12_isMarked_b15 (N : Nat) (x1 : Int32) (S : gS) : Option (Int32 × gS) := chk (inb (S 99 25) (700)) (if (S 19 (Int32.toNatClampNeg (S 99 25))) = x1 then fX12_isMarked_b28 N S else fX12_isMarked_b32 N S)
theorem bX12_isMarked_15 {N : Nat} {x1 : Int32} {S : gS} {H : Heap} {locs : List Loc} {ls : Array Slot} {o : Int32 × gS} (C : gC p s m args meth c cX12_isMarked 2 RX12 ((some .boolean)) D (mtys cI cS) mord g Am) (O : gO (mcell g cI cS sa) mord g) (X : gX D (mcell g cI cS sa) mord g S s H locs) (hl : lv_has ls 2 [(0, .ref (g 99)), (1, .int x1)]) (hF : fX12_isMarked_b15 N x1 S = some o) : W p l e (rmd 0) s m args below meth c H locs 0 0 (gE below args s D (mtys cI cS) (mcell g cI cS sa) mord g (some (.int o.1)) o.2) (F0 m 15 ls []) := by
  unfold fX12_isMarked_b15 at hF
  refine lv_aload_n C.1.1 C.1.2.1 dX12_isMarked_15 rfl (lv_at hl 0 rfl) ?_
  refine m_g19 C X dX12_isMarked_16 ?_
  refine lv_aload_n C.1.1 C.1.2.1 dX12_isMarked_19 rfl (lv_at hl 0 rfl) ?_
  refine m_g25 C X dX12_isMarked_20 ?_
  obtain ⟨h_1, hF⟩ := chk_some hF
  refine m_r19 C X  (inb_vp h_1) rfl dX12_isMarked_23 ?_
  refine lv_iload_n C.1.1 C.1.2.1 dX12_isMarked_24 rfl (lv_at hl 1 rfl) ?_
  refine lv_icmp_ne (tgt := 32) C.1.1 C.1.2.1 dX12_isMarked_25 (by decide) (fun h_z => ?_) (fun h_z => ?_)
  · rw [if_neg h_z] at hF
    exact bX12_isMarked_32 C O X (lv_sub hl [] rfl) hF
  · rw [if_pos h_z] at hF
    exact bX12_isMarked_28 C O X (lv_sub hl [] rfl) hF
noncomputable def fX12_isMarked_b7 (N : Nat) (x1 : Int32) (S : gS) : Option (Int32 × gS) := if (S 99 23) = 3 then fX12_isMarked_b15 N x1 S else fX12_isMarked_b32 N S
theorem bX12_isMarked_7 {N : Nat} {x1 : Int32} {S : gS} {H : Heap} {locs : List Loc} {ls : Array Slot} {o : Int32 × gS} (C : gC p s m args meth c cX12_isMarked 2 RX12 ((some .boolean)) D (mtys cI cS) mord g Am) (O : gO (mcell g cI cS sa) mord g) (X : gX D (mcell g cI cS sa) mord g S s H locs) (hl : lv_has ls 2 [(0, .ref (g 99)), (1, .int x1)]) (hF : fX12_isMarked_b7 N x1 S = some o) : W p l e (rmd 0) s m args below meth c H locs 0 0 (gE below args s D (mtys cI cS) (mcell g cI cS sa) mord g (some (.int o.1)) o.2) (F0 m 7 ls []) := by
  unfold fX12_isMarked_b7 at hF
  refine lv_aload_n C.1.1 C.1.2.1 dX12_isMarked_7 rfl (lv_at hl 0 rfl) ?_
  refine m_g23 C X dX12_isMarked_8 ?_
  refine lv_iconst (v := 3) C.1.1 C.1.2.1 dX12_isMarked_11 (by decide) ?_
  refine lv_icmp_ne (tgt := 32) C.1.1 C.1.2.1 dX12_isMarked_12 (by decide) (fun h_z => ?_) (fun h_z => ?_)
  · rw [if_neg h_z] at hF
    exact bX12_isMarked_32 C O X (lv_sub hl [] rfl) hF
  · rw [if_pos h_z] at hF
    exact bX12_isMarked_15 C O X (lv_sub hl [0, 1] rfl) hF
noncomputable def fX12_isMarked_b0 (N : Nat) (x1 : Int32) (S : gS) : Option (Int32 × gS) := if (S 99 27) = 0 then fX12_isMarked_b7 N x1 S else fX12_isMarked_b32 N S
theorem bX12_isMarked_0 {N : Nat} {x1 : Int32} {S : gS} {H : Heap} {locs : List Loc} {ls : Array Slot} {o : Int32 × gS} (C : gC p s m args meth c cX12_isMarked 2 RX12 ((some .boolean)) D (mtys cI cS) mord g Am) (O : gO (mcell g cI cS sa) mord g) (X : gX D (mcell g cI cS sa) mord g S s H locs) (hl : lv_has ls 2 [(0, .ref (g 99)), (1, .int x1)]) (hF : fX12_isMarked_b0 N x1 S = some o) : W p l e (rmd 0) s m args below meth c H locs 0 0 (gE below args s D (mtys cI cS) (mcell g cI cS sa) mord g (some (.int o.1)) o.2) (F0 m 0 ls []) := by
  unfold fX12_isMarked_b0 at hF
  refine lv_aload_n C.1.1 C.1.2.1 dX12_isMarked_0 rfl (lv_at hl 0 rfl) ?_
  refine m_g27 C X dX12_isMarked_1 ?_
  refine lv_if_ne (tgt := 32) C.1.1 C.1.2.1 dX12_isMarked_4 (by decide) (fun h_z => ?_) (fun h_z => ?_)
  · rw [if_neg h_z] at hF
    exact bX12_isMarked_32 C O X (lv_sub hl [] rfl) hF
  · rw [if_pos h_z] at hF
    exact bX12_isMarked_7 C O X (lv_sub hl [0, 1] rfl) hF
noncomputable def fX12_isMarked (N : Nat) (x1 : Int32) (S : gS) : Option (Int32 × gS) := fX12_isMarked_b0 N x1 S
theorem kX12_isMarked {l : Launch} {D : va_G} {g : Nat → Nat} {cI cS : ClassId} {sa : Nat → Nat → Option Nat} {Am : (Nat → Prop) → State → Heap → Prop} (O : gO (mcell g cI cS sa) mord g) (P : gAm Am) (N : Nat) (x1 : Int32) (S : gS) (o : Int32 × gS) (hF : fX12_isMarked N x1 S = some o) : gM l yX12_isMarked cX12_isMarked 2 ((some .boolean)) 0 D (mtys cI cS) (mcell g cI cS sa) mord g Am [.ref (g 99), .int x1] S (some (.int o.1)) o.2 :=
  gM_of O P (by decide) (Nat.le_of_ble_eq_true rfl) (fun p e s m args below meth c ls C X hl => bX12_isMarked_0 C O X (lv_sub hl [0, 1] rfl) hF)
end

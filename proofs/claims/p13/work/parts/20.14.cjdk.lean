/-! methods of the JDK as maps of states, and their walks (printed by wip/whole/genj.py) -/
section
variable {p : Program} {l : Launch} {e : Env} {s : State} {m : MethodId} {args : Array Value} {below : List Frame} {meth : Method} {c : Code} {D : va_G} {tys : List (ClassId × FieldType)} {cell : gS → Nat → Nat × va_E} {ord : List Nat} {adr : Nat → Nat} {Am : (Nat → Prop) → State → Heap → Prop} {aK aV : Nat → Nat}
-- J6.bitCount_0f7a4
noncomputable def fJ6_bitCount_0f7a4_b0 (N : Nat) (x0 : Int32) (S : gS) : Option (Int32 × gS) := some ((((((((((((((((x0 - (((((x0.toUInt32 >>> ((1 : Int32).toUInt32 &&& Int32.toUInt32 31)).toInt32 : Int32)) &&& 1431655765 : Int32)) : Int32)) &&& 858993459 : Int32)) + (((((((x0 - (((((x0.toUInt32 >>> ((1 : Int32).toUInt32 &&& Int32.toUInt32 31)).toInt32 : Int32)) &&& 1431655765 : Int32)) : Int32)).toUInt32 >>> ((2 : Int32).toUInt32 &&& Int32.toUInt32 31)).toInt32 : Int32)) &&& 858993459 : Int32)) : Int32)) + (((((((((x0 - (((((x0.toUInt32 >>> ((1 : Int32).toUInt32 &&& Int32.toUInt32 31)).toInt32 : Int32)) &&& 1431655765 : Int32)) : Int32)) &&& 858993459 : Int32)) + (((((((x0 - (((((x0.toUInt32 >>> ((1 : Int32).toUInt32 &&& Int32.toUInt32 31)).toInt32 : Int32)) &&& 1431655765 : Int32)) : Int32)).toUInt32 >>> ((2 : Int32).toUInt32 &&& Int32.toUInt32 31)).toInt32 : Int32)) &&& 858993459 : Int32)) : Int32)).toUInt32 >>> ((4 : Int32).toUInt32 &&& Int32.toUInt32 31)).toInt32 : Int32)) : Int32)) &&& 252645135 : Int32)) + (((((((((((((x0 - (((((x0.toUInt32 >>> ((1 : Int32).toUInt32 &&& Int32.toUInt32 31)).toInt32 : Int32)) &&& 1431655765 : Int32)) : Int32)) &&& 858993459 : Int32)) + (((((((x0 - (((((x0.toUInt32 >>> ((1 : Int32).toUInt32 &&& Int32.toUInt32 31)).toInt32 : Int32)) &&& 1431655765 : Int32)) : Int32)).toUInt32 >>> ((2 : Int32).toUInt32 &&& Int32.toUInt32 31)).toInt32 : Int32)) &&& 858993459 : Int32)) : Int32)) + (((((((((x0 - (((((x0.toUInt32 >>> ((1 : Int32).toUInt32 &&& Int32.toUInt32 31)).toInt32 : Int32)) &&& 1431655765 : Int32)) : Int32)) &&& 858993459 : Int32)) + (((((((x0 - (((((x0.toUInt32 >>> ((1 : Int32).toUInt32 &&& Int32.toUInt32 31)).toInt32 : Int32)) &&& 1431655765 : Int32)) : Int32)).toUInt32 >>> ((2 : Int32).toUInt32 &&& Int32.toUInt32 31)).toInt32 : Int32)) &&& 858993459 : Int32)) : Int32)).toUInt32 >>> ((4 : Int32).toUInt32 &&& Int32.toUInt32 31)).toInt32 : Int32)) : Int32)) &&& 252645135 : Int32)).toUInt32 >>> ((8 : Int32).toUInt32 &&& Int32.toUInt32 31)).toInt32 : Int32)) : Int32)) + (((((((((((((((x0 - (((((x0.toUInt32 >>> ((1 : Int32).toUInt32 &&& Int32.toUInt32 31)).toInt32 : Int32)) &&& 1431655765 : Int32)) : Int32)) &&& 858993459 : Int32)) + (((((((x0 - (((((x0.toUInt32 >>> ((1 : Int32).toUInt32 &&& Int32.toUInt32 31)).toInt32 : Int32)) &&& 1431655765 : Int32)) : Int32)).toUInt32 >>> ((2 : Int32).toUInt32 &&& Int32.toUInt32 31)).toInt32 : Int32)) &&& 858993459 : Int32)) : Int32)) + (((((((((x0 - (((((x0.toUInt32 >>> ((1 : Int32).toUInt32 &&& Int32.toUInt32 31)).toInt32 : Int32)) &&& 1431655765 : Int32)) : Int32)) &&& 858993459 : Int32)) + (((((((x0 - (((((x0.toUInt32 >>> ((1 : Int32).toUInt32 &&& Int32.toUInt32 31)).toInt32 : Int32)) &&& 1431655765 : Int32)) : Int32)).toUInt32 >>> ((2 : Int32).toUInt32 &&& Int32.toUInt32 31)).toInt32 : Int32)) &&& 858993459 : Int32)) : Int32)).toUInt32 >>> ((4 : Int32).toUInt32 &&& Int32.toUInt32 31)).toInt32 : Int32)) : Int32)) &&& 252645135 : Int32)) + (((((((((((((x0 - (((((x0.toUInt32 >>> ((1 : Int32).toUInt32 &&& Int32.toUInt32 31)).toInt32 : Int32)) &&& 1431655765 : Int32)) : Int32)) &&& 858993459 : Int32)) + (((((((x0 - (((((x0.toUInt32 >>> ((1 : Int32).toUInt32 &&& Int32.toUInt32 31)).toInt32 : Int32)) &&& 1431655765 : Int32)) : Int32)).toUInt32 >>> ((2 : Int32).toUInt32 &&& Int32.toUInt32 31)).toInt32 : Int32)) &&& 858993459 : Int32)) : Int32)) + (((((((((x0 - (((((x0.toUInt32 >>> ((1 : Int32).toUInt32 &&& Int32.toUInt32 31)).toInt32 : Int32)) &&& 1431655765 : Int32)) : Int32)) &&& 858993459 : Int32)) + (((((((x0 - (((((x0.toUInt32 >>> ((1 : Int32).toUInt32 &&& Int32.toUInt32 31)).toInt32 : Int32)) &&& 1431655765 : Int32)) : Int32)).toUInt32 >>> ((2 : Int32).toUInt32 &&& Int32.toUInt32 31)).toInt32 : Int32)) &&& 858993459 : Int32)) : Int32)).toUInt32 >>> ((4 : Int32).toUInt32 &&& Int32.toUInt32 31)).toInt32 : Int32)) : Int32)) &&& 252645135 : Int32)).toUInt32 >>> ((8 : Int32).toUInt32 &&& Int32.toUInt32 31)).toInt32 : Int32)) : Int32)).toUInt32 >>> ((16 : Int32).toUInt32 &&& Int32.toUInt32 31)).toInt32 : Int32)) : Int32)) &&& 63 : Int32), S)
theorem bJ6_bitCount_0f7a4_0 {N : Nat} {x0 : Int32} {S : gS} {H : Heap} {locs : List Loc} {ls : Array Slot} {o : Int32 × gS} (C : gC p s m args meth c cJ6_bitCount_0f7a4 1 RJ6 ((some .int)) D tys ord adr Am) (O : sO cell ord adr Am aK aV) (X : gX D cell ord adr S s H locs) (hl : lv_has ls 1 [(0, .int x0)]) (hF : fJ6_bitCount_0f7a4_b0 N x0 S = some o) : W p l e (rmd 0) s m args below meth c H locs 0 0 (gE below args s D tys cell ord adr (some (.int o.1)) o.2) (F0 m 0 ls []) := by
  unfold fJ6_bitCount_0f7a4_b0 at hF
  refine lv_iload_n C.1.1 C.1.2.1 dJ6_bitCount_0f7a4_0 rfl (lv_at hl 0 rfl) ?_
  refine lv_iload_n C.1.1 C.1.2.1 dJ6_bitCount_0f7a4_1 rfl (lv_at hl 0 rfl) ?_
  refine lv_iconst (v := 1) C.1.1 C.1.2.1 dJ6_bitCount_0f7a4_2 (by decide) ?_
  refine lv_iushr C.1.1 C.1.2.1 dJ6_bitCount_0f7a4_3 rfl ?_
  refine lv_ldcw C.1.1 C.1.2.1 C.1.2.2.2.1 (C.1.2.2.2.2 _ xKI_J6_265) dJ6_bitCount_0f7a4_4 ?_
  refine lv_iand C.1.1 C.1.2.1 dJ6_bitCount_0f7a4_7 ?_
  refine lv_isub C.1.1 C.1.2.1 dJ6_bitCount_0f7a4_8 ?_
  refine lv_istore_n (lv' := [(0, .int ((x0 - (((((x0.toUInt32 >>> ((1 : Int32).toUInt32 &&& Int32.toUInt32 31)).toInt32 : Int32)) &&& 1431655765 : Int32)) : Int32)))]) C.1.1 C.1.2.1 dJ6_bitCount_0f7a4_9 rfl hl (by decide) rfl (fun ls hl => ?_)
  refine lv_iload_n C.1.1 C.1.2.1 dJ6_bitCount_0f7a4_10 rfl (lv_at hl 0 rfl) ?_
  refine lv_ldcw C.1.1 C.1.2.1 C.1.2.2.2.1 (C.1.2.2.2.2 _ xKI_J6_266) dJ6_bitCount_0f7a4_11 ?_
  refine lv_iand C.1.1 C.1.2.1 dJ6_bitCount_0f7a4_14 ?_
  refine lv_iload_n C.1.1 C.1.2.1 dJ6_bitCount_0f7a4_15 rfl (lv_at hl 0 rfl) ?_
  refine lv_iconst (v := 2) C.1.1 C.1.2.1 dJ6_bitCount_0f7a4_16 (by decide) ?_
  refine lv_iushr C.1.1 C.1.2.1 dJ6_bitCount_0f7a4_17 rfl ?_
  refine lv_ldcw C.1.1 C.1.2.1 C.1.2.2.2.1 (C.1.2.2.2.2 _ xKI_J6_266) dJ6_bitCount_0f7a4_18 ?_
  refine lv_iand C.1.1 C.1.2.1 dJ6_bitCount_0f7a4_21 ?_
  refine lv_iadd C.1.1 C.1.2.1 dJ6_bitCount_0f7a4_22 ?_
  refine lv_istore_n (lv' := [(0, .int ((((((x0 - (((((x0.toUInt32 >>> ((1 : Int32).toUInt32 &&& Int32.toUInt32 31)).toInt32 : Int32)) &&& 1431655765 : Int32)) : Int32)) &&& 858993459 : Int32)) + (((((((x0 - (((((x0.toUInt32 >>> ((1 : Int32).toUInt32 &&& Int32.toUInt32 31)).toInt32 : Int32)) &&& 1431655765 : Int32)) : Int32)).toUInt32 >>> ((2 : Int32).toUInt32 &&& Int32.toUInt32 31)).toInt32 : Int32)) &&& 858993459 : Int32)) : Int32)))]) C.1.1 C.1.2.1 dJ6_bitCount_0f7a4_23 rfl hl (by decide) rfl (fun ls hl => ?_)
  refine lv_iload_n C.1.1 C.1.2.1 dJ6_bitCount_0f7a4_24 rfl (lv_at hl 0 rfl) ?_
  refine lv_iload_n C.1.1 C.1.2.1 dJ6_bitCount_0f7a4_25 rfl (lv_at hl 0 rfl) ?_
  refine lv_iconst (v := 4) C.1.1 C.1.2.1 dJ6_bitCount_0f7a4_26 (by decide) ?_
  refine lv_iushr C.1.1 C.1.2.1 dJ6_bitCount_0f7a4_27 rfl ?_
  refine lv_iadd C.1.1 C.1.2.1 dJ6_bitCount_0f7a4_28 ?_
  refine lv_ldcw C.1.1 C.1.2.1 C.1.2.2.2.1 (C.1.2.2.2.2 _ xKI_J6_267) dJ6_bitCount_0f7a4_29 ?_
  refine lv_iand C.1.1 C.1.2.1 dJ6_bitCount_0f7a4_32 ?_
  refine lv_istore_n (lv' := [(0, .int ((((((((((x0 - (((((x0.toUInt32 >>> ((1 : Int32).toUInt32 &&& Int32.toUInt32 31)).toInt32 : Int32)) &&& 1431655765 : Int32)) : Int32)) &&& 858993459 : Int32)) + (((((((x0 - (((((x0.toUInt32 >>> ((1 : Int32).toUInt32 &&& Int32.toUInt32 31)).toInt32 : Int32)) &&& 1431655765 : Int32)) : Int32)).toUInt32 >>> ((2 : Int32).toUInt32 &&& Int32.toUInt32 31)).toInt32 : Int32)) &&& 858993459 : Int32)) : Int32)) + (((((((((x0 - (((((x0.toUInt32 >>> ((1 : Int32).toUInt32 &&& Int32.toUInt32 31)).toInt32 : Int32)) &&& 1431655765 : Int32)) : Int32)) &&& 858993459 : Int32)) + (((((((x0 - (((((x0.toUInt32 >>> ((1 : Int32).toUInt32 &&& Int32.toUInt32 31)).toInt32 : Int32)) &&& 1431655765 : Int32)) : Int32)).toUInt32 >>> ((2 : Int32).toUInt32 &&& Int32.toUInt32 31)).toInt32 : Int32)) &&& 858993459 : Int32)) : Int32)).toUInt32 >>> ((4 : Int32).toUInt32 &&& Int32.toUInt32 31)).toInt32 : Int32)) : Int32)) &&& 252645135 : Int32)))]) C.1.1 C.1.2.1 dJ6_bitCount_0f7a4_33 rfl hl (by decide) rfl (fun ls hl => ?_)
  refine lv_iload_n C.1.1 C.1.2.1 dJ6_bitCount_0f7a4_34 rfl (lv_at hl 0 rfl) ?_
  refine lv_iload_n C.1.1 C.1.2.1 dJ6_bitCount_0f7a4_35 rfl (lv_at hl 0 rfl) ?_
  refine lv_bipush (v := 8) C.1.1 C.1.2.1 dJ6_bitCount_0f7a4_36 (by decide) ?_
  refine lv_iushr C.1.1 C.1.2.1 dJ6_bitCount_0f7a4_38 rfl ?_
  refine lv_iadd C.1.1 C.1.2.1 dJ6_bitCount_0f7a4_39 ?_
  refine lv_istore_n (lv' := [(0, .int ((((((((((((x0 - (((((x0.toUInt32 >>> ((1 : Int32).toUInt32 &&& Int32.toUInt32 31)).toInt32 : Int32)) &&& 1431655765 : Int32)) : Int32)) &&& 858993459 : Int32)) + (((((((x0 - (((((x0.toUInt32 >>> ((1 : Int32).toUInt32 &&& Int32.toUInt32 31)).toInt32 : Int32)) &&& 1431655765 : Int32)) : Int32)).toUInt32 >>> ((2 : Int32).toUInt32 &&& Int32.toUInt32 31)).toInt32 : Int32)) &&& 858993459 : Int32)) : Int32)) + (((((((((x0 - (((((x0.toUInt32 >>> ((1 : Int32).toUInt32 &&& Int32.toUInt32 31)).toInt32 : Int32)) &&& 1431655765 : Int32)) : Int32)) &&& 858993459 : Int32)) + (((((((x0 - (((((x0.toUInt32 >>> ((1 : Int32).toUInt32 &&& Int32.toUInt32 31)).toInt32 : Int32)) &&& 1431655765 : Int32)) : Int32)).toUInt32 >>> ((2 : Int32).toUInt32 &&& Int32.toUInt32 31)).toInt32 : Int32)) &&& 858993459 : Int32)) : Int32)).toUInt32 >>> ((4 : Int32).toUInt32 &&& Int32.toUInt32 31)).toInt32 : Int32)) : Int32)) &&& 252645135 : Int32)) + (((((((((((((x0 - (((((x0.toUInt32 >>> ((1 : Int32).toUInt32 &&& Int32.toUInt32 31)).toInt32 : Int32)) &&& 1431655765 : Int32)) : Int32)) &&& 858993459 : Int32)) + (((((((x0 - (((((x0.toUInt32 >>> ((1 : Int32).toUInt32 &&& Int32.toUInt32 31)).toInt32 : Int32)) &&& 1431655765 : Int32)) : Int32)).toUInt32 >>> ((2 : Int32).toUInt32 &&& Int32.toUInt32 31)).toInt32 : Int32)) &&& 858993459 : Int32)) : Int32)) + (((((((((x0 - (((((x0.toUInt32 >>> ((1 : Int32).toUInt32 &&& Int32.toUInt32 31)).toInt32 : Int32)) &&& 1431655765 : Int32)) : Int32)) &&& 858993459 : Int32)) + (((((((x0 - (((((x0.toUInt32 >>> ((1 : Int32).toUInt32 &&& Int32.toUInt32 31)).toInt32 : Int32)) &&& 1431655765 : Int32)) : Int32)).toUInt32 >>> ((2 : Int32).toUInt32 &&& Int32.toUInt32 31)).toInt32 : Int32)) &&& 858993459 : Int32)) : Int32)).toUInt32 >>> ((4 : Int32).toUInt32 &&& Int32.toUInt32 31)).toInt32 : Int32)) : Int32)) &&& 252645135 : Int32)).toUInt32 >>> ((8 : Int32).toUInt32 &&& Int32.toUInt32 31)).toInt32 : Int32)) : Int32)))]) C.1.1 C.1.2.1 dJ6_bitCount_0f7a4_40 rfl hl (by decide) rfl (fun ls hl => ?_)
  refine lv_iload_n C.1.1 C.1.2.1 dJ6_bitCount_0f7a4_41 rfl (lv_at hl 0 rfl) ?_
  refine lv_iload_n C.1.1 C.1.2.1 dJ6_bitCount_0f7a4_42 rfl (lv_at hl 0 rfl) ?_
  refine lv_bipush (v := 16) C.1.1 C.1.2.1 dJ6_bitCount_0f7a4_43 (by decide) ?_
  refine lv_iushr C.1.1 C.1.2.1 dJ6_bitCount_0f7a4_45 rfl ?_
  refine lv_iadd C.1.1 C.1.2.1 dJ6_bitCount_0f7a4_46 ?_
  refine lv_istore_n (lv' := [(0, .int ((((((((((((((x0 - (((((x0.toUInt32 >>> ((1 : Int32).toUInt32 &&& Int32.toUInt32 31)).toInt32 : Int32)) &&& 1431655765 : Int32)) : Int32)) &&& 858993459 : Int32)) + (((((((x0 - (((((x0.toUInt32 >>> ((1 : Int32).toUInt32 &&& Int32.toUInt32 31)).toInt32 : Int32)) &&& 1431655765 : Int32)) : Int32)).toUInt32 >>> ((2 : Int32).toUInt32 &&& Int32.toUInt32 31)).toInt32 : Int32)) &&& 858993459 : Int32)) : Int32)) + (((((((((x0 - (((((x0.toUInt32 >>> ((1 : Int32).toUInt32 &&& Int32.toUInt32 31)).toInt32 : Int32)) &&& 1431655765 : Int32)) : Int32)) &&& 858993459 : Int32)) + (((((((x0 - (((((x0.toUInt32 >>> ((1 : Int32).toUInt32 &&& Int32.toUInt32 31)).toInt32 : Int32)) &&& 1431655765 : Int32)) : Int32)).toUInt32 >>> ((2 : Int32).toUInt32 &&& Int32.toUInt32 31)).toInt32 : Int32)) &&& 858993459 : Int32)) : Int32)).toUInt32 >>> ((4 : Int32).toUInt32 &&& Int32.toUInt32 31)).toInt32 : Int32)) : Int32)) &&& 252645135 : Int32)) + (((((((((((((x0 - (((((x0.toUInt32 >>> ((1 : Int32).toUInt32 &&& Int32.toUInt32 31)).toInt32 : Int32)) &&& 1431655765 : Int32)) : Int32)) &&& 858993459 : Int32)) + (((((((x0 - (((((x0.toUInt32 >>> ((1 : Int32).toUInt32 &&& Int32.toUInt32 31)).toInt32 : Int32)) &&& 1431655765 : Int32)) : Int32)).toUInt32 >>> ((2 : Int32).toUInt32 &&& Int32.toUInt32 31)).toInt32 : Int32)) &&& 858993459 : Int32)) : Int32)) + (((((((((x0 - (((((x0.toUInt32 >>> ((1 : Int32).toUInt32 &&& Int32.toUInt32 31)).toInt32 : Int32)) &&& 1431655765 : Int32)) : Int32)) &&& 858993459 : Int32)) + (((((((x0 - (((((x0.toUInt32 >>> ((1 : Int32).toUInt32 &&& Int32.toUInt32 31)).toInt32 : Int32)) &&& 1431655765 : Int32)) : Int32)).toUInt32 >>> ((2 : Int32).toUInt32 &&& Int32.toUInt32 31)).toInt32 : Int32)) &&& 858993459 : Int32)) : Int32)).toUInt32 >>> ((4 : Int32).toUInt32 &&& Int32.toUInt32 31)).toInt32 : Int32)) : Int32)) &&& 252645135 : Int32)).toUInt32 >>> ((8 : Int32).toUInt32 &&& Int32.toUInt32 31)).toInt32 : Int32)) : Int32)) + (((((((((((((((x0 - (((((x0.toUInt32 >>> ((1 : Int32).toUInt32 &&& Int32.toUInt32 31)).toInt32 : Int32)) &&& 1431655765 : Int32)) : Int32)) &&& 858993459 : Int32)) + (((((((x0 - (((((x0.toUInt32 >>> ((1 : Int32).toUInt32 &&& Int32.toUInt32 31)).toInt32 : Int32)) &&& 1431655765 : Int32)) : Int32)).toUInt32 >>> ((2 : Int32).toUInt32 &&& Int32.toUInt32 31)).toInt32 : Int32)) &&& 858993459 : Int32)) : Int32)) + (((((((((x0 - (((((x0.toUInt32 >>> ((1 : Int32).toUInt32 &&& Int32.toUInt32 31)).toInt32 : Int32)) &&& 1431655765 : Int32)) : Int32)) &&& 858993459 : Int32)) + (((((((x0 - (((((x0.toUInt32 >>> ((1 : Int32).toUInt32 &&& Int32.toUInt32 31)).toInt32 : Int32)) &&& 1431655765 : Int32)) : Int32)).toUInt32 >>> ((2 : Int32).toUInt32 &&& Int32.toUInt32 31)).toInt32 : Int32)) &&& 858993459 : Int32)) : Int32)).toUInt32 >>> ((4 : Int32).toUInt32 &&& Int32.toUInt32 31)).toInt32 : Int32)) : Int32)) &&& 252645135 : Int32)) + (((((((((((((x0 - (((((x0.toUInt32 >>> ((1 : Int32).toUInt32 &&& Int32.toUInt32 31)).toInt32 : Int32)) &&& 1431655765 : Int32)) : Int32)) &&& 858993459 : Int32)) + (((((((x0 - (((((x0.toUInt32 >>> ((1 : Int32).toUInt32 &&& Int32.toUInt32 31)).toInt32 : Int32)) &&& 1431655765 : Int32)) : Int32)).toUInt32 >>> ((2 : Int32).toUInt32 &&& Int32.toUInt32 31)).toInt32 : Int32)) &&& 858993459 : Int32)) : Int32)) + (((((((((x0 - (((((x0.toUInt32 >>> ((1 : Int32).toUInt32 &&& Int32.toUInt32 31)).toInt32 : Int32)) &&& 1431655765 : Int32)) : Int32)) &&& 858993459 : Int32)) + (((((((x0 - (((((x0.toUInt32 >>> ((1 : Int32).toUInt32 &&& Int32.toUInt32 31)).toInt32 : Int32)) &&& 1431655765 : Int32)) : Int32)).toUInt32 >>> ((2 : Int32).toUInt32 &&& Int32.toUInt32 31)).toInt32 : Int32)) &&& 858993459 : Int32)) : Int32)).toUInt32 >>> ((4 : Int32).toUInt32 &&& Int32.toUInt32 31)).toInt32 : Int32)) : Int32)) &&& 252645135 : Int32)).toUInt32 >>> ((8 : Int32).toUInt32 &&& Int32.toUInt32 31)).toInt32 : Int32)) : Int32)).toUInt32 >>> ((16 : Int32).toUInt32 &&& Int32.toUInt32 31)).toInt32 : Int32)) : Int32)))]) C.1.1 C.1.2.1 dJ6_bitCount_0f7a4_47 rfl hl (by decide) rfl (fun ls hl => ?_)
  refine lv_iload_n C.1.1 C.1.2.1 dJ6_bitCount_0f7a4_48 rfl (lv_at hl 0 rfl) ?_
  refine lv_bipush (v := 63) C.1.1 C.1.2.1 dJ6_bitCount_0f7a4_49 (by decide) ?_
  refine lv_iand C.1.1 C.1.2.1 dJ6_bitCount_0f7a4_51 ?_
  cases hF
  exact g_iret C X dJ6_bitCount_0f7a4_52
noncomputable def fJ6_bitCount_0f7a4 (N : Nat) (x0 : Int32) (S : gS) : Option (Int32 × gS) := fJ6_bitCount_0f7a4_b0 N x0 S
theorem kJ6_bitCount_0f7a4 {l : Launch} {D : va_G} {tys : List (ClassId × FieldType)} {cell : gS → Nat → Nat × va_E} {ord : List Nat} {adr : Nat → Nat} {Am : (Nat → Prop) → State → Heap → Prop} {aK aV : Nat → Nat} (O : sO cell ord adr Am aK aV) (P : gAm Am) (N : Nat) (x0 : Int32) (S : gS) (o : Int32 × gS) (hF : fJ6_bitCount_0f7a4 N x0 S = some o) : gM l yJ6_bitCount_0f7a4 cJ6_bitCount_0f7a4 1 ((some .int)) 0 D tys cell ord adr Am [.int x0] S (some (.int o.1)) o.2 :=
  gM_of O.1 P (by decide) (Nat.le_of_ble_eq_true rfl) (fun p e s m args below meth c ls C X hl => bJ6_bitCount_0f7a4_0 C O X (lv_sub hl [0] rfl) hF)
-- J0.coder_7d493
noncomputable def fJ0_coder_7d493_b14 (N : Nat) (t0 : Int32) (S : gS) : Option (Int32 × gS) := chk (nb t0) (some (t0, S))
theorem bJ0_coder_7d493_14 {N : Nat} {t0 : Int32} {S : gS} {H : Heap} {locs : List Loc} {ls : Array Slot} {o : Int32 × gS} (C : gC p s m args meth c cJ0_coder_7d493 1 RJ0 ((some .byte)) D tys ord adr Am) (O : sO cell ord adr Am aK aV) (X : gX D cell ord adr S s H locs) (hl : lv_has ls 1 []) (hF : fJ0_coder_7d493_b14 N t0 S = some o) : W p l e (rmd 0) s m args below meth c H locs 0 0 (gE below args s D tys cell ord adr (some (.int o.1)) o.2) (F0 m 14 ls [.int t0]) := by
  unfold fJ0_coder_7d493_b14 at hF
  obtain ⟨h_1, hF⟩ := chk_some hF
  cases hF
  exact g_nret C X (nb_narrow h_1) dJ0_coder_7d493_14
noncomputable def fJ0_coder_7d493_b13 (N : Nat) (S : gS) : Option (Int32 × gS) := fJ0_coder_7d493_b14 N 1 S
theorem bJ0_coder_7d493_13 {N : Nat} {S : gS} {H : Heap} {locs : List Loc} {ls : Array Slot} {o : Int32 × gS} (C : gC p s m args meth c cJ0_coder_7d493 1 RJ0 ((some .byte)) D tys ord adr Am) (O : sO cell ord adr Am aK aV) (X : gX D cell ord adr S s H locs) (hl : lv_has ls 1 []) (hF : fJ0_coder_7d493_b13 N S = some o) : W p l e (rmd 0) s m args below meth c H locs 0 0 (gE below args s D tys cell ord adr (some (.int o.1)) o.2) (F0 m 13 ls []) := by
  unfold fJ0_coder_7d493_b13 at hF
  refine lv_iconst (v := 1) C.1.1 C.1.2.1 dJ0_coder_7d493_13 (by decide) ?_
  exact bJ0_coder_7d493_14 C O X (lv_sub hl [] rfl) hF
noncomputable def fJ0_coder_7d493_b6 (N : Nat) (k0 : Nat) (S : gS) : Option (Int32 × gS) := fJ0_coder_7d493_b14 N 0 S
theorem bJ0_coder_7d493_6 {N : Nat} {k0 : Nat} {S : gS} {H : Heap} {locs : List Loc} {ls : Array Slot} {o : Int32 × gS} (C : gC p s m args meth c cJ0_coder_7d493 1 RJ0 ((some .byte)) D tys ord adr Am) (O : sO cell ord adr Am aK aV) (hk_k0 : sI k0 = true) (X : gX D cell ord adr S s H locs) (hl : lv_has ls 1 [(0, .ref (aK k0))]) (hF : fJ0_coder_7d493_b6 N k0 S = some o) : W p l e (rmd 0) s m args below meth c H locs 0 0 (gE below args s D tys cell ord adr (some (.int o.1)) o.2) (F0 m 6 ls []) := by
  unfold fJ0_coder_7d493_b6 at hF
  refine lv_aload_n C.1.1 C.1.2.1 dJ0_coder_7d493_6 rfl (lv_at hl 0 rfl) ?_
  refine s_coder C O X hk_k0 xl_J0_15 dJ0_coder_7d493_7 ?_
  refine lv_goto (tgt := 14) C.1.1 C.1.2.1 dJ0_coder_7d493_10 (by decide) ?_
  exact bJ0_coder_7d493_14 C O X (lv_sub hl [] rfl) hF
noncomputable def fJ0_coder_7d493_b0 (N : Nat) (k0 : Nat) (S : gS) : Option (Int32 × gS) := if (1 : Int32) = 0 then fJ0_coder_7d493_b13 N S else fJ0_coder_7d493_b6 N k0 S
theorem bJ0_coder_7d493_0 {N : Nat} {k0 : Nat} {S : gS} {H : Heap} {locs : List Loc} {ls : Array Slot} {o : Int32 × gS} (C : gC p s m args meth c cJ0_coder_7d493 1 RJ0 ((some .byte)) D tys ord adr Am) (O : sO cell ord adr Am aK aV) (hk_k0 : sI k0 = true) (X : gX D cell ord adr S s H locs) (hl : lv_has ls 1 [(0, .ref (aK k0))]) (hF : fJ0_coder_7d493_b0 N k0 S = some o) : W p l e (rmd 0) s m args below meth c H locs 0 0 (gE below args s D tys cell ord adr (some (.int o.1)) o.2) (F0 m 0 ls []) := by
  unfold fJ0_coder_7d493_b0 at hF
  refine s_comp C O X xl_J0_38 dJ0_coder_7d493_0 ?_
  refine lv_if_eq (tgt := 13) C.1.1 C.1.2.1 dJ0_coder_7d493_3 (by decide) (fun h_z => ?_) (fun h_z => ?_)
  · rw [if_pos h_z] at hF
    exact bJ0_coder_7d493_13 C O X (lv_sub hl [] rfl) hF
  · rw [if_neg h_z] at hF
    exact bJ0_coder_7d493_6 C O hk_k0 X (lv_sub hl [0] rfl) hF
noncomputable def fJ0_coder_7d493 (N : Nat) (k0 : Nat) (S : gS) : Option (Int32 × gS) := fJ0_coder_7d493_b0 N k0 S
theorem kJ0_coder_7d493 {l : Launch} {D : va_G} {tys : List (ClassId × FieldType)} {cell : gS → Nat → Nat × va_E} {ord : List Nat} {adr : Nat → Nat} {Am : (Nat → Prop) → State → Heap → Prop} {aK aV : Nat → Nat} (O : sO cell ord adr Am aK aV) (P : gAm Am) (N : Nat) (k0 : Nat) (hk_k0 : sI k0 = true) (S : gS) (o : Int32 × gS) (hF : fJ0_coder_7d493 N k0 S = some o) : gM l yJ0_coder_7d493 cJ0_coder_7d493 1 ((some .byte)) 0 D tys cell ord adr Am [.ref (aK k0)] S (some (.int o.1)) o.2 :=
  gM_of O.1 P (by decide) (Nat.le_of_ble_eq_true rfl) (fun p e s m args below meth c ls C X hl => bJ0_coder_7d493_0 C O hk_k0 X (lv_sub hl [0] rfl) hF)
-- J0.length_8abf5
noncomputable def fJ0_length_8abf5_b0 (N : Nat) (k0 : Nat) (S : gS) : Option (Int32 × gS) := bnd (fJ0_coder_7d493 N k0 S) fun q1 => (some (((Int32.ofNat (sLen k0)) >>> (q1.1 &&& 31) : Int32), q1.2))
theorem bJ0_length_8abf5_0 {N : Nat} {k0 : Nat} {S : gS} {H : Heap} {locs : List Loc} {ls : Array Slot} {o : Int32 × gS} (C : gC p s m args meth c cJ0_length_8abf5 1 RJ0 ((some .int)) D tys ord adr Am) (O : sO cell ord adr Am aK aV) (hk_k0 : sI k0 = true) (X : gX D cell ord adr S s H locs) (hl : lv_has ls 1 [(0, .ref (aK k0))]) (hF : fJ0_length_8abf5_b0 N k0 S = some o) : W p l e (rmd 1) s m args below meth c H locs 0 0 (gE below args s D tys cell ord adr (some (.int o.1)) o.2) (F0 m 0 ls []) := by
  unfold fJ0_length_8abf5_b0 at hF
  refine lv_aload_n C.1.1 C.1.2.1 dJ0_length_8abf5_0 rfl (lv_at hl 0 rfl) ?_
  refine s_value C O X hk_k0 xl_J0_9 dJ0_length_8abf5_1 ?_
  refine s_len C O X hk_k0 dJ0_length_8abf5_4 ?_
  refine lv_aload_n C.1.1 C.1.2.1 dJ0_length_8abf5_5 rfl (lv_at hl 0 rfl) ?_
  obtain ⟨q1, hq1, hF⟩ := bnd_some hF
  refine s_callV C O X xv_J0_335 rfl hk_k0 (kJ0_coder_7d493 O C.2.2.2.2.1 N k0 hk_k0 S q1 hq1) (Nat.le_of_ble_eq_true rfl) (Nat.le_of_ble_eq_true rfl) (Nat.le_of_ble_eq_true rfl) (Nat.le_of_ble_eq_true rfl) rfl hl.1 rfl (Nat.le_of_ble_eq_true rfl) dJ0_length_8abf5_6 (fun H locs X => ?_)
  refine lv_ishr C.1.1 C.1.2.1 dJ0_length_8abf5_9 ?_
  cases hF
  exact g_iret C X dJ0_length_8abf5_10
noncomputable def fJ0_length_8abf5 (N : Nat) (k0 : Nat) (S : gS) : Option (Int32 × gS) := fJ0_length_8abf5_b0 N k0 S
theorem kJ0_length_8abf5 {l : Launch} {D : va_G} {tys : List (ClassId × FieldType)} {cell : gS → Nat → Nat × va_E} {ord : List Nat} {adr : Nat → Nat} {Am : (Nat → Prop) → State → Heap → Prop} {aK aV : Nat → Nat} (O : sO cell ord adr Am aK aV) (P : gAm Am) (N : Nat) (k0 : Nat) (hk_k0 : sI k0 = true) (S : gS) (o : Int32 × gS) (hF : fJ0_length_8abf5 N k0 S = some o) : gM l yJ0_length_8abf5 cJ0_length_8abf5 1 ((some .int)) 1 D tys cell ord adr Am [.ref (aK k0)] S (some (.int o.1)) o.2 :=
  gM_of O.1 P (by decide) (Nat.le_of_ble_eq_true rfl) (fun p e s m args below meth c ls C X hl => bJ0_length_8abf5_0 C O hk_k0 X (lv_sub hl [0] rfl) hF)
-- J0.isLatin1_aae02
noncomputable def fJ0_isLatin1_aae02_b18 (N : Nat) (t0 : Int32) (S : gS) : Option (Int32 × gS) := chk (zb t0) (some (t0, S))
theorem bJ0_isLatin1_aae02_18 {N : Nat} {t0 : Int32} {S : gS} {H : Heap} {locs : List Loc} {ls : Array Slot} {o : Int32 × gS} (C : gC p s m args meth c cJ0_isLatin1_aae02 1 RJ0 ((some .boolean)) D tys ord adr Am) (O : sO cell ord adr Am aK aV) (X : gX D cell ord adr S s H locs) (hl : lv_has ls 1 []) (hF : fJ0_isLatin1_aae02_b18 N t0 S = some o) : W p l e (rmd 0) s m args below meth c H locs 0 0 (gE below args s D tys cell ord adr (some (.int o.1)) o.2) (F0 m 18 ls [.int t0]) := by
  unfold fJ0_isLatin1_aae02_b18 at hF
  obtain ⟨h_1, hF⟩ := chk_some hF
  cases hF
  exact g_zret C X h_1 dJ0_isLatin1_aae02_18
noncomputable def fJ0_isLatin1_aae02_b17 (N : Nat) (S : gS) : Option (Int32 × gS) := fJ0_isLatin1_aae02_b18 N 0 S
theorem bJ0_isLatin1_aae02_17 {N : Nat} {S : gS} {H : Heap} {locs : List Loc} {ls : Array Slot} {o : Int32 × gS} (C : gC p s m args meth c cJ0_isLatin1_aae02 1 RJ0 ((some .boolean)) D tys ord adr Am) (O : sO cell ord adr Am aK aV) (X : gX D cell ord adr S s H locs) (hl : lv_has ls 1 []) (hF : fJ0_isLatin1_aae02_b17 N S = some o) : W p l e (rmd 0) s m args below meth c H locs 0 0 (gE below args s D tys cell ord adr (some (.int o.1)) o.2) (F0 m 17 ls []) := by
  unfold fJ0_isLatin1_aae02_b17 at hF
  refine lv_iconst (v := 0) C.1.1 C.1.2.1 dJ0_isLatin1_aae02_17 (by decide) ?_
  exact bJ0_isLatin1_aae02_18 C O X (lv_sub hl [] rfl) hF
noncomputable def fJ0_isLatin1_aae02_b13 (N : Nat) (S : gS) : Option (Int32 × gS) := fJ0_isLatin1_aae02_b18 N 1 S
theorem bJ0_isLatin1_aae02_13 {N : Nat} {S : gS} {H : Heap} {locs : List Loc} {ls : Array Slot} {o : Int32 × gS} (C : gC p s m args meth c cJ0_isLatin1_aae02 1 RJ0 ((some .boolean)) D tys ord adr Am) (O : sO cell ord adr Am aK aV) (X : gX D cell ord adr S s H locs) (hl : lv_has ls 1 []) (hF : fJ0_isLatin1_aae02_b13 N S = some o) : W p l e (rmd 0) s m args below meth c H locs 0 0 (gE below args s D tys cell ord adr (some (.int o.1)) o.2) (F0 m 13 ls []) := by
  unfold fJ0_isLatin1_aae02_b13 at hF
  refine lv_iconst (v := 1) C.1.1 C.1.2.1 dJ0_isLatin1_aae02_13 (by decide) ?_
  refine lv_goto (tgt := 18) C.1.1 C.1.2.1 dJ0_isLatin1_aae02_14 (by decide) ?_
  exact bJ0_isLatin1_aae02_18 C O X (lv_sub hl [] rfl) hF
noncomputable def fJ0_isLatin1_aae02_b6 (N : Nat) (k0 : Nat) (S : gS) : Option (Int32 × gS) := if (0 : Int32) = 0 then fJ0_isLatin1_aae02_b13 N S else fJ0_isLatin1_aae02_b17 N S
theorem bJ0_isLatin1_aae02_6 {N : Nat} {k0 : Nat} {S : gS} {H : Heap} {locs : List Loc} {ls : Array Slot} {o : Int32 × gS} (C : gC p s m args meth c cJ0_isLatin1_aae02 1 RJ0 ((some .boolean)) D tys ord adr Am) (O : sO cell ord adr Am aK aV) (hk_k0 : sI k0 = true) (X : gX D cell ord adr S s H locs) (hl : lv_has ls 1 [(0, .ref (aK k0))]) (hF : fJ0_isLatin1_aae02_b6 N k0 S = some o) : W p l e (rmd 0) s m args below meth c H locs 0 0 (gE below args s D tys cell ord adr (some (.int o.1)) o.2) (F0 m 6 ls []) := by
  unfold fJ0_isLatin1_aae02_b6 at hF
  refine lv_aload_n C.1.1 C.1.2.1 dJ0_isLatin1_aae02_6 rfl (lv_at hl 0 rfl) ?_
  refine s_coder C O X hk_k0 xl_J0_15 dJ0_isLatin1_aae02_7 ?_
  refine lv_if_ne (tgt := 17) C.1.1 C.1.2.1 dJ0_isLatin1_aae02_10 (by decide) (fun h_z => ?_) (fun h_z => ?_)
  · rw [if_neg h_z] at hF
    exact bJ0_isLatin1_aae02_17 C O X (lv_sub hl [] rfl) hF
  · rw [if_pos h_z] at hF
    exact bJ0_isLatin1_aae02_13 C O X (lv_sub hl [] rfl) hF
noncomputable def fJ0_isLatin1_aae02_b0 (N : Nat) (k0 : Nat) (S : gS) : Option (Int32 × gS) := if (1 : Int32) = 0 then fJ0_isLatin1_aae02_b17 N S else fJ0_isLatin1_aae02_b6 N k0 S
theorem bJ0_isLatin1_aae02_0 {N : Nat} {k0 : Nat} {S : gS} {H : Heap} {locs : List Loc} {ls : Array Slot} {o : Int32 × gS} (C : gC p s m args meth c cJ0_isLatin1_aae02 1 RJ0 ((some .boolean)) D tys ord adr Am) (O : sO cell ord adr Am aK aV) (hk_k0 : sI k0 = true) (X : gX D cell ord adr S s H locs) (hl : lv_has ls 1 [(0, .ref (aK k0))]) (hF : fJ0_isLatin1_aae02_b0 N k0 S = some o) : W p l e (rmd 0) s m args below meth c H locs 0 0 (gE below args s D tys cell ord adr (some (.int o.1)) o.2) (F0 m 0 ls []) := by
  unfold fJ0_isLatin1_aae02_b0 at hF
  refine s_comp C O X xl_J0_38 dJ0_isLatin1_aae02_0 ?_
  refine lv_if_eq (tgt := 17) C.1.1 C.1.2.1 dJ0_isLatin1_aae02_3 (by decide) (fun h_z => ?_) (fun h_z => ?_)
  · rw [if_pos h_z] at hF
    exact bJ0_isLatin1_aae02_17 C O X (lv_sub hl [] rfl) hF
  · rw [if_neg h_z] at hF
    exact bJ0_isLatin1_aae02_6 C O hk_k0 X (lv_sub hl [0] rfl) hF
noncomputable def fJ0_isLatin1_aae02 (N : Nat) (k0 : Nat) (S : gS) : Option (Int32 × gS) := fJ0_isLatin1_aae02_b0 N k0 S
theorem kJ0_isLatin1_aae02 {l : Launch} {D : va_G} {tys : List (ClassId × FieldType)} {cell : gS → Nat → Nat × va_E} {ord : List Nat} {adr : Nat → Nat} {Am : (Nat → Prop) → State → Heap → Prop} {aK aV : Nat → Nat} (O : sO cell ord adr Am aK aV) (P : gAm Am) (N : Nat) (k0 : Nat) (hk_k0 : sI k0 = true) (S : gS) (o : Int32 × gS) (hF : fJ0_isLatin1_aae02 N k0 S = some o) : gM l yJ0_isLatin1_aae02 cJ0_isLatin1_aae02 1 ((some .boolean)) 0 D tys cell ord adr Am [.ref (aK k0)] S (some (.int o.1)) o.2 :=
  gM_of O.1 P (by decide) (Nat.le_of_ble_eq_true rfl) (fun p e s m args below meth c ls C X hl => bJ0_isLatin1_aae02_0 C O hk_k0 X (lv_sub hl [0] rfl) hF)
-- J3.checkIndex_8e157
noncomputable def fJ3_checkIndex_8e157_b16 (N : Nat) (x0 : Int32) (S : gS) : Option (Int32 × gS) := some (x0, S)
theorem bJ3_checkIndex_8e157_16 {N : Nat} {x0 : Int32} {S : gS} {H : Heap} {locs : List Loc} {ls : Array Slot} {o : Int32 × gS} (C : gC p s m args meth c cJ3_checkIndex_8e157 3 RJ3 ((some .int)) D tys ord adr Am) (O : sO cell ord adr Am aK aV) (X : gX D cell ord adr S s H locs) (hl : lv_has ls 3 [(0, .int x0)]) (hF : fJ3_checkIndex_8e157_b16 N x0 S = some o) : W p l e (rmd 0) s m args below meth c H locs 0 0 (gE below args s D tys cell ord adr (some (.int o.1)) o.2) (F0 m 16 ls []) := by
  unfold fJ3_checkIndex_8e157_b16 at hF
  refine lv_iload_n C.1.1 C.1.2.1 dJ3_checkIndex_8e157_16 rfl (lv_at hl 0 rfl) ?_
  cases hF
  exact g_iret C X dJ3_checkIndex_8e157_17
noncomputable def fJ3_checkIndex_8e157_b9 (N : Nat) (S : gS) : Option (Int32 × gS) := none
theorem bJ3_checkIndex_8e157_9 {N : Nat} {S : gS} {H : Heap} {locs : List Loc} {ls : Array Slot} {o : Int32 × gS} (C : gC p s m args meth c cJ3_checkIndex_8e157 3 RJ3 ((some .int)) D tys ord adr Am) (O : sO cell ord adr Am aK aV) (X : gX D cell ord adr S s H locs) (hl : lv_has ls 3 []) (hF : fJ3_checkIndex_8e157_b9 N S = some o) : W p l e (rmd 0) s m args below meth c H locs 0 0 (gE below args s D tys cell ord adr (some (.int o.1)) o.2) (F0 m 9 ls []) := by
  unfold fJ3_checkIndex_8e157_b9 at hF
  exact absurd hF (by simp)
noncomputable def fJ3_checkIndex_8e157_b4 (N : Nat) (x0 : Int32) (x1 : Int32) (S : gS) : Option (Int32 × gS) := if x0 < x1 then fJ3_checkIndex_8e157_b16 N x0 S else fJ3_checkIndex_8e157_b9 N S
theorem bJ3_checkIndex_8e157_4 {N : Nat} {x0 : Int32} {x1 : Int32} {S : gS} {H : Heap} {locs : List Loc} {ls : Array Slot} {o : Int32 × gS} (C : gC p s m args meth c cJ3_checkIndex_8e157 3 RJ3 ((some .int)) D tys ord adr Am) (O : sO cell ord adr Am aK aV) (X : gX D cell ord adr S s H locs) (hl : lv_has ls 3 [(0, .int x0), (1, .int x1)]) (hF : fJ3_checkIndex_8e157_b4 N x0 x1 S = some o) : W p l e (rmd 0) s m args below meth c H locs 0 0 (gE below args s D tys cell ord adr (some (.int o.1)) o.2) (F0 m 4 ls []) := by
  unfold fJ3_checkIndex_8e157_b4 at hF
  refine lv_iload_n C.1.1 C.1.2.1 dJ3_checkIndex_8e157_4 rfl (lv_at hl 0 rfl) ?_
  refine lv_iload_n C.1.1 C.1.2.1 dJ3_checkIndex_8e157_5 rfl (lv_at hl 1 rfl) ?_
  refine lv_icmp_lt (tgt := 16) C.1.1 C.1.2.1 dJ3_checkIndex_8e157_6 (by decide) (fun h_z => ?_) (fun h_z => ?_)
  · rw [if_pos h_z] at hF
    exact bJ3_checkIndex_8e157_16 C O X (lv_sub hl [0] rfl) hF
  · rw [if_neg h_z] at hF
    exact bJ3_checkIndex_8e157_9 C O X (lv_sub hl [] rfl) hF
noncomputable def fJ3_checkIndex_8e157_b0 (N : Nat) (x0 : Int32) (x1 : Int32) (S : gS) : Option (Int32 × gS) := if x0 < 0 then fJ3_checkIndex_8e157_b9 N S else fJ3_checkIndex_8e157_b4 N x0 x1 S
theorem bJ3_checkIndex_8e157_0 {N : Nat} {x0 : Int32} {x1 : Int32} {S : gS} {H : Heap} {locs : List Loc} {ls : Array Slot} {o : Int32 × gS} (C : gC p s m args meth c cJ3_checkIndex_8e157 3 RJ3 ((some .int)) D tys ord adr Am) (O : sO cell ord adr Am aK aV) (X : gX D cell ord adr S s H locs) (hl : lv_has ls 3 [(0, .int x0), (1, .int x1)]) (hF : fJ3_checkIndex_8e157_b0 N x0 x1 S = some o) : W p l e (rmd 0) s m args below meth c H locs 0 0 (gE below args s D tys cell ord adr (some (.int o.1)) o.2) (F0 m 0 ls []) := by
  unfold fJ3_checkIndex_8e157_b0 at hF
  refine lv_iload_n C.1.1 C.1.2.1 dJ3_checkIndex_8e157_0 rfl (lv_at hl 0 rfl) ?_
  refine lv_if_lt (tgt := 9) C.1.1 C.1.2.1 dJ3_checkIndex_8e157_1 (by decide) (fun h_z => ?_) (fun h_z => ?_)
  · rw [if_pos h_z] at hF
    exact bJ3_checkIndex_8e157_9 C O X (lv_sub hl [] rfl) hF
  · rw [if_neg h_z] at hF
    exact bJ3_checkIndex_8e157_4 C O X (lv_sub hl [0, 1] rfl) hF
noncomputable def fJ3_checkIndex_8e157 (N : Nat) (x0 : Int32) (x1 : Int32) (S : gS) : Option (Int32 × gS) := fJ3_checkIndex_8e157_b0 N x0 x1 S
theorem kJ3_checkIndex_8e157 {l : Launch} {D : va_G} {tys : List (ClassId × FieldType)} {cell : gS → Nat → Nat × va_E} {ord : List Nat} {adr : Nat → Nat} {Am : (Nat → Prop) → State → Heap → Prop} {aK aV : Nat → Nat} (O : sO cell ord adr Am aK aV) (P : gAm Am) (N : Nat) (x0 : Int32) (x1 : Int32) (z2 : Option Nat) (S : gS) (o : Int32 × gS) (hF : fJ3_checkIndex_8e157 N x0 x1 S = some o) : gM l yJ3_checkIndex_8e157 cJ3_checkIndex_8e157 3 ((some .int)) 0 D tys cell ord adr Am [.int x0, .int x1, va_rf z2] S (some (.int o.1)) o.2 := by
  cases z2 <;> exact gM_of O.1 P (by decide) (Nat.le_of_ble_eq_true rfl) (fun p e s m args below meth c ls C X hl => bJ3_checkIndex_8e157_0 C O X (lv_sub hl [0, 1] rfl) hF)
-- J0.checkIndex_df160
noncomputable def fJ0_checkIndex_df160_b0 (N : Nat) (x0 : Int32) (x1 : Int32) (S : gS) : Option (Int32 × gS) := bnd (fJ3_checkIndex_8e157 N x0 x1 S) fun q1 => (some (0, q1.2))
theorem bJ0_checkIndex_df160_0 {N : Nat} {x0 : Int32} {x1 : Int32} {S : gS} {H : Heap} {locs : List Loc} {ls : Array Slot} {o : Int32 × gS} (C : gC p s m args meth c cJ0_checkIndex_df160 2 RJ0 none D tys ord adr Am) (O : sO cell ord adr Am aK aV) (X : gX D cell ord adr S s H locs) (hl : lv_has ls 2 [(0, .int x0), (1, .int x1)]) (hF : fJ0_checkIndex_df160_b0 N x0 x1 S = some o) : W p l e (rmd 1) s m args below meth c H locs 0 0 (gE below args s D tys cell ord adr none o.2) (F0 m 0 ls []) := by
  unfold fJ0_checkIndex_df160_b0 at hF
  refine lv_iload_n C.1.1 C.1.2.1 dJ0_checkIndex_df160_0 rfl (lv_at hl 0 rfl) ?_
  refine lv_iload_n C.1.1 C.1.2.1 dJ0_checkIndex_df160_1 rfl (lv_at hl 1 rfl) ?_
  refine s_fmt C O X xl_J0_1053 dJ0_checkIndex_df160_2 (fun z1 => ?_)
  obtain ⟨q1, hq1, hF⟩ := bnd_some hF
  refine g_callOi C X xv_J0_1059 (kJ3_checkIndex_8e157 O C.2.2.2.2.1 N x0 x1 z1 S q1 hq1) (Nat.le_of_ble_eq_true rfl) (Nat.le_of_ble_eq_true rfl) (Nat.le_of_ble_eq_true rfl) (Nat.le_of_ble_eq_true rfl) rfl hl.1 rfl (Nat.le_of_ble_eq_true rfl) dJ0_checkIndex_df160_5 (fun H locs X => ?_)
  refine lv_pop C.1.1 C.1.2.1 dJ0_checkIndex_df160_8 rfl ?_
  cases hF
  exact g_vret C X dJ0_checkIndex_df160_9
noncomputable def fJ0_checkIndex_df160 (N : Nat) (x0 : Int32) (x1 : Int32) (S : gS) : Option (Int32 × gS) := fJ0_checkIndex_df160_b0 N x0 x1 S
theorem kJ0_checkIndex_df160 {l : Launch} {D : va_G} {tys : List (ClassId × FieldType)} {cell : gS → Nat → Nat × va_E} {ord : List Nat} {adr : Nat → Nat} {Am : (Nat → Prop) → State → Heap → Prop} {aK aV : Nat → Nat} (O : sO cell ord adr Am aK aV) (P : gAm Am) (N : Nat) (x0 : Int32) (x1 : Int32) (S : gS) (o : Int32 × gS) (hF : fJ0_checkIndex_df160 N x0 x1 S = some o) : gM l yJ0_checkIndex_df160 cJ0_checkIndex_df160 2 none 1 D tys cell ord adr Am [.int x0, .int x1] S none o.2 :=
  gM_of O.1 P (by decide) (Nat.le_of_ble_eq_true rfl) (fun p e s m args below meth c ls C X hl => bJ0_checkIndex_df160_0 C O X (lv_sub hl [0, 1] rfl) hF)
-- J1.charAt_3b067
noncomputable def fJ1_charAt_3b067_b0 (N : Nat) (k0 : Nat) (x1 : Int32) (S : gS) : Option (Int32 × gS) := bnd (fJ0_checkIndex_df160 N x1 (Int32.ofNat (sLen k0)) S) fun q1 => (chk (inb x1 (sLen k0)) (chk (nc ((Int32.toUInt32 (((sByt k0 (Int32.toNatClampNeg x1)) &&& 255 : Int32)) % 65536).toInt32)) (some ((Int32.toUInt32 (((sByt k0 (Int32.toNatClampNeg x1)) &&& 255 : Int32)) % 65536).toInt32, q1.2))))
theorem bJ1_charAt_3b067_0 {N : Nat} {k0 : Nat} {x1 : Int32} {S : gS} {H : Heap} {locs : List Loc} {ls : Array Slot} {o : Int32 × gS} (C : gC p s m args meth c cJ1_charAt_3b067 2 RJ1 ((some .char)) D tys ord adr Am) (O : sO cell ord adr Am aK aV) (hk_k0 : sI k0 = true) (X : gX D cell ord adr S s H locs) (hl : lv_has ls 2 [(0, .ref (aV k0)), (1, .int x1)]) (hF : fJ1_charAt_3b067_b0 N k0 x1 S = some o) : W p l e (rmd 2) s m args below meth c H locs 0 0 (gE below args s D tys cell ord adr (some (.int o.1)) o.2) (F0 m 0 ls []) := by
  unfold fJ1_charAt_3b067_b0 at hF
  refine lv_iload_n C.1.1 C.1.2.1 dJ1_charAt_3b067_0 rfl (lv_at hl 1 rfl) ?_
  refine lv_aload_n C.1.1 C.1.2.1 dJ1_charAt_3b067_1 rfl (lv_at hl 0 rfl) ?_
  refine s_len C O X hk_k0 dJ1_charAt_3b067_2 ?_
  obtain ⟨q1, hq1, hF⟩ := bnd_some hF
  refine g_callO C X xv_J1_9 (kJ0_checkIndex_df160 O C.2.2.2.2.1 N x1 (Int32.ofNat (sLen k0)) S q1 hq1) (Nat.le_of_ble_eq_true rfl) (Nat.le_of_ble_eq_true rfl) (Nat.le_of_ble_eq_true rfl) (Nat.le_of_ble_eq_true rfl) rfl hl.1 rfl (Nat.le_of_ble_eq_true rfl) dJ1_charAt_3b067_3 (fun H locs X => ?_)
  refine lv_aload_n C.1.1 C.1.2.1 dJ1_charAt_3b067_6 rfl (lv_at hl 0 rfl) ?_
  refine lv_iload_n C.1.1 C.1.2.1 dJ1_charAt_3b067_7 rfl (lv_at hl 1 rfl) ?_
  obtain ⟨h_1, hF⟩ := chk_some hF
  refine s_byte C O X hk_k0 (inb_vp h_1) dJ1_charAt_3b067_8 ?_
  refine lv_sipush (v := 255) C.1.1 C.1.2.1 dJ1_charAt_3b067_9 (by decide) ?_
  refine lv_iand C.1.1 C.1.2.1 dJ1_charAt_3b067_12 ?_
  refine lv_i2c (v := (Int32.toUInt32 (((sByt k0 (Int32.toNatClampNeg x1)) &&& 255 : Int32)) % 65536).toInt32) C.1.1 C.1.2.1 dJ1_charAt_3b067_13 rfl ?_
  obtain ⟨h_2, hF⟩ := chk_some hF
  cases hF
  exact g_nret C X (nc_narrow h_2) dJ1_charAt_3b067_14
noncomputable def fJ1_charAt_3b067 (N : Nat) (k0 : Nat) (x1 : Int32) (S : gS) : Option (Int32 × gS) := fJ1_charAt_3b067_b0 N k0 x1 S
theorem kJ1_charAt_3b067 {l : Launch} {D : va_G} {tys : List (ClassId × FieldType)} {cell : gS → Nat → Nat × va_E} {ord : List Nat} {adr : Nat → Nat} {Am : (Nat → Prop) → State → Heap → Prop} {aK aV : Nat → Nat} (O : sO cell ord adr Am aK aV) (P : gAm Am) (N : Nat) (k0 : Nat) (x1 : Int32) (hk_k0 : sI k0 = true) (S : gS) (o : Int32 × gS) (hF : fJ1_charAt_3b067 N k0 x1 S = some o) : gM l yJ1_charAt_3b067 cJ1_charAt_3b067 2 ((some .char)) 2 D tys cell ord adr Am [.ref (aV k0), .int x1] S (some (.int o.1)) o.2 :=
  gM_of O.1 P (by decide) (Nat.le_of_ble_eq_true rfl) (fun p e s m args below meth c ls C X hl => bJ1_charAt_3b067_0 C O hk_k0 X (lv_sub hl [0, 1] rfl) hF)
-- J0.charAt_5068e
noncomputable def fJ0_charAt_5068e_b16 (N : Nat) (S : gS) : Option (Int32 × gS) := none
theorem bJ0_charAt_5068e_16 {N : Nat} {S : gS} {H : Heap} {locs : List Loc} {ls : Array Slot} {o : Int32 × gS} (C : gC p s m args meth c cJ0_charAt_5068e 2 RJ0 ((some .char)) D tys ord adr Am) (O : sO cell ord adr Am aK aV) (X : gX D cell ord adr S s H locs) (hl : lv_has ls 2 []) (hF : fJ0_charAt_5068e_b16 N S = some o) : W p l e (rmd 3) s m args below meth c H locs 0 0 (gE below args s D tys cell ord adr (some (.int o.1)) o.2) (F0 m 16 ls []) := by
  unfold fJ0_charAt_5068e_b16 at hF
  exact absurd hF (by simp)
noncomputable def fJ0_charAt_5068e_b7 (N : Nat) (k0 : Nat) (x1 : Int32) (S : gS) : Option (Int32 × gS) := bnd (fJ1_charAt_3b067 N k0 x1 S) fun q1 => (chk (nc q1.1) (some (q1.1, q1.2)))
theorem bJ0_charAt_5068e_7 {N : Nat} {k0 : Nat} {x1 : Int32} {S : gS} {H : Heap} {locs : List Loc} {ls : Array Slot} {o : Int32 × gS} (C : gC p s m args meth c cJ0_charAt_5068e 2 RJ0 ((some .char)) D tys ord adr Am) (O : sO cell ord adr Am aK aV) (hk_k0 : sI k0 = true) (X : gX D cell ord adr S s H locs) (hl : lv_has ls 2 [(0, .ref (aK k0)), (1, .int x1)]) (hF : fJ0_charAt_5068e_b7 N k0 x1 S = some o) : W p l e (rmd 3) s m args below meth c H locs 0 0 (gE below args s D tys cell ord adr (some (.int o.1)) o.2) (F0 m 7 ls []) := by
  unfold fJ0_charAt_5068e_b7 at hF
  refine lv_aload_n C.1.1 C.1.2.1 dJ0_charAt_5068e_7 rfl (lv_at hl 0 rfl) ?_
  refine s_value C O X hk_k0 xl_J0_9 dJ0_charAt_5068e_8 ?_
  refine lv_iload_n C.1.1 C.1.2.1 dJ0_charAt_5068e_11 rfl (lv_at hl 1 rfl) ?_
  obtain ⟨q1, hq1, hF⟩ := bnd_some hF
  refine g_callOi C X xv_J0_495 (kJ1_charAt_3b067 O C.2.2.2.2.1 N k0 x1 hk_k0 S q1 hq1) (Nat.le_of_ble_eq_true rfl) (Nat.le_of_ble_eq_true rfl) (Nat.le_of_ble_eq_true rfl) (Nat.le_of_ble_eq_true rfl) rfl hl.1 rfl (Nat.le_of_ble_eq_true rfl) dJ0_charAt_5068e_12 (fun H locs X => ?_)
  obtain ⟨h_1, hF⟩ := chk_some hF
  cases hF
  exact g_nret C X (nc_narrow h_1) dJ0_charAt_5068e_15
noncomputable def fJ0_charAt_5068e_b0 (N : Nat) (k0 : Nat) (x1 : Int32) (S : gS) : Option (Int32 × gS) := bnd (fJ0_isLatin1_aae02 N k0 S) fun q1 => (if q1.1 = 0 then fJ0_charAt_5068e_b16 N q1.2 else fJ0_charAt_5068e_b7 N k0 x1 q1.2)
theorem bJ0_charAt_5068e_0 {N : Nat} {k0 : Nat} {x1 : Int32} {S : gS} {H : Heap} {locs : List Loc} {ls : Array Slot} {o : Int32 × gS} (C : gC p s m args meth c cJ0_charAt_5068e 2 RJ0 ((some .char)) D tys ord adr Am) (O : sO cell ord adr Am aK aV) (hk_k0 : sI k0 = true) (X : gX D cell ord adr S s H locs) (hl : lv_has ls 2 [(0, .ref (aK k0)), (1, .int x1)]) (hF : fJ0_charAt_5068e_b0 N k0 x1 S = some o) : W p l e (rmd 3) s m args below meth c H locs 0 0 (gE below args s D tys cell ord adr (some (.int o.1)) o.2) (F0 m 0 ls []) := by
  unfold fJ0_charAt_5068e_b0 at hF
  refine lv_aload_n C.1.1 C.1.2.1 dJ0_charAt_5068e_0 rfl (lv_at hl 0 rfl) ?_
  obtain ⟨q1, hq1, hF⟩ := bnd_some hF
  refine s_callV C O X xv_J0_492 rfl hk_k0 (kJ0_isLatin1_aae02 O C.2.2.2.2.1 N k0 hk_k0 S q1 hq1) (Nat.le_of_ble_eq_true rfl) (Nat.le_of_ble_eq_true rfl) (Nat.le_of_ble_eq_true rfl) (Nat.le_of_ble_eq_true rfl) rfl hl.1 rfl (Nat.le_of_ble_eq_true rfl) dJ0_charAt_5068e_1 (fun H locs X => ?_)
  refine lv_if_eq (tgt := 16) C.1.1 C.1.2.1 dJ0_charAt_5068e_4 (by decide) (fun h_z => ?_) (fun h_z => ?_)
  · rw [if_pos h_z] at hF
    exact bJ0_charAt_5068e_16 C O X (lv_sub hl [] rfl) hF
  · rw [if_neg h_z] at hF
    exact bJ0_charAt_5068e_7 C O hk_k0 X (lv_sub hl [0, 1] rfl) hF
noncomputable def fJ0_charAt_5068e (N : Nat) (k0 : Nat) (x1 : Int32) (S : gS) : Option (Int32 × gS) := fJ0_charAt_5068e_b0 N k0 x1 S
theorem kJ0_charAt_5068e {l : Launch} {D : va_G} {tys : List (ClassId × FieldType)} {cell : gS → Nat → Nat × va_E} {ord : List Nat} {adr : Nat → Nat} {Am : (Nat → Prop) → State → Heap → Prop} {aK aV : Nat → Nat} (O : sO cell ord adr Am aK aV) (P : gAm Am) (N : Nat) (k0 : Nat) (x1 : Int32) (hk_k0 : sI k0 = true) (S : gS) (o : Int32 × gS) (hF : fJ0_charAt_5068e N k0 x1 S = some o) : gM l yJ0_charAt_5068e cJ0_charAt_5068e 2 ((some .char)) 3 D tys cell ord adr Am [.ref (aK k0), .int x1] S (some (.int o.1)) o.2 :=
  gM_of O.1 P (by decide) (Nat.le_of_ble_eq_true rfl) (fun p e s m args below meth c ls C X hl => bJ0_charAt_5068e_0 C O hk_k0 X (lv_sub hl [0, 1] rfl) hF)
-- J1.canEncode_9a6ad
noncomputable def fJ1_canEncode_9a6ad_b16 (N : Nat) (t0 : Int32) (S : gS) : Option (Int32 × gS) := chk (zb t0) (some (t0, S))
theorem bJ1_canEncode_9a6ad_16 {N : Nat} {t0 : Int32} {S : gS} {H : Heap} {locs : List Loc} {ls : Array Slot} {o : Int32 × gS} (C : gC p s m args meth c cJ1_canEncode_9a6ad 1 RJ1 ((some .boolean)) D tys ord adr Am) (O : sO cell ord adr Am aK aV) (X : gX D cell ord adr S s H locs) (hl : lv_has ls 1 []) (hF : fJ1_canEncode_9a6ad_b16 N t0 S = some o) : W p l e (rmd 0) s m args below meth c H locs 0 0 (gE below args s D tys cell ord adr (some (.int o.1)) o.2) (F0 m 16 ls [.int t0]) := by
  unfold fJ1_canEncode_9a6ad_b16 at hF
  obtain ⟨h_1, hF⟩ := chk_some hF
  cases hF
  exact g_zret C X h_1 dJ1_canEncode_9a6ad_16
noncomputable def fJ1_canEncode_9a6ad_b15 (N : Nat) (S : gS) : Option (Int32 × gS) := fJ1_canEncode_9a6ad_b16 N 0 S
theorem bJ1_canEncode_9a6ad_15 {N : Nat} {S : gS} {H : Heap} {locs : List Loc} {ls : Array Slot} {o : Int32 × gS} (C : gC p s m args meth c cJ1_canEncode_9a6ad 1 RJ1 ((some .boolean)) D tys ord adr Am) (O : sO cell ord adr Am aK aV) (X : gX D cell ord adr S s H locs) (hl : lv_has ls 1 []) (hF : fJ1_canEncode_9a6ad_b15 N S = some o) : W p l e (rmd 0) s m args below meth c H locs 0 0 (gE below args s D tys cell ord adr (some (.int o.1)) o.2) (F0 m 15 ls []) := by
  unfold fJ1_canEncode_9a6ad_b15 at hF
  refine lv_iconst (v := 0) C.1.1 C.1.2.1 dJ1_canEncode_9a6ad_15 (by decide) ?_
  exact bJ1_canEncode_9a6ad_16 C O X (lv_sub hl [] rfl) hF
noncomputable def fJ1_canEncode_9a6ad_b11 (N : Nat) (S : gS) : Option (Int32 × gS) := fJ1_canEncode_9a6ad_b16 N 1 S
theorem bJ1_canEncode_9a6ad_11 {N : Nat} {S : gS} {H : Heap} {locs : List Loc} {ls : Array Slot} {o : Int32 × gS} (C : gC p s m args meth c cJ1_canEncode_9a6ad 1 RJ1 ((some .boolean)) D tys ord adr Am) (O : sO cell ord adr Am aK aV) (X : gX D cell ord adr S s H locs) (hl : lv_has ls 1 []) (hF : fJ1_canEncode_9a6ad_b11 N S = some o) : W p l e (rmd 0) s m args below meth c H locs 0 0 (gE below args s D tys cell ord adr (some (.int o.1)) o.2) (F0 m 11 ls []) := by
  unfold fJ1_canEncode_9a6ad_b11 at hF
  refine lv_iconst (v := 1) C.1.1 C.1.2.1 dJ1_canEncode_9a6ad_11 (by decide) ?_
  refine lv_goto (tgt := 16) C.1.1 C.1.2.1 dJ1_canEncode_9a6ad_12 (by decide) ?_
  exact bJ1_canEncode_9a6ad_16 C O X (lv_sub hl [] rfl) hF
noncomputable def fJ1_canEncode_9a6ad_b4 (N : Nat) (x0 : Int32) (S : gS) : Option (Int32 × gS) := if 255 < x0 then fJ1_canEncode_9a6ad_b15 N S else fJ1_canEncode_9a6ad_b11 N S
theorem bJ1_canEncode_9a6ad_4 {N : Nat} {x0 : Int32} {S : gS} {H : Heap} {locs : List Loc} {ls : Array Slot} {o : Int32 × gS} (C : gC p s m args meth c cJ1_canEncode_9a6ad 1 RJ1 ((some .boolean)) D tys ord adr Am) (O : sO cell ord adr Am aK aV) (X : gX D cell ord adr S s H locs) (hl : lv_has ls 1 [(0, .int x0)]) (hF : fJ1_canEncode_9a6ad_b4 N x0 S = some o) : W p l e (rmd 0) s m args below meth c H locs 0 0 (gE below args s D tys cell ord adr (some (.int o.1)) o.2) (F0 m 4 ls []) := by
  unfold fJ1_canEncode_9a6ad_b4 at hF
  refine lv_iload_n C.1.1 C.1.2.1 dJ1_canEncode_9a6ad_4 rfl (lv_at hl 0 rfl) ?_
  refine lv_sipush (v := 255) C.1.1 C.1.2.1 dJ1_canEncode_9a6ad_5 (by decide) ?_
  refine lv_icmp_gt (tgt := 15) C.1.1 C.1.2.1 dJ1_canEncode_9a6ad_8 (by decide) (fun h_z => ?_) (fun h_z => ?_)
  · rw [if_pos h_z] at hF
    exact bJ1_canEncode_9a6ad_15 C O X (lv_sub hl [] rfl) hF
  · rw [if_neg h_z] at hF
    exact bJ1_canEncode_9a6ad_11 C O X (lv_sub hl [] rfl) hF
noncomputable def fJ1_canEncode_9a6ad_b0 (N : Nat) (x0 : Int32) (S : gS) : Option (Int32 × gS) := if x0 < 0 then fJ1_canEncode_9a6ad_b15 N S else fJ1_canEncode_9a6ad_b4 N x0 S
theorem bJ1_canEncode_9a6ad_0 {N : Nat} {x0 : Int32} {S : gS} {H : Heap} {locs : List Loc} {ls : Array Slot} {o : Int32 × gS} (C : gC p s m args meth c cJ1_canEncode_9a6ad 1 RJ1 ((some .boolean)) D tys ord adr Am) (O : sO cell ord adr Am aK aV) (X : gX D cell ord adr S s H locs) (hl : lv_has ls 1 [(0, .int x0)]) (hF : fJ1_canEncode_9a6ad_b0 N x0 S = some o) : W p l e (rmd 0) s m args below meth c H locs 0 0 (gE below args s D tys cell ord adr (some (.int o.1)) o.2) (F0 m 0 ls []) := by
  unfold fJ1_canEncode_9a6ad_b0 at hF
  refine lv_iload_n C.1.1 C.1.2.1 dJ1_canEncode_9a6ad_0 rfl (lv_at hl 0 rfl) ?_
  refine lv_if_lt (tgt := 15) C.1.1 C.1.2.1 dJ1_canEncode_9a6ad_1 (by decide) (fun h_z => ?_) (fun h_z => ?_)
  · rw [if_pos h_z] at hF
    exact bJ1_canEncode_9a6ad_15 C O X (lv_sub hl [] rfl) hF
  · rw [if_neg h_z] at hF
    exact bJ1_canEncode_9a6ad_4 C O X (lv_sub hl [0] rfl) hF
noncomputable def fJ1_canEncode_9a6ad (N : Nat) (x0 : Int32) (S : gS) : Option (Int32 × gS) := fJ1_canEncode_9a6ad_b0 N x0 S
theorem kJ1_canEncode_9a6ad {l : Launch} {D : va_G} {tys : List (ClassId × FieldType)} {cell : gS → Nat → Nat × va_E} {ord : List Nat} {adr : Nat → Nat} {Am : (Nat → Prop) → State → Heap → Prop} {aK aV : Nat → Nat} (O : sO cell ord adr Am aK aV) (P : gAm Am) (N : Nat) (x0 : Int32) (S : gS) (o : Int32 × gS) (hF : fJ1_canEncode_9a6ad N x0 S = some o) : gM l yJ1_canEncode_9a6ad cJ1_canEncode_9a6ad 1 ((some .boolean)) 0 D tys cell ord adr Am [.int x0] S (some (.int o.1)) o.2 :=
  gM_of O.1 P (by decide) (Nat.le_of_ble_eq_true rfl) (fun p e s m args below meth c ls C X hl => bJ1_canEncode_9a6ad_0 C O X (lv_sub hl [0] rfl) hF)
-- J1.indexOfChar_4cfef
noncomputable def fJ1_indexOfChar_4cfef_b31 (N : Nat) (S : gS) : Option (Int32 × gS) := some ((-1), S)
theorem bJ1_indexOfChar_4cfef_31 {N : Nat} {S : gS} {H : Heap} {locs : List Loc} {ls : Array Slot} {o : Int32 × gS} (C : gC p s m args meth c cJ1_indexOfChar_4cfef 6 RJ1 ((some .int)) D tys ord adr Am) (O : sO cell ord adr Am aK aV) (X : gX D cell ord adr S s H locs) (hl : lv_has ls 6 []) (hF : fJ1_indexOfChar_4cfef_b31 N S = some o) : W p l e (rmd 0) s m args below meth c H locs 0 0 (gE below args s D tys cell ord adr (some (.int o.1)) o.2) (F0 m 31 ls []) := by
  unfold fJ1_indexOfChar_4cfef_b31 at hF
  refine lv_iconst (v := (-1)) C.1.1 C.1.2.1 dJ1_indexOfChar_4cfef_31 (by decide) ?_
  cases hF
  exact g_iret C X dJ1_indexOfChar_4cfef_32
noncomputable def fJ1_indexOfChar_4cfef_b25 (N : Nat) (r7 : Nat → Int32 → Int32 → Int32 → gS → Option (Int32 × gS)) (k0 : Nat) (x3 : Int32) (x4 : Int32) (x5 : Int32) (S : gS) : Option (Int32 × gS) := r7 k0 x3 x4 ((x5 + 1 : Int32)) S
theorem bJ1_indexOfChar_4cfef_25 {N : Nat} {r7 : Nat → Int32 → Int32 → Int32 → gS → Option (Int32 × gS)} {k0 : Nat} {x3 : Int32} {x4 : Int32} {x5 : Int32} {S : gS} {H : Heap} {locs : List Loc} {ls : Array Slot} {o : Int32 × gS} (C : gC p s m args meth c cJ1_indexOfChar_4cfef 6 RJ1 ((some .int)) D tys ord adr Am) (O : sO cell ord adr Am aK aV) (K7 : ∀ (k0 : Nat) (x3 : Int32) (x4 : Int32) (x5 : Int32) (hk_k0 : sI k0 = true) (S : gS) (H : Heap) (locs : List Loc) (ls : Array Slot), gX D cell ord adr S s H locs → lv_has ls 6 [(0, .ref (aV k0)), (3, .int x3), (4, .int x4), (5, .int x5)] → r7 k0 x3 x4 x5 S = some o → W p l e (rmd 0) s m args below meth c H locs 0 0 (gE below args s D tys cell ord adr (some (.int o.1)) o.2) (F0 m 7 ls [])) (hk_k0 : sI k0 = true) (X : gX D cell ord adr S s H locs) (hl : lv_has ls 6 [(0, .ref (aV k0)), (3, .int x3), (4, .int x4), (5, .int x5)]) (hF : fJ1_indexOfChar_4cfef_b25 N r7 k0 x3 x4 x5 S = some o) : W p l e (rmd 0) s m args below meth c H locs 0 0 (gE below args s D tys cell ord adr (some (.int o.1)) o.2) (F0 m 25 ls []) := by
  unfold fJ1_indexOfChar_4cfef_b25 at hF
  refine lv_iinc (v := (x5 + 1 : Int32)) (lv' := [(5, .int ((x5 + 1 : Int32))), (0, .ref (aV k0)), (3, .int x3), (4, .int x4)]) C.1.1 C.1.2.1 dJ1_indexOfChar_4cfef_25 hl (k := 3) rfl rfl (by decide) rfl (fun ls hl => ?_)
  refine lv_goto (tgt := 7) C.1.1 C.1.2.1 dJ1_indexOfChar_4cfef_28 (by decide) ?_
  exact K7 _ _ _ _ hk_k0 _ _ _ _ X (lv_sub hl [1, 2, 3, 0] rfl) hF
noncomputable def fJ1_indexOfChar_4cfef_b22 (N : Nat) (x5 : Int32) (S : gS) : Option (Int32 × gS) := some (x5, S)
theorem bJ1_indexOfChar_4cfef_22 {N : Nat} {x5 : Int32} {S : gS} {H : Heap} {locs : List Loc} {ls : Array Slot} {o : Int32 × gS} (C : gC p s m args meth c cJ1_indexOfChar_4cfef 6 RJ1 ((some .int)) D tys ord adr Am) (O : sO cell ord adr Am aK aV) (X : gX D cell ord adr S s H locs) (hl : lv_has ls 6 [(5, .int x5)]) (hF : fJ1_indexOfChar_4cfef_b22 N x5 S = some o) : W p l e (rmd 0) s m args below meth c H locs 0 0 (gE below args s D tys cell ord adr (some (.int o.1)) o.2) (F0 m 22 ls []) := by
  unfold fJ1_indexOfChar_4cfef_b22 at hF
  refine lv_iload C.1.1 C.1.2.1 dJ1_indexOfChar_4cfef_22 (lv_at hl 0 rfl) ?_
  cases hF
  exact g_iret C X dJ1_indexOfChar_4cfef_24
noncomputable def fJ1_indexOfChar_4cfef_b13 (N : Nat) (r7 : Nat → Int32 → Int32 → Int32 → gS → Option (Int32 × gS)) (k0 : Nat) (x3 : Int32) (x4 : Int32) (x5 : Int32) (S : gS) : Option (Int32 × gS) := chk (inb x5 (sLen k0)) (if (sByt k0 (Int32.toNatClampNeg x5)) = x4 then fJ1_indexOfChar_4cfef_b22 N x5 S else fJ1_indexOfChar_4cfef_b25 N r7 k0 x3 x4 x5 S)
theorem bJ1_indexOfChar_4cfef_13 {N : Nat} {r7 : Nat → Int32 → Int32 → Int32 → gS → Option (Int32 × gS)} {k0 : Nat} {x3 : Int32} {x4 : Int32} {x5 : Int32} {S : gS} {H : Heap} {locs : List Loc} {ls : Array Slot} {o : Int32 × gS} (C : gC p s m args meth c cJ1_indexOfChar_4cfef 6 RJ1 ((some .int)) D tys ord adr Am) (O : sO cell ord adr Am aK aV) (K7 : ∀ (k0 : Nat) (x3 : Int32) (x4 : Int32) (x5 : Int32) (hk_k0 : sI k0 = true) (S : gS) (H : Heap) (locs : List Loc) (ls : Array Slot), gX D cell ord adr S s H locs → lv_has ls 6 [(0, .ref (aV k0)), (3, .int x3), (4, .int x4), (5, .int x5)] → r7 k0 x3 x4 x5 S = some o → W p l e (rmd 0) s m args below meth c H locs 0 0 (gE below args s D tys cell ord adr (some (.int o.1)) o.2) (F0 m 7 ls [])) (hk_k0 : sI k0 = true) (X : gX D cell ord adr S s H locs) (hl : lv_has ls 6 [(0, .ref (aV k0)), (3, .int x3), (4, .int x4), (5, .int x5)]) (hF : fJ1_indexOfChar_4cfef_b13 N r7 k0 x3 x4 x5 S = some o) : W p l e (rmd 0) s m args below meth c H locs 0 0 (gE below args s D tys cell ord adr (some (.int o.1)) o.2) (F0 m 13 ls []) := by
  unfold fJ1_indexOfChar_4cfef_b13 at hF
  refine lv_aload_n C.1.1 C.1.2.1 dJ1_indexOfChar_4cfef_13 rfl (lv_at hl 0 rfl) ?_
  refine lv_iload C.1.1 C.1.2.1 dJ1_indexOfChar_4cfef_14 (lv_at hl 3 rfl) ?_
  obtain ⟨h_1, hF⟩ := chk_some hF
  refine s_byte C O X hk_k0 (inb_vp h_1) dJ1_indexOfChar_4cfef_16 ?_
  refine lv_iload C.1.1 C.1.2.1 dJ1_indexOfChar_4cfef_17 (lv_at hl 2 rfl) ?_
  refine lv_icmp_ne (tgt := 25) C.1.1 C.1.2.1 dJ1_indexOfChar_4cfef_19 (by decide) (fun h_z => ?_) (fun h_z => ?_)
  · rw [if_neg h_z] at hF
    exact bJ1_indexOfChar_4cfef_25 C O K7 hk_k0 X (lv_sub hl [0, 1, 2, 3] rfl) hF
  · rw [if_pos h_z] at hF
    exact bJ1_indexOfChar_4cfef_22 C O X (lv_sub hl [3] rfl) hF
noncomputable def fJ1_indexOfChar_4cfef_b7 (N : Nat) (r7 : Nat → Int32 → Int32 → Int32 → gS → Option (Int32 × gS)) (k0 : Nat) (x3 : Int32) (x4 : Int32) (x5 : Int32) (S : gS) : Option (Int32 × gS) := if x3 ≤ x5 then fJ1_indexOfChar_4cfef_b31 N S else fJ1_indexOfChar_4cfef_b13 N r7 k0 x3 x4 x5 S
theorem bJ1_indexOfChar_4cfef_7 {N : Nat} {r7 : Nat → Int32 → Int32 → Int32 → gS → Option (Int32 × gS)} {k0 : Nat} {x3 : Int32} {x4 : Int32} {x5 : Int32} {S : gS} {H : Heap} {locs : List Loc} {ls : Array Slot} {o : Int32 × gS} (C : gC p s m args meth c cJ1_indexOfChar_4cfef 6 RJ1 ((some .int)) D tys ord adr Am) (O : sO cell ord adr Am aK aV) (K7 : ∀ (k0 : Nat) (x3 : Int32) (x4 : Int32) (x5 : Int32) (hk_k0 : sI k0 = true) (S : gS) (H : Heap) (locs : List Loc) (ls : Array Slot), gX D cell ord adr S s H locs → lv_has ls 6 [(0, .ref (aV k0)), (3, .int x3), (4, .int x4), (5, .int x5)] → r7 k0 x3 x4 x5 S = some o → W p l e (rmd 0) s m args below meth c H locs 0 0 (gE below args s D tys cell ord adr (some (.int o.1)) o.2) (F0 m 7 ls [])) (hk_k0 : sI k0 = true) (X : gX D cell ord adr S s H locs) (hl : lv_has ls 6 [(0, .ref (aV k0)), (3, .int x3), (4, .int x4), (5, .int x5)]) (hF : fJ1_indexOfChar_4cfef_b7 N r7 k0 x3 x4 x5 S = some o) : W p l e (rmd 0) s m args below meth c H locs 0 0 (gE below args s D tys cell ord adr (some (.int o.1)) o.2) (F0 m 7 ls []) := by
  unfold fJ1_indexOfChar_4cfef_b7 at hF
  refine lv_iload C.1.1 C.1.2.1 dJ1_indexOfChar_4cfef_7 (lv_at hl 3 rfl) ?_
  refine lv_iload_n C.1.1 C.1.2.1 dJ1_indexOfChar_4cfef_9 rfl (lv_at hl 1 rfl) ?_
  refine lv_icmp_ge (tgt := 31) C.1.1 C.1.2.1 dJ1_indexOfChar_4cfef_10 (by decide) (fun h_z => ?_) (fun h_z => ?_)
  · rw [if_pos h_z] at hF
    exact bJ1_indexOfChar_4cfef_31 C O X (lv_sub hl [] rfl) hF
  · rw [if_neg h_z] at hF
    exact bJ1_indexOfChar_4cfef_13 C O K7 hk_k0 X (lv_sub hl [0, 1, 2, 3] rfl) hF
noncomputable def fJ1_indexOfChar_4cfef_h7 (N : Nat) : Nat → Nat → Int32 → Int32 → Int32 → gS → Option (Int32 × gS)
  | 0, _, _, _, _, _ => none
  | n + 1, k0, x3, x4, x5, S => fJ1_indexOfChar_4cfef_b7 N (fJ1_indexOfChar_4cfef_h7 N n) k0 x3 x4 x5 S
theorem hJ1_indexOfChar_4cfef_7 {N : Nat} {o : Int32 × gS} (C : gC p s m args meth c cJ1_indexOfChar_4cfef 6 RJ1 ((some .int)) D tys ord adr Am) (O : sO cell ord adr Am aK aV) : ∀ (n : Nat) (k0 : Nat) (x3 : Int32) (x4 : Int32) (x5 : Int32) (hk_k0 : sI k0 = true) (S : gS) (H : Heap) (locs : List Loc) (ls : Array Slot), gX D cell ord adr S s H locs → lv_has ls 6 [(0, .ref (aV k0)), (3, .int x3), (4, .int x4), (5, .int x5)] → fJ1_indexOfChar_4cfef_h7 N n k0 x3 x4 x5 S = some o → W p l e (rmd 0) s m args below meth c H locs 0 0 (gE below args s D tys cell ord adr (some (.int o.1)) o.2) (F0 m 7 ls []) := by
  intro n
  induction n with
  | zero =>
    intro k0 x3 x4 x5 hk_k0 S H locs ls X hl hF
    exact absurd (show (none : Option (Int32 × gS)) = some o from hF) (by simp)
  | succ n ih =>
    intro k0 x3 x4 x5 hk_k0 S H locs ls X hl hF
    have hF : fJ1_indexOfChar_4cfef_b7 N (fJ1_indexOfChar_4cfef_h7 N n) k0 x3 x4 x5 S = some o := hF
    exact bJ1_indexOfChar_4cfef_7 C O ih hk_k0 X hl hF
noncomputable def fJ1_indexOfChar_4cfef_b0 (N : Nat) (k0 : Nat) (x1 : Int32) (x2 : Int32) (x3 : Int32) (S : gS) : Option (Int32 × gS) := fJ1_indexOfChar_4cfef_h7 N N k0 x3 ((Int32.toInt8 x1).toInt32) x2 S
theorem bJ1_indexOfChar_4cfef_0 {N : Nat} {k0 : Nat} {x1 : Int32} {x2 : Int32} {x3 : Int32} {S : gS} {H : Heap} {locs : List Loc} {ls : Array Slot} {o : Int32 × gS} (C : gC p s m args meth c cJ1_indexOfChar_4cfef 6 RJ1 ((some .int)) D tys ord adr Am) (O : sO cell ord adr Am aK aV) (hk_k0 : sI k0 = true) (X : gX D cell ord adr S s H locs) (hl : lv_has ls 6 [(0, .ref (aV k0)), (1, .int x1), (2, .int x2), (3, .int x3)]) (hF : fJ1_indexOfChar_4cfef_b0 N k0 x1 x2 x3 S = some o) : W p l e (rmd 0) s m args below meth c H locs 0 0 (gE below args s D tys cell ord adr (some (.int o.1)) o.2) (F0 m 0 ls []) := by
  unfold fJ1_indexOfChar_4cfef_b0 at hF
  refine lv_iload_n C.1.1 C.1.2.1 dJ1_indexOfChar_4cfef_0 rfl (lv_at hl 1 rfl) ?_
  refine lv_i2b (v := (Int32.toInt8 x1).toInt32) C.1.1 C.1.2.1 dJ1_indexOfChar_4cfef_1 rfl ?_
  refine lv_istore (lv' := [(4, .int ((Int32.toInt8 x1).toInt32)), (0, .ref (aV k0)), (1, .int x1), (2, .int x2), (3, .int x3)]) C.1.1 C.1.2.1 dJ1_indexOfChar_4cfef_2 hl (by decide) rfl (fun ls hl => ?_)
  refine lv_iload_n C.1.1 C.1.2.1 dJ1_indexOfChar_4cfef_4 rfl (lv_at hl 3 rfl) ?_
  refine lv_istore (lv' := [(5, .int x2), (4, .int ((Int32.toInt8 x1).toInt32)), (0, .ref (aV k0)), (1, .int x1), (2, .int x2), (3, .int x3)]) C.1.1 C.1.2.1 dJ1_indexOfChar_4cfef_5 hl (by decide) rfl (fun ls hl => ?_)
  exact hJ1_indexOfChar_4cfef_7 C O N _ _ _ _ hk_k0 _ _ _ _ X (lv_sub hl [2, 5, 1, 0] rfl) hF
noncomputable def fJ1_indexOfChar_4cfef (N : Nat) (k0 : Nat) (x1 : Int32) (x2 : Int32) (x3 : Int32) (S : gS) : Option (Int32 × gS) := fJ1_indexOfChar_4cfef_b0 N k0 x1 x2 x3 S
theorem kJ1_indexOfChar_4cfef {l : Launch} {D : va_G} {tys : List (ClassId × FieldType)} {cell : gS → Nat → Nat × va_E} {ord : List Nat} {adr : Nat → Nat} {Am : (Nat → Prop) → State → Heap → Prop} {aK aV : Nat → Nat} (O : sO cell ord adr Am aK aV) (P : gAm Am) (N : Nat) (k0 : Nat) (x1 : Int32) (x2 : Int32) (x3 : Int32) (hk_k0 : sI k0 = true) (S : gS) (o : Int32 × gS) (hF : fJ1_indexOfChar_4cfef N k0 x1 x2 x3 S = some o) : gM l yJ1_indexOfChar_4cfef cJ1_indexOfChar_4cfef 6 ((some .int)) 0 D tys cell ord adr Am [.ref (aV k0), .int x1, .int x2, .int x3] S (some (.int o.1)) o.2 :=
  gM_of O.1 P (by decide) (Nat.le_of_ble_eq_true rfl) (fun p e s m args below meth c ls C X hl => bJ1_indexOfChar_4cfef_0 C O hk_k0 X (lv_sub hl [0, 1, 2, 3] rfl) hF)
-- J1.indexOf_4cfef
noncomputable def fJ1_indexOf_4cfef_b29 (N : Nat) (k0 : Nat) (x1 : Int32) (x2 : Int32) (x3 : Int32) (S : gS) : Option (Int32 × gS) := bnd (fJ1_indexOfChar_4cfef N k0 x1 x2 x3 S) fun q1 => (some (q1.1, q1.2))
theorem bJ1_indexOf_4cfef_29 {N : Nat} {k0 : Nat} {x1 : Int32} {x2 : Int32} {x3 : Int32} {S : gS} {H : Heap} {locs : List Loc} {ls : Array Slot} {o : Int32 × gS} (C : gC p s m args meth c cJ1_indexOf_4cfef 4 RJ1 ((some .int)) D tys ord adr Am) (O : sO cell ord adr Am aK aV) (hk_k0 : sI k0 = true) (X : gX D cell ord adr S s H locs) (hl : lv_has ls 4 [(0, .ref (aV k0)), (1, .int x1), (2, .int x2), (3, .int x3)]) (hF : fJ1_indexOf_4cfef_b29 N k0 x1 x2 x3 S = some o) : W p l e (rmd 1) s m args below meth c H locs 0 0 (gE below args s D tys cell ord adr (some (.int o.1)) o.2) (F0 m 29 ls []) := by
  unfold fJ1_indexOf_4cfef_b29 at hF
  refine lv_aload_n C.1.1 C.1.2.1 dJ1_indexOf_4cfef_29 rfl (lv_at hl 0 rfl) ?_
  refine lv_iload_n C.1.1 C.1.2.1 dJ1_indexOf_4cfef_30 rfl (lv_at hl 1 rfl) ?_
  refine lv_iload_n C.1.1 C.1.2.1 dJ1_indexOf_4cfef_31 rfl (lv_at hl 2 rfl) ?_
  refine lv_iload_n C.1.1 C.1.2.1 dJ1_indexOf_4cfef_32 rfl (lv_at hl 3 rfl) ?_
  obtain ⟨q1, hq1, hF⟩ := bnd_some hF
  refine g_callSi C X xv_J1_95 (kJ1_indexOfChar_4cfef O C.2.2.2.2.1 N k0 x1 x2 x3 hk_k0 S q1 hq1) (Nat.le_of_ble_eq_true rfl) (Nat.le_of_ble_eq_true rfl) (Nat.le_of_ble_eq_true rfl) (Nat.le_of_ble_eq_true rfl) rfl hl.1 rfl (Nat.le_of_ble_eq_true rfl) dJ1_indexOf_4cfef_33 (fun H locs X => ?_)
  cases hF
  exact g_iret C X dJ1_indexOf_4cfef_36
noncomputable def fJ1_indexOf_4cfef_b27 (N : Nat) (S : gS) : Option (Int32 × gS) := some ((-1), S)
theorem bJ1_indexOf_4cfef_27 {N : Nat} {S : gS} {H : Heap} {locs : List Loc} {ls : Array Slot} {o : Int32 × gS} (C : gC p s m args meth c cJ1_indexOf_4cfef 4 RJ1 ((some .int)) D tys ord adr Am) (O : sO cell ord adr Am aK aV) (X : gX D cell ord adr S s H locs) (hl : lv_has ls 4 []) (hF : fJ1_indexOf_4cfef_b27 N S = some o) : W p l e (rmd 1) s m args below meth c H locs 0 0 (gE below args s D tys cell ord adr (some (.int o.1)) o.2) (F0 m 27 ls []) := by
  unfold fJ1_indexOf_4cfef_b27 at hF
  refine lv_iconst (v := (-1)) C.1.1 C.1.2.1 dJ1_indexOf_4cfef_27 (by decide) ?_
  cases hF
  exact g_iret C X dJ1_indexOf_4cfef_28
noncomputable def fJ1_indexOf_4cfef_b9 (N : Nat) (k0 : Nat) (x1 : Int32) (x2 : Int32) (x3 : Int32) (S : gS) : Option (Int32 × gS) := if (if x2 < 0 then 0 else x2) < (if (Int32.ofNat (sLen k0)) < x3 then (Int32.ofNat (sLen k0)) else x3) then fJ1_indexOf_4cfef_b29 N k0 x1 (if x2 < 0 then 0 else x2) (if (Int32.ofNat (sLen k0)) < x3 then (Int32.ofNat (sLen k0)) else x3) S else fJ1_indexOf_4cfef_b27 N S
theorem bJ1_indexOf_4cfef_9 {N : Nat} {k0 : Nat} {x1 : Int32} {x2 : Int32} {x3 : Int32} {S : gS} {H : Heap} {locs : List Loc} {ls : Array Slot} {o : Int32 × gS} (C : gC p s m args meth c cJ1_indexOf_4cfef 4 RJ1 ((some .int)) D tys ord adr Am) (O : sO cell ord adr Am aK aV) (hk_k0 : sI k0 = true) (X : gX D cell ord adr S s H locs) (hl : lv_has ls 4 [(0, .ref (aV k0)), (1, .int x1), (2, .int x2), (3, .int x3)]) (hF : fJ1_indexOf_4cfef_b9 N k0 x1 x2 x3 S = some o) : W p l e (rmd 1) s m args below meth c H locs 0 0 (gE below args s D tys cell ord adr (some (.int o.1)) o.2) (F0 m 9 ls []) := by
  unfold fJ1_indexOf_4cfef_b9 at hF
  refine lv_iload_n C.1.1 C.1.2.1 dJ1_indexOf_4cfef_9 rfl (lv_at hl 2 rfl) ?_
  refine lv_iconst (v := 0) C.1.1 C.1.2.1 dJ1_indexOf_4cfef_10 (by decide) ?_
  refine g_max C hl.1 xMmax_J1_92 ⟨(Nat.le_of_ble_eq_true rfl), (Nat.le_of_ble_eq_true rfl)⟩ (Nat.le_of_ble_eq_true rfl) (Nat.le_of_ble_eq_true rfl) dJ1_indexOf_4cfef_11 ?_
  refine lv_istore_n (lv' := [(2, .int (if x2 < 0 then 0 else x2)), (0, .ref (aV k0)), (1, .int x1), (3, .int x3)]) C.1.1 C.1.2.1 dJ1_indexOf_4cfef_14 rfl hl (by decide) rfl (fun ls hl => ?_)
  refine lv_iload_n C.1.1 C.1.2.1 dJ1_indexOf_4cfef_15 rfl (lv_at hl 3 rfl) ?_
  refine lv_aload_n C.1.1 C.1.2.1 dJ1_indexOf_4cfef_16 rfl (lv_at hl 1 rfl) ?_
  refine s_len C O X hk_k0 dJ1_indexOf_4cfef_17 ?_
  refine g_min C hl.1 xMmin_J1_38 ⟨(Nat.le_of_ble_eq_true rfl), (Nat.le_of_ble_eq_true rfl)⟩ (Nat.le_of_ble_eq_true rfl) (Nat.le_of_ble_eq_true rfl) dJ1_indexOf_4cfef_18 ?_
  refine lv_istore_n (lv' := [(3, .int (if (Int32.ofNat (sLen k0)) < x3 then (Int32.ofNat (sLen k0)) else x3)), (2, .int (if x2 < 0 then 0 else x2)), (0, .ref (aV k0)), (1, .int x1)]) C.1.1 C.1.2.1 dJ1_indexOf_4cfef_21 rfl hl (by decide) rfl (fun ls hl => ?_)
  refine lv_iload_n C.1.1 C.1.2.1 dJ1_indexOf_4cfef_22 rfl (lv_at hl 1 rfl) ?_
  refine lv_iload_n C.1.1 C.1.2.1 dJ1_indexOf_4cfef_23 rfl (lv_at hl 0 rfl) ?_
  refine lv_icmp_lt (tgt := 29) C.1.1 C.1.2.1 dJ1_indexOf_4cfef_24 (by decide) (fun h_z => ?_) (fun h_z => ?_)
  · rw [if_pos h_z] at hF
    exact bJ1_indexOf_4cfef_29 C O hk_k0 X (lv_sub hl [2, 3, 1, 0] rfl) hF
  · rw [if_neg h_z] at hF
    exact bJ1_indexOf_4cfef_27 C O X (lv_sub hl [] rfl) hF
noncomputable def fJ1_indexOf_4cfef_b7 (N : Nat) (S : gS) : Option (Int32 × gS) := some ((-1), S)
theorem bJ1_indexOf_4cfef_7 {N : Nat} {S : gS} {H : Heap} {locs : List Loc} {ls : Array Slot} {o : Int32 × gS} (C : gC p s m args meth c cJ1_indexOf_4cfef 4 RJ1 ((some .int)) D tys ord adr Am) (O : sO cell ord adr Am aK aV) (X : gX D cell ord adr S s H locs) (hl : lv_has ls 4 []) (hF : fJ1_indexOf_4cfef_b7 N S = some o) : W p l e (rmd 1) s m args below meth c H locs 0 0 (gE below args s D tys cell ord adr (some (.int o.1)) o.2) (F0 m 7 ls []) := by
  unfold fJ1_indexOf_4cfef_b7 at hF
  refine lv_iconst (v := (-1)) C.1.1 C.1.2.1 dJ1_indexOf_4cfef_7 (by decide) ?_
  cases hF
  exact g_iret C X dJ1_indexOf_4cfef_8
noncomputable def fJ1_indexOf_4cfef_b0 (N : Nat) (k0 : Nat) (x1 : Int32) (x2 : Int32) (x3 : Int32) (S : gS) : Option (Int32 × gS) := bnd (fJ1_canEncode_9a6ad N x1 S) fun q1 => (if q1.1 = 0 then fJ1_indexOf_4cfef_b7 N q1.2 else fJ1_indexOf_4cfef_b9 N k0 x1 x2 x3 q1.2)
theorem bJ1_indexOf_4cfef_0 {N : Nat} {k0 : Nat} {x1 : Int32} {x2 : Int32} {x3 : Int32} {S : gS} {H : Heap} {locs : List Loc} {ls : Array Slot} {o : Int32 × gS} (C : gC p s m args meth c cJ1_indexOf_4cfef 4 RJ1 ((some .int)) D tys ord adr Am) (O : sO cell ord adr Am aK aV) (hk_k0 : sI k0 = true) (X : gX D cell ord adr S s H locs) (hl : lv_has ls 4 [(0, .ref (aV k0)), (1, .int x1), (2, .int x2), (3, .int x3)]) (hF : fJ1_indexOf_4cfef_b0 N k0 x1 x2 x3 S = some o) : W p l e (rmd 1) s m args below meth c H locs 0 0 (gE below args s D tys cell ord adr (some (.int o.1)) o.2) (F0 m 0 ls []) := by
  unfold fJ1_indexOf_4cfef_b0 at hF
  refine lv_iload_n C.1.1 C.1.2.1 dJ1_indexOf_4cfef_0 rfl (lv_at hl 1 rfl) ?_
  obtain ⟨q1, hq1, hF⟩ := bnd_some hF
  refine g_callSi C X xv_J1_88 (kJ1_canEncode_9a6ad O C.2.2.2.2.1 N x1 S q1 hq1) (Nat.le_of_ble_eq_true rfl) (Nat.le_of_ble_eq_true rfl) (Nat.le_of_ble_eq_true rfl) (Nat.le_of_ble_eq_true rfl) rfl hl.1 rfl (Nat.le_of_ble_eq_true rfl) dJ1_indexOf_4cfef_1 (fun H locs X => ?_)
  refine lv_if_ne (tgt := 9) C.1.1 C.1.2.1 dJ1_indexOf_4cfef_4 (by decide) (fun h_z => ?_) (fun h_z => ?_)
  · rw [if_neg h_z] at hF
    exact bJ1_indexOf_4cfef_9 C O hk_k0 X (lv_sub hl [0, 1, 2, 3] rfl) hF
  · rw [if_pos h_z] at hF
    exact bJ1_indexOf_4cfef_7 C O X (lv_sub hl [] rfl) hF
noncomputable def fJ1_indexOf_4cfef (N : Nat) (k0 : Nat) (x1 : Int32) (x2 : Int32) (x3 : Int32) (S : gS) : Option (Int32 × gS) := fJ1_indexOf_4cfef_b0 N k0 x1 x2 x3 S
theorem kJ1_indexOf_4cfef {l : Launch} {D : va_G} {tys : List (ClassId × FieldType)} {cell : gS → Nat → Nat × va_E} {ord : List Nat} {adr : Nat → Nat} {Am : (Nat → Prop) → State → Heap → Prop} {aK aV : Nat → Nat} (O : sO cell ord adr Am aK aV) (P : gAm Am) (N : Nat) (k0 : Nat) (x1 : Int32) (x2 : Int32) (x3 : Int32) (hk_k0 : sI k0 = true) (S : gS) (o : Int32 × gS) (hF : fJ1_indexOf_4cfef N k0 x1 x2 x3 S = some o) : gM l yJ1_indexOf_4cfef cJ1_indexOf_4cfef 4 ((some .int)) 1 D tys cell ord adr Am [.ref (aV k0), .int x1, .int x2, .int x3] S (some (.int o.1)) o.2 :=
  gM_of O.1 P (by decide) (Nat.le_of_ble_eq_true rfl) (fun p e s m args below meth c ls C X hl => bJ1_indexOf_4cfef_0 C O hk_k0 X (lv_sub hl [0, 1, 2, 3] rfl) hF)
-- J0.indexOf_7cf53
noncomputable def fJ0_indexOf_7cf53_b36 (N : Nat) (t0 : Int32) (S : gS) : Option (Int32 × gS) := some (t0, S)
theorem bJ0_indexOf_7cf53_36 {N : Nat} {t0 : Int32} {S : gS} {H : Heap} {locs : List Loc} {ls : Array Slot} {o : Int32 × gS} (C : gC p s m args meth c cJ0_indexOf_7cf53 3 RJ0 ((some .int)) D tys ord adr Am) (O : sO cell ord adr Am aK aV) (X : gX D cell ord adr S s H locs) (hl : lv_has ls 3 []) (hF : fJ0_indexOf_7cf53_b36 N t0 S = some o) : W p l e (rmd 2) s m args below meth c H locs 0 0 (gE below args s D tys cell ord adr (some (.int o.1)) o.2) (F0 m 36 ls [.int t0]) := by
  unfold fJ0_indexOf_7cf53_b36 at hF
  cases hF
  exact g_iret C X dJ0_indexOf_7cf53_36
noncomputable def fJ0_indexOf_7cf53_b23 (N : Nat) (S : gS) : Option (Int32 × gS) := none
theorem bJ0_indexOf_7cf53_23 {N : Nat} {S : gS} {H : Heap} {locs : List Loc} {ls : Array Slot} {o : Int32 × gS} (C : gC p s m args meth c cJ0_indexOf_7cf53 3 RJ0 ((some .int)) D tys ord adr Am) (O : sO cell ord adr Am aK aV) (X : gX D cell ord adr S s H locs) (hl : lv_has ls 3 []) (hF : fJ0_indexOf_7cf53_b23 N S = some o) : W p l e (rmd 2) s m args below meth c H locs 0 0 (gE below args s D tys cell ord adr (some (.int o.1)) o.2) (F0 m 23 ls []) := by
  unfold fJ0_indexOf_7cf53_b23 at hF
  exact absurd hF (by simp)
noncomputable def fJ0_indexOf_7cf53_b7 (N : Nat) (k0 : Nat) (x1 : Int32) (x2 : Int32) (S : gS) : Option (Int32 × gS) := bnd (fJ0_length_8abf5 N k0 S) fun q1 => (bnd (fJ1_indexOf_4cfef N k0 x1 x2 q1.1 q1.2) fun q2 => (fJ0_indexOf_7cf53_b36 N q2.1 q2.2))
theorem bJ0_indexOf_7cf53_7 {N : Nat} {k0 : Nat} {x1 : Int32} {x2 : Int32} {S : gS} {H : Heap} {locs : List Loc} {ls : Array Slot} {o : Int32 × gS} (C : gC p s m args meth c cJ0_indexOf_7cf53 3 RJ0 ((some .int)) D tys ord adr Am) (O : sO cell ord adr Am aK aV) (hk_k0 : sI k0 = true) (X : gX D cell ord adr S s H locs) (hl : lv_has ls 3 [(0, .ref (aK k0)), (1, .int x1), (2, .int x2)]) (hF : fJ0_indexOf_7cf53_b7 N k0 x1 x2 S = some o) : W p l e (rmd 2) s m args below meth c H locs 0 0 (gE below args s D tys cell ord adr (some (.int o.1)) o.2) (F0 m 7 ls []) := by
  unfold fJ0_indexOf_7cf53_b7 at hF
  refine lv_aload_n C.1.1 C.1.2.1 dJ0_indexOf_7cf53_7 rfl (lv_at hl 0 rfl) ?_
  refine s_value C O X hk_k0 xl_J0_9 dJ0_indexOf_7cf53_8 ?_
  refine lv_iload_n C.1.1 C.1.2.1 dJ0_indexOf_7cf53_11 rfl (lv_at hl 1 rfl) ?_
  refine lv_iload_n C.1.1 C.1.2.1 dJ0_indexOf_7cf53_12 rfl (lv_at hl 2 rfl) ?_
  refine lv_aload_n C.1.1 C.1.2.1 dJ0_indexOf_7cf53_13 rfl (lv_at hl 0 rfl) ?_
  obtain ⟨q1, hq1, hF⟩ := bnd_some hF
  refine s_callV C O X xv_J0_505 rfl hk_k0 (kJ0_length_8abf5 O C.2.2.2.2.1 N k0 hk_k0 S q1 hq1) (Nat.le_of_ble_eq_true rfl) (Nat.le_of_ble_eq_true rfl) (Nat.le_of_ble_eq_true rfl) (Nat.le_of_ble_eq_true rfl) rfl hl.1 rfl (Nat.le_of_ble_eq_true rfl) dJ0_indexOf_7cf53_14 (fun H locs X => ?_)
  obtain ⟨q2, hq2, hF⟩ := bnd_some hF
  refine g_callOi C X xv_J0_637 (kJ1_indexOf_4cfef O C.2.2.2.2.1 N k0 x1 x2 q1.1 hk_k0 q1.2 q2 hq2) (Nat.le_of_ble_eq_true rfl) (Nat.le_of_ble_eq_true rfl) (Nat.le_of_ble_eq_true rfl) (Nat.le_of_ble_eq_true rfl) rfl hl.1 rfl (Nat.le_of_ble_eq_true rfl) dJ0_indexOf_7cf53_17 (fun H locs X => ?_)
  refine lv_goto (tgt := 36) C.1.1 C.1.2.1 dJ0_indexOf_7cf53_20 (by decide) ?_
  exact bJ0_indexOf_7cf53_36 C O X (lv_sub hl [] rfl) hF
noncomputable def fJ0_indexOf_7cf53_b0 (N : Nat) (k0 : Nat) (x1 : Int32) (x2 : Int32) (S : gS) : Option (Int32 × gS) := bnd (fJ0_isLatin1_aae02 N k0 S) fun q1 => (if q1.1 = 0 then fJ0_indexOf_7cf53_b23 N q1.2 else fJ0_indexOf_7cf53_b7 N k0 x1 x2 q1.2)
theorem bJ0_indexOf_7cf53_0 {N : Nat} {k0 : Nat} {x1 : Int32} {x2 : Int32} {S : gS} {H : Heap} {locs : List Loc} {ls : Array Slot} {o : Int32 × gS} (C : gC p s m args meth c cJ0_indexOf_7cf53 3 RJ0 ((some .int)) D tys ord adr Am) (O : sO cell ord adr Am aK aV) (hk_k0 : sI k0 = true) (X : gX D cell ord adr S s H locs) (hl : lv_has ls 3 [(0, .ref (aK k0)), (1, .int x1), (2, .int x2)]) (hF : fJ0_indexOf_7cf53_b0 N k0 x1 x2 S = some o) : W p l e (rmd 2) s m args below meth c H locs 0 0 (gE below args s D tys cell ord adr (some (.int o.1)) o.2) (F0 m 0 ls []) := by
  unfold fJ0_indexOf_7cf53_b0 at hF
  refine lv_aload_n C.1.1 C.1.2.1 dJ0_indexOf_7cf53_0 rfl (lv_at hl 0 rfl) ?_
  obtain ⟨q1, hq1, hF⟩ := bnd_some hF
  refine s_callV C O X xv_J0_492 rfl hk_k0 (kJ0_isLatin1_aae02 O C.2.2.2.2.1 N k0 hk_k0 S q1 hq1) (Nat.le_of_ble_eq_true rfl) (Nat.le_of_ble_eq_true rfl) (Nat.le_of_ble_eq_true rfl) (Nat.le_of_ble_eq_true rfl) rfl hl.1 rfl (Nat.le_of_ble_eq_true rfl) dJ0_indexOf_7cf53_1 (fun H locs X => ?_)
  refine lv_if_eq (tgt := 23) C.1.1 C.1.2.1 dJ0_indexOf_7cf53_4 (by decide) (fun h_z => ?_) (fun h_z => ?_)
  · rw [if_pos h_z] at hF
    exact bJ0_indexOf_7cf53_23 C O X (lv_sub hl [] rfl) hF
  · rw [if_neg h_z] at hF
    exact bJ0_indexOf_7cf53_7 C O hk_k0 X (lv_sub hl [0, 1, 2] rfl) hF
noncomputable def fJ0_indexOf_7cf53 (N : Nat) (k0 : Nat) (x1 : Int32) (x2 : Int32) (S : gS) : Option (Int32 × gS) := fJ0_indexOf_7cf53_b0 N k0 x1 x2 S
theorem kJ0_indexOf_7cf53 {l : Launch} {D : va_G} {tys : List (ClassId × FieldType)} {cell : gS → Nat → Nat × va_E} {ord : List Nat} {adr : Nat → Nat} {Am : (Nat → Prop) → State → Heap → Prop} {aK aV : Nat → Nat} (O : sO cell ord adr Am aK aV) (P : gAm Am) (N : Nat) (k0 : Nat) (x1 : Int32) (x2 : Int32) (hk_k0 : sI k0 = true) (S : gS) (o : Int32 × gS) (hF : fJ0_indexOf_7cf53 N k0 x1 x2 S = some o) : gM l yJ0_indexOf_7cf53 cJ0_indexOf_7cf53 3 ((some .int)) 2 D tys cell ord adr Am [.ref (aK k0), .int x1, .int x2] S (some (.int o.1)) o.2 :=
  gM_of O.1 P (by decide) (Nat.le_of_ble_eq_true rfl) (fun p e s m args below meth c ls C X hl => bJ0_indexOf_7cf53_0 C O hk_k0 X (lv_sub hl [0, 1, 2] rfl) hF)
-- J0.indexOf_0f7a4
noncomputable def fJ0_indexOf_0f7a4_b0 (N : Nat) (k0 : Nat) (x1 : Int32) (S : gS) : Option (Int32 × gS) := bnd (fJ0_indexOf_7cf53 N k0 x1 0 S) fun q1 => (some (q1.1, q1.2))
theorem bJ0_indexOf_0f7a4_0 {N : Nat} {k0 : Nat} {x1 : Int32} {S : gS} {H : Heap} {locs : List Loc} {ls : Array Slot} {o : Int32 × gS} (C : gC p s m args meth c cJ0_indexOf_0f7a4 2 RJ0 ((some .int)) D tys ord adr Am) (O : sO cell ord adr Am aK aV) (hk_k0 : sI k0 = true) (X : gX D cell ord adr S s H locs) (hl : lv_has ls 2 [(0, .ref (aK k0)), (1, .int x1)]) (hF : fJ0_indexOf_0f7a4_b0 N k0 x1 S = some o) : W p l e (rmd 3) s m args below meth c H locs 0 0 (gE below args s D tys cell ord adr (some (.int o.1)) o.2) (F0 m 0 ls []) := by
  unfold fJ0_indexOf_0f7a4_b0 at hF
  refine lv_aload_n C.1.1 C.1.2.1 dJ0_indexOf_0f7a4_0 rfl (lv_at hl 0 rfl) ?_
  refine lv_iload_n C.1.1 C.1.2.1 dJ0_indexOf_0f7a4_1 rfl (lv_at hl 1 rfl) ?_
  refine lv_iconst (v := 0) C.1.1 C.1.2.1 dJ0_indexOf_0f7a4_2 (by decide) ?_
  obtain ⟨q1, hq1, hF⟩ := bnd_some hF
  refine s_callV C O X xv_J0_633 rfl hk_k0 (kJ0_indexOf_7cf53 O C.2.2.2.2.1 N k0 x1 0 hk_k0 S q1 hq1) (Nat.le_of_ble_eq_true rfl) (Nat.le_of_ble_eq_true rfl) (Nat.le_of_ble_eq_true rfl) (Nat.le_of_ble_eq_true rfl) rfl hl.1 rfl (Nat.le_of_ble_eq_true rfl) dJ0_indexOf_0f7a4_3 (fun H locs X => ?_)
  cases hF
  exact g_iret C X dJ0_indexOf_0f7a4_6
noncomputable def fJ0_indexOf_0f7a4 (N : Nat) (k0 : Nat) (x1 : Int32) (S : gS) : Option (Int32 × gS) := fJ0_indexOf_0f7a4_b0 N k0 x1 S
theorem kJ0_indexOf_0f7a4 {l : Launch} {D : va_G} {tys : List (ClassId × FieldType)} {cell : gS → Nat → Nat × va_E} {ord : List Nat} {adr : Nat → Nat} {Am : (Nat → Prop) → State → Heap → Prop} {aK aV : Nat → Nat} (O : sO cell ord adr Am aK aV) (P : gAm Am) (N : Nat) (k0 : Nat) (x1 : Int32) (hk_k0 : sI k0 = true) (S : gS) (o : Int32 × gS) (hF : fJ0_indexOf_0f7a4 N k0 x1 S = some o) : gM l yJ0_indexOf_0f7a4 cJ0_indexOf_0f7a4 2 ((some .int)) 3 D tys cell ord adr Am [.ref (aK k0), .int x1] S (some (.int o.1)) o.2 :=
  gM_of O.1 P (by decide) (Nat.le_of_ble_eq_true rfl) (fun p e s m args below meth c ls C X hl => bJ0_indexOf_0f7a4_0 C O hk_k0 X (lv_sub hl [0, 1] rfl) hF)
end

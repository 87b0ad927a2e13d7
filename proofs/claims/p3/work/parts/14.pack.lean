/-! part 08.m06 -/
section
/-! the reference's methods as maps of states, and their walks (printed by wip/whole/mkm.py) -/
section
variable {p : Program} {l : Launch} {e : Env} {s : State} {m : MethodId} {args : Array Value} {below : List Frame} {meth : Method} {c : Code} {D : va_G} {g : Nat → Nat} {cI cS : ClassId} {sa : Nat → Nat → Option Nat} {Am : (Nat → Prop) → State → Heap → Prop}
-- tellFits
noncomputable def fX12_tellFits_b98 (N : Nat) (S : gS) : Option (Int32 × gS) := some (0, S)
theorem bX12_tellFits_98 {N : Nat} {S : gS} {H : Heap} {locs : List Loc} {ls : Array Slot} {o : Int32 × gS} (C : gC p s m args meth c cX12_tellFits 4 RX12 none D (mtys cI cS) mord g Am) (O : gO (mcell g cI cS sa) mord g) (X : gX D (mcell g cI cS sa) mord g S s H locs) (hl : lv_has ls 4 []) (hF : fX12_tellFits_b98 N S = some o) : W p l e (rmd 7) s m args below meth c H locs 0 0 (gE below args s D (mtys cI cS) (mcell g cI cS sa) mord g none o.2) (F0 m 98 ls []) := by
  unfold fX12_tellFits_b98 at hF
  cases hF
  exact g_vret C X dX12_tellFits_98
noncomputable def fX12_tellFits_b85 (N : Nat) (r7 : Int32 → gS → Option (Int32 × gS)) (x1 : Int32) (x2 : Int32) (S : gS) : Option (Int32 × gS) := chk (inb x1 (6)) (lt (sU S 18 (Int32.toNatClampNeg x1) x2) fun S1 => (r7 ((x1 + 1 : Int32)) S1))
theorem bX12_tellFits_85 {N : Nat} {r7 : Int32 → gS → Option (Int32 × gS)} {x1 : Int32} {x2 : Int32} {S : gS} {H : Heap} {locs : List Loc} {ls : Array Slot} {o : Int32 × gS} (C : gC p s m args meth c cX12_tellFits 4 RX12 none D (mtys cI cS) mord g Am) (O : gO (mcell g cI cS sa) mord g) (K7 : ∀ (x1 : Int32) (S : gS) (H : Heap) (locs : List Loc) (ls : Array Slot), gX D (mcell g cI cS sa) mord g S s H locs → lv_has ls 4 [(0, .ref (g 99)), (1, .int x1)] → r7 x1 S = some o → W p l e (rmd 7) s m args below meth c H locs 0 0 (gE below args s D (mtys cI cS) (mcell g cI cS sa) mord g none o.2) (F0 m 7 ls [])) (X : gX D (mcell g cI cS sa) mord g S s H locs) (hl : lv_has ls 4 [(0, .ref (g 99)), (1, .int x1), (2, .int x2)]) (hF : fX12_tellFits_b85 N r7 x1 x2 S = some o) : W p l e (rmd 7) s m args below meth c H locs 0 0 (gE below args s D (mtys cI cS) (mcell g cI cS sa) mord g none o.2) (F0 m 85 ls []) := by
  unfold fX12_tellFits_b85 at hF
  refine lv_aload_n C.1.1 C.1.2.1 dX12_tellFits_85 rfl (lv_at hl 0 rfl) ?_
  refine m_g18 C X dX12_tellFits_86 ?_
  refine lv_iload_n C.1.1 C.1.2.1 dX12_tellFits_89 rfl (lv_at hl 1 rfl) ?_
  refine lv_iload_n C.1.1 C.1.2.1 dX12_tellFits_90 rfl (lv_at hl 2 rfl) ?_
  obtain ⟨h_1, hF⟩ := chk_some hF
  obtain ⟨S1, eS1, hF⟩ := lt_some hF
  refine m_w18 C O X  (inb_vp h_1) rfl eS1 dX12_tellFits_91 (fun H locs X => ?_)
  refine lv_iinc (v := (x1 + 1 : Int32)) (lv' := [(1, .int ((x1 + 1 : Int32))), (0, .ref (g 99)), (2, .int x2)]) C.1.1 C.1.2.1 dX12_tellFits_92 hl (k := 1) rfl rfl (by decide) rfl (fun ls hl => ?_)
  refine lv_goto (tgt := 7) C.1.1 C.1.2.1 dX12_tellFits_95 (by decide) ?_
  exact K7 _ _ _ _ _ X (lv_sub hl [1, 0] rfl) hF
noncomputable def fX12_tellFits_b79 (N : Nat) (r7 : Int32 → gS → Option (Int32 × gS)) (r26 : Int32 → Int32 → Int32 → gS → Option (Int32 × gS)) (x1 : Int32) (x2 : Int32) (x3 : Int32) (S : gS) : Option (Int32 × gS) := r26 x1 x2 ((x3 + 1 : Int32)) S
theorem bX12_tellFits_79 {N : Nat} {r7 : Int32 → gS → Option (Int32 × gS)} {r26 : Int32 → Int32 → Int32 → gS → Option (Int32 × gS)} {x1 : Int32} {x2 : Int32} {x3 : Int32} {S : gS} {H : Heap} {locs : List Loc} {ls : Array Slot} {o : Int32 × gS} (C : gC p s m args meth c cX12_tellFits 4 RX12 none D (mtys cI cS) mord g Am) (O : gO (mcell g cI cS sa) mord g) (K7 : ∀ (x1 : Int32) (S : gS) (H : Heap) (locs : List Loc) (ls : Array Slot), gX D (mcell g cI cS sa) mord g S s H locs → lv_has ls 4 [(0, .ref (g 99)), (1, .int x1)] → r7 x1 S = some o → W p l e (rmd 7) s m args below meth c H locs 0 0 (gE below args s D (mtys cI cS) (mcell g cI cS sa) mord g none o.2) (F0 m 7 ls [])) (K26 : ∀ (x1 : Int32) (x2 : Int32) (x3 : Int32) (S : gS) (H : Heap) (locs : List Loc) (ls : Array Slot), gX D (mcell g cI cS sa) mord g S s H locs → lv_has ls 4 [(0, .ref (g 99)), (1, .int x1), (2, .int x2), (3, .int x3)] → r26 x1 x2 x3 S = some o → W p l e (rmd 7) s m args below meth c H locs 0 0 (gE below args s D (mtys cI cS) (mcell g cI cS sa) mord g none o.2) (F0 m 26 ls [])) (X : gX D (mcell g cI cS sa) mord g S s H locs) (hl : lv_has ls 4 [(0, .ref (g 99)), (1, .int x1), (2, .int x2), (3, .int x3)]) (hF : fX12_tellFits_b79 N r7 r26 x1 x2 x3 S = some o) : W p l e (rmd 7) s m args below meth c H locs 0 0 (gE below args s D (mtys cI cS) (mcell g cI cS sa) mord g none o.2) (F0 m 79 ls []) := by
  unfold fX12_tellFits_b79 at hF
  refine lv_iinc (v := (x3 + 1 : Int32)) (lv' := [(3, .int ((x3 + 1 : Int32))), (0, .ref (g 99)), (1, .int x1), (2, .int x2)]) C.1.1 C.1.2.1 dX12_tellFits_79 hl (k := 3) rfl rfl (by decide) rfl (fun ls hl => ?_)
  refine lv_goto (tgt := 26) C.1.1 C.1.2.1 dX12_tellFits_82 (by decide) ?_
  exact K26 _ _ _ _ _ _ _ X (lv_sub hl [1, 2, 3, 0] rfl) hF
noncomputable def fX12_tellFits_b54 (N : Nat) (r7 : Int32 → gS → Option (Int32 × gS)) (r26 : Int32 → Int32 → Int32 → gS → Option (Int32 × gS)) (x1 : Int32) (x2 : Int32) (x3 : Int32) (S : gS) : Option (Int32 × gS) := chk (inb (S 99 54) (60)) (lt (sU S 52 (Int32.toNatClampNeg (S 99 54)) ((((10 * x1 : Int32)) + x3 : Int32))) fun S1 => (lt (sU S1 99 54 (((S1 99 54) + 1 : Int32))) fun S2 => (fX12_tellFits_b79 N r7 r26 x1 x2 x3 S2)))
theorem bX12_tellFits_54 {N : Nat} {r7 : Int32 → gS → Option (Int32 × gS)} {r26 : Int32 → Int32 → Int32 → gS → Option (Int32 × gS)} {x1 : Int32} {x2 : Int32} {x3 : Int32} {S : gS} {H : Heap} {locs : List Loc} {ls : Array Slot} {o : Int32 × gS} (C : gC p s m args meth c cX12_tellFits 4 RX12 none D (mtys cI cS) mord g Am) (O : gO (mcell g cI cS sa) mord g) (K7 : ∀ (x1 : Int32) (S : gS) (H : Heap) (locs : List Loc) (ls : Array Slot), gX D (mcell g cI cS sa) mord g S s H locs → lv_has ls 4 [(0, .ref (g 99)), (1, .int x1)] → r7 x1 S = some o → W p l e (rmd 7) s m args below meth c H locs 0 0 (gE below args s D (mtys cI cS) (mcell g cI cS sa) mord g none o.2) (F0 m 7 ls [])) (K26 : ∀ (x1 : Int32) (x2 : Int32) (x3 : Int32) (S : gS) (H : Heap) (locs : List Loc) (ls : Array Slot), gX D (mcell g cI cS sa) mord g S s H locs → lv_has ls 4 [(0, .ref (g 99)), (1, .int x1), (2, .int x2), (3, .int x3)] → r26 x1 x2 x3 S = some o → W p l e (rmd 7) s m args below meth c H locs 0 0 (gE below args s D (mtys cI cS) (mcell g cI cS sa) mord g none o.2) (F0 m 26 ls [])) (X : gX D (mcell g cI cS sa) mord g S s H locs) (hl : lv_has ls 4 [(0, .ref (g 99)), (1, .int x1), (2, .int x2), (3, .int x3)]) (hF : fX12_tellFits_b54 N r7 r26 x1 x2 x3 S = some o) : W p l e (rmd 7) s m args below meth c H locs 0 0 (gE below args s D (mtys cI cS) (mcell g cI cS sa) mord g none o.2) (F0 m 54 ls []) := by
  unfold fX12_tellFits_b54 at hF
  refine lv_aload_n C.1.1 C.1.2.1 dX12_tellFits_54 rfl (lv_at hl 0 rfl) ?_
  refine m_g52 C X dX12_tellFits_55 ?_
  refine lv_aload_n C.1.1 C.1.2.1 dX12_tellFits_58 rfl (lv_at hl 0 rfl) ?_
  refine m_g54 C X dX12_tellFits_59 ?_
  refine lv_bipush (v := 10) C.1.1 C.1.2.1 dX12_tellFits_62 (by decide) ?_
  refine lv_iload_n C.1.1 C.1.2.1 dX12_tellFits_64 rfl (lv_at hl 1 rfl) ?_
  refine lv_imul C.1.1 C.1.2.1 dX12_tellFits_65 ?_
  refine lv_iload_n C.1.1 C.1.2.1 dX12_tellFits_66 rfl (lv_at hl 3 rfl) ?_
  refine lv_iadd C.1.1 C.1.2.1 dX12_tellFits_67 ?_
  obtain ⟨h_1, hF⟩ := chk_some hF
  obtain ⟨S1, eS1, hF⟩ := lt_some hF
  refine m_w52 C O X  (inb_vp h_1) rfl eS1 dX12_tellFits_68 (fun H locs X => ?_)
  refine lv_aload_n C.1.1 C.1.2.1 dX12_tellFits_69 rfl (lv_at hl 0 rfl) ?_
  refine lv_dup C.1.1 C.1.2.1 dX12_tellFits_70 rfl ?_
  refine m_g54 C X dX12_tellFits_71 ?_
  refine lv_iconst (v := 1) C.1.1 C.1.2.1 dX12_tellFits_74 (by decide) ?_
  refine lv_iadd C.1.1 C.1.2.1 dX12_tellFits_75 ?_
  obtain ⟨S2, eS2, hF⟩ := lt_some hF
  refine m_p54 C O X eS2 dX12_tellFits_76 (fun H locs X => ?_)
  exact bX12_tellFits_79 C O K7 K26 X (lv_sub hl [0, 1, 2, 3] rfl) hF
noncomputable def fX12_tellFits_b51 (N : Nat) (r7 : Int32 → gS → Option (Int32 × gS)) (r26 : Int32 → Int32 → Int32 → gS → Option (Int32 × gS)) (x1 : Int32) (x2 : Int32) (x3 : Int32) (S : gS) : Option (Int32 × gS) := fX12_tellFits_b79 N r7 r26 x1 x2 x3 S
theorem bX12_tellFits_51 {N : Nat} {r7 : Int32 → gS → Option (Int32 × gS)} {r26 : Int32 → Int32 → Int32 → gS → Option (Int32 × gS)} {x1 : Int32} {x2 : Int32} {x3 : Int32} {S : gS} {H : Heap} {locs : List Loc} {ls : Array Slot} {o : Int32 × gS} (C : gC p s m args meth c cX12_tellFits 4 RX12 none D (mtys cI cS) mord g Am) (O : gO (mcell g cI cS sa) mord g) (K7 : ∀ (x1 : Int32) (S : gS) (H : Heap) (locs : List Loc) (ls : Array Slot), gX D (mcell g cI cS sa) mord g S s H locs → lv_has ls 4 [(0, .ref (g 99)), (1, .int x1)] → r7 x1 S = some o → W p l e (rmd 7) s m args below meth c H locs 0 0 (gE below args s D (mtys cI cS) (mcell g cI cS sa) mord g none o.2) (F0 m 7 ls [])) (K26 : ∀ (x1 : Int32) (x2 : Int32) (x3 : Int32) (S : gS) (H : Heap) (locs : List Loc) (ls : Array Slot), gX D (mcell g cI cS sa) mord g S s H locs → lv_has ls 4 [(0, .ref (g 99)), (1, .int x1), (2, .int x2), (3, .int x3)] → r26 x1 x2 x3 S = some o → W p l e (rmd 7) s m args below meth c H locs 0 0 (gE below args s D (mtys cI cS) (mcell g cI cS sa) mord g none o.2) (F0 m 26 ls [])) (X : gX D (mcell g cI cS sa) mord g S s H locs) (hl : lv_has ls 4 [(0, .ref (g 99)), (1, .int x1), (2, .int x2), (3, .int x3)]) (hF : fX12_tellFits_b51 N r7 r26 x1 x2 x3 S = some o) : W p l e (rmd 7) s m args below meth c H locs 0 0 (gE below args s D (mtys cI cS) (mcell g cI cS sa) mord g none o.2) (F0 m 51 ls []) := by
  unfold fX12_tellFits_b51 at hF
  refine lv_goto (tgt := 79) C.1.1 C.1.2.1 dX12_tellFits_51 (by decide) ?_
  exact bX12_tellFits_79 C O K7 K26 X (lv_sub hl [0, 1, 2, 3] rfl) hF
noncomputable def fX12_tellFits_b44 (N : Nat) (r7 : Int32 → gS → Option (Int32 × gS)) (r26 : Int32 → Int32 → Int32 → gS → Option (Int32 × gS)) (x1 : Int32) (x2 : Int32) (x3 : Int32) (S : gS) : Option (Int32 × gS) := bnd (fX12_isAsSeen N  S) fun q1 => (if q1.1 = 0 then fX12_tellFits_b51 N r7 r26 x1 x2 x3 q1.2 else fX12_tellFits_b54 N r7 r26 x1 x2 x3 q1.2)
theorem bX12_tellFits_44 {N : Nat} {r7 : Int32 → gS → Option (Int32 × gS)} {r26 : Int32 → Int32 → Int32 → gS → Option (Int32 × gS)} {x1 : Int32} {x2 : Int32} {x3 : Int32} {S : gS} {H : Heap} {locs : List Loc} {ls : Array Slot} {o : Int32 × gS} (C : gC p s m args meth c cX12_tellFits 4 RX12 none D (mtys cI cS) mord g Am) (O : gO (mcell g cI cS sa) mord g) (K7 : ∀ (x1 : Int32) (S : gS) (H : Heap) (locs : List Loc) (ls : Array Slot), gX D (mcell g cI cS sa) mord g S s H locs → lv_has ls 4 [(0, .ref (g 99)), (1, .int x1)] → r7 x1 S = some o → W p l e (rmd 7) s m args below meth c H locs 0 0 (gE below args s D (mtys cI cS) (mcell g cI cS sa) mord g none o.2) (F0 m 7 ls [])) (K26 : ∀ (x1 : Int32) (x2 : Int32) (x3 : Int32) (S : gS) (H : Heap) (locs : List Loc) (ls : Array Slot), gX D (mcell g cI cS sa) mord g S s H locs → lv_has ls 4 [(0, .ref (g 99)), (1, .int x1), (2, .int x2), (3, .int x3)] → r26 x1 x2 x3 S = some o → W p l e (rmd 7) s m args below meth c H locs 0 0 (gE below args s D (mtys cI cS) (mcell g cI cS sa) mord g none o.2) (F0 m 26 ls [])) (X : gX D (mcell g cI cS sa) mord g S s H locs) (hl : lv_has ls 4 [(0, .ref (g 99)), (1, .int x1), (2, .int x2), (3, .int x3)]) (hF : fX12_tellFits_b44 N r7 r26 x1 x2 x3 S = some o) : W p l e (rmd 7) s m args below meth c H locs 0 0 (gE below args s D (mtys cI cS) (mcell g cI cS sa) mord g none o.2) (F0 m 44 ls []) := by
  unfold fX12_tellFits_b44 at hF
  refine lv_aload_n C.1.1 C.1.2.1 dX12_tellFits_44 rfl (lv_at hl 0 rfl) ?_
  obtain ⟨q1, hq1, hF⟩ := bnd_some hF
  refine m_callVi C X vX12_isAsSeen rfl (kX12_isAsSeen O C.2.2.2.2.1 N   S q1 hq1) (Nat.le_of_ble_eq_true rfl) (Nat.le_of_ble_eq_true rfl) (Nat.le_of_ble_eq_true rfl) (Nat.le_of_ble_eq_true rfl) rfl hl.1 rfl (Nat.le_of_ble_eq_true rfl) dX12_tellFits_45 (fun H locs X => ?_)
  refine lv_if_ne (tgt := 54) C.1.1 C.1.2.1 dX12_tellFits_48 (by decide) (fun h_z => ?_) (fun h_z => ?_)
  · rw [if_neg h_z] at hF
    exact bX12_tellFits_54 C O K7 K26 X (lv_sub hl [0, 1, 2, 3] rfl) hF
  · rw [if_pos h_z] at hF
    exact bX12_tellFits_51 C O K7 K26 X (lv_sub hl [0, 1, 2, 3] rfl) hF
noncomputable def fX12_tellFits_b32 (N : Nat) (r7 : Int32 → gS → Option (Int32 × gS)) (r26 : Int32 → Int32 → Int32 → gS → Option (Int32 × gS)) (x1 : Int32) (x2 : Int32) (x3 : Int32) (S : gS) : Option (Int32 × gS) := chk (inb x1 (6)) (lt (sU S 18 (Int32.toNatClampNeg x1) x3) fun S1 => (if x3 = x2 then fX12_tellFits_b79 N r7 r26 x1 x2 x3 S1 else fX12_tellFits_b44 N r7 r26 x1 x2 x3 S1))
theorem bX12_tellFits_32 {N : Nat} {r7 : Int32 → gS → Option (Int32 × gS)} {r26 : Int32 → Int32 → Int32 → gS → Option (Int32 × gS)} {x1 : Int32} {x2 : Int32} {x3 : Int32} {S : gS} {H : Heap} {locs : List Loc} {ls : Array Slot} {o : Int32 × gS} (C : gC p s m args meth c cX12_tellFits 4 RX12 none D (mtys cI cS) mord g Am) (O : gO (mcell g cI cS sa) mord g) (K7 : ∀ (x1 : Int32) (S : gS) (H : Heap) (locs : List Loc) (ls : Array Slot), gX D (mcell g cI cS sa) mord g S s H locs → lv_has ls 4 [(0, .ref (g 99)), (1, .int x1)] → r7 x1 S = some o → W p l e (rmd 7) s m args below meth c H locs 0 0 (gE below args s D (mtys cI cS) (mcell g cI cS sa) mord g none o.2) (F0 m 7 ls [])) (K26 : ∀ (x1 : Int32) (x2 : Int32) (x3 : Int32) (S : gS) (H : Heap) (locs : List Loc) (ls : Array Slot), gX D (mcell g cI cS sa) mord g S s H locs → lv_has ls 4 [(0, .ref (g 99)), (1, .int x1), (2, .int x2), (3, .int x3)] → r26 x1 x2 x3 S = some o → W p l e (rmd 7) s m args below meth c H locs 0 0 (gE below args s D (mtys cI cS) (mcell g cI cS sa) mord g none o.2) (F0 m 26 ls [])) (X : gX D (mcell g cI cS sa) mord g S s H locs) (hl : lv_has ls 4 [(0, .ref (g 99)), (1, .int x1), (2, .int x2), (3, .int x3)]) (hF : fX12_tellFits_b32 N r7 r26 x1 x2 x3 S = some o) : W p l e (rmd 7) s m args below meth c H locs 0 0 (gE below args s D (mtys cI cS) (mcell g cI cS sa) mord g none o.2) (F0 m 32 ls []) := by
  unfold fX12_tellFits_b32 at hF
  refine lv_aload_n C.1.1 C.1.2.1 dX12_tellFits_32 rfl (lv_at hl 0 rfl) ?_
  refine m_g18 C X dX12_tellFits_33 ?_
  refine lv_iload_n C.1.1 C.1.2.1 dX12_tellFits_36 rfl (lv_at hl 1 rfl) ?_
  refine lv_iload_n C.1.1 C.1.2.1 dX12_tellFits_37 rfl (lv_at hl 3 rfl) ?_
  obtain ⟨h_1, hF⟩ := chk_some hF
  obtain ⟨S1, eS1, hF⟩ := lt_some hF
  refine m_w18 C O X  (inb_vp h_1) rfl eS1 dX12_tellFits_38 (fun H locs X => ?_)
  refine lv_iload_n C.1.1 C.1.2.1 dX12_tellFits_39 rfl (lv_at hl 3 rfl) ?_
  refine lv_iload_n C.1.1 C.1.2.1 dX12_tellFits_40 rfl (lv_at hl 2 rfl) ?_
  refine lv_icmp_eq (tgt := 79) C.1.1 C.1.2.1 dX12_tellFits_41 (by decide) (fun h_z => ?_) (fun h_z => ?_)
  · rw [if_pos h_z] at hF
    exact bX12_tellFits_79 C O K7 K26 X (lv_sub hl [0, 1, 2, 3] rfl) hF
  · rw [if_neg h_z] at hF
    exact bX12_tellFits_44 C O K7 K26 X (lv_sub hl [0, 1, 2, 3] rfl) hF
noncomputable def fX12_tellFits_b26 (N : Nat) (r7 : Int32 → gS → Option (Int32 × gS)) (r26 : Int32 → Int32 → Int32 → gS → Option (Int32 × gS)) (x1 : Int32) (x2 : Int32) (x3 : Int32) (S : gS) : Option (Int32 × gS) := if 9 < x3 then fX12_tellFits_b85 N r7 x1 x2 S else fX12_tellFits_b32 N r7 r26 x1 x2 x3 S
theorem bX12_tellFits_26 {N : Nat} {r7 : Int32 → gS → Option (Int32 × gS)} {r26 : Int32 → Int32 → Int32 → gS → Option (Int32 × gS)} {x1 : Int32} {x2 : Int32} {x3 : Int32} {S : gS} {H : Heap} {locs : List Loc} {ls : Array Slot} {o : Int32 × gS} (C : gC p s m args meth c cX12_tellFits 4 RX12 none D (mtys cI cS) mord g Am) (O : gO (mcell g cI cS sa) mord g) (K7 : ∀ (x1 : Int32) (S : gS) (H : Heap) (locs : List Loc) (ls : Array Slot), gX D (mcell g cI cS sa) mord g S s H locs → lv_has ls 4 [(0, .ref (g 99)), (1, .int x1)] → r7 x1 S = some o → W p l e (rmd 7) s m args below meth c H locs 0 0 (gE below args s D (mtys cI cS) (mcell g cI cS sa) mord g none o.2) (F0 m 7 ls [])) (K26 : ∀ (x1 : Int32) (x2 : Int32) (x3 : Int32) (S : gS) (H : Heap) (locs : List Loc) (ls : Array Slot), gX D (mcell g cI cS sa) mord g S s H locs → lv_has ls 4 [(0, .ref (g 99)), (1, .int x1), (2, .int x2), (3, .int x3)] → r26 x1 x2 x3 S = some o → W p l e (rmd 7) s m args below meth c H locs 0 0 (gE below args s D (mtys cI cS) (mcell g cI cS sa) mord g none o.2) (F0 m 26 ls [])) (X : gX D (mcell g cI cS sa) mord g S s H locs) (hl : lv_has ls 4 [(0, .ref (g 99)), (1, .int x1), (2, .int x2), (3, .int x3)]) (hF : fX12_tellFits_b26 N r7 r26 x1 x2 x3 S = some o) : W p l e (rmd 7) s m args below meth c H locs 0 0 (gE below args s D (mtys cI cS) (mcell g cI cS sa) mord g none o.2) (F0 m 26 ls []) := by
  unfold fX12_tellFits_b26 at hF
  refine lv_iload_n C.1.1 C.1.2.1 dX12_tellFits_26 rfl (lv_at hl 3 rfl) ?_
  refine lv_bipush (v := 9) C.1.1 C.1.2.1 dX12_tellFits_27 (by decide) ?_
  refine lv_icmp_gt (tgt := 85) C.1.1 C.1.2.1 dX12_tellFits_29 (by decide) (fun h_z => ?_) (fun h_z => ?_)
  · rw [if_pos h_z] at hF
    exact bX12_tellFits_85 C O K7 X (lv_sub hl [0, 1, 2] rfl) hF
  · rw [if_neg h_z] at hF
    exact bX12_tellFits_32 C O K7 K26 X (lv_sub hl [0, 1, 2, 3] rfl) hF
noncomputable def fX12_tellFits_h26 (N : Nat) (r7 : Int32 → gS → Option (Int32 × gS)) : Nat → Int32 → Int32 → Int32 → gS → Option (Int32 × gS)
  | 0, _, _, _, _ => none
  | n + 1, x1, x2, x3, S => fX12_tellFits_b26 N r7 (fX12_tellFits_h26 N r7 n) x1 x2 x3 S
theorem hX12_tellFits_26 {N : Nat} {r7 : Int32 → gS → Option (Int32 × gS)} {o : Int32 × gS} (C : gC p s m args meth c cX12_tellFits 4 RX12 none D (mtys cI cS) mord g Am) (O : gO (mcell g cI cS sa) mord g) (K7 : ∀ (x1 : Int32) (S : gS) (H : Heap) (locs : List Loc) (ls : Array Slot), gX D (mcell g cI cS sa) mord g S s H locs → lv_has ls 4 [(0, .ref (g 99)), (1, .int x1)] → r7 x1 S = some o → W p l e (rmd 7) s m args below meth c H locs 0 0 (gE below args s D (mtys cI cS) (mcell g cI cS sa) mord g none o.2) (F0 m 7 ls [])) : ∀ (n : Nat) (x1 : Int32) (x2 : Int32) (x3 : Int32) (S : gS) (H : Heap) (locs : List Loc) (ls : Array Slot), gX D (mcell g cI cS sa) mord g S s H locs → lv_has ls 4 [(0, .ref (g 99)), (1, .int x1), (2, .int x2), (3, .int x3)] → fX12_tellFits_h26 N r7 n x1 x2 x3 S = some o → W p l e (rmd 7) s m args below meth c H locs 0 0 (gE below args s D (mtys cI cS) (mcell g cI cS sa) mord g none o.2) (F0 m 26 ls []) := by
  intro n
  induction n with
  | zero =>
    intro x1 x2 x3 S H locs ls X hl hF
    exact absurd (show (none : Option (Int32 × gS)) = some o from hF) (by simp)
  | succ n ih =>
    intro x1 x2 x3 S H locs ls X hl hF
    have hF : fX12_tellFits_b26 N r7 (fX12_tellFits_h26 N r7 n) x1 x2 x3 S = some o := hF
    exact bX12_tellFits_26 C O K7 ih X hl hF
noncomputable def fX12_tellFits_b17 (N : Nat) (r7 : Int32 → gS → Option (Int32 × gS)) (x1 : Int32) (S : gS) : Option (Int32 × gS) := chk (inb x1 (6)) (fX12_tellFits_h26 N r7 N x1 (S 18 (Int32.toNatClampNeg x1)) 0 S)
theorem bX12_tellFits_17 {N : Nat} {r7 : Int32 → gS → Option (Int32 × gS)} {x1 : Int32} {S : gS} {H : Heap} {locs : List Loc} {ls : Array Slot} {o : Int32 × gS} (C : gC p s m args meth c cX12_tellFits 4 RX12 none D (mtys cI cS) mord g Am) (O : gO (mcell g cI cS sa) mord g) (K7 : ∀ (x1 : Int32) (S : gS) (H : Heap) (locs : List Loc) (ls : Array Slot), gX D (mcell g cI cS sa) mord g S s H locs → lv_has ls 4 [(0, .ref (g 99)), (1, .int x1)] → r7 x1 S = some o → W p l e (rmd 7) s m args below meth c H locs 0 0 (gE below args s D (mtys cI cS) (mcell g cI cS sa) mord g none o.2) (F0 m 7 ls [])) (X : gX D (mcell g cI cS sa) mord g S s H locs) (hl : lv_has ls 4 [(0, .ref (g 99)), (1, .int x1)]) (hF : fX12_tellFits_b17 N r7 x1 S = some o) : W p l e (rmd 7) s m args below meth c H locs 0 0 (gE below args s D (mtys cI cS) (mcell g cI cS sa) mord g none o.2) (F0 m 17 ls []) := by
  unfold fX12_tellFits_b17 at hF
  refine lv_aload_n C.1.1 C.1.2.1 dX12_tellFits_17 rfl (lv_at hl 0 rfl) ?_
  refine m_g18 C X dX12_tellFits_18 ?_
  refine lv_iload_n C.1.1 C.1.2.1 dX12_tellFits_21 rfl (lv_at hl 1 rfl) ?_
  obtain ⟨h_1, hF⟩ := chk_some hF
  refine m_r18 C X  (inb_vp h_1) rfl dX12_tellFits_22 ?_
  refine lv_istore_n (lv' := [(2, .int (S 18 (Int32.toNatClampNeg x1))), (0, .ref (g 99)), (1, .int x1)]) C.1.1 C.1.2.1 dX12_tellFits_23 rfl hl (by decide) rfl (fun ls hl => ?_)
  refine lv_iconst (v := 0) C.1.1 C.1.2.1 dX12_tellFits_24 (by decide) ?_
  refine lv_istore_n (lv' := [(3, .int 0), (2, .int (S 18 (Int32.toNatClampNeg x1))), (0, .ref (g 99)), (1, .int x1)]) C.1.1 C.1.2.1 dX12_tellFits_25 rfl hl (by decide) rfl (fun ls hl => ?_)
  exact hX12_tellFits_26 C O K7 N _ _ _ _ _ _ _ X (lv_sub hl [2, 3, 1, 0] rfl) hF
noncomputable def fX12_tellFits_b7 (N : Nat) (r7 : Int32 → gS → Option (Int32 × gS)) (x1 : Int32) (S : gS) : Option (Int32 × gS) := if (S 5 1) ≤ x1 then fX12_tellFits_b98 N S else fX12_tellFits_b17 N r7 x1 S
theorem bX12_tellFits_7 {N : Nat} {r7 : Int32 → gS → Option (Int32 × gS)} {x1 : Int32} {S : gS} {H : Heap} {locs : List Loc} {ls : Array Slot} {o : Int32 × gS} (C : gC p s m args meth c cX12_tellFits 4 RX12 none D (mtys cI cS) mord g Am) (O : gO (mcell g cI cS sa) mord g) (K7 : ∀ (x1 : Int32) (S : gS) (H : Heap) (locs : List Loc) (ls : Array Slot), gX D (mcell g cI cS sa) mord g S s H locs → lv_has ls 4 [(0, .ref (g 99)), (1, .int x1)] → r7 x1 S = some o → W p l e (rmd 7) s m args below meth c H locs 0 0 (gE below args s D (mtys cI cS) (mcell g cI cS sa) mord g none o.2) (F0 m 7 ls [])) (X : gX D (mcell g cI cS sa) mord g S s H locs) (hl : lv_has ls 4 [(0, .ref (g 99)), (1, .int x1)]) (hF : fX12_tellFits_b7 N r7 x1 S = some o) : W p l e (rmd 7) s m args below meth c H locs 0 0 (gE below args s D (mtys cI cS) (mcell g cI cS sa) mord g none o.2) (F0 m 7 ls []) := by
  unfold fX12_tellFits_b7 at hF
  refine lv_iload_n C.1.1 C.1.2.1 dX12_tellFits_7 rfl (lv_at hl 1 rfl) ?_
  refine lv_aload_n C.1.1 C.1.2.1 dX12_tellFits_8 rfl (lv_at hl 0 rfl) ?_
  refine m_g5 C X dX12_tellFits_9 ?_
  refine lv_iconst (v := 1) C.1.1 C.1.2.1 dX12_tellFits_12 (by decide) ?_
  refine m_r5 C X (j := 1) (inb_vp (by decide)) (by decide) dX12_tellFits_13 ?_
  refine lv_icmp_ge (tgt := 98) C.1.1 C.1.2.1 dX12_tellFits_14 (by decide) (fun h_z => ?_) (fun h_z => ?_)
  · rw [if_pos h_z] at hF
    exact bX12_tellFits_98 C O X (lv_sub hl [] rfl) hF
  · rw [if_neg h_z] at hF
    exact bX12_tellFits_17 C O K7 X (lv_sub hl [0, 1] rfl) hF
noncomputable def fX12_tellFits_h7 (N : Nat) : Nat → Int32 → gS → Option (Int32 × gS)
  | 0, _, _ => none
  | n + 1, x1, S => fX12_tellFits_b7 N (fX12_tellFits_h7 N n) x1 S
theorem hX12_tellFits_7 {N : Nat} {o : Int32 × gS} (C : gC p s m args meth c cX12_tellFits 4 RX12 none D (mtys cI cS) mord g Am) (O : gO (mcell g cI cS sa) mord g) : ∀ (n : Nat) (x1 : Int32) (S : gS) (H : Heap) (locs : List Loc) (ls : Array Slot), gX D (mcell g cI cS sa) mord g S s H locs → lv_has ls 4 [(0, .ref (g 99)), (1, .int x1)] → fX12_tellFits_h7 N n x1 S = some o → W p l e (rmd 7) s m args below meth c H locs 0 0 (gE below args s D (mtys cI cS) (mcell g cI cS sa) mord g none o.2) (F0 m 7 ls []) := by
  intro n
  induction n with
  | zero =>
    intro x1 S H locs ls X hl hF
    exact absurd (show (none : Option (Int32 × gS)) = some o from hF) (by simp)
  | succ n ih =>
    intro x1 S H locs ls X hl hF
    have hF : fX12_tellFits_b7 N (fX12_tellFits_h7 N n) x1 S = some o := hF
    exact bX12_tellFits_7 C O ih X hl hF
noncomputable def fX12_tellFits_b0 (N : Nat) (S : gS) : Option (Int32 × gS) := lt (sU S 99 54 0) fun S1 => (fX12_tellFits_h7 N N 0 S1)
theorem bX12_tellFits_0 {N : Nat} {S : gS} {H : Heap} {locs : List Loc} {ls : Array Slot} {o : Int32 × gS} (C : gC p s m args meth c cX12_tellFits 4 RX12 none D (mtys cI cS) mord g Am) (O : gO (mcell g cI cS sa) mord g) (X : gX D (mcell g cI cS sa) mord g S s H locs) (hl : lv_has ls 4 [(0, .ref (g 99))]) (hF : fX12_tellFits_b0 N S = some o) : W p l e (rmd 7) s m args below meth c H locs 0 0 (gE below args s D (mtys cI cS) (mcell g cI cS sa) mord g none o.2) (F0 m 0 ls []) := by
  unfold fX12_tellFits_b0 at hF
  refine lv_aload_n C.1.1 C.1.2.1 dX12_tellFits_0 rfl (lv_at hl 0 rfl) ?_
  refine lv_iconst (v := 0) C.1.1 C.1.2.1 dX12_tellFits_1 (by decide) ?_
  obtain ⟨S1, eS1, hF⟩ := lt_some hF
  refine m_p54 C O X eS1 dX12_tellFits_2 (fun H locs X => ?_)
  refine lv_iconst (v := 0) C.1.1 C.1.2.1 dX12_tellFits_5 (by decide) ?_
  refine lv_istore_n (lv' := [(1, .int 0), (0, .ref (g 99))]) C.1.1 C.1.2.1 dX12_tellFits_6 rfl hl (by decide) rfl (fun ls hl => ?_)
  exact hX12_tellFits_7 C O N _ _ _ _ _ X (lv_sub hl [1, 0] rfl) hF
noncomputable def fX12_tellFits (N : Nat) (S : gS) : Option (Int32 × gS) := fX12_tellFits_b0 N S
theorem kX12_tellFits {l : Launch} {D : va_G} {g : Nat → Nat} {cI cS : ClassId} {sa : Nat → Nat → Option Nat} {Am : (Nat → Prop) → State → Heap → Prop} (O : gO (mcell g cI cS sa) mord g) (P : gAm Am) (N : Nat) (S : gS) (o : Int32 × gS) (hF : fX12_tellFits N S = some o) : gM l yX12_tellFits cX12_tellFits 4 none 7 D (mtys cI cS) (mcell g cI cS sa) mord g Am [.ref (g 99)] S none o.2 :=
  gM_of O P (by decide) (Nat.le_of_ble_eq_true rfl) (fun p e s m args below meth c ls C X hl => bX12_tellFits_0 C O X (lv_sub hl [0] rfl) hF)
-- greedy
noncomputable def fX12_greedy_b73 (N : Nat) (t0 : Int32) (S : gS) : Option (Int32 × gS) := some (t0, S)
theorem bX12_greedy_73 {N : Nat} {t0 : Int32} {S : gS} {H : Heap} {locs : List Loc} {ls : Array Slot} {o : Int32 × gS} (C : gC p s m args meth c cX12_greedy 2 RX12 ((some .int)) D (mtys cI cS) mord g Am) (O : gO (mcell g cI cS sa) mord g) (X : gX D (mcell g cI cS sa) mord g S s H locs) (hl : lv_has ls 2 []) (hF : fX12_greedy_b73 N t0 S = some o) : W p l e (rmd 8) s m args below meth c H locs 0 0 (gE below args s D (mtys cI cS) (mcell g cI cS sa) mord g (some (.int o.1)) o.2) (F0 m 73 ls [.int t0]) := by
  unfold fX12_greedy_b73 at hF
  cases hF
  exact g_iret C X dX12_greedy_73
noncomputable def fX12_greedy_b67 (N : Nat) (S : gS) : Option (Int32 × gS) := fX12_greedy_b73 N (S 52 0) S
theorem bX12_greedy_67 {N : Nat} {S : gS} {H : Heap} {locs : List Loc} {ls : Array Slot} {o : Int32 × gS} (C : gC p s m args meth c cX12_greedy 2 RX12 ((some .int)) D (mtys cI cS) mord g Am) (O : gO (mcell g cI cS sa) mord g) (X : gX D (mcell g cI cS sa) mord g S s H locs) (hl : lv_has ls 2 [(0, .ref (g 99))]) (hF : fX12_greedy_b67 N S = some o) : W p l e (rmd 8) s m args below meth c H locs 0 0 (gE below args s D (mtys cI cS) (mcell g cI cS sa) mord g (some (.int o.1)) o.2) (F0 m 67 ls []) := by
  unfold fX12_greedy_b67 at hF
  refine lv_aload_n C.1.1 C.1.2.1 dX12_greedy_67 rfl (lv_at hl 0 rfl) ?_
  refine m_g52 C X dX12_greedy_68 ?_
  refine lv_iconst (v := 0) C.1.1 C.1.2.1 dX12_greedy_71 (by decide) ?_
  refine m_r52 C X (j := 0) (inb_vp (by decide)) (by decide) dX12_greedy_72 ?_
  exact bX12_greedy_73 C O X (lv_sub hl [] rfl) hF
noncomputable def fX12_greedy_b63 (N : Nat) (S : gS) : Option (Int32 × gS) := fX12_greedy_b73 N ((-1)) S
theorem bX12_greedy_63 {N : Nat} {S : gS} {H : Heap} {locs : List Loc} {ls : Array Slot} {o : Int32 × gS} (C : gC p s m args meth c cX12_greedy 2 RX12 ((some .int)) D (mtys cI cS) mord g Am) (O : gO (mcell g cI cS sa) mord g) (X : gX D (mcell g cI cS sa) mord g S s H locs) (hl : lv_has ls 2 []) (hF : fX12_greedy_b63 N S = some o) : W p l e (rmd 8) s m args below meth c H locs 0 0 (gE below args s D (mtys cI cS) (mcell g cI cS sa) mord g (some (.int o.1)) o.2) (F0 m 63 ls []) := by
  unfold fX12_greedy_b63 at hF
  refine lv_iconst (v := (-1)) C.1.1 C.1.2.1 dX12_greedy_63 (by decide) ?_
  refine lv_goto (tgt := 73) C.1.1 C.1.2.1 dX12_greedy_64 (by decide) ?_
  exact bX12_greedy_73 C O X (lv_sub hl [] rfl) hF
noncomputable def fX12_greedy_b56 (N : Nat) (S : gS) : Option (Int32 × gS) := if (S 99 54) = 0 then fX12_greedy_b63 N S else fX12_greedy_b67 N S
theorem bX12_greedy_56 {N : Nat} {S : gS} {H : Heap} {locs : List Loc} {ls : Array Slot} {o : Int32 × gS} (C : gC p s m args meth c cX12_greedy 2 RX12 ((some .int)) D (mtys cI cS) mord g Am) (O : gO (mcell g cI cS sa) mord g) (X : gX D (mcell g cI cS sa) mord g S s H locs) (hl : lv_has ls 2 [(0, .ref (g 99))]) (hF : fX12_greedy_b56 N S = some o) : W p l e (rmd 8) s m args below meth c H locs 0 0 (gE below args s D (mtys cI cS) (mcell g cI cS sa) mord g (some (.int o.1)) o.2) (F0 m 56 ls []) := by
  unfold fX12_greedy_b56 at hF
  refine lv_aload_n C.1.1 C.1.2.1 dX12_greedy_56 rfl (lv_at hl 0 rfl) ?_
  refine m_g54 C X dX12_greedy_57 ?_
  refine lv_if_ne (tgt := 67) C.1.1 C.1.2.1 dX12_greedy_60 (by decide) (fun h_z => ?_) (fun h_z => ?_)
  · rw [if_neg h_z] at hF
    exact bX12_greedy_67 C O X (lv_sub hl [0] rfl) hF
  · rw [if_pos h_z] at hF
    exact bX12_greedy_63 C O X (lv_sub hl [] rfl) hF
noncomputable def fX12_greedy_b49 (N : Nat) (S : gS) : Option (Int32 × gS) := fX12_greedy_b73 N (S 99 54) S
theorem bX12_greedy_49 {N : Nat} {S : gS} {H : Heap} {locs : List Loc} {ls : Array Slot} {o : Int32 × gS} (C : gC p s m args meth c cX12_greedy 2 RX12 ((some .int)) D (mtys cI cS) mord g Am) (O : gO (mcell g cI cS sa) mord g) (X : gX D (mcell g cI cS sa) mord g S s H locs) (hl : lv_has ls 2 [(0, .ref (g 99))]) (hF : fX12_greedy_b49 N S = some o) : W p l e (rmd 8) s m args below meth c H locs 0 0 (gE below args s D (mtys cI cS) (mcell g cI cS sa) mord g (some (.int o.1)) o.2) (F0 m 49 ls []) := by
  unfold fX12_greedy_b49 at hF
  refine lv_aload_n C.1.1 C.1.2.1 dX12_greedy_49 rfl (lv_at hl 0 rfl) ?_
  refine m_g54 C X dX12_greedy_50 ?_
  refine lv_goto (tgt := 73) C.1.1 C.1.2.1 dX12_greedy_53 (by decide) ?_
  exact bX12_greedy_73 C O X (lv_sub hl [] rfl) hF
noncomputable def fX12_greedy_b41 (N : Nat) (x1 : Int32) (S : gS) : Option (Int32 × gS) := bnd (fX12_tellFits N  S) fun q1 => (if x1 = 0 then fX12_greedy_b49 N q1.2 else fX12_greedy_b56 N q1.2)
theorem bX12_greedy_41 {N : Nat} {x1 : Int32} {S : gS} {H : Heap} {locs : List Loc} {ls : Array Slot} {o : Int32 × gS} (C : gC p s m args meth c cX12_greedy 2 RX12 ((some .int)) D (mtys cI cS) mord g Am) (O : gO (mcell g cI cS sa) mord g) (X : gX D (mcell g cI cS sa) mord g S s H locs) (hl : lv_has ls 2 [(0, .ref (g 99)), (1, .int x1)]) (hF : fX12_greedy_b41 N x1 S = some o) : W p l e (rmd 8) s m args below meth c H locs 0 0 (gE below args s D (mtys cI cS) (mcell g cI cS sa) mord g (some (.int o.1)) o.2) (F0 m 41 ls []) := by
  unfold fX12_greedy_b41 at hF
  refine lv_aload_n C.1.1 C.1.2.1 dX12_greedy_41 rfl (lv_at hl 0 rfl) ?_
  obtain ⟨q1, hq1, hF⟩ := bnd_some hF
  refine m_callV C X vX12_tellFits rfl (kX12_tellFits O C.2.2.2.2.1 N   S q1 hq1) (Nat.le_of_ble_eq_true rfl) (Nat.le_of_ble_eq_true rfl) (Nat.le_of_ble_eq_true rfl) (Nat.le_of_ble_eq_true rfl) rfl hl.1 rfl (Nat.le_of_ble_eq_true rfl) dX12_greedy_42 (fun H locs X => ?_)
  refine lv_iload_n C.1.1 C.1.2.1 dX12_greedy_45 rfl (lv_at hl 1 rfl) ?_
  refine lv_if_ne (tgt := 56) C.1.1 C.1.2.1 dX12_greedy_46 (by decide) (fun h_z => ?_) (fun h_z => ?_)
  · rw [if_neg h_z] at hF
    exact bX12_greedy_56 C O X (lv_sub hl [0] rfl) hF
  · rw [if_pos h_z] at hF
    exact bX12_greedy_49 C O X (lv_sub hl [0] rfl) hF
noncomputable def fX12_greedy_b40 (N : Nat) (t0 : Int32) (S : gS) : Option (Int32 × gS) := some (t0, S)
theorem bX12_greedy_40 {N : Nat} {t0 : Int32} {S : gS} {H : Heap} {locs : List Loc} {ls : Array Slot} {o : Int32 × gS} (C : gC p s m args meth c cX12_greedy 2 RX12 ((some .int)) D (mtys cI cS) mord g Am) (O : gO (mcell g cI cS sa) mord g) (X : gX D (mcell g cI cS sa) mord g S s H locs) (hl : lv_has ls 2 []) (hF : fX12_greedy_b40 N t0 S = some o) : W p l e (rmd 8) s m args below meth c H locs 0 0 (gE below args s D (mtys cI cS) (mcell g cI cS sa) mord g (some (.int o.1)) o.2) (F0 m 40 ls [.int t0]) := by
  unfold fX12_greedy_b40 at hF
  cases hF
  exact g_iret C X dX12_greedy_40
noncomputable def fX12_greedy_b39 (N : Nat) (S : gS) : Option (Int32 × gS) := fX12_greedy_b40 N 0 S
theorem bX12_greedy_39 {N : Nat} {S : gS} {H : Heap} {locs : List Loc} {ls : Array Slot} {o : Int32 × gS} (C : gC p s m args meth c cX12_greedy 2 RX12 ((some .int)) D (mtys cI cS) mord g Am) (O : gO (mcell g cI cS sa) mord g) (X : gX D (mcell g cI cS sa) mord g S s H locs) (hl : lv_has ls 2 []) (hF : fX12_greedy_b39 N S = some o) : W p l e (rmd 8) s m args below meth c H locs 0 0 (gE below args s D (mtys cI cS) (mcell g cI cS sa) mord g (some (.int o.1)) o.2) (F0 m 39 ls []) := by
  unfold fX12_greedy_b39 at hF
  refine lv_iconst (v := 0) C.1.1 C.1.2.1 dX12_greedy_39 (by decide) ?_
  exact bX12_greedy_40 C O X (lv_sub hl [] rfl) hF
noncomputable def fX12_greedy_b35 (N : Nat) (S : gS) : Option (Int32 × gS) := fX12_greedy_b40 N 1 S
theorem bX12_greedy_35 {N : Nat} {S : gS} {H : Heap} {locs : List Loc} {ls : Array Slot} {o : Int32 × gS} (C : gC p s m args meth c cX12_greedy 2 RX12 ((some .int)) D (mtys cI cS) mord g Am) (O : gO (mcell g cI cS sa) mord g) (X : gX D (mcell g cI cS sa) mord g S s H locs) (hl : lv_has ls 2 []) (hF : fX12_greedy_b35 N S = some o) : W p l e (rmd 8) s m args below meth c H locs 0 0 (gE below args s D (mtys cI cS) (mcell g cI cS sa) mord g (some (.int o.1)) o.2) (F0 m 35 ls []) := by
  unfold fX12_greedy_b35 at hF
  refine lv_iconst (v := 1) C.1.1 C.1.2.1 dX12_greedy_35 (by decide) ?_
  refine lv_goto (tgt := 40) C.1.1 C.1.2.1 dX12_greedy_36 (by decide) ?_
  exact bX12_greedy_40 C O X (lv_sub hl [] rfl) hF
noncomputable def fX12_greedy_b28 (N : Nat) (S : gS) : Option (Int32 × gS) := bnd (fX12_isAsSeen N  S) fun q1 => (if q1.1 = 0 then fX12_greedy_b39 N q1.2 else fX12_greedy_b35 N q1.2)
theorem bX12_greedy_28 {N : Nat} {S : gS} {H : Heap} {locs : List Loc} {ls : Array Slot} {o : Int32 × gS} (C : gC p s m args meth c cX12_greedy 2 RX12 ((some .int)) D (mtys cI cS) mord g Am) (O : gO (mcell g cI cS sa) mord g) (X : gX D (mcell g cI cS sa) mord g S s H locs) (hl : lv_has ls 2 [(0, .ref (g 99))]) (hF : fX12_greedy_b28 N S = some o) : W p l e (rmd 8) s m args below meth c H locs 0 0 (gE below args s D (mtys cI cS) (mcell g cI cS sa) mord g (some (.int o.1)) o.2) (F0 m 28 ls []) := by
  unfold fX12_greedy_b28 at hF
  refine lv_aload_n C.1.1 C.1.2.1 dX12_greedy_28 rfl (lv_at hl 0 rfl) ?_
  obtain ⟨q1, hq1, hF⟩ := bnd_some hF
  refine m_callVi C X vX12_isAsSeen rfl (kX12_isAsSeen O C.2.2.2.2.1 N   S q1 hq1) (Nat.le_of_ble_eq_true rfl) (Nat.le_of_ble_eq_true rfl) (Nat.le_of_ble_eq_true rfl) (Nat.le_of_ble_eq_true rfl) rfl hl.1 rfl (Nat.le_of_ble_eq_true rfl) dX12_greedy_29 (fun H locs X => ?_)
  refine lv_if_eq (tgt := 39) C.1.1 C.1.2.1 dX12_greedy_32 (by decide) (fun h_z => ?_) (fun h_z => ?_)
  · rw [if_pos h_z] at hF
    exact bX12_greedy_39 C O X (lv_sub hl [] rfl) hF
  · rw [if_neg h_z] at hF
    exact bX12_greedy_35 C O X (lv_sub hl [] rfl) hF
noncomputable def fX12_greedy_b23 (N : Nat) (x1 : Int32) (S : gS) : Option (Int32 × gS) := if x1 = 2 then fX12_greedy_b28 N S else fX12_greedy_b41 N x1 S
theorem bX12_greedy_23 {N : Nat} {x1 : Int32} {S : gS} {H : Heap} {locs : List Loc} {ls : Array Slot} {o : Int32 × gS} (C : gC p s m args meth c cX12_greedy 2 RX12 ((some .int)) D (mtys cI cS) mord g Am) (O : gO (mcell g cI cS sa) mord g) (X : gX D (mcell g cI cS sa) mord g S s H locs) (hl : lv_has ls 2 [(0, .ref (g 99)), (1, .int x1)]) (hF : fX12_greedy_b23 N x1 S = some o) : W p l e (rmd 8) s m args below meth c H locs 0 0 (gE below args s D (mtys cI cS) (mcell g cI cS sa) mord g (some (.int o.1)) o.2) (F0 m 23 ls []) := by
  unfold fX12_greedy_b23 at hF
  refine lv_iload_n C.1.1 C.1.2.1 dX12_greedy_23 rfl (lv_at hl 1 rfl) ?_
  refine lv_iconst (v := 2) C.1.1 C.1.2.1 dX12_greedy_24 (by decide) ?_
  refine lv_icmp_ne (tgt := 41) C.1.1 C.1.2.1 dX12_greedy_25 (by decide) (fun h_z => ?_) (fun h_z => ?_)
  · rw [if_neg h_z] at hF
    exact bX12_greedy_41 C O X (lv_sub hl [0, 1] rfl) hF
  · rw [if_pos h_z] at hF
    exact bX12_greedy_28 C O X (lv_sub hl [0] rfl) hF
noncomputable def fX12_greedy_b17 (N : Nat) (S : gS) : Option (Int32 × gS) := bnd (fX12_fail N 1 S) fun q1 => (some (q1.1, q1.2))
theorem bX12_greedy_17 {N : Nat} {S : gS} {H : Heap} {locs : List Loc} {ls : Array Slot} {o : Int32 × gS} (C : gC p s m args meth c cX12_greedy 2 RX12 ((some .int)) D (mtys cI cS) mord g Am) (O : gO (mcell g cI cS sa) mord g) (X : gX D (mcell g cI cS sa) mord g S s H locs) (hl : lv_has ls 2 [(0, .ref (g 99))]) (hF : fX12_greedy_b17 N S = some o) : W p l e (rmd 8) s m args below meth c H locs 0 0 (gE below args s D (mtys cI cS) (mcell g cI cS sa) mord g (some (.int o.1)) o.2) (F0 m 17 ls []) := by
  unfold fX12_greedy_b17 at hF
  refine lv_aload_n C.1.1 C.1.2.1 dX12_greedy_17 rfl (lv_at hl 0 rfl) ?_
  refine lv_iconst (v := 1) C.1.1 C.1.2.1 dX12_greedy_18 (by decide) ?_
  obtain ⟨q1, hq1, hF⟩ := bnd_some hF
  refine m_callVi C X vX12_fail rfl (kX12_fail O C.2.2.2.2.1 N 1  S q1 hq1) (Nat.le_of_ble_eq_true rfl) (Nat.le_of_ble_eq_true rfl) (Nat.le_of_ble_eq_true rfl) (Nat.le_of_ble_eq_true rfl) rfl hl.1 rfl (Nat.le_of_ble_eq_true rfl) dX12_greedy_19 (fun H locs X => ?_)
  cases hF
  exact g_iret C X dX12_greedy_22
noncomputable def fX12_greedy_b0 (N : Nat) (x1 : Int32) (S : gS) : Option (Int32 × gS) := lt (sU S 99 4 0) fun S1 => (bnd (fX12_isIn N (Int32.toInt64 x1) 0 2 S1) fun q1 => (if q1.1 = 0 then fX12_greedy_b17 N q1.2 else fX12_greedy_b23 N x1 q1.2))
theorem bX12_greedy_0 {N : Nat} {x1 : Int32} {S : gS} {H : Heap} {locs : List Loc} {ls : Array Slot} {o : Int32 × gS} (C : gC p s m args meth c cX12_greedy 2 RX12 ((some .int)) D (mtys cI cS) mord g Am) (O : gO (mcell g cI cS sa) mord g) (X : gX D (mcell g cI cS sa) mord g S s H locs) (hl : lv_has ls 2 [(0, .ref (g 99)), (1, .int x1)]) (hF : fX12_greedy_b0 N x1 S = some o) : W p l e (rmd 8) s m args below meth c H locs 0 0 (gE below args s D (mtys cI cS) (mcell g cI cS sa) mord g (some (.int o.1)) o.2) (F0 m 0 ls []) := by
  unfold fX12_greedy_b0 at hF
  refine lv_aload_n C.1.1 C.1.2.1 dX12_greedy_0 rfl (lv_at hl 0 rfl) ?_
  refine lv_iconst (v := 0) C.1.1 C.1.2.1 dX12_greedy_1 (by decide) ?_
  obtain ⟨S1, eS1, hF⟩ := lt_some hF
  refine m_p4 C O X eS1 dX12_greedy_2 (fun H locs X => ?_)
  refine lv_iload_n C.1.1 C.1.2.1 dX12_greedy_5 rfl (lv_at hl 1 rfl) ?_
  refine lv_i2l (v := Int32.toInt64 x1) C.1.1 C.1.2.1 dX12_greedy_6 rfl ?_
  refine lv_lconst (v := 0) C.1.1 C.1.2.1 dX12_greedy_7 (by decide) ?_
  refine lv_ldc2 C.1.1 C.1.2.1 C.1.2.2.2.1 (C.1.2.2.2.2 _ mKL461) dX12_greedy_8 ?_
  obtain ⟨q1, hq1, hF⟩ := bnd_some hF
  refine g_callSi C X vX12_isIn (kX12_isIn O C.2.2.2.2.1 N (Int32.toInt64 x1) 0 2  S1 q1 hq1) (Nat.le_of_ble_eq_true rfl) (Nat.le_of_ble_eq_true rfl) (Nat.le_of_ble_eq_true rfl) (Nat.le_of_ble_eq_true rfl) rfl hl.1 rfl (Nat.le_of_ble_eq_true rfl) dX12_greedy_11 (fun H locs X => ?_)
  refine lv_if_ne (tgt := 23) C.1.1 C.1.2.1 dX12_greedy_14 (by decide) (fun h_z => ?_) (fun h_z => ?_)
  · rw [if_neg h_z] at hF
    exact bX12_greedy_23 C O X (lv_sub hl [0, 1] rfl) hF
  · rw [if_pos h_z] at hF
    exact bX12_greedy_17 C O X (lv_sub hl [0] rfl) hF
noncomputable def fX12_greedy (N : Nat) (x1 : Int32) (S : gS) : Option (Int32 × gS) := fX12_greedy_b0 N x1 S
theorem kX12_greedy {l : Launch} {D : va_G} {g : Nat → Nat} {cI cS : ClassId} {sa : Nat → Nat → Option Nat} {Am : (Nat → Prop) → State → Heap → Prop} (O : gO (mcell g cI cS sa) mord g) (P : gAm Am) (N : Nat) (x1 : Int32) (S : gS) (o : Int32 × gS) (hF : fX12_greedy N x1 S = some o) : gM l yX12_greedy cX12_greedy 2 ((some .int)) 8 D (mtys cI cS) (mcell g cI cS sa) mord g Am [.ref (g 99), .int x1] S (some (.int o.1)) o.2 :=
  gM_of O P (by decide) (Nat.le_of_ble_eq_true rfl) (fun p e s m args below meth c ls C X hl => bX12_greedy_0 C O X (lv_sub hl [0, 1] rfl) hF)
-- unlike
noncomputable def fX12_unlike_b34 (N : Nat) (x2 : Int32) (S : gS) : Option (Int32 × gS) := bnd (fX12_bitsOf N x2 S) fun q1 => (some (q1.1, q1.2))
theorem bX12_unlike_34 {N : Nat} {x2 : Int32} {S : gS} {H : Heap} {locs : List Loc} {ls : Array Slot} {o : Int32 × gS} (C : gC p s m args meth c cX12_unlike 4 RX12 ((some .int)) D (mtys cI cS) mord g Am) (O : gO (mcell g cI cS sa) mord g) (X : gX D (mcell g cI cS sa) mord g S s H locs) (hl : lv_has ls 4 [(2, .int x2)]) (hF : fX12_unlike_b34 N x2 S = some o) : W p l e (rmd 1) s m args below meth c H locs 0 0 (gE below args s D (mtys cI cS) (mcell g cI cS sa) mord g (some (.int o.1)) o.2) (F0 m 34 ls []) := by
  unfold fX12_unlike_b34 at hF
  refine lv_iload_n C.1.1 C.1.2.1 dX12_unlike_34 rfl (lv_at hl 0 rfl) ?_
  obtain ⟨q1, hq1, hF⟩ := bnd_some hF
  refine g_callSi C X vX12_bitsOf (kX12_bitsOf O C.2.2.2.2.1 N x2  S q1 hq1) (Nat.le_of_ble_eq_true rfl) (Nat.le_of_ble_eq_true rfl) (Nat.le_of_ble_eq_true rfl) (Nat.le_of_ble_eq_true rfl) rfl hl.1 rfl (Nat.le_of_ble_eq_true rfl) dX12_unlike_35 (fun H locs X => ?_)
  cases hF
  exact g_iret C X dX12_unlike_38
noncomputable def fX12_unlike_b12 (N : Nat) (r4 : Int32 → Int32 → Int32 → gS → Option (Int32 × gS)) (x1 : Int32) (x2 : Int32) (x3 : Int32) (S : gS) : Option (Int32 × gS) := chk (inb ((((20 * x3 : Int32)) + x1 : Int32)) (1200)) (r4 x1 ((x2 ||| (((1 : Int32) <<< ((S 53 (Int32.toNatClampNeg ((((20 * x3 : Int32)) + x1 : Int32)))) &&& 31) : Int32)) : Int32)) ((x3 + 1 : Int32)) S)
theorem bX12_unlike_12 {N : Nat} {r4 : Int32 → Int32 → Int32 → gS → Option (Int32 × gS)} {x1 : Int32} {x2 : Int32} {x3 : Int32} {S : gS} {H : Heap} {locs : List Loc} {ls : Array Slot} {o : Int32 × gS} (C : gC p s m args meth c cX12_unlike 4 RX12 ((some .int)) D (mtys cI cS) mord g Am) (O : gO (mcell g cI cS sa) mord g) (K4 : ∀ (x1 : Int32) (x2 : Int32) (x3 : Int32) (S : gS) (H : Heap) (locs : List Loc) (ls : Array Slot), gX D (mcell g cI cS sa) mord g S s H locs → lv_has ls 4 [(0, .ref (g 99)), (1, .int x1), (2, .int x2), (3, .int x3)] → r4 x1 x2 x3 S = some o → W p l e (rmd 1) s m args below meth c H locs 0 0 (gE below args s D (mtys cI cS) (mcell g cI cS sa) mord g (some (.int o.1)) o.2) (F0 m 4 ls [])) (X : gX D (mcell g cI cS sa) mord g S s H locs) (hl : lv_has ls 4 [(0, .ref (g 99)), (1, .int x1), (2, .int x2), (3, .int x3)]) (hF : fX12_unlike_b12 N r4 x1 x2 x3 S = some o) : W p l e (rmd 1) s m args below meth c H locs 0 0 (gE below args s D (mtys cI cS) (mcell g cI cS sa) mord g (some (.int o.1)) o.2) (F0 m 12 ls []) := by
  unfold fX12_unlike_b12 at hF
  refine lv_iload_n C.1.1 C.1.2.1 dX12_unlike_12 rfl (lv_at hl 2 rfl) ?_
  refine lv_iconst (v := 1) C.1.1 C.1.2.1 dX12_unlike_13 (by decide) ?_
  refine lv_aload_n C.1.1 C.1.2.1 dX12_unlike_14 rfl (lv_at hl 0 rfl) ?_
  refine m_g53 C X dX12_unlike_15 ?_
  refine lv_bipush (v := 20) C.1.1 C.1.2.1 dX12_unlike_18 (by decide) ?_
  refine lv_iload_n C.1.1 C.1.2.1 dX12_unlike_20 rfl (lv_at hl 3 rfl) ?_
  refine lv_imul C.1.1 C.1.2.1 dX12_unlike_21 ?_
  refine lv_iload_n C.1.1 C.1.2.1 dX12_unlike_22 rfl (lv_at hl 1 rfl) ?_
  refine lv_iadd C.1.1 C.1.2.1 dX12_unlike_23 ?_
  obtain ⟨h_1, hF⟩ := chk_some hF
  refine m_r53 C X  (inb_vp h_1) rfl dX12_unlike_24 ?_
  refine lv_ishl C.1.1 C.1.2.1 dX12_unlike_25 ?_
  refine lv_ior C.1.1 C.1.2.1 dX12_unlike_26 ?_
  refine lv_istore_n (lv' := [(2, .int ((x2 ||| (((1 : Int32) <<< ((S 53 (Int32.toNatClampNeg ((((20 * x3 : Int32)) + x1 : Int32)))) &&& 31) : Int32)) : Int32))), (0, .ref (g 99)), (1, .int x1), (3, .int x3)]) C.1.1 C.1.2.1 dX12_unlike_27 rfl hl (by decide) rfl (fun ls hl => ?_)
  refine lv_iinc (v := (x3 + 1 : Int32)) (lv' := [(3, .int ((x3 + 1 : Int32))), (2, .int ((x2 ||| (((1 : Int32) <<< ((S 53 (Int32.toNatClampNeg ((((20 * x3 : Int32)) + x1 : Int32)))) &&& 31) : Int32)) : Int32))), (0, .ref (g 99)), (1, .int x1)]) C.1.1 C.1.2.1 dX12_unlike_28 hl (k := 3) rfl rfl (by decide) rfl (fun ls hl => ?_)
  refine lv_goto (tgt := 4) C.1.1 C.1.2.1 dX12_unlike_31 (by decide) ?_
  exact K4 _ _ _ _ _ _ _ X (lv_sub hl [2, 3, 1, 0] rfl) hF
noncomputable def fX12_unlike_b4 (N : Nat) (r4 : Int32 → Int32 → Int32 → gS → Option (Int32 × gS)) (x1 : Int32) (x2 : Int32) (x3 : Int32) (S : gS) : Option (Int32 × gS) := if (S 99 54) ≤ x3 then fX12_unlike_b34 N x2 S else fX12_unlike_b12 N r4 x1 x2 x3 S
theorem bX12_unlike_4 {N : Nat} {r4 : Int32 → Int32 → Int32 → gS → Option (Int32 × gS)} {x1 : Int32} {x2 : Int32} {x3 : Int32} {S : gS} {H : Heap} {locs : List Loc} {ls : Array Slot} {o : Int32 × gS} (C : gC p s m args meth c cX12_unlike 4 RX12 ((some .int)) D (mtys cI cS) mord g Am) (O : gO (mcell g cI cS sa) mord g) (K4 : ∀ (x1 : Int32) (x2 : Int32) (x3 : Int32) (S : gS) (H : Heap) (locs : List Loc) (ls : Array Slot), gX D (mcell g cI cS sa) mord g S s H locs → lv_has ls 4 [(0, .ref (g 99)), (1, .int x1), (2, .int x2), (3, .int x3)] → r4 x1 x2 x3 S = some o → W p l e (rmd 1) s m args below meth c H locs 0 0 (gE below args s D (mtys cI cS) (mcell g cI cS sa) mord g (some (.int o.1)) o.2) (F0 m 4 ls [])) (X : gX D (mcell g cI cS sa) mord g S s H locs) (hl : lv_has ls 4 [(0, .ref (g 99)), (1, .int x1), (2, .int x2), (3, .int x3)]) (hF : fX12_unlike_b4 N r4 x1 x2 x3 S = some o) : W p l e (rmd 1) s m args below meth c H locs 0 0 (gE below args s D (mtys cI cS) (mcell g cI cS sa) mord g (some (.int o.1)) o.2) (F0 m 4 ls []) := by
  unfold fX12_unlike_b4 at hF
  refine lv_iload_n C.1.1 C.1.2.1 dX12_unlike_4 rfl (lv_at hl 3 rfl) ?_
  refine lv_aload_n C.1.1 C.1.2.1 dX12_unlike_5 rfl (lv_at hl 0 rfl) ?_
  refine m_g54 C X dX12_unlike_6 ?_
  refine lv_icmp_ge (tgt := 34) C.1.1 C.1.2.1 dX12_unlike_9 (by decide) (fun h_z => ?_) (fun h_z => ?_)
  · rw [if_pos h_z] at hF
    exact bX12_unlike_34 C O X (lv_sub hl [2] rfl) hF
  · rw [if_neg h_z] at hF
    exact bX12_unlike_12 C O K4 X (lv_sub hl [0, 1, 2, 3] rfl) hF
noncomputable def fX12_unlike_h4 (N : Nat) : Nat → Int32 → Int32 → Int32 → gS → Option (Int32 × gS)
  | 0, _, _, _, _ => none
  | n + 1, x1, x2, x3, S => fX12_unlike_b4 N (fX12_unlike_h4 N n) x1 x2 x3 S
theorem hX12_unlike_4 {N : Nat} {o : Int32 × gS} (C : gC p s m args meth c cX12_unlike 4 RX12 ((some .int)) D (mtys cI cS) mord g Am) (O : gO (mcell g cI cS sa) mord g) : ∀ (n : Nat) (x1 : Int32) (x2 : Int32) (x3 : Int32) (S : gS) (H : Heap) (locs : List Loc) (ls : Array Slot), gX D (mcell g cI cS sa) mord g S s H locs → lv_has ls 4 [(0, .ref (g 99)), (1, .int x1), (2, .int x2), (3, .int x3)] → fX12_unlike_h4 N n x1 x2 x3 S = some o → W p l e (rmd 1) s m args below meth c H locs 0 0 (gE below args s D (mtys cI cS) (mcell g cI cS sa) mord g (some (.int o.1)) o.2) (F0 m 4 ls []) := by
  intro n
  induction n with
  | zero =>
    intro x1 x2 x3 S H locs ls X hl hF
    exact absurd (show (none : Option (Int32 × gS)) = some o from hF) (by simp)
  | succ n ih =>
    intro x1 x2 x3 S H locs ls X hl hF
    have hF : fX12_unlike_b4 N (fX12_unlike_h4 N n) x1 x2 x3 S = some o := hF
    exact bX12_unlike_4 C O ih X hl hF
noncomputable def fX12_unlike_b0 (N : Nat) (x1 : Int32) (S : gS) : Option (Int32 × gS) := fX12_unlike_h4 N N x1 0 0 S
theorem bX12_unlike_0 {N : Nat} {x1 : Int32} {S : gS} {H : Heap} {locs : List Loc} {ls : Array Slot} {o : Int32 × gS} (C : gC p s m args meth c cX12_unlike 4 RX12 ((some .int)) D (mtys cI cS) mord g Am) (O : gO (mcell g cI cS sa) mord g) (X : gX D (mcell g cI cS sa) mord g S s H locs) (hl : lv_has ls 4 [(0, .ref (g 99)), (1, .int x1)]) (hF : fX12_unlike_b0 N x1 S = some o) : W p l e (rmd 1) s m args below meth c H locs 0 0 (gE below args s D (mtys cI cS) (mcell g cI cS sa) mord g (some (.int o.1)) o.2) (F0 m 0 ls []) := by
  unfold fX12_unlike_b0 at hF
  refine lv_iconst (v := 0) C.1.1 C.1.2.1 dX12_unlike_0 (by decide) ?_
  refine lv_istore_n (lv' := [(2, .int 0), (0, .ref (g 99)), (1, .int x1)]) C.1.1 C.1.2.1 dX12_unlike_1 rfl hl (by decide) rfl (fun ls hl => ?_)
  refine lv_iconst (v := 0) C.1.1 C.1.2.1 dX12_unlike_2 (by decide) ?_
  refine lv_istore_n (lv' := [(3, .int 0), (2, .int 0), (0, .ref (g 99)), (1, .int x1)]) C.1.1 C.1.2.1 dX12_unlike_3 rfl hl (by decide) rfl (fun ls hl => ?_)
  exact hX12_unlike_4 C O N _ _ _ _ _ _ _ X (lv_sub hl [2, 3, 1, 0] rfl) hF
noncomputable def fX12_unlike (N : Nat) (x1 : Int32) (S : gS) : Option (Int32 × gS) := fX12_unlike_b0 N x1 S
theorem kX12_unlike {l : Launch} {D : va_G} {g : Nat → Nat} {cI cS : ClassId} {sa : Nat → Nat → Option Nat} {Am : (Nat → Prop) → State → Heap → Prop} (O : gO (mcell g cI cS sa) mord g) (P : gAm Am) (N : Nat) (x1 : Int32) (S : gS) (o : Int32 × gS) (hF : fX12_unlike N x1 S = some o) : gM l yX12_unlike cX12_unlike 4 ((some .int)) 1 D (mtys cI cS) (mcell g cI cS sa) mord g Am [.ref (g 99), .int x1] S (some (.int o.1)) o.2 :=
  gM_of O P (by decide) (Nat.le_of_ble_eq_true rfl) (fun p e s m args below meth c ls C X hl => bX12_unlike_0 C O X (lv_sub hl [0, 1] rfl) hF)
-- look
noncomputable def fX12_look_b193 (N : Nat) (t0 : Int32) (S : gS) : Option (Int32 × gS) := some (t0, S)
theorem bX12_look_193 {N : Nat} {t0 : Int32} {S : gS} {H : Heap} {locs : List Loc} {ls : Array Slot} {o : Int32 × gS} (C : gC p s m args meth c cX12_look 6 RX12 ((some .int)) D (mtys cI cS) mord g Am) (O : gO (mcell g cI cS sa) mord g) (X : gX D (mcell g cI cS sa) mord g S s H locs) (hl : lv_has ls 6 []) (hF : fX12_look_b193 N t0 S = some o) : W p l e (rmd 8) s m args below meth c H locs 0 0 (gE below args s D (mtys cI cS) (mcell g cI cS sa) mord g (some (.int o.1)) o.2) (F0 m 193 ls [.int t0]) := by
  unfold fX12_look_b193 at hF
  cases hF
  exact g_iret C X dX12_look_193
noncomputable def fX12_look_b192 (N : Nat) (x3 : Int32) (S : gS) : Option (Int32 × gS) := fX12_look_b193 N x3 S
theorem bX12_look_192 {N : Nat} {x3 : Int32} {S : gS} {H : Heap} {locs : List Loc} {ls : Array Slot} {o : Int32 × gS} (C : gC p s m args meth c cX12_look 6 RX12 ((some .int)) D (mtys cI cS) mord g Am) (O : gO (mcell g cI cS sa) mord g) (X : gX D (mcell g cI cS sa) mord g S s H locs) (hl : lv_has ls 6 [(3, .int x3)]) (hF : fX12_look_b192 N x3 S = some o) : W p l e (rmd 8) s m args below meth c H locs 0 0 (gE below args s D (mtys cI cS) (mcell g cI cS sa) mord g (some (.int o.1)) o.2) (F0 m 192 ls []) := by
  unfold fX12_look_b192 at hF
  refine lv_iload_n C.1.1 C.1.2.1 dX12_look_192 rfl (lv_at hl 0 rfl) ?_
  exact bX12_look_193 C O X (lv_sub hl [] rfl) hF
noncomputable def fX12_look_b188 (N : Nat) (x2 : Int32) (S : gS) : Option (Int32 × gS) := fX12_look_b193 N x2 S
theorem bX12_look_188 {N : Nat} {x2 : Int32} {S : gS} {H : Heap} {locs : List Loc} {ls : Array Slot} {o : Int32 × gS} (C : gC p s m args meth c cX12_look 6 RX12 ((some .int)) D (mtys cI cS) mord g Am) (O : gO (mcell g cI cS sa) mord g) (X : gX D (mcell g cI cS sa) mord g S s H locs) (hl : lv_has ls 6 [(2, .int x2)]) (hF : fX12_look_b188 N x2 S = some o) : W p l e (rmd 8) s m args below meth c H locs 0 0 (gE below args s D (mtys cI cS) (mcell g cI cS sa) mord g (some (.int o.1)) o.2) (F0 m 188 ls []) := by
  unfold fX12_look_b188 at hF
  refine lv_iload_n C.1.1 C.1.2.1 dX12_look_188 rfl (lv_at hl 0 rfl) ?_
  refine lv_goto (tgt := 193) C.1.1 C.1.2.1 dX12_look_189 (by decide) ?_
  exact bX12_look_193 C O X (lv_sub hl [] rfl) hF
noncomputable def fX12_look_b184 (N : Nat) (x1 : Int32) (x2 : Int32) (x3 : Int32) (S : gS) : Option (Int32 × gS) := if x1 = 0 then fX12_look_b188 N x2 S else fX12_look_b192 N x3 S
theorem bX12_look_184 {N : Nat} {x1 : Int32} {x2 : Int32} {x3 : Int32} {S : gS} {H : Heap} {locs : List Loc} {ls : Array Slot} {o : Int32 × gS} (C : gC p s m args meth c cX12_look 6 RX12 ((some .int)) D (mtys cI cS) mord g Am) (O : gO (mcell g cI cS sa) mord g) (X : gX D (mcell g cI cS sa) mord g S s H locs) (hl : lv_has ls 6 [(1, .int x1), (2, .int x2), (3, .int x3)]) (hF : fX12_look_b184 N x1 x2 x3 S = some o) : W p l e (rmd 8) s m args below meth c H locs 0 0 (gE below args s D (mtys cI cS) (mcell g cI cS sa) mord g (some (.int o.1)) o.2) (F0 m 184 ls []) := by
  unfold fX12_look_b184 at hF
  refine lv_iload_n C.1.1 C.1.2.1 dX12_look_184 rfl (lv_at hl 0 rfl) ?_
  refine lv_if_ne (tgt := 192) C.1.1 C.1.2.1 dX12_look_185 (by decide) (fun h_z => ?_) (fun h_z => ?_)
  · rw [if_neg h_z] at hF
    exact bX12_look_192 C O X (lv_sub hl [2] rfl) hF
  · rw [if_pos h_z] at hF
    exact bX12_look_188 C O X (lv_sub hl [1] rfl) hF
noncomputable def fX12_look_b178 (N : Nat) (r146 : Int32 → Int32 → Int32 → Int32 → gS → Option (Int32 × gS)) (x1 : Int32) (x2 : Int32) (x3 : Int32) (x4 : Int32) (S : gS) : Option (Int32 × gS) := r146 x1 x2 x3 ((x4 + 1 : Int32)) S
theorem bX12_look_178 {N : Nat} {r146 : Int32 → Int32 → Int32 → Int32 → gS → Option (Int32 × gS)} {x1 : Int32} {x2 : Int32} {x3 : Int32} {x4 : Int32} {S : gS} {H : Heap} {locs : List Loc} {ls : Array Slot} {o : Int32 × gS} (C : gC p s m args meth c cX12_look 6 RX12 ((some .int)) D (mtys cI cS) mord g Am) (O : gO (mcell g cI cS sa) mord g) (K146 : ∀ (x1 : Int32) (x2 : Int32) (x3 : Int32) (x4 : Int32) (S : gS) (H : Heap) (locs : List Loc) (ls : Array Slot), gX D (mcell g cI cS sa) mord g S s H locs → lv_has ls 6 [(0, .ref (g 99)), (1, .int x1), (2, .int x2), (3, .int x3), (4, .int x4)] → r146 x1 x2 x3 x4 S = some o → W p l e (rmd 8) s m args below meth c H locs 0 0 (gE below args s D (mtys cI cS) (mcell g cI cS sa) mord g (some (.int o.1)) o.2) (F0 m 146 ls [])) (X : gX D (mcell g cI cS sa) mord g S s H locs) (hl : lv_has ls 6 [(0, .ref (g 99)), (1, .int x1), (2, .int x2), (3, .int x3), (4, .int x4)]) (hF : fX12_look_b178 N r146 x1 x2 x3 x4 S = some o) : W p l e (rmd 8) s m args below meth c H locs 0 0 (gE below args s D (mtys cI cS) (mcell g cI cS sa) mord g (some (.int o.1)) o.2) (F0 m 178 ls []) := by
  unfold fX12_look_b178 at hF
  refine lv_iinc (v := (x4 + 1 : Int32)) (lv' := [(4, .int ((x4 + 1 : Int32))), (0, .ref (g 99)), (1, .int x1), (2, .int x2), (3, .int x3)]) C.1.1 C.1.2.1 dX12_look_178 hl (k := 4) rfl rfl (by decide) rfl (fun ls hl => ?_)
  refine lv_goto (tgt := 146) C.1.1 C.1.2.1 dX12_look_181 (by decide) ?_
  exact K146 _ _ _ _ _ _ _ _ X (lv_sub hl [1, 2, 3, 4, 0] rfl) hF
noncomputable def fX12_look_b170 (N : Nat) (r146 : Int32 → Int32 → Int32 → Int32 → gS → Option (Int32 × gS)) (x1 : Int32) (x4 : Int32) (x5 : Int32) (S : gS) : Option (Int32 × gS) := fX12_look_b178 N r146 x1 ((x4 + 1 : Int32)) x5 x4 S
theorem bX12_look_170 {N : Nat} {r146 : Int32 → Int32 → Int32 → Int32 → gS → Option (Int32 × gS)} {x1 : Int32} {x4 : Int32} {x5 : Int32} {S : gS} {H : Heap} {locs : List Loc} {ls : Array Slot} {o : Int32 × gS} (C : gC p s m args meth c cX12_look 6 RX12 ((some .int)) D (mtys cI cS) mord g Am) (O : gO (mcell g cI cS sa) mord g) (K146 : ∀ (x1 : Int32) (x2 : Int32) (x3 : Int32) (x4 : Int32) (S : gS) (H : Heap) (locs : List Loc) (ls : Array Slot), gX D (mcell g cI cS sa) mord g S s H locs → lv_has ls 6 [(0, .ref (g 99)), (1, .int x1), (2, .int x2), (3, .int x3), (4, .int x4)] → r146 x1 x2 x3 x4 S = some o → W p l e (rmd 8) s m args below meth c H locs 0 0 (gE below args s D (mtys cI cS) (mcell g cI cS sa) mord g (some (.int o.1)) o.2) (F0 m 146 ls [])) (X : gX D (mcell g cI cS sa) mord g S s H locs) (hl : lv_has ls 6 [(0, .ref (g 99)), (1, .int x1), (4, .int x4), (5, .int x5)]) (hF : fX12_look_b170 N r146 x1 x4 x5 S = some o) : W p l e (rmd 8) s m args below meth c H locs 0 0 (gE below args s D (mtys cI cS) (mcell g cI cS sa) mord g (some (.int o.1)) o.2) (F0 m 170 ls []) := by
  unfold fX12_look_b170 at hF
  refine lv_iload C.1.1 C.1.2.1 dX12_look_170 (lv_at hl 2 rfl) ?_
  refine lv_iconst (v := 1) C.1.1 C.1.2.1 dX12_look_172 (by decide) ?_
  refine lv_iadd C.1.1 C.1.2.1 dX12_look_173 ?_
  refine lv_istore_n (lv' := [(2, .int ((x4 + 1 : Int32))), (0, .ref (g 99)), (1, .int x1), (4, .int x4), (5, .int x5)]) C.1.1 C.1.2.1 dX12_look_174 rfl hl (by decide) rfl (fun ls hl => ?_)
  refine lv_iload C.1.1 C.1.2.1 dX12_look_175 (lv_at hl 4 rfl) ?_
  refine lv_istore_n (lv' := [(3, .int x5), (2, .int ((x4 + 1 : Int32))), (0, .ref (g 99)), (1, .int x1), (4, .int x4), (5, .int x5)]) C.1.1 C.1.2.1 dX12_look_177 rfl hl (by decide) rfl (fun ls hl => ?_)
  exact bX12_look_178 C O K146 X (lv_sub hl [2, 3, 1, 0, 4] rfl) hF
noncomputable def fX12_look_b167 (N : Nat) (r146 : Int32 → Int32 → Int32 → Int32 → gS → Option (Int32 × gS)) (x1 : Int32) (x2 : Int32) (x3 : Int32) (x4 : Int32) (S : gS) : Option (Int32 × gS) := fX12_look_b178 N r146 x1 x2 x3 x4 S
theorem bX12_look_167 {N : Nat} {r146 : Int32 → Int32 → Int32 → Int32 → gS → Option (Int32 × gS)} {x1 : Int32} {x2 : Int32} {x3 : Int32} {x4 : Int32} {S : gS} {H : Heap} {locs : List Loc} {ls : Array Slot} {o : Int32 × gS} (C : gC p s m args meth c cX12_look 6 RX12 ((some .int)) D (mtys cI cS) mord g Am) (O : gO (mcell g cI cS sa) mord g) (K146 : ∀ (x1 : Int32) (x2 : Int32) (x3 : Int32) (x4 : Int32) (S : gS) (H : Heap) (locs : List Loc) (ls : Array Slot), gX D (mcell g cI cS sa) mord g S s H locs → lv_has ls 6 [(0, .ref (g 99)), (1, .int x1), (2, .int x2), (3, .int x3), (4, .int x4)] → r146 x1 x2 x3 x4 S = some o → W p l e (rmd 8) s m args below meth c H locs 0 0 (gE below args s D (mtys cI cS) (mcell g cI cS sa) mord g (some (.int o.1)) o.2) (F0 m 146 ls [])) (X : gX D (mcell g cI cS sa) mord g S s H locs) (hl : lv_has ls 6 [(0, .ref (g 99)), (1, .int x1), (2, .int x2), (3, .int x3), (4, .int x4)]) (hF : fX12_look_b167 N r146 x1 x2 x3 x4 S = some o) : W p l e (rmd 8) s m args below meth c H locs 0 0 (gE below args s D (mtys cI cS) (mcell g cI cS sa) mord g (some (.int o.1)) o.2) (F0 m 167 ls []) := by
  unfold fX12_look_b167 at hF
  refine lv_goto (tgt := 178) C.1.1 C.1.2.1 dX12_look_167 (by decide) ?_
  exact bX12_look_178 C O K146 X (lv_sub hl [0, 1, 2, 3, 4] rfl) hF
noncomputable def fX12_look_b153 (N : Nat) (r146 : Int32 → Int32 → Int32 → Int32 → gS → Option (Int32 × gS)) (x1 : Int32) (x2 : Int32) (x3 : Int32) (x4 : Int32) (S : gS) : Option (Int32 × gS) := bnd (fX12_unlike N x4 S) fun q1 => (if x3 < q1.1 then fX12_look_b170 N r146 x1 x4 q1.1 q1.2 else fX12_look_b167 N r146 x1 x2 x3 x4 q1.2)
theorem bX12_look_153 {N : Nat} {r146 : Int32 → Int32 → Int32 → Int32 → gS → Option (Int32 × gS)} {x1 : Int32} {x2 : Int32} {x3 : Int32} {x4 : Int32} {S : gS} {H : Heap} {locs : List Loc} {ls : Array Slot} {o : Int32 × gS} (C : gC p s m args meth c cX12_look 6 RX12 ((some .int)) D (mtys cI cS) mord g Am) (O : gO (mcell g cI cS sa) mord g) (K146 : ∀ (x1 : Int32) (x2 : Int32) (x3 : Int32) (x4 : Int32) (S : gS) (H : Heap) (locs : List Loc) (ls : Array Slot), gX D (mcell g cI cS sa) mord g S s H locs → lv_has ls 6 [(0, .ref (g 99)), (1, .int x1), (2, .int x2), (3, .int x3), (4, .int x4)] → r146 x1 x2 x3 x4 S = some o → W p l e (rmd 8) s m args below meth c H locs 0 0 (gE below args s D (mtys cI cS) (mcell g cI cS sa) mord g (some (.int o.1)) o.2) (F0 m 146 ls [])) (X : gX D (mcell g cI cS sa) mord g S s H locs) (hl : lv_has ls 6 [(0, .ref (g 99)), (1, .int x1), (2, .int x2), (3, .int x3), (4, .int x4)]) (hF : fX12_look_b153 N r146 x1 x2 x3 x4 S = some o) : W p l e (rmd 8) s m args below meth c H locs 0 0 (gE below args s D (mtys cI cS) (mcell g cI cS sa) mord g (some (.int o.1)) o.2) (F0 m 153 ls []) := by
  unfold fX12_look_b153 at hF
  refine lv_aload_n C.1.1 C.1.2.1 dX12_look_153 rfl (lv_at hl 0 rfl) ?_
  refine lv_iload C.1.1 C.1.2.1 dX12_look_154 (lv_at hl 4 rfl) ?_
  obtain ⟨q1, hq1, hF⟩ := bnd_some hF
  refine m_callVi C X vX12_unlike rfl (kX12_unlike O C.2.2.2.2.1 N x4  S q1 hq1) (Nat.le_of_ble_eq_true rfl) (Nat.le_of_ble_eq_true rfl) (Nat.le_of_ble_eq_true rfl) (Nat.le_of_ble_eq_true rfl) rfl hl.1 rfl (Nat.le_of_ble_eq_true rfl) dX12_look_156 (fun H locs X => ?_)
  refine lv_istore (lv' := [(5, .int q1.1), (0, .ref (g 99)), (1, .int x1), (2, .int x2), (3, .int x3), (4, .int x4)]) C.1.1 C.1.2.1 dX12_look_159 hl (by decide) rfl (fun ls hl => ?_)
  refine lv_iload C.1.1 C.1.2.1 dX12_look_161 (lv_at hl 0 rfl) ?_
  refine lv_iload_n C.1.1 C.1.2.1 dX12_look_163 rfl (lv_at hl 4 rfl) ?_
  refine lv_icmp_gt (tgt := 170) C.1.1 C.1.2.1 dX12_look_164 (by decide) (fun h_z => ?_) (fun h_z => ?_)
  · rw [if_pos h_z] at hF
    exact bX12_look_170 C O K146 X (lv_sub hl [1, 2, 5, 0] rfl) hF
  · rw [if_neg h_z] at hF
    exact bX12_look_167 C O K146 X (lv_sub hl [1, 2, 3, 4, 5] rfl) hF
noncomputable def fX12_look_b146 (N : Nat) (r146 : Int32 → Int32 → Int32 → Int32 → gS → Option (Int32 × gS)) (x1 : Int32) (x2 : Int32) (x3 : Int32) (x4 : Int32) (S : gS) : Option (Int32 × gS) := if 20 ≤ x4 then fX12_look_b184 N x1 x2 x3 S else fX12_look_b153 N r146 x1 x2 x3 x4 S
theorem bX12_look_146 {N : Nat} {r146 : Int32 → Int32 → Int32 → Int32 → gS → Option (Int32 × gS)} {x1 : Int32} {x2 : Int32} {x3 : Int32} {x4 : Int32} {S : gS} {H : Heap} {locs : List Loc} {ls : Array Slot} {o : Int32 × gS} (C : gC p s m args meth c cX12_look 6 RX12 ((some .int)) D (mtys cI cS) mord g Am) (O : gO (mcell g cI cS sa) mord g) (K146 : ∀ (x1 : Int32) (x2 : Int32) (x3 : Int32) (x4 : Int32) (S : gS) (H : Heap) (locs : List Loc) (ls : Array Slot), gX D (mcell g cI cS sa) mord g S s H locs → lv_has ls 6 [(0, .ref (g 99)), (1, .int x1), (2, .int x2), (3, .int x3), (4, .int x4)] → r146 x1 x2 x3 x4 S = some o → W p l e (rmd 8) s m args below meth c H locs 0 0 (gE below args s D (mtys cI cS) (mcell g cI cS sa) mord g (some (.int o.1)) o.2) (F0 m 146 ls [])) (X : gX D (mcell g cI cS sa) mord g S s H locs) (hl : lv_has ls 6 [(0, .ref (g 99)), (1, .int x1), (2, .int x2), (3, .int x3), (4, .int x4)]) (hF : fX12_look_b146 N r146 x1 x2 x3 x4 S = some o) : W p l e (rmd 8) s m args below meth c H locs 0 0 (gE below args s D (mtys cI cS) (mcell g cI cS sa) mord g (some (.int o.1)) o.2) (F0 m 146 ls []) := by
  unfold fX12_look_b146 at hF
  refine lv_iload C.1.1 C.1.2.1 dX12_look_146 (lv_at hl 4 rfl) ?_
  refine lv_bipush (v := 20) C.1.1 C.1.2.1 dX12_look_148 (by decide) ?_
  refine lv_icmp_ge (tgt := 184) C.1.1 C.1.2.1 dX12_look_150 (by decide) (fun h_z => ?_) (fun h_z => ?_)
  · rw [if_pos h_z] at hF
    exact bX12_look_184 C O X (lv_sub hl [1, 2, 3] rfl) hF
  · rw [if_neg h_z] at hF
    exact bX12_look_153 C O K146 X (lv_sub hl [0, 1, 2, 3, 4] rfl) hF
noncomputable def fX12_look_h146 (N : Nat) : Nat → Int32 → Int32 → Int32 → Int32 → gS → Option (Int32 × gS)
  | 0, _, _, _, _, _ => none
  | n + 1, x1, x2, x3, x4, S => fX12_look_b146 N (fX12_look_h146 N n) x1 x2 x3 x4 S
theorem hX12_look_146 {N : Nat} {o : Int32 × gS} (C : gC p s m args meth c cX12_look 6 RX12 ((some .int)) D (mtys cI cS) mord g Am) (O : gO (mcell g cI cS sa) mord g) : ∀ (n : Nat) (x1 : Int32) (x2 : Int32) (x3 : Int32) (x4 : Int32) (S : gS) (H : Heap) (locs : List Loc) (ls : Array Slot), gX D (mcell g cI cS sa) mord g S s H locs → lv_has ls 6 [(0, .ref (g 99)), (1, .int x1), (2, .int x2), (3, .int x3), (4, .int x4)] → fX12_look_h146 N n x1 x2 x3 x4 S = some o → W p l e (rmd 8) s m args below meth c H locs 0 0 (gE below args s D (mtys cI cS) (mcell g cI cS sa) mord g (some (.int o.1)) o.2) (F0 m 146 ls []) := by
  intro n
  induction n with
  | zero =>
    intro x1 x2 x3 x4 S H locs ls X hl hF
    exact absurd (show (none : Option (Int32 × gS)) = some o from hF) (by simp)
  | succ n ih =>
    intro x1 x2 x3 x4 S H locs ls X hl hF
    have hF : fX12_look_b146 N (fX12_look_h146 N n) x1 x2 x3 x4 S = some o := hF
    exact bX12_look_146 C O ih X hl hF
noncomputable def fX12_look_b139 (N : Nat) (x1 : Int32) (S : gS) : Option (Int32 × gS) := fX12_look_h146 N N x1 ((-1)) 0 0 S
theorem bX12_look_139 {N : Nat} {x1 : Int32} {S : gS} {H : Heap} {locs : List Loc} {ls : Array Slot} {o : Int32 × gS} (C : gC p s m args meth c cX12_look 6 RX12 ((some .int)) D (mtys cI cS) mord g Am) (O : gO (mcell g cI cS sa) mord g) (X : gX D (mcell g cI cS sa) mord g S s H locs) (hl : lv_has ls 6 [(0, .ref (g 99)), (1, .int x1)]) (hF : fX12_look_b139 N x1 S = some o) : W p l e (rmd 8) s m args below meth c H locs 0 0 (gE below args s D (mtys cI cS) (mcell g cI cS sa) mord g (some (.int o.1)) o.2) (F0 m 139 ls []) := by
  unfold fX12_look_b139 at hF
  refine lv_iconst (v := (-1)) C.1.1 C.1.2.1 dX12_look_139 (by decide) ?_
  refine lv_istore_n (lv' := [(2, .int ((-1))), (0, .ref (g 99)), (1, .int x1)]) C.1.1 C.1.2.1 dX12_look_140 rfl hl (by decide) rfl (fun ls hl => ?_)
  refine lv_iconst (v := 0) C.1.1 C.1.2.1 dX12_look_141 (by decide) ?_
  refine lv_istore_n (lv' := [(3, .int 0), (2, .int ((-1))), (0, .ref (g 99)), (1, .int x1)]) C.1.1 C.1.2.1 dX12_look_142 rfl hl (by decide) rfl (fun ls hl => ?_)
  refine lv_iconst (v := 0) C.1.1 C.1.2.1 dX12_look_143 (by decide) ?_
  refine lv_istore (lv' := [(4, .int 0), (3, .int 0), (2, .int ((-1))), (0, .ref (g 99)), (1, .int x1)]) C.1.1 C.1.2.1 dX12_look_144 hl (by decide) rfl (fun ls hl => ?_)
  exact hX12_look_146 C O N _ _ _ _ _ _ _ _ X (lv_sub hl [3, 4, 2, 1, 0] rfl) hF
noncomputable def fX12_look_b116 (N : Nat) (r35 : Int32 → Int32 → gS → Option (Int32 × gS)) (x1 : Int32) (x2 : Int32) (x3 : Int32) (x4 : Int32) (S : gS) : Option (Int32 × gS) := chk (inb x3 (6)) (lt (sU S 18 (Int32.toNatClampNeg x3) x4) fun S1 => (bnd (fX12_unpack N 46 0 S1) fun q1 => (r35 x1 ((x2 + 1 : Int32)) q1.2)))
theorem bX12_look_116 {N : Nat} {r35 : Int32 → Int32 → gS → Option (Int32 × gS)} {x1 : Int32} {x2 : Int32} {x3 : Int32} {x4 : Int32} {S : gS} {H : Heap} {locs : List Loc} {ls : Array Slot} {o : Int32 × gS} (C : gC p s m args meth c cX12_look 6 RX12 ((some .int)) D (mtys cI cS) mord g Am) (O : gO (mcell g cI cS sa) mord g) (K35 : ∀ (x1 : Int32) (x2 : Int32) (S : gS) (H : Heap) (locs : List Loc) (ls : Array Slot), gX D (mcell g cI cS sa) mord g S s H locs → lv_has ls 6 [(0, .ref (g 99)), (1, .int x1), (2, .int x2)] → r35 x1 x2 S = some o → W p l e (rmd 8) s m args below meth c H locs 0 0 (gE below args s D (mtys cI cS) (mcell g cI cS sa) mord g (some (.int o.1)) o.2) (F0 m 35 ls [])) (X : gX D (mcell g cI cS sa) mord g S s H locs) (hl : lv_has ls 6 [(0, .ref (g 99)), (1, .int x1), (2, .int x2), (3, .int x3), (4, .int x4)]) (hF : fX12_look_b116 N r35 x1 x2 x3 x4 S = some o) : W p l e (rmd 8) s m args below meth c H locs 0 0 (gE below args s D (mtys cI cS) (mcell g cI cS sa) mord g (some (.int o.1)) o.2) (F0 m 116 ls []) := by
  unfold fX12_look_b116 at hF
  refine lv_aload_n C.1.1 C.1.2.1 dX12_look_116 rfl (lv_at hl 0 rfl) ?_
  refine m_g18 C X dX12_look_117 ?_
  refine lv_iload_n C.1.1 C.1.2.1 dX12_look_120 rfl (lv_at hl 3 rfl) ?_
  refine lv_iload C.1.1 C.1.2.1 dX12_look_121 (lv_at hl 4 rfl) ?_
  obtain ⟨h_1, hF⟩ := chk_some hF
  obtain ⟨S1, eS1, hF⟩ := lt_some hF
  refine m_w18 C O X  (inb_vp h_1) rfl eS1 dX12_look_123 (fun H locs X => ?_)
  refine lv_aload_n C.1.1 C.1.2.1 dX12_look_124 rfl (lv_at hl 0 rfl) ?_
  refine lv_aload_n C.1.1 C.1.2.1 dX12_look_125 rfl (lv_at hl 0 rfl) ?_
  refine m_g46 C X dX12_look_126 ?_
  refine lv_iconst (v := 0) C.1.1 C.1.2.1 dX12_look_129 (by decide) ?_
  obtain ⟨q1, hq1, hF⟩ := bnd_some hF
  refine m_callV C X vX12_unpack rfl (kX12_unpack O C.2.2.2.2.1 N 46 0 (rfl : mI 46 = true) S1 q1 hq1) (Nat.le_of_ble_eq_true rfl) (Nat.le_of_ble_eq_true rfl) (Nat.le_of_ble_eq_true rfl) (Nat.le_of_ble_eq_true rfl) rfl hl.1 rfl (Nat.le_of_ble_eq_true rfl) dX12_look_130 (fun H locs X => ?_)
  refine lv_iinc (v := (x2 + 1 : Int32)) (lv' := [(2, .int ((x2 + 1 : Int32))), (0, .ref (g 99)), (1, .int x1), (3, .int x3), (4, .int x4)]) C.1.1 C.1.2.1 dX12_look_133 hl (k := 2) rfl rfl (by decide) rfl (fun ls hl => ?_)
  refine lv_goto (tgt := 35) C.1.1 C.1.2.1 dX12_look_136 (by decide) ?_
  exact K35 _ _ _ _ _ _ X (lv_sub hl [1, 2, 0] rfl) hF
noncomputable def fX12_look_b86 (N : Nat) (r35 : Int32 → Int32 → gS → Option (Int32 × gS)) (r79 : Int32 → Int32 → Int32 → Int32 → Int32 → gS → Option (Int32 × gS)) (x1 : Int32) (x2 : Int32) (x3 : Int32) (x4 : Int32) (x5 : Int32) (S : gS) : Option (Int32 × gS) := bnd (fX12_anHour N  S) fun q1 => (bnd (fX12_greatest N 32 q1.2) fun q2 => (chk (inb ((((20 * x2 : Int32)) + x5 : Int32)) (1200)) (lt (sU q2.2 53 (Int32.toNatClampNeg ((((20 * x2 : Int32)) + x5 : Int32))) q2.1) fun S3 => (r79 x1 x2 x3 x4 ((x5 + 1 : Int32)) S3))))
theorem bX12_look_86 {N : Nat} {r35 : Int32 → Int32 → gS → Option (Int32 × gS)} {r79 : Int32 → Int32 → Int32 → Int32 → Int32 → gS → Option (Int32 × gS)} {x1 : Int32} {x2 : Int32} {x3 : Int32} {x4 : Int32} {x5 : Int32} {S : gS} {H : Heap} {locs : List Loc} {ls : Array Slot} {o : Int32 × gS} (C : gC p s m args meth c cX12_look 6 RX12 ((some .int)) D (mtys cI cS) mord g Am) (O : gO (mcell g cI cS sa) mord g) (K35 : ∀ (x1 : Int32) (x2 : Int32) (S : gS) (H : Heap) (locs : List Loc) (ls : Array Slot), gX D (mcell g cI cS sa) mord g S s H locs → lv_has ls 6 [(0, .ref (g 99)), (1, .int x1), (2, .int x2)] → r35 x1 x2 S = some o → W p l e (rmd 8) s m args below meth c H locs 0 0 (gE below args s D (mtys cI cS) (mcell g cI cS sa) mord g (some (.int o.1)) o.2) (F0 m 35 ls [])) (K79 : ∀ (x1 : Int32) (x2 : Int32) (x3 : Int32) (x4 : Int32) (x5 : Int32) (S : gS) (H : Heap) (locs : List Loc) (ls : Array Slot), gX D (mcell g cI cS sa) mord g S s H locs → lv_has ls 6 [(0, .ref (g 99)), (1, .int x1), (2, .int x2), (3, .int x3), (4, .int x4), (5, .int x5)] → r79 x1 x2 x3 x4 x5 S = some o → W p l e (rmd 8) s m args below meth c H locs 0 0 (gE below args s D (mtys cI cS) (mcell g cI cS sa) mord g (some (.int o.1)) o.2) (F0 m 79 ls [])) (X : gX D (mcell g cI cS sa) mord g S s H locs) (hl : lv_has ls 6 [(0, .ref (g 99)), (1, .int x1), (2, .int x2), (3, .int x3), (4, .int x4), (5, .int x5)]) (hF : fX12_look_b86 N r35 r79 x1 x2 x3 x4 x5 S = some o) : W p l e (rmd 8) s m args below meth c H locs 0 0 (gE below args s D (mtys cI cS) (mcell g cI cS sa) mord g (some (.int o.1)) o.2) (F0 m 86 ls []) := by
  unfold fX12_look_b86 at hF
  refine lv_aload_n C.1.1 C.1.2.1 dX12_look_86 rfl (lv_at hl 0 rfl) ?_
  obtain ⟨q1, hq1, hF⟩ := bnd_some hF
  refine m_callV C X vX12_anHour rfl (kX12_anHour O C.2.2.2.2.1 N   S q1 hq1) (Nat.le_of_ble_eq_true rfl) (Nat.le_of_ble_eq_true rfl) (Nat.le_of_ble_eq_true rfl) (Nat.le_of_ble_eq_true rfl) rfl hl.1 rfl (Nat.le_of_ble_eq_true rfl) dX12_look_87 (fun H locs X => ?_)
  refine lv_aload_n C.1.1 C.1.2.1 dX12_look_90 rfl (lv_at hl 0 rfl) ?_
  refine m_g53 C X dX12_look_91 ?_
  refine lv_bipush (v := 20) C.1.1 C.1.2.1 dX12_look_94 (by decide) ?_
  refine lv_iload_n C.1.1 C.1.2.1 dX12_look_96 rfl (lv_at hl 2 rfl) ?_
  refine lv_imul C.1.1 C.1.2.1 dX12_look_97 ?_
  refine lv_iload C.1.1 C.1.2.1 dX12_look_98 (lv_at hl 5 rfl) ?_
  refine lv_iadd C.1.1 C.1.2.1 dX12_look_100 ?_
  refine lv_aload_n C.1.1 C.1.2.1 dX12_look_101 rfl (lv_at hl 0 rfl) ?_
  refine lv_aload_n C.1.1 C.1.2.1 dX12_look_102 rfl (lv_at hl 0 rfl) ?_
  refine m_g32 C X dX12_look_103 ?_
  obtain ⟨q2, hq2, hF⟩ := bnd_some hF
  refine m_callVi C X vX12_greatest rfl (kX12_greatest O C.2.2.2.2.1 N 32 (rfl : mI 32 = true) q1.2 q2 hq2) (Nat.le_of_ble_eq_true rfl) (Nat.le_of_ble_eq_true rfl) (Nat.le_of_ble_eq_true rfl) (Nat.le_of_ble_eq_true rfl) rfl hl.1 rfl (Nat.le_of_ble_eq_true rfl) dX12_look_106 (fun H locs X => ?_)
  obtain ⟨h_1, hF⟩ := chk_some hF
  obtain ⟨S3, eS3, hF⟩ := lt_some hF
  refine m_w53 C O X  (inb_vp h_1) rfl eS3 dX12_look_109 (fun H locs X => ?_)
  refine lv_iinc (v := (x5 + 1 : Int32)) (lv' := [(5, .int ((x5 + 1 : Int32))), (0, .ref (g 99)), (1, .int x1), (2, .int x2), (3, .int x3), (4, .int x4)]) C.1.1 C.1.2.1 dX12_look_110 hl (k := 5) rfl rfl (by decide) rfl (fun ls hl => ?_)
  refine lv_goto (tgt := 79) C.1.1 C.1.2.1 dX12_look_113 (by decide) ?_
  exact K79 _ _ _ _ _ _ _ _ _ X (lv_sub hl [1, 2, 3, 4, 5, 0] rfl) hF
noncomputable def fX12_look_b79 (N : Nat) (r35 : Int32 → Int32 → gS → Option (Int32 × gS)) (r79 : Int32 → Int32 → Int32 → Int32 → Int32 → gS → Option (Int32 × gS)) (x1 : Int32) (x2 : Int32) (x3 : Int32) (x4 : Int32) (x5 : Int32) (S : gS) : Option (Int32 × gS) := if 20 ≤ x5 then fX12_look_b116 N r35 x1 x2 x3 x4 S else fX12_look_b86 N r35 r79 x1 x2 x3 x4 x5 S
theorem bX12_look_79 {N : Nat} {r35 : Int32 → Int32 → gS → Option (Int32 × gS)} {r79 : Int32 → Int32 → Int32 → Int32 → Int32 → gS → Option (Int32 × gS)} {x1 : Int32} {x2 : Int32} {x3 : Int32} {x4 : Int32} {x5 : Int32} {S : gS} {H : Heap} {locs : List Loc} {ls : Array Slot} {o : Int32 × gS} (C : gC p s m args meth c cX12_look 6 RX12 ((some .int)) D (mtys cI cS) mord g Am) (O : gO (mcell g cI cS sa) mord g) (K35 : ∀ (x1 : Int32) (x2 : Int32) (S : gS) (H : Heap) (locs : List Loc) (ls : Array Slot), gX D (mcell g cI cS sa) mord g S s H locs → lv_has ls 6 [(0, .ref (g 99)), (1, .int x1), (2, .int x2)] → r35 x1 x2 S = some o → W p l e (rmd 8) s m args below meth c H locs 0 0 (gE below args s D (mtys cI cS) (mcell g cI cS sa) mord g (some (.int o.1)) o.2) (F0 m 35 ls [])) (K79 : ∀ (x1 : Int32) (x2 : Int32) (x3 : Int32) (x4 : Int32) (x5 : Int32) (S : gS) (H : Heap) (locs : List Loc) (ls : Array Slot), gX D (mcell g cI cS sa) mord g S s H locs → lv_has ls 6 [(0, .ref (g 99)), (1, .int x1), (2, .int x2), (3, .int x3), (4, .int x4), (5, .int x5)] → r79 x1 x2 x3 x4 x5 S = some o → W p l e (rmd 8) s m args below meth c H locs 0 0 (gE below args s D (mtys cI cS) (mcell g cI cS sa) mord g (some (.int o.1)) o.2) (F0 m 79 ls [])) (X : gX D (mcell g cI cS sa) mord g S s H locs) (hl : lv_has ls 6 [(0, .ref (g 99)), (1, .int x1), (2, .int x2), (3, .int x3), (4, .int x4), (5, .int x5)]) (hF : fX12_look_b79 N r35 r79 x1 x2 x3 x4 x5 S = some o) : W p l e (rmd 8) s m args below meth c H locs 0 0 (gE below args s D (mtys cI cS) (mcell g cI cS sa) mord g (some (.int o.1)) o.2) (F0 m 79 ls []) := by
  unfold fX12_look_b79 at hF
  refine lv_iload C.1.1 C.1.2.1 dX12_look_79 (lv_at hl 5 rfl) ?_
  refine lv_bipush (v := 20) C.1.1 C.1.2.1 dX12_look_81 (by decide) ?_
  refine lv_icmp_ge (tgt := 116) C.1.1 C.1.2.1 dX12_look_83 (by decide) (fun h_z => ?_) (fun h_z => ?_)
  · rw [if_pos h_z] at hF
    exact bX12_look_116 C O K35 X (lv_sub hl [0, 1, 2, 3, 4] rfl) hF
  · rw [if_neg h_z] at hF
    exact bX12_look_86 C O K35 K79 X (lv_sub hl [0, 1, 2, 3, 4, 5] rfl) hF
noncomputable def fX12_look_h79 (N : Nat) (r35 : Int32 → Int32 → gS → Option (Int32 × gS)) : Nat → Int32 → Int32 → Int32 → Int32 → Int32 → gS → Option (Int32 × gS)
  | 0, _, _, _, _, _, _ => none
  | n + 1, x1, x2, x3, x4, x5, S => fX12_look_b79 N r35 (fX12_look_h79 N r35 n) x1 x2 x3 x4 x5 S
theorem hX12_look_79 {N : Nat} {r35 : Int32 → Int32 → gS → Option (Int32 × gS)} {o : Int32 × gS} (C : gC p s m args meth c cX12_look 6 RX12 ((some .int)) D (mtys cI cS) mord g Am) (O : gO (mcell g cI cS sa) mord g) (K35 : ∀ (x1 : Int32) (x2 : Int32) (S : gS) (H : Heap) (locs : List Loc) (ls : Array Slot), gX D (mcell g cI cS sa) mord g S s H locs → lv_has ls 6 [(0, .ref (g 99)), (1, .int x1), (2, .int x2)] → r35 x1 x2 S = some o → W p l e (rmd 8) s m args below meth c H locs 0 0 (gE below args s D (mtys cI cS) (mcell g cI cS sa) mord g (some (.int o.1)) o.2) (F0 m 35 ls [])) : ∀ (n : Nat) (x1 : Int32) (x2 : Int32) (x3 : Int32) (x4 : Int32) (x5 : Int32) (S : gS) (H : Heap) (locs : List Loc) (ls : Array Slot), gX D (mcell g cI cS sa) mord g S s H locs → lv_has ls 6 [(0, .ref (g 99)), (1, .int x1), (2, .int x2), (3, .int x3), (4, .int x4), (5, .int x5)] → fX12_look_h79 N r35 n x1 x2 x3 x4 x5 S = some o → W p l e (rmd 8) s m args below meth c H locs 0 0 (gE below args s D (mtys cI cS) (mcell g cI cS sa) mord g (some (.int o.1)) o.2) (F0 m 79 ls []) := by
  intro n
  induction n with
  | zero =>
    intro x1 x2 x3 x4 x5 S H locs ls X hl hF
    exact absurd (show (none : Option (Int32 × gS)) = some o from hF) (by simp)
  | succ n ih =>
    intro x1 x2 x3 x4 x5 S H locs ls X hl hF
    have hF : fX12_look_b79 N r35 (fX12_look_h79 N r35 n) x1 x2 x3 x4 x5 S = some o := hF
    exact bX12_look_79 C O K35 ih X hl hF
noncomputable def fX12_look_b43 (N : Nat) (r35 : Int32 → Int32 → gS → Option (Int32 × gS)) (x1 : Int32) (x2 : Int32) (S : gS) : Option (Int32 × gS) := chk (inb x2 (60)) (chk (inb (((S 52 (Int32.toNatClampNeg x2)) / 10 : Int32)) (6)) (chk (inb x2 (60)) (chk (inb (((S 52 (Int32.toNatClampNeg x2)) / 10 : Int32)) (6)) (lt (sU S 18 (Int32.toNatClampNeg (((S 52 (Int32.toNatClampNeg x2)) / 10 : Int32))) (((S 52 (Int32.toNatClampNeg x2)) - (S 52 (Int32.toNatClampNeg x2)) / 10 * 10 : Int32))) fun S1 => (fX12_look_h79 N r35 N x1 x2 (((S 52 (Int32.toNatClampNeg x2)) / 10 : Int32)) (S 18 (Int32.toNatClampNeg (((S 52 (Int32.toNatClampNeg x2)) / 10 : Int32)))) 0 S1)))))
theorem bX12_look_43 {N : Nat} {r35 : Int32 → Int32 → gS → Option (Int32 × gS)} {x1 : Int32} {x2 : Int32} {S : gS} {H : Heap} {locs : List Loc} {ls : Array Slot} {o : Int32 × gS} (C : gC p s m args meth c cX12_look 6 RX12 ((some .int)) D (mtys cI cS) mord g Am) (O : gO (mcell g cI cS sa) mord g) (K35 : ∀ (x1 : Int32) (x2 : Int32) (S : gS) (H : Heap) (locs : List Loc) (ls : Array Slot), gX D (mcell g cI cS sa) mord g S s H locs → lv_has ls 6 [(0, .ref (g 99)), (1, .int x1), (2, .int x2)] → r35 x1 x2 S = some o → W p l e (rmd 8) s m args below meth c H locs 0 0 (gE below args s D (mtys cI cS) (mcell g cI cS sa) mord g (some (.int o.1)) o.2) (F0 m 35 ls [])) (X : gX D (mcell g cI cS sa) mord g S s H locs) (hl : lv_has ls 6 [(0, .ref (g 99)), (1, .int x1), (2, .int x2)]) (hF : fX12_look_b43 N r35 x1 x2 S = some o) : W p l e (rmd 8) s m args below meth c H locs 0 0 (gE below args s D (mtys cI cS) (mcell g cI cS sa) mord g (some (.int o.1)) o.2) (F0 m 43 ls []) := by
  unfold fX12_look_b43 at hF
  refine lv_aload_n C.1.1 C.1.2.1 dX12_look_43 rfl (lv_at hl 0 rfl) ?_
  refine m_g52 C X dX12_look_44 ?_
  refine lv_iload_n C.1.1 C.1.2.1 dX12_look_47 rfl (lv_at hl 2 rfl) ?_
  obtain ⟨h_1, hF⟩ := chk_some hF
  refine m_r52 C X  (inb_vp h_1) rfl dX12_look_48 ?_
  refine lv_bipush (v := 10) C.1.1 C.1.2.1 dX12_look_49 (by decide) ?_
  refine lv_idiv C.1.1 C.1.2.1 dX12_look_51 (by decide) ?_
  refine lv_istore_n (lv' := [(3, .int (((S 52 (Int32.toNatClampNeg x2)) / 10 : Int32))), (0, .ref (g 99)), (1, .int x1), (2, .int x2)]) C.1.1 C.1.2.1 dX12_look_52 rfl hl (by decide) rfl (fun ls hl => ?_)
  refine lv_aload_n C.1.1 C.1.2.1 dX12_look_53 rfl (lv_at hl 1 rfl) ?_
  refine m_g18 C X dX12_look_54 ?_
  refine lv_iload_n C.1.1 C.1.2.1 dX12_look_57 rfl (lv_at hl 0 rfl) ?_
  obtain ⟨h_2, hF⟩ := chk_some hF
  refine m_r18 C X  (inb_vp h_2) rfl dX12_look_58 ?_
  refine lv_istore (lv' := [(4, .int (S 18 (Int32.toNatClampNeg (((S 52 (Int32.toNatClampNeg x2)) / 10 : Int32))))), (3, .int (((S 52 (Int32.toNatClampNeg x2)) / 10 : Int32))), (0, .ref (g 99)), (1, .int x1), (2, .int x2)]) C.1.1 C.1.2.1 dX12_look_59 hl (by decide) rfl (fun ls hl => ?_)
  refine lv_aload_n C.1.1 C.1.2.1 dX12_look_61 rfl (lv_at hl 2 rfl) ?_
  refine m_g18 C X dX12_look_62 ?_
  refine lv_iload_n C.1.1 C.1.2.1 dX12_look_65 rfl (lv_at hl 1 rfl) ?_
  refine lv_aload_n C.1.1 C.1.2.1 dX12_look_66 rfl (lv_at hl 2 rfl) ?_
  refine m_g52 C X dX12_look_67 ?_
  refine lv_iload_n C.1.1 C.1.2.1 dX12_look_70 rfl (lv_at hl 4 rfl) ?_
  obtain ⟨h_3, hF⟩ := chk_some hF
  refine m_r52 C X  (inb_vp h_3) rfl dX12_look_71 ?_
  refine lv_bipush (v := 10) C.1.1 C.1.2.1 dX12_look_72 (by decide) ?_
  refine lv_irem C.1.1 C.1.2.1 dX12_look_74 (by decide) ?_
  obtain ⟨h_4, hF⟩ := chk_some hF
  obtain ⟨S1, eS1, hF⟩ := lt_some hF
  refine m_w18 C O X  (inb_vp h_4) rfl eS1 dX12_look_75 (fun H locs X => ?_)
  refine lv_iconst (v := 0) C.1.1 C.1.2.1 dX12_look_76 (by decide) ?_
  refine lv_istore (lv' := [(5, .int 0), (4, .int (S 18 (Int32.toNatClampNeg (((S 52 (Int32.toNatClampNeg x2)) / 10 : Int32))))), (3, .int (((S 52 (Int32.toNatClampNeg x2)) / 10 : Int32))), (0, .ref (g 99)), (1, .int x1), (2, .int x2)]) C.1.1 C.1.2.1 dX12_look_77 hl (by decide) rfl (fun ls hl => ?_)
  exact hX12_look_79 C O K35 N _ _ _ _ _ _ _ _ _ X (lv_sub hl [3, 4, 5, 2, 1, 0] rfl) hF
noncomputable def fX12_look_b35 (N : Nat) (r35 : Int32 → Int32 → gS → Option (Int32 × gS)) (x1 : Int32) (x2 : Int32) (S : gS) : Option (Int32 × gS) := if (S 99 54) ≤ x2 then fX12_look_b139 N x1 S else fX12_look_b43 N r35 x1 x2 S
theorem bX12_look_35 {N : Nat} {r35 : Int32 → Int32 → gS → Option (Int32 × gS)} {x1 : Int32} {x2 : Int32} {S : gS} {H : Heap} {locs : List Loc} {ls : Array Slot} {o : Int32 × gS} (C : gC p s m args meth c cX12_look 6 RX12 ((some .int)) D (mtys cI cS) mord g Am) (O : gO (mcell g cI cS sa) mord g) (K35 : ∀ (x1 : Int32) (x2 : Int32) (S : gS) (H : Heap) (locs : List Loc) (ls : Array Slot), gX D (mcell g cI cS sa) mord g S s H locs → lv_has ls 6 [(0, .ref (g 99)), (1, .int x1), (2, .int x2)] → r35 x1 x2 S = some o → W p l e (rmd 8) s m args below meth c H locs 0 0 (gE below args s D (mtys cI cS) (mcell g cI cS sa) mord g (some (.int o.1)) o.2) (F0 m 35 ls [])) (X : gX D (mcell g cI cS sa) mord g S s H locs) (hl : lv_has ls 6 [(0, .ref (g 99)), (1, .int x1), (2, .int x2)]) (hF : fX12_look_b35 N r35 x1 x2 S = some o) : W p l e (rmd 8) s m args below meth c H locs 0 0 (gE below args s D (mtys cI cS) (mcell g cI cS sa) mord g (some (.int o.1)) o.2) (F0 m 35 ls []) := by
  unfold fX12_look_b35 at hF
  refine lv_iload_n C.1.1 C.1.2.1 dX12_look_35 rfl (lv_at hl 2 rfl) ?_
  refine lv_aload_n C.1.1 C.1.2.1 dX12_look_36 rfl (lv_at hl 0 rfl) ?_
  refine m_g54 C X dX12_look_37 ?_
  refine lv_icmp_ge (tgt := 139) C.1.1 C.1.2.1 dX12_look_40 (by decide) (fun h_z => ?_) (fun h_z => ?_)
  · rw [if_pos h_z] at hF
    exact bX12_look_139 C O X (lv_sub hl [0, 1] rfl) hF
  · rw [if_neg h_z] at hF
    exact bX12_look_43 C O K35 X (lv_sub hl [0, 1, 2] rfl) hF
noncomputable def fX12_look_h35 (N : Nat) : Nat → Int32 → Int32 → gS → Option (Int32 × gS)
  | 0, _, _, _ => none
  | n + 1, x1, x2, S => fX12_look_b35 N (fX12_look_h35 N n) x1 x2 S
theorem hX12_look_35 {N : Nat} {o : Int32 × gS} (C : gC p s m args meth c cX12_look 6 RX12 ((some .int)) D (mtys cI cS) mord g Am) (O : gO (mcell g cI cS sa) mord g) : ∀ (n : Nat) (x1 : Int32) (x2 : Int32) (S : gS) (H : Heap) (locs : List Loc) (ls : Array Slot), gX D (mcell g cI cS sa) mord g S s H locs → lv_has ls 6 [(0, .ref (g 99)), (1, .int x1), (2, .int x2)] → fX12_look_h35 N n x1 x2 S = some o → W p l e (rmd 8) s m args below meth c H locs 0 0 (gE below args s D (mtys cI cS) (mcell g cI cS sa) mord g (some (.int o.1)) o.2) (F0 m 35 ls []) := by
  intro n
  induction n with
  | zero =>
    intro x1 x2 S H locs ls X hl hF
    exact absurd (show (none : Option (Int32 × gS)) = some o from hF) (by simp)
  | succ n ih =>
    intro x1 x2 S H locs ls X hl hF
    have hF : fX12_look_b35 N (fX12_look_h35 N n) x1 x2 S = some o := hF
    exact bX12_look_35 C O ih X hl hF
noncomputable def fX12_look_b20 (N : Nat) (x1 : Int32) (S : gS) : Option (Int32 × gS) := bnd (fX12_tellFits N  S) fun q1 => (bnd (fX12_pack N 46 0 q1.2) fun q2 => (fX12_look_h35 N N x1 0 q2.2))
theorem bX12_look_20 {N : Nat} {x1 : Int32} {S : gS} {H : Heap} {locs : List Loc} {ls : Array Slot} {o : Int32 × gS} (C : gC p s m args meth c cX12_look 6 RX12 ((some .int)) D (mtys cI cS) mord g Am) (O : gO (mcell g cI cS sa) mord g) (X : gX D (mcell g cI cS sa) mord g S s H locs) (hl : lv_has ls 6 [(0, .ref (g 99)), (1, .int x1)]) (hF : fX12_look_b20 N x1 S = some o) : W p l e (rmd 8) s m args below meth c H locs 0 0 (gE below args s D (mtys cI cS) (mcell g cI cS sa) mord g (some (.int o.1)) o.2) (F0 m 20 ls []) := by
  unfold fX12_look_b20 at hF
  refine lv_aload_n C.1.1 C.1.2.1 dX12_look_20 rfl (lv_at hl 0 rfl) ?_
  obtain ⟨q1, hq1, hF⟩ := bnd_some hF
  refine m_callV C X vX12_tellFits rfl (kX12_tellFits O C.2.2.2.2.1 N   S q1 hq1) (Nat.le_of_ble_eq_true rfl) (Nat.le_of_ble_eq_true rfl) (Nat.le_of_ble_eq_true rfl) (Nat.le_of_ble_eq_true rfl) rfl hl.1 rfl (Nat.le_of_ble_eq_true rfl) dX12_look_21 (fun H locs X => ?_)
  refine lv_aload_n C.1.1 C.1.2.1 dX12_look_24 rfl (lv_at hl 0 rfl) ?_
  refine lv_aload_n C.1.1 C.1.2.1 dX12_look_25 rfl (lv_at hl 0 rfl) ?_
  refine m_g46 C X dX12_look_26 ?_
  refine lv_iconst (v := 0) C.1.1 C.1.2.1 dX12_look_29 (by decide) ?_
  obtain ⟨q2, hq2, hF⟩ := bnd_some hF
  refine m_callV C X vX12_pack rfl (kX12_pack O C.2.2.2.2.1 N 46 0 (rfl : mI 46 = true) q1.2 q2 hq2) (Nat.le_of_ble_eq_true rfl) (Nat.le_of_ble_eq_true rfl) (Nat.le_of_ble_eq_true rfl) (Nat.le_of_ble_eq_true rfl) rfl hl.1 rfl (Nat.le_of_ble_eq_true rfl) dX12_look_30 (fun H locs X => ?_)
  refine lv_iconst (v := 0) C.1.1 C.1.2.1 dX12_look_33 (by decide) ?_
  refine lv_istore_n (lv' := [(2, .int 0), (0, .ref (g 99)), (1, .int x1)]) C.1.1 C.1.2.1 dX12_look_34 rfl hl (by decide) rfl (fun ls hl => ?_)
  exact hX12_look_35 C O N _ _ _ _ _ _ X (lv_sub hl [1, 2, 0] rfl) hF
noncomputable def fX12_look_b14 (N : Nat) (S : gS) : Option (Int32 × gS) := bnd (fX12_fail N 1 S) fun q1 => (some (q1.1, q1.2))
theorem bX12_look_14 {N : Nat} {S : gS} {H : Heap} {locs : List Loc} {ls : Array Slot} {o : Int32 × gS} (C : gC p s m args meth c cX12_look 6 RX12 ((some .int)) D (mtys cI cS) mord g Am) (O : gO (mcell g cI cS sa) mord g) (X : gX D (mcell g cI cS sa) mord g S s H locs) (hl : lv_has ls 6 [(0, .ref (g 99))]) (hF : fX12_look_b14 N S = some o) : W p l e (rmd 8) s m args below meth c H locs 0 0 (gE below args s D (mtys cI cS) (mcell g cI cS sa) mord g (some (.int o.1)) o.2) (F0 m 14 ls []) := by
  unfold fX12_look_b14 at hF
  refine lv_aload_n C.1.1 C.1.2.1 dX12_look_14 rfl (lv_at hl 0 rfl) ?_
  refine lv_iconst (v := 1) C.1.1 C.1.2.1 dX12_look_15 (by decide) ?_
  obtain ⟨q1, hq1, hF⟩ := bnd_some hF
  refine m_callVi C X vX12_fail rfl (kX12_fail O C.2.2.2.2.1 N 1  S q1 hq1) (Nat.le_of_ble_eq_true rfl) (Nat.le_of_ble_eq_true rfl) (Nat.le_of_ble_eq_true rfl) (Nat.le_of_ble_eq_true rfl) rfl hl.1 rfl (Nat.le_of_ble_eq_true rfl) dX12_look_16 (fun H locs X => ?_)
  cases hF
  exact g_iret C X dX12_look_19
noncomputable def fX12_look_b9 (N : Nat) (x1 : Int32) (S : gS) : Option (Int32 × gS) := if x1 ≤ 1 then fX12_look_b20 N x1 S else fX12_look_b14 N S
theorem bX12_look_9 {N : Nat} {x1 : Int32} {S : gS} {H : Heap} {locs : List Loc} {ls : Array Slot} {o : Int32 × gS} (C : gC p s m args meth c cX12_look 6 RX12 ((some .int)) D (mtys cI cS) mord g Am) (O : gO (mcell g cI cS sa) mord g) (X : gX D (mcell g cI cS sa) mord g S s H locs) (hl : lv_has ls 6 [(0, .ref (g 99)), (1, .int x1)]) (hF : fX12_look_b9 N x1 S = some o) : W p l e (rmd 8) s m args below meth c H locs 0 0 (gE below args s D (mtys cI cS) (mcell g cI cS sa) mord g (some (.int o.1)) o.2) (F0 m 9 ls []) := by
  unfold fX12_look_b9 at hF
  refine lv_iload_n C.1.1 C.1.2.1 dX12_look_9 rfl (lv_at hl 1 rfl) ?_
  refine lv_iconst (v := 1) C.1.1 C.1.2.1 dX12_look_10 (by decide) ?_
  refine lv_icmp_le (tgt := 20) C.1.1 C.1.2.1 dX12_look_11 (by decide) (fun h_z => ?_) (fun h_z => ?_)
  · rw [if_pos h_z] at hF
    exact bX12_look_20 C O X (lv_sub hl [0, 1] rfl) hF
  · rw [if_neg h_z] at hF
    exact bX12_look_14 C O X (lv_sub hl [0] rfl) hF
noncomputable def fX12_look_b0 (N : Nat) (x1 : Int32) (S : gS) : Option (Int32 × gS) := lt (sU S 99 4 0) fun S1 => (if x1 < 0 then fX12_look_b14 N S1 else fX12_look_b9 N x1 S1)
theorem bX12_look_0 {N : Nat} {x1 : Int32} {S : gS} {H : Heap} {locs : List Loc} {ls : Array Slot} {o : Int32 × gS} (C : gC p s m args meth c cX12_look 6 RX12 ((some .int)) D (mtys cI cS) mord g Am) (O : gO (mcell g cI cS sa) mord g) (X : gX D (mcell g cI cS sa) mord g S s H locs) (hl : lv_has ls 6 [(0, .ref (g 99)), (1, .int x1)]) (hF : fX12_look_b0 N x1 S = some o) : W p l e (rmd 8) s m args below meth c H locs 0 0 (gE below args s D (mtys cI cS) (mcell g cI cS sa) mord g (some (.int o.1)) o.2) (F0 m 0 ls []) := by
  unfold fX12_look_b0 at hF
  refine lv_aload_n C.1.1 C.1.2.1 dX12_look_0 rfl (lv_at hl 0 rfl) ?_
  refine lv_iconst (v := 0) C.1.1 C.1.2.1 dX12_look_1 (by decide) ?_
  obtain ⟨S1, eS1, hF⟩ := lt_some hF
  refine m_p4 C O X eS1 dX12_look_2 (fun H locs X => ?_)
  refine lv_iload_n C.1.1 C.1.2.1 dX12_look_5 rfl (lv_at hl 1 rfl) ?_
  refine lv_if_lt (tgt := 14) C.1.1 C.1.2.1 dX12_look_6 (by decide) (fun h_z => ?_) (fun h_z => ?_)
  · rw [if_pos h_z] at hF
    exact bX12_look_14 C O X (lv_sub hl [0] rfl) hF
  · rw [if_neg h_z] at hF
    exact bX12_look_9 C O X (lv_sub hl [0, 1] rfl) hF
noncomputable def fX12_look (N : Nat) (x1 : Int32) (S : gS) : Option (Int32 × gS) := fX12_look_b0 N x1 S
theorem kX12_look {l : Launch} {D : va_G} {g : Nat → Nat} {cI cS : ClassId} {sa : Nat → Nat → Option Nat} {Am : (Nat → Prop) → State → Heap → Prop} (O : gO (mcell g cI cS sa) mord g) (P : gAm Am) (N : Nat) (x1 : Int32) (S : gS) (o : Int32 × gS) (hF : fX12_look N x1 S = some o) : gM l yX12_look cX12_look 6 ((some .int)) 8 D (mtys cI cS) (mcell g cI cS sa) mord g Am [.ref (g 99), .int x1] S (some (.int o.1)) o.2 :=
  gM_of O P (by decide) (Nat.le_of_ble_eq_true rfl) (fun p e s m args below meth c ls C X hl => bX12_look_0 C O X (lv_sub hl [0, 1] rfl) hF)
-- forget
noncomputable def fX12_forget_b0 (N : Nat) (S : gS) : Option (Int32 × gS) := lt (sU S 99 4 0) fun S1 => (lt (sU S1 99 40 0) fun S2 => (some (0, S2)))
theorem bX12_forget_0 {N : Nat} {S : gS} {H : Heap} {locs : List Loc} {ls : Array Slot} {o : Int32 × gS} (C : gC p s m args meth c cX12_forget 1 RX12 none D (mtys cI cS) mord g Am) (O : gO (mcell g cI cS sa) mord g) (X : gX D (mcell g cI cS sa) mord g S s H locs) (hl : lv_has ls 1 [(0, .ref (g 99))]) (hF : fX12_forget_b0 N S = some o) : W p l e (rmd 0) s m args below meth c H locs 0 0 (gE below args s D (mtys cI cS) (mcell g cI cS sa) mord g none o.2) (F0 m 0 ls []) := by
  unfold fX12_forget_b0 at hF
  refine lv_aload_n C.1.1 C.1.2.1 dX12_forget_0 rfl (lv_at hl 0 rfl) ?_
  refine lv_iconst (v := 0) C.1.1 C.1.2.1 dX12_forget_1 (by decide) ?_
  obtain ⟨S1, eS1, hF⟩ := lt_some hF
  refine m_p4 C O X eS1 dX12_forget_2 (fun H locs X => ?_)
  refine lv_aload_n C.1.1 C.1.2.1 dX12_forget_5 rfl (lv_at hl 0 rfl) ?_
  refine lv_iconst (v := 0) C.1.1 C.1.2.1 dX12_forget_6 (by decide) ?_
  obtain ⟨S2, eS2, hF⟩ := lt_some hF
  refine m_p40 C O X eS2 dX12_forget_7 (fun H locs X => ?_)
  cases hF
  exact g_vret C X dX12_forget_10
noncomputable def fX12_forget (N : Nat) (S : gS) : Option (Int32 × gS) := fX12_forget_b0 N S
theorem kX12_forget {l : Launch} {D : va_G} {g : Nat → Nat} {cI cS : ClassId} {sa : Nat → Nat → Option Nat} {Am : (Nat → Prop) → State → Heap → Prop} (O : gO (mcell g cI cS sa) mord g) (P : gAm Am) (N : Nat) (S : gS) (o : Int32 × gS) (hF : fX12_forget N S = some o) : gM l yX12_forget cX12_forget 1 none 0 D (mtys cI cS) (mcell g cI cS sa) mord g Am [.ref (g 99)] S none o.2 :=
  gM_of O P (by decide) (Nat.le_of_ble_eq_true rfl) (fun p e s m args below meth c ls C X hl => bX12_forget_0 C O X (lv_sub hl [0] rfl) hF)
-- drought
noncomputable def fX12_drought_b182 (N : Nat) (x4 : Int32) (S : gS) : Option (Int32 × gS) := lt (sU S 99 41 ((-1))) fun S1 => (some (x4, S1))
theorem bX12_drought_182 {N : Nat} {x4 : Int32} {S : gS} {H : Heap} {locs : List Loc} {ls : Array Slot} {o : Int32 × gS} (C : gC p s m args meth c cX12_drought 9 RX12 ((some .int)) D (mtys cI cS) mord g Am) (O : gO (mcell g cI cS sa) mord g) (X : gX D (mcell g cI cS sa) mord g S s H locs) (hl : lv_has ls 9 [(0, .ref (g 99)), (4, .int x4)]) (hF : fX12_drought_b182 N x4 S = some o) : W p l e (rmd 6) s m args below meth c H locs 0 0 (gE below args s D (mtys cI cS) (mcell g cI cS sa) mord g (some (.int o.1)) o.2) (F0 m 182 ls []) := by
  unfold fX12_drought_b182 at hF
  refine lv_aload_n C.1.1 C.1.2.1 dX12_drought_182 rfl (lv_at hl 0 rfl) ?_
  refine lv_iconst (v := (-1)) C.1.1 C.1.2.1 dX12_drought_183 (by decide) ?_
  obtain ⟨S1, eS1, hF⟩ := lt_some hF
  refine m_p41 C O X eS1 dX12_drought_184 (fun H locs X => ?_)
  refine lv_iload C.1.1 C.1.2.1 dX12_drought_187 (lv_at hl 1 rfl) ?_
  cases hF
  exact g_iret C X dX12_drought_189
noncomputable def fX12_drought_b164 (N : Nat) (r72 : Int32 → Int32 → Int32 → Int32 → Int32 → Int32 → gS → Option (Int32 × gS)) (x1 : Int32) (x2 : Int32) (x3 : Int32) (x5 : Int32) (x6 : Int32) (t0 : Int32) (t1 : Int32) (S : gS) : Option (Int32 × gS) := bnd (fX12_unpack N 46 0 S) fun q1 => (r72 x1 x2 x3 ((t0 + t1 : Int32)) x5 ((x6 + 1 : Int32)) q1.2)
theorem bX12_drought_164 {N : Nat} {r72 : Int32 → Int32 → Int32 → Int32 → Int32 → Int32 → gS → Option (Int32 × gS)} {x1 : Int32} {x2 : Int32} {x3 : Int32} {x5 : Int32} {x6 : Int32} {t0 : Int32} {t1 : Int32} {S : gS} {H : Heap} {locs : List Loc} {ls : Array Slot} {o : Int32 × gS} (C : gC p s m args meth c cX12_drought 9 RX12 ((some .int)) D (mtys cI cS) mord g Am) (O : gO (mcell g cI cS sa) mord g) (K72 : ∀ (x1 : Int32) (x2 : Int32) (x3 : Int32) (x4 : Int32) (x5 : Int32) (x6 : Int32) (S : gS) (H : Heap) (locs : List Loc) (ls : Array Slot), gX D (mcell g cI cS sa) mord g S s H locs → lv_has ls 9 [(0, .ref (g 99)), (1, .int x1), (2, .int x2), (3, .int x3), (4, .int x4), (5, .int x5), (6, .int x6)] → r72 x1 x2 x3 x4 x5 x6 S = some o → W p l e (rmd 6) s m args below meth c H locs 0 0 (gE below args s D (mtys cI cS) (mcell g cI cS sa) mord g (some (.int o.1)) o.2) (F0 m 72 ls [])) (X : gX D (mcell g cI cS sa) mord g S s H locs) (hl : lv_has ls 9 [(0, .ref (g 99)), (1, .int x1), (2, .int x2), (3, .int x3), (5, .int x5), (6, .int x6)]) (hF : fX12_drought_b164 N r72 x1 x2 x3 x5 x6 t0 t1 S = some o) : W p l e (rmd 6) s m args below meth c H locs 0 0 (gE below args s D (mtys cI cS) (mcell g cI cS sa) mord g (some (.int o.1)) o.2) (F0 m 164 ls [.int t1, .int t0]) := by
  unfold fX12_drought_b164 at hF
  refine lv_iadd C.1.1 C.1.2.1 dX12_drought_164 ?_
  refine lv_istore (lv' := [(4, .int ((t0 + t1 : Int32))), (0, .ref (g 99)), (1, .int x1), (2, .int x2), (3, .int x3), (5, .int x5), (6, .int x6)]) C.1.1 C.1.2.1 dX12_drought_165 hl (by decide) rfl (fun ls hl => ?_)
  refine lv_aload_n C.1.1 C.1.2.1 dX12_drought_167 rfl (lv_at hl 1 rfl) ?_
  refine lv_aload_n C.1.1 C.1.2.1 dX12_drought_168 rfl (lv_at hl 1 rfl) ?_
  refine m_g46 C X dX12_drought_169 ?_
  refine lv_iconst (v := 0) C.1.1 C.1.2.1 dX12_drought_172 (by decide) ?_
  obtain ⟨q1, hq1, hF⟩ := bnd_some hF
  refine m_callV C X vX12_unpack rfl (kX12_unpack O C.2.2.2.2.1 N 46 0 (rfl : mI 46 = true) S q1 hq1) (Nat.le_of_ble_eq_true rfl) (Nat.le_of_ble_eq_true rfl) (Nat.le_of_ble_eq_true rfl) (Nat.le_of_ble_eq_true rfl) rfl hl.1 rfl (Nat.le_of_ble_eq_true rfl) dX12_drought_173 (fun H locs X => ?_)
  refine lv_iinc (v := (x6 + 1 : Int32)) (lv' := [(6, .int ((x6 + 1 : Int32))), (4, .int ((t0 + t1 : Int32))), (0, .ref (g 99)), (1, .int x1), (2, .int x2), (3, .int x3), (5, .int x5)]) C.1.1 C.1.2.1 dX12_drought_176 hl (k := 6) rfl rfl (by decide) rfl (fun ls hl => ?_)
  refine lv_goto (tgt := 72) C.1.1 C.1.2.1 dX12_drought_179 (by decide) ?_
  exact K72 _ _ _ _ _ _ _ _ _ _ X (lv_sub hl [2, 3, 4, 5, 1, 6, 0] rfl) hF
noncomputable def fX12_drought_b163 (N : Nat) (r72 : Int32 → Int32 → Int32 → Int32 → Int32 → Int32 → gS → Option (Int32 × gS)) (x1 : Int32) (x2 : Int32) (x3 : Int32) (x5 : Int32) (x6 : Int32) (t0 : Int32) (S : gS) : Option (Int32 × gS) := fX12_drought_b164 N r72 x1 x2 x3 x5 x6 t0 0 S
theorem bX12_drought_163 {N : Nat} {r72 : Int32 → Int32 → Int32 → Int32 → Int32 → Int32 → gS → Option (Int32 × gS)} {x1 : Int32} {x2 : Int32} {x3 : Int32} {x5 : Int32} {x6 : Int32} {t0 : Int32} {S : gS} {H : Heap} {locs : List Loc} {ls : Array Slot} {o : Int32 × gS} (C : gC p s m args meth c cX12_drought 9 RX12 ((some .int)) D (mtys cI cS) mord g Am) (O : gO (mcell g cI cS sa) mord g) (K72 : ∀ (x1 : Int32) (x2 : Int32) (x3 : Int32) (x4 : Int32) (x5 : Int32) (x6 : Int32) (S : gS) (H : Heap) (locs : List Loc) (ls : Array Slot), gX D (mcell g cI cS sa) mord g S s H locs → lv_has ls 9 [(0, .ref (g 99)), (1, .int x1), (2, .int x2), (3, .int x3), (4, .int x4), (5, .int x5), (6, .int x6)] → r72 x1 x2 x3 x4 x5 x6 S = some o → W p l e (rmd 6) s m args below meth c H locs 0 0 (gE below args s D (mtys cI cS) (mcell g cI cS sa) mord g (some (.int o.1)) o.2) (F0 m 72 ls [])) (X : gX D (mcell g cI cS sa) mord g S s H locs) (hl : lv_has ls 9 [(0, .ref (g 99)), (1, .int x1), (2, .int x2), (3, .int x3), (5, .int x5), (6, .int x6)]) (hF : fX12_drought_b163 N r72 x1 x2 x3 x5 x6 t0 S = some o) : W p l e (rmd 6) s m args below meth c H locs 0 0 (gE below args s D (mtys cI cS) (mcell g cI cS sa) mord g (some (.int o.1)) o.2) (F0 m 163 ls [.int t0]) := by
  unfold fX12_drought_b163 at hF
  refine lv_iconst (v := 0) C.1.1 C.1.2.1 dX12_drought_163 (by decide) ?_
  exact bX12_drought_164 C O K72 X (lv_sub hl [0, 1, 2, 3, 4, 5] rfl) hF
noncomputable def fX12_drought_b158 (N : Nat) (r72 : Int32 → Int32 → Int32 → Int32 → Int32 → Int32 → gS → Option (Int32 × gS)) (x1 : Int32) (x2 : Int32) (x3 : Int32) (x5 : Int32) (x6 : Int32) (x7 : Int32) (t0 : Int32) (S : gS) : Option (Int32 × gS) := fX12_drought_b164 N r72 x1 x2 x3 x5 x6 t0 x7 S
theorem bX12_drought_158 {N : Nat} {r72 : Int32 → Int32 → Int32 → Int32 → Int32 → Int32 → gS → Option (Int32 × gS)} {x1 : Int32} {x2 : Int32} {x3 : Int32} {x5 : Int32} {x6 : Int32} {x7 : Int32} {t0 : Int32} {S : gS} {H : Heap} {locs : List Loc} {ls : Array Slot} {o : Int32 × gS} (C : gC p s m args meth c cX12_drought 9 RX12 ((some .int)) D (mtys cI cS) mord g Am) (O : gO (mcell g cI cS sa) mord g) (K72 : ∀ (x1 : Int32) (x2 : Int32) (x3 : Int32) (x4 : Int32) (x5 : Int32) (x6 : Int32) (S : gS) (H : Heap) (locs : List Loc) (ls : Array Slot), gX D (mcell g cI cS sa) mord g S s H locs → lv_has ls 9 [(0, .ref (g 99)), (1, .int x1), (2, .int x2), (3, .int x3), (4, .int x4), (5, .int x5), (6, .int x6)] → r72 x1 x2 x3 x4 x5 x6 S = some o → W p l e (rmd 6) s m args below meth c H locs 0 0 (gE below args s D (mtys cI cS) (mcell g cI cS sa) mord g (some (.int o.1)) o.2) (F0 m 72 ls [])) (X : gX D (mcell g cI cS sa) mord g S s H locs) (hl : lv_has ls 9 [(0, .ref (g 99)), (1, .int x1), (2, .int x2), (3, .int x3), (5, .int x5), (6, .int x6), (7, .int x7)]) (hF : fX12_drought_b158 N r72 x1 x2 x3 x5 x6 x7 t0 S = some o) : W p l e (rmd 6) s m args below meth c H locs 0 0 (gE below args s D (mtys cI cS) (mcell g cI cS sa) mord g (some (.int o.1)) o.2) (F0 m 158 ls [.int t0]) := by
  unfold fX12_drought_b158 at hF
  refine lv_iload C.1.1 C.1.2.1 dX12_drought_158 (lv_at hl 6 rfl) ?_
  refine lv_goto (tgt := 164) C.1.1 C.1.2.1 dX12_drought_160 (by decide) ?_
  exact bX12_drought_164 C O K72 X (lv_sub hl [0, 1, 2, 3, 4, 5] rfl) hF
noncomputable def fX12_drought_b145 (N : Nat) (r72 : Int32 → Int32 → Int32 → Int32 → Int32 → Int32 → gS → Option (Int32 × gS)) (x1 : Int32) (x2 : Int32) (x3 : Int32) (x4 : Int32) (x5 : Int32) (x6 : Int32) (x7 : Int32) (S : gS) : Option (Int32 × gS) := chk (inb x1 (6)) (if (S 34 (Int32.toNatClampNeg x1)) ≤ x5 then fX12_drought_b163 N r72 x1 x2 x3 x5 x6 x4 S else fX12_drought_b158 N r72 x1 x2 x3 x5 x6 x7 x4 S)
theorem bX12_drought_145 {N : Nat} {r72 : Int32 → Int32 → Int32 → Int32 → Int32 → Int32 → gS → Option (Int32 × gS)} {x1 : Int32} {x2 : Int32} {x3 : Int32} {x4 : Int32} {x5 : Int32} {x6 : Int32} {x7 : Int32} {S : gS} {H : Heap} {locs : List Loc} {ls : Array Slot} {o : Int32 × gS} (C : gC p s m args meth c cX12_drought 9 RX12 ((some .int)) D (mtys cI cS) mord g Am) (O : gO (mcell g cI cS sa) mord g) (K72 : ∀ (x1 : Int32) (x2 : Int32) (x3 : Int32) (x4 : Int32) (x5 : Int32) (x6 : Int32) (S : gS) (H : Heap) (locs : List Loc) (ls : Array Slot), gX D (mcell g cI cS sa) mord g S s H locs → lv_has ls 9 [(0, .ref (g 99)), (1, .int x1), (2, .int x2), (3, .int x3), (4, .int x4), (5, .int x5), (6, .int x6)] → r72 x1 x2 x3 x4 x5 x6 S = some o → W p l e (rmd 6) s m args below meth c H locs 0 0 (gE below args s D (mtys cI cS) (mcell g cI cS sa) mord g (some (.int o.1)) o.2) (F0 m 72 ls [])) (X : gX D (mcell g cI cS sa) mord g S s H locs) (hl : lv_has ls 9 [(0, .ref (g 99)), (1, .int x1), (2, .int x2), (3, .int x3), (4, .int x4), (5, .int x5), (6, .int x6), (7, .int x7)]) (hF : fX12_drought_b145 N r72 x1 x2 x3 x4 x5 x6 x7 S = some o) : W p l e (rmd 6) s m args below meth c H locs 0 0 (gE below args s D (mtys cI cS) (mcell g cI cS sa) mord g (some (.int o.1)) o.2) (F0 m 145 ls []) := by
  unfold fX12_drought_b145 at hF
  refine lv_iload C.1.1 C.1.2.1 dX12_drought_145 (lv_at hl 4 rfl) ?_
  refine lv_aload_n C.1.1 C.1.2.1 dX12_drought_147 rfl (lv_at hl 0 rfl) ?_
  refine m_g34 C X dX12_drought_148 ?_
  refine lv_iload_n C.1.1 C.1.2.1 dX12_drought_151 rfl (lv_at hl 1 rfl) ?_
  obtain ⟨h_1, hF⟩ := chk_some hF
  refine m_r34 C X  (inb_vp h_1) rfl dX12_drought_152 ?_
  refine lv_iload C.1.1 C.1.2.1 dX12_drought_153 (lv_at hl 5 rfl) ?_
  refine lv_icmp_le (tgt := 163) C.1.1 C.1.2.1 dX12_drought_155 (by decide) (fun h_z => ?_) (fun h_z => ?_)
  · rw [if_pos h_z] at hF
    exact bX12_drought_163 C O K72 X (lv_sub hl [0, 1, 2, 3, 5, 6] rfl) hF
  · rw [if_neg h_z] at hF
    exact bX12_drought_158 C O K72 X (lv_sub hl [0, 1, 2, 3, 5, 6, 7] rfl) hF
noncomputable def fX12_drought_b132 (N : Nat) (r72 : Int32 → Int32 → Int32 → Int32 → Int32 → Int32 → gS → Option (Int32 × gS)) (r86 : Int32 → Int32 → Int32 → Int32 → Int32 → Int32 → Int32 → Int32 → gS → Option (Int32 × gS)) (x1 : Int32) (x2 : Int32) (x3 : Int32) (x4 : Int32) (x5 : Int32) (x6 : Int32) (x8 : Int32) (t0 : Int32) (t1 : Int32) (S : gS) : Option (Int32 × gS) := bnd (fX12_anHour N  S) fun q1 => (r86 x1 x2 x3 x4 x5 x6 ((t0 * t1 : Int32)) ((x8 + 1 : Int32)) q1.2)
theorem bX12_drought_132 {N : Nat} {r72 : Int32 → Int32 → Int32 → Int32 → Int32 → Int32 → gS → Option (Int32 × gS)} {r86 : Int32 → Int32 → Int32 → Int32 → Int32 → Int32 → Int32 → Int32 → gS → Option (Int32 × gS)} {x1 : Int32} {x2 : Int32} {x3 : Int32} {x4 : Int32} {x5 : Int32} {x6 : Int32} {x8 : Int32} {t0 : Int32} {t1 : Int32} {S : gS} {H : Heap} {locs : List Loc} {ls : Array Slot} {o : Int32 × gS} (C : gC p s m args meth c cX12_drought 9 RX12 ((some .int)) D (mtys cI cS) mord g Am) (O : gO (mcell g cI cS sa) mord g) (K72 : ∀ (x1 : Int32) (x2 : Int32) (x3 : Int32) (x4 : Int32) (x5 : Int32) (x6 : Int32) (S : gS) (H : Heap) (locs : List Loc) (ls : Array Slot), gX D (mcell g cI cS sa) mord g S s H locs → lv_has ls 9 [(0, .ref (g 99)), (1, .int x1), (2, .int x2), (3, .int x3), (4, .int x4), (5, .int x5), (6, .int x6)] → r72 x1 x2 x3 x4 x5 x6 S = some o → W p l e (rmd 6) s m args below meth c H locs 0 0 (gE below args s D (mtys cI cS) (mcell g cI cS sa) mord g (some (.int o.1)) o.2) (F0 m 72 ls [])) (K86 : ∀ (x1 : Int32) (x2 : Int32) (x3 : Int32) (x4 : Int32) (x5 : Int32) (x6 : Int32) (x7 : Int32) (x8 : Int32) (S : gS) (H : Heap) (locs : List Loc) (ls : Array Slot), gX D (mcell g cI cS sa) mord g S s H locs → lv_has ls 9 [(0, .ref (g 99)), (1, .int x1), (2, .int x2), (3, .int x3), (4, .int x4), (5, .int x5), (6, .int x6), (7, .int x7), (8, .int x8)] → r86 x1 x2 x3 x4 x5 x6 x7 x8 S = some o → W p l e (rmd 6) s m args below meth c H locs 0 0 (gE below args s D (mtys cI cS) (mcell g cI cS sa) mord g (some (.int o.1)) o.2) (F0 m 86 ls [])) (X : gX D (mcell g cI cS sa) mord g S s H locs) (hl : lv_has ls 9 [(0, .ref (g 99)), (1, .int x1), (2, .int x2), (3, .int x3), (4, .int x4), (5, .int x5), (6, .int x6), (8, .int x8)]) (hF : fX12_drought_b132 N r72 r86 x1 x2 x3 x4 x5 x6 x8 t0 t1 S = some o) : W p l e (rmd 6) s m args below meth c H locs 0 0 (gE below args s D (mtys cI cS) (mcell g cI cS sa) mord g (some (.int o.1)) o.2) (F0 m 132 ls [.int t1, .int t0]) := by
  unfold fX12_drought_b132 at hF
  refine lv_imul C.1.1 C.1.2.1 dX12_drought_132 ?_
  refine lv_istore (lv' := [(7, .int ((t0 * t1 : Int32))), (0, .ref (g 99)), (1, .int x1), (2, .int x2), (3, .int x3), (4, .int x4), (5, .int x5), (6, .int x6), (8, .int x8)]) C.1.1 C.1.2.1 dX12_drought_133 hl (by decide) rfl (fun ls hl => ?_)
  refine lv_aload_n C.1.1 C.1.2.1 dX12_drought_135 rfl (lv_at hl 1 rfl) ?_
  obtain ⟨q1, hq1, hF⟩ := bnd_some hF
  refine m_callV C X vX12_anHour rfl (kX12_anHour O C.2.2.2.2.1 N   S q1 hq1) (Nat.le_of_ble_eq_true rfl) (Nat.le_of_ble_eq_true rfl) (Nat.le_of_ble_eq_true rfl) (Nat.le_of_ble_eq_true rfl) rfl hl.1 rfl (Nat.le_of_ble_eq_true rfl) dX12_drought_136 (fun H locs X => ?_)
  refine lv_iinc (v := (x8 + 1 : Int32)) (lv' := [(8, .int ((x8 + 1 : Int32))), (7, .int ((t0 * t1 : Int32))), (0, .ref (g 99)), (1, .int x1), (2, .int x2), (3, .int x3), (4, .int x4), (5, .int x5), (6, .int x6)]) C.1.1 C.1.2.1 dX12_drought_139 hl (k := 8) rfl rfl (by decide) rfl (fun ls hl => ?_)
  refine lv_goto (tgt := 86) C.1.1 C.1.2.1 dX12_drought_142 (by decide) ?_
  exact K86 _ _ _ _ _ _ _ _ _ _ _ _ X (lv_sub hl [2, 3, 4, 5, 6, 7, 8, 1, 0] rfl) hF
noncomputable def fX12_drought_b128 (N : Nat) (r72 : Int32 → Int32 → Int32 → Int32 → Int32 → Int32 → gS → Option (Int32 × gS)) (r86 : Int32 → Int32 → Int32 → Int32 → Int32 → Int32 → Int32 → Int32 → gS → Option (Int32 × gS)) (x1 : Int32) (x2 : Int32) (x3 : Int32) (x4 : Int32) (x5 : Int32) (x6 : Int32) (x8 : Int32) (t0 : Int32) (S : gS) : Option (Int32 × gS) := fX12_drought_b132 N r72 r86 x1 x2 x3 x4 x5 x6 x8 t0 ((10 - x3 : Int32)) S
theorem bX12_drought_128 {N : Nat} {r72 : Int32 → Int32 → Int32 → Int32 → Int32 → Int32 → gS → Option (Int32 × gS)} {r86 : Int32 → Int32 → Int32 → Int32 → Int32 → Int32 → Int32 → Int32 → gS → Option (Int32 × gS)} {x1 : Int32} {x2 : Int32} {x3 : Int32} {x4 : Int32} {x5 : Int32} {x6 : Int32} {x8 : Int32} {t0 : Int32} {S : gS} {H : Heap} {locs : List Loc} {ls : Array Slot} {o : Int32 × gS} (C : gC p s m args meth c cX12_drought 9 RX12 ((some .int)) D (mtys cI cS) mord g Am) (O : gO (mcell g cI cS sa) mord g) (K72 : ∀ (x1 : Int32) (x2 : Int32) (x3 : Int32) (x4 : Int32) (x5 : Int32) (x6 : Int32) (S : gS) (H : Heap) (locs : List Loc) (ls : Array Slot), gX D (mcell g cI cS sa) mord g S s H locs → lv_has ls 9 [(0, .ref (g 99)), (1, .int x1), (2, .int x2), (3, .int x3), (4, .int x4), (5, .int x5), (6, .int x6)] → r72 x1 x2 x3 x4 x5 x6 S = some o → W p l e (rmd 6) s m args below meth c H locs 0 0 (gE below args s D (mtys cI cS) (mcell g cI cS sa) mord g (some (.int o.1)) o.2) (F0 m 72 ls [])) (K86 : ∀ (x1 : Int32) (x2 : Int32) (x3 : Int32) (x4 : Int32) (x5 : Int32) (x6 : Int32) (x7 : Int32) (x8 : Int32) (S : gS) (H : Heap) (locs : List Loc) (ls : Array Slot), gX D (mcell g cI cS sa) mord g S s H locs → lv_has ls 9 [(0, .ref (g 99)), (1, .int x1), (2, .int x2), (3, .int x3), (4, .int x4), (5, .int x5), (6, .int x6), (7, .int x7), (8, .int x8)] → r86 x1 x2 x3 x4 x5 x6 x7 x8 S = some o → W p l e (rmd 6) s m args below meth c H locs 0 0 (gE below args s D (mtys cI cS) (mcell g cI cS sa) mord g (some (.int o.1)) o.2) (F0 m 86 ls [])) (X : gX D (mcell g cI cS sa) mord g S s H locs) (hl : lv_has ls 9 [(0, .ref (g 99)), (1, .int x1), (2, .int x2), (3, .int x3), (4, .int x4), (5, .int x5), (6, .int x6), (8, .int x8)]) (hF : fX12_drought_b128 N r72 r86 x1 x2 x3 x4 x5 x6 x8 t0 S = some o) : W p l e (rmd 6) s m args below meth c H locs 0 0 (gE below args s D (mtys cI cS) (mcell g cI cS sa) mord g (some (.int o.1)) o.2) (F0 m 128 ls [.int t0]) := by
  unfold fX12_drought_b128 at hF
  refine lv_bipush (v := 10) C.1.1 C.1.2.1 dX12_drought_128 (by decide) ?_
  refine lv_iload_n C.1.1 C.1.2.1 dX12_drought_130 rfl (lv_at hl 3 rfl) ?_
  refine lv_isub C.1.1 C.1.2.1 dX12_drought_131 ?_
  exact bX12_drought_132 C O K72 K86 X (lv_sub hl [0, 1, 2, 3, 4, 5, 6, 7] rfl) hF
noncomputable def fX12_drought_b124 (N : Nat) (r72 : Int32 → Int32 → Int32 → Int32 → Int32 → Int32 → gS → Option (Int32 × gS)) (r86 : Int32 → Int32 → Int32 → Int32 → Int32 → Int32 → Int32 → Int32 → gS → Option (Int32 × gS)) (x1 : Int32) (x2 : Int32) (x3 : Int32) (x4 : Int32) (x5 : Int32) (x6 : Int32) (x8 : Int32) (t0 : Int32) (S : gS) : Option (Int32 × gS) := fX12_drought_b132 N r72 r86 x1 x2 x3 x4 x5 x6 x8 t0 x3 S
theorem bX12_drought_124 {N : Nat} {r72 : Int32 → Int32 → Int32 → Int32 → Int32 → Int32 → gS → Option (Int32 × gS)} {r86 : Int32 → Int32 → Int32 → Int32 → Int32 → Int32 → Int32 → Int32 → gS → Option (Int32 × gS)} {x1 : Int32} {x2 : Int32} {x3 : Int32} {x4 : Int32} {x5 : Int32} {x6 : Int32} {x8 : Int32} {t0 : Int32} {S : gS} {H : Heap} {locs : List Loc} {ls : Array Slot} {o : Int32 × gS} (C : gC p s m args meth c cX12_drought 9 RX12 ((some .int)) D (mtys cI cS) mord g Am) (O : gO (mcell g cI cS sa) mord g) (K72 : ∀ (x1 : Int32) (x2 : Int32) (x3 : Int32) (x4 : Int32) (x5 : Int32) (x6 : Int32) (S : gS) (H : Heap) (locs : List Loc) (ls : Array Slot), gX D (mcell g cI cS sa) mord g S s H locs → lv_has ls 9 [(0, .ref (g 99)), (1, .int x1), (2, .int x2), (3, .int x3), (4, .int x4), (5, .int x5), (6, .int x6)] → r72 x1 x2 x3 x4 x5 x6 S = some o → W p l e (rmd 6) s m args below meth c H locs 0 0 (gE below args s D (mtys cI cS) (mcell g cI cS sa) mord g (some (.int o.1)) o.2) (F0 m 72 ls [])) (K86 : ∀ (x1 : Int32) (x2 : Int32) (x3 : Int32) (x4 : Int32) (x5 : Int32) (x6 : Int32) (x7 : Int32) (x8 : Int32) (S : gS) (H : Heap) (locs : List Loc) (ls : Array Slot), gX D (mcell g cI cS sa) mord g S s H locs → lv_has ls 9 [(0, .ref (g 99)), (1, .int x1), (2, .int x2), (3, .int x3), (4, .int x4), (5, .int x5), (6, .int x6), (7, .int x7), (8, .int x8)] → r86 x1 x2 x3 x4 x5 x6 x7 x8 S = some o → W p l e (rmd 6) s m args below meth c H locs 0 0 (gE below args s D (mtys cI cS) (mcell g cI cS sa) mord g (some (.int o.1)) o.2) (F0 m 86 ls [])) (X : gX D (mcell g cI cS sa) mord g S s H locs) (hl : lv_has ls 9 [(0, .ref (g 99)), (1, .int x1), (2, .int x2), (3, .int x3), (4, .int x4), (5, .int x5), (6, .int x6), (8, .int x8)]) (hF : fX12_drought_b124 N r72 r86 x1 x2 x3 x4 x5 x6 x8 t0 S = some o) : W p l e (rmd 6) s m args below meth c H locs 0 0 (gE below args s D (mtys cI cS) (mcell g cI cS sa) mord g (some (.int o.1)) o.2) (F0 m 124 ls [.int t0]) := by
  unfold fX12_drought_b124 at hF
  refine lv_iload_n C.1.1 C.1.2.1 dX12_drought_124 rfl (lv_at hl 3 rfl) ?_
  refine lv_goto (tgt := 132) C.1.1 C.1.2.1 dX12_drought_125 (by decide) ?_
  exact bX12_drought_132 C O K72 K86 X (lv_sub hl [0, 1, 2, 3, 4, 5, 6, 7] rfl) hF
noncomputable def fX12_drought_b109 (N : Nat) (r72 : Int32 → Int32 → Int32 → Int32 → Int32 → Int32 → gS → Option (Int32 × gS)) (r86 : Int32 → Int32 → Int32 → Int32 → Int32 → Int32 → Int32 → Int32 → gS → Option (Int32 × gS)) (x1 : Int32) (x2 : Int32) (x3 : Int32) (x4 : Int32) (x5 : Int32) (x6 : Int32) (x7 : Int32) (x8 : Int32) (t1 : Int32) (S : gS) : Option (Int32 × gS) := lt (sU S 99 41 t1) fun S1 => (bnd (fX12_isOf N x6 x8 S1) fun q1 => (if q1.1 = 0 then fX12_drought_b128 N r72 r86 x1 x2 x3 x4 x5 x6 x8 x7 q1.2 else fX12_drought_b124 N r72 r86 x1 x2 x3 x4 x5 x6 x8 x7 q1.2))
theorem bX12_drought_109 {N : Nat} {r72 : Int32 → Int32 → Int32 → Int32 → Int32 → Int32 → gS → Option (Int32 × gS)} {r86 : Int32 → Int32 → Int32 → Int32 → Int32 → Int32 → Int32 → Int32 → gS → Option (Int32 × gS)} {x1 : Int32} {x2 : Int32} {x3 : Int32} {x4 : Int32} {x5 : Int32} {x6 : Int32} {x7 : Int32} {x8 : Int32} {t1 : Int32} {S : gS} {H : Heap} {locs : List Loc} {ls : Array Slot} {o : Int32 × gS} (C : gC p s m args meth c cX12_drought 9 RX12 ((some .int)) D (mtys cI cS) mord g Am) (O : gO (mcell g cI cS sa) mord g) (K72 : ∀ (x1 : Int32) (x2 : Int32) (x3 : Int32) (x4 : Int32) (x5 : Int32) (x6 : Int32) (S : gS) (H : Heap) (locs : List Loc) (ls : Array Slot), gX D (mcell g cI cS sa) mord g S s H locs → lv_has ls 9 [(0, .ref (g 99)), (1, .int x1), (2, .int x2), (3, .int x3), (4, .int x4), (5, .int x5), (6, .int x6)] → r72 x1 x2 x3 x4 x5 x6 S = some o → W p l e (rmd 6) s m args below meth c H locs 0 0 (gE below args s D (mtys cI cS) (mcell g cI cS sa) mord g (some (.int o.1)) o.2) (F0 m 72 ls [])) (K86 : ∀ (x1 : Int32) (x2 : Int32) (x3 : Int32) (x4 : Int32) (x5 : Int32) (x6 : Int32) (x7 : Int32) (x8 : Int32) (S : gS) (H : Heap) (locs : List Loc) (ls : Array Slot), gX D (mcell g cI cS sa) mord g S s H locs → lv_has ls 9 [(0, .ref (g 99)), (1, .int x1), (2, .int x2), (3, .int x3), (4, .int x4), (5, .int x5), (6, .int x6), (7, .int x7), (8, .int x8)] → r86 x1 x2 x3 x4 x5 x6 x7 x8 S = some o → W p l e (rmd 6) s m args below meth c H locs 0 0 (gE below args s D (mtys cI cS) (mcell g cI cS sa) mord g (some (.int o.1)) o.2) (F0 m 86 ls [])) (X : gX D (mcell g cI cS sa) mord g S s H locs) (hl : lv_has ls 9 [(0, .ref (g 99)), (1, .int x1), (2, .int x2), (3, .int x3), (4, .int x4), (5, .int x5), (6, .int x6), (7, .int x7), (8, .int x8)]) (hF : fX12_drought_b109 N r72 r86 x1 x2 x3 x4 x5 x6 x7 x8 t1 S = some o) : W p l e (rmd 6) s m args below meth c H locs 0 0 (gE below args s D (mtys cI cS) (mcell g cI cS sa) mord g (some (.int o.1)) o.2) (F0 m 109 ls [.int t1, .ref (g 99)]) := by
  unfold fX12_drought_b109 at hF
  obtain ⟨S1, eS1, hF⟩ := lt_some hF
  refine m_p41 C O X eS1 dX12_drought_109 (fun H locs X => ?_)
  refine lv_iload C.1.1 C.1.2.1 dX12_drought_112 (lv_at hl 7 rfl) ?_
  refine lv_iload C.1.1 C.1.2.1 dX12_drought_114 (lv_at hl 6 rfl) ?_
  refine lv_iload C.1.1 C.1.2.1 dX12_drought_116 (lv_at hl 8 rfl) ?_
  obtain ⟨q1, hq1, hF⟩ := bnd_some hF
  refine g_callSi C X vX12_isOf (kX12_isOf O C.2.2.2.2.1 N x6 x8  S1 q1 hq1) (Nat.le_of_ble_eq_true rfl) (Nat.le_of_ble_eq_true rfl) (Nat.le_of_ble_eq_true rfl) (Nat.le_of_ble_eq_true rfl) rfl hl.1 rfl (Nat.le_of_ble_eq_true rfl) dX12_drought_118 (fun H locs X => ?_)
  refine lv_if_eq (tgt := 128) C.1.1 C.1.2.1 dX12_drought_121 (by decide) (fun h_z => ?_) (fun h_z => ?_)
  · rw [if_pos h_z] at hF
    exact bX12_drought_128 C O K72 K86 X (lv_sub hl [0, 1, 2, 3, 4, 5, 6, 8] rfl) hF
  · rw [if_neg h_z] at hF
    exact bX12_drought_124 C O K72 K86 X (lv_sub hl [0, 1, 2, 3, 4, 5, 6, 8] rfl) hF
noncomputable def fX12_drought_b107 (N : Nat) (r72 : Int32 → Int32 → Int32 → Int32 → Int32 → Int32 → gS → Option (Int32 × gS)) (r86 : Int32 → Int32 → Int32 → Int32 → Int32 → Int32 → Int32 → Int32 → gS → Option (Int32 × gS)) (x1 : Int32) (x2 : Int32) (x3 : Int32) (x4 : Int32) (x5 : Int32) (x6 : Int32) (x7 : Int32) (x8 : Int32) (S : gS) : Option (Int32 × gS) := fX12_drought_b109 N r72 r86 x1 x2 x3 x4 x5 x6 x7 x8 9 S
theorem bX12_drought_107 {N : Nat} {r72 : Int32 → Int32 → Int32 → Int32 → Int32 → Int32 → gS → Option (Int32 × gS)} {r86 : Int32 → Int32 → Int32 → Int32 → Int32 → Int32 → Int32 → Int32 → gS → Option (Int32 × gS)} {x1 : Int32} {x2 : Int32} {x3 : Int32} {x4 : Int32} {x5 : Int32} {x6 : Int32} {x7 : Int32} {x8 : Int32} {S : gS} {H : Heap} {locs : List Loc} {ls : Array Slot} {o : Int32 × gS} (C : gC p s m args meth c cX12_drought 9 RX12 ((some .int)) D (mtys cI cS) mord g Am) (O : gO (mcell g cI cS sa) mord g) (K72 : ∀ (x1 : Int32) (x2 : Int32) (x3 : Int32) (x4 : Int32) (x5 : Int32) (x6 : Int32) (S : gS) (H : Heap) (locs : List Loc) (ls : Array Slot), gX D (mcell g cI cS sa) mord g S s H locs → lv_has ls 9 [(0, .ref (g 99)), (1, .int x1), (2, .int x2), (3, .int x3), (4, .int x4), (5, .int x5), (6, .int x6)] → r72 x1 x2 x3 x4 x5 x6 S = some o → W p l e (rmd 6) s m args below meth c H locs 0 0 (gE below args s D (mtys cI cS) (mcell g cI cS sa) mord g (some (.int o.1)) o.2) (F0 m 72 ls [])) (K86 : ∀ (x1 : Int32) (x2 : Int32) (x3 : Int32) (x4 : Int32) (x5 : Int32) (x6 : Int32) (x7 : Int32) (x8 : Int32) (S : gS) (H : Heap) (locs : List Loc) (ls : Array Slot), gX D (mcell g cI cS sa) mord g S s H locs → lv_has ls 9 [(0, .ref (g 99)), (1, .int x1), (2, .int x2), (3, .int x3), (4, .int x4), (5, .int x5), (6, .int x6), (7, .int x7), (8, .int x8)] → r86 x1 x2 x3 x4 x5 x6 x7 x8 S = some o → W p l e (rmd 6) s m args below meth c H locs 0 0 (gE below args s D (mtys cI cS) (mcell g cI cS sa) mord g (some (.int o.1)) o.2) (F0 m 86 ls [])) (X : gX D (mcell g cI cS sa) mord g S s H locs) (hl : lv_has ls 9 [(0, .ref (g 99)), (1, .int x1), (2, .int x2), (3, .int x3), (4, .int x4), (5, .int x5), (6, .int x6), (7, .int x7), (8, .int x8)]) (hF : fX12_drought_b107 N r72 r86 x1 x2 x3 x4 x5 x6 x7 x8 S = some o) : W p l e (rmd 6) s m args below meth c H locs 0 0 (gE below args s D (mtys cI cS) (mcell g cI cS sa) mord g (some (.int o.1)) o.2) (F0 m 107 ls [.ref (g 99)]) := by
  unfold fX12_drought_b107 at hF
  refine lv_bipush (v := 9) C.1.1 C.1.2.1 dX12_drought_107 (by decide) ?_
  exact bX12_drought_109 C O K72 K86 X (lv_sub hl [0, 1, 2, 3, 4, 5, 6, 7, 8] rfl) hF
noncomputable def fX12_drought_b103 (N : Nat) (r72 : Int32 → Int32 → Int32 → Int32 → Int32 → Int32 → gS → Option (Int32 × gS)) (r86 : Int32 → Int32 → Int32 → Int32 → Int32 → Int32 → Int32 → Int32 → gS → Option (Int32 × gS)) (x1 : Int32) (x2 : Int32) (x3 : Int32) (x4 : Int32) (x5 : Int32) (x6 : Int32) (x7 : Int32) (x8 : Int32) (S : gS) : Option (Int32 × gS) := fX12_drought_b109 N r72 r86 x1 x2 x3 x4 x5 x6 x7 x8 0 S
theorem bX12_drought_103 {N : Nat} {r72 : Int32 → Int32 → Int32 → Int32 → Int32 → Int32 → gS → Option (Int32 × gS)} {r86 : Int32 → Int32 → Int32 → Int32 → Int32 → Int32 → Int32 → Int32 → gS → Option (Int32 × gS)} {x1 : Int32} {x2 : Int32} {x3 : Int32} {x4 : Int32} {x5 : Int32} {x6 : Int32} {x7 : Int32} {x8 : Int32} {S : gS} {H : Heap} {locs : List Loc} {ls : Array Slot} {o : Int32 × gS} (C : gC p s m args meth c cX12_drought 9 RX12 ((some .int)) D (mtys cI cS) mord g Am) (O : gO (mcell g cI cS sa) mord g) (K72 : ∀ (x1 : Int32) (x2 : Int32) (x3 : Int32) (x4 : Int32) (x5 : Int32) (x6 : Int32) (S : gS) (H : Heap) (locs : List Loc) (ls : Array Slot), gX D (mcell g cI cS sa) mord g S s H locs → lv_has ls 9 [(0, .ref (g 99)), (1, .int x1), (2, .int x2), (3, .int x3), (4, .int x4), (5, .int x5), (6, .int x6)] → r72 x1 x2 x3 x4 x5 x6 S = some o → W p l e (rmd 6) s m args below meth c H locs 0 0 (gE below args s D (mtys cI cS) (mcell g cI cS sa) mord g (some (.int o.1)) o.2) (F0 m 72 ls [])) (K86 : ∀ (x1 : Int32) (x2 : Int32) (x3 : Int32) (x4 : Int32) (x5 : Int32) (x6 : Int32) (x7 : Int32) (x8 : Int32) (S : gS) (H : Heap) (locs : List Loc) (ls : Array Slot), gX D (mcell g cI cS sa) mord g S s H locs → lv_has ls 9 [(0, .ref (g 99)), (1, .int x1), (2, .int x2), (3, .int x3), (4, .int x4), (5, .int x5), (6, .int x6), (7, .int x7), (8, .int x8)] → r86 x1 x2 x3 x4 x5 x6 x7 x8 S = some o → W p l e (rmd 6) s m args below meth c H locs 0 0 (gE below args s D (mtys cI cS) (mcell g cI cS sa) mord g (some (.int o.1)) o.2) (F0 m 86 ls [])) (X : gX D (mcell g cI cS sa) mord g S s H locs) (hl : lv_has ls 9 [(0, .ref (g 99)), (1, .int x1), (2, .int x2), (3, .int x3), (4, .int x4), (5, .int x5), (6, .int x6), (7, .int x7), (8, .int x8)]) (hF : fX12_drought_b103 N r72 r86 x1 x2 x3 x4 x5 x6 x7 x8 S = some o) : W p l e (rmd 6) s m args below meth c H locs 0 0 (gE below args s D (mtys cI cS) (mcell g cI cS sa) mord g (some (.int o.1)) o.2) (F0 m 103 ls [.ref (g 99)]) := by
  unfold fX12_drought_b103 at hF
  refine lv_iconst (v := 0) C.1.1 C.1.2.1 dX12_drought_103 (by decide) ?_
  refine lv_goto (tgt := 109) C.1.1 C.1.2.1 dX12_drought_104 (by decide) ?_
  exact bX12_drought_109 C O K72 K86 X (lv_sub hl [0, 1, 2, 3, 4, 5, 6, 7, 8] rfl) hF
noncomputable def fX12_drought_b92 (N : Nat) (r72 : Int32 → Int32 → Int32 → Int32 → Int32 → Int32 → gS → Option (Int32 × gS)) (r86 : Int32 → Int32 → Int32 → Int32 → Int32 → Int32 → Int32 → Int32 → gS → Option (Int32 × gS)) (x1 : Int32) (x2 : Int32) (x3 : Int32) (x4 : Int32) (x5 : Int32) (x6 : Int32) (x7 : Int32) (x8 : Int32) (S : gS) : Option (Int32 × gS) := bnd (fX12_isOf N x6 x8 S) fun q1 => (if q1.1 = 0 then fX12_drought_b107 N r72 r86 x1 x2 x3 x4 x5 x6 x7 x8 q1.2 else fX12_drought_b103 N r72 r86 x1 x2 x3 x4 x5 x6 x7 x8 q1.2)
theorem bX12_drought_92 {N : Nat} {r72 : Int32 → Int32 → Int32 → Int32 → Int32 → Int32 → gS → Option (Int32 × gS)} {r86 : Int32 → Int32 → Int32 → Int32 → Int32 → Int32 → Int32 → Int32 → gS → Option (Int32 × gS)} {x1 : Int32} {x2 : Int32} {x3 : Int32} {x4 : Int32} {x5 : Int32} {x6 : Int32} {x7 : Int32} {x8 : Int32} {S : gS} {H : Heap} {locs : List Loc} {ls : Array Slot} {o : Int32 × gS} (C : gC p s m args meth c cX12_drought 9 RX12 ((some .int)) D (mtys cI cS) mord g Am) (O : gO (mcell g cI cS sa) mord g) (K72 : ∀ (x1 : Int32) (x2 : Int32) (x3 : Int32) (x4 : Int32) (x5 : Int32) (x6 : Int32) (S : gS) (H : Heap) (locs : List Loc) (ls : Array Slot), gX D (mcell g cI cS sa) mord g S s H locs → lv_has ls 9 [(0, .ref (g 99)), (1, .int x1), (2, .int x2), (3, .int x3), (4, .int x4), (5, .int x5), (6, .int x6)] → r72 x1 x2 x3 x4 x5 x6 S = some o → W p l e (rmd 6) s m args below meth c H locs 0 0 (gE below args s D (mtys cI cS) (mcell g cI cS sa) mord g (some (.int o.1)) o.2) (F0 m 72 ls [])) (K86 : ∀ (x1 : Int32) (x2 : Int32) (x3 : Int32) (x4 : Int32) (x5 : Int32) (x6 : Int32) (x7 : Int32) (x8 : Int32) (S : gS) (H : Heap) (locs : List Loc) (ls : Array Slot), gX D (mcell g cI cS sa) mord g S s H locs → lv_has ls 9 [(0, .ref (g 99)), (1, .int x1), (2, .int x2), (3, .int x3), (4, .int x4), (5, .int x5), (6, .int x6), (7, .int x7), (8, .int x8)] → r86 x1 x2 x3 x4 x5 x6 x7 x8 S = some o → W p l e (rmd 6) s m args below meth c H locs 0 0 (gE below args s D (mtys cI cS) (mcell g cI cS sa) mord g (some (.int o.1)) o.2) (F0 m 86 ls [])) (X : gX D (mcell g cI cS sa) mord g S s H locs) (hl : lv_has ls 9 [(0, .ref (g 99)), (1, .int x1), (2, .int x2), (3, .int x3), (4, .int x4), (5, .int x5), (6, .int x6), (7, .int x7), (8, .int x8)]) (hF : fX12_drought_b92 N r72 r86 x1 x2 x3 x4 x5 x6 x7 x8 S = some o) : W p l e (rmd 6) s m args below meth c H locs 0 0 (gE below args s D (mtys cI cS) (mcell g cI cS sa) mord g (some (.int o.1)) o.2) (F0 m 92 ls []) := by
  unfold fX12_drought_b92 at hF
  refine lv_aload_n C.1.1 C.1.2.1 dX12_drought_92 rfl (lv_at hl 0 rfl) ?_
  refine lv_iload C.1.1 C.1.2.1 dX12_drought_93 (lv_at hl 6 rfl) ?_
  refine lv_iload C.1.1 C.1.2.1 dX12_drought_95 (lv_at hl 8 rfl) ?_
  obtain ⟨q1, hq1, hF⟩ := bnd_some hF
  refine g_callSi C X vX12_isOf (kX12_isOf O C.2.2.2.2.1 N x6 x8  S q1 hq1) (Nat.le_of_ble_eq_true rfl) (Nat.le_of_ble_eq_true rfl) (Nat.le_of_ble_eq_true rfl) (Nat.le_of_ble_eq_true rfl) rfl hl.1 rfl (Nat.le_of_ble_eq_true rfl) dX12_drought_97 (fun H locs X => ?_)
  refine lv_if_eq (tgt := 107) C.1.1 C.1.2.1 dX12_drought_100 (by decide) (fun h_z => ?_) (fun h_z => ?_)
  · rw [if_pos h_z] at hF
    exact bX12_drought_107 C O K72 K86 X (lv_sub hl [0, 1, 2, 3, 4, 5, 6, 7, 8] rfl) hF
  · rw [if_neg h_z] at hF
    exact bX12_drought_103 C O K72 K86 X (lv_sub hl [0, 1, 2, 3, 4, 5, 6, 7, 8] rfl) hF
noncomputable def fX12_drought_b86 (N : Nat) (r72 : Int32 → Int32 → Int32 → Int32 → Int32 → Int32 → gS → Option (Int32 × gS)) (r86 : Int32 → Int32 → Int32 → Int32 → Int32 → Int32 → Int32 → Int32 → gS → Option (Int32 × gS)) (x1 : Int32) (x2 : Int32) (x3 : Int32) (x4 : Int32) (x5 : Int32) (x6 : Int32) (x7 : Int32) (x8 : Int32) (S : gS) : Option (Int32 × gS) := if x2 ≤ x8 then fX12_drought_b145 N r72 x1 x2 x3 x4 x5 x6 x7 S else fX12_drought_b92 N r72 r86 x1 x2 x3 x4 x5 x6 x7 x8 S
theorem bX12_drought_86 {N : Nat} {r72 : Int32 → Int32 → Int32 → Int32 → Int32 → Int32 → gS → Option (Int32 × gS)} {r86 : Int32 → Int32 → Int32 → Int32 → Int32 → Int32 → Int32 → Int32 → gS → Option (Int32 × gS)} {x1 : Int32} {x2 : Int32} {x3 : Int32} {x4 : Int32} {x5 : Int32} {x6 : Int32} {x7 : Int32} {x8 : Int32} {S : gS} {H : Heap} {locs : List Loc} {ls : Array Slot} {o : Int32 × gS} (C : gC p s m args meth c cX12_drought 9 RX12 ((some .int)) D (mtys cI cS) mord g Am) (O : gO (mcell g cI cS sa) mord g) (K72 : ∀ (x1 : Int32) (x2 : Int32) (x3 : Int32) (x4 : Int32) (x5 : Int32) (x6 : Int32) (S : gS) (H : Heap) (locs : List Loc) (ls : Array Slot), gX D (mcell g cI cS sa) mord g S s H locs → lv_has ls 9 [(0, .ref (g 99)), (1, .int x1), (2, .int x2), (3, .int x3), (4, .int x4), (5, .int x5), (6, .int x6)] → r72 x1 x2 x3 x4 x5 x6 S = some o → W p l e (rmd 6) s m args below meth c H locs 0 0 (gE below args s D (mtys cI cS) (mcell g cI cS sa) mord g (some (.int o.1)) o.2) (F0 m 72 ls [])) (K86 : ∀ (x1 : Int32) (x2 : Int32) (x3 : Int32) (x4 : Int32) (x5 : Int32) (x6 : Int32) (x7 : Int32) (x8 : Int32) (S : gS) (H : Heap) (locs : List Loc) (ls : Array Slot), gX D (mcell g cI cS sa) mord g S s H locs → lv_has ls 9 [(0, .ref (g 99)), (1, .int x1), (2, .int x2), (3, .int x3), (4, .int x4), (5, .int x5), (6, .int x6), (7, .int x7), (8, .int x8)] → r86 x1 x2 x3 x4 x5 x6 x7 x8 S = some o → W p l e (rmd 6) s m args below meth c H locs 0 0 (gE below args s D (mtys cI cS) (mcell g cI cS sa) mord g (some (.int o.1)) o.2) (F0 m 86 ls [])) (X : gX D (mcell g cI cS sa) mord g S s H locs) (hl : lv_has ls 9 [(0, .ref (g 99)), (1, .int x1), (2, .int x2), (3, .int x3), (4, .int x4), (5, .int x5), (6, .int x6), (7, .int x7), (8, .int x8)]) (hF : fX12_drought_b86 N r72 r86 x1 x2 x3 x4 x5 x6 x7 x8 S = some o) : W p l e (rmd 6) s m args below meth c H locs 0 0 (gE below args s D (mtys cI cS) (mcell g cI cS sa) mord g (some (.int o.1)) o.2) (F0 m 86 ls []) := by
  unfold fX12_drought_b86 at hF
  refine lv_iload C.1.1 C.1.2.1 dX12_drought_86 (lv_at hl 8 rfl) ?_
  refine lv_iload_n C.1.1 C.1.2.1 dX12_drought_88 rfl (lv_at hl 2 rfl) ?_
  refine lv_icmp_ge (tgt := 145) C.1.1 C.1.2.1 dX12_drought_89 (by decide) (fun h_z => ?_) (fun h_z => ?_)
  · rw [if_pos h_z] at hF
    exact bX12_drought_145 C O K72 X (lv_sub hl [0, 1, 2, 3, 4, 5, 6, 7] rfl) hF
  · rw [if_neg h_z] at hF
    exact bX12_drought_92 C O K72 K86 X (lv_sub hl [0, 1, 2, 3, 4, 5, 6, 7, 8] rfl) hF
noncomputable def fX12_drought_h86 (N : Nat) (r72 : Int32 → Int32 → Int32 → Int32 → Int32 → Int32 → gS → Option (Int32 × gS)) : Nat → Int32 → Int32 → Int32 → Int32 → Int32 → Int32 → Int32 → Int32 → gS → Option (Int32 × gS)
  | 0, _, _, _, _, _, _, _, _, _ => none
  | n + 1, x1, x2, x3, x4, x5, x6, x7, x8, S => fX12_drought_b86 N r72 (fX12_drought_h86 N r72 n) x1 x2 x3 x4 x5 x6 x7 x8 S
theorem hX12_drought_86 {N : Nat} {r72 : Int32 → Int32 → Int32 → Int32 → Int32 → Int32 → gS → Option (Int32 × gS)} {o : Int32 × gS} (C : gC p s m args meth c cX12_drought 9 RX12 ((some .int)) D (mtys cI cS) mord g Am) (O : gO (mcell g cI cS sa) mord g) (K72 : ∀ (x1 : Int32) (x2 : Int32) (x3 : Int32) (x4 : Int32) (x5 : Int32) (x6 : Int32) (S : gS) (H : Heap) (locs : List Loc) (ls : Array Slot), gX D (mcell g cI cS sa) mord g S s H locs → lv_has ls 9 [(0, .ref (g 99)), (1, .int x1), (2, .int x2), (3, .int x3), (4, .int x4), (5, .int x5), (6, .int x6)] → r72 x1 x2 x3 x4 x5 x6 S = some o → W p l e (rmd 6) s m args below meth c H locs 0 0 (gE below args s D (mtys cI cS) (mcell g cI cS sa) mord g (some (.int o.1)) o.2) (F0 m 72 ls [])) : ∀ (n : Nat) (x1 : Int32) (x2 : Int32) (x3 : Int32) (x4 : Int32) (x5 : Int32) (x6 : Int32) (x7 : Int32) (x8 : Int32) (S : gS) (H : Heap) (locs : List Loc) (ls : Array Slot), gX D (mcell g cI cS sa) mord g S s H locs → lv_has ls 9 [(0, .ref (g 99)), (1, .int x1), (2, .int x2), (3, .int x3), (4, .int x4), (5, .int x5), (6, .int x6), (7, .int x7), (8, .int x8)] → fX12_drought_h86 N r72 n x1 x2 x3 x4 x5 x6 x7 x8 S = some o → W p l e (rmd 6) s m args below meth c H locs 0 0 (gE below args s D (mtys cI cS) (mcell g cI cS sa) mord g (some (.int o.1)) o.2) (F0 m 86 ls []) := by
  intro n
  induction n with
  | zero =>
    intro x1 x2 x3 x4 x5 x6 x7 x8 S H locs ls X hl hF
    exact absurd (show (none : Option (Int32 × gS)) = some o from hF) (by simp)
  | succ n ih =>
    intro x1 x2 x3 x4 x5 x6 x7 x8 S H locs ls X hl hF
    have hF : fX12_drought_b86 N r72 (fX12_drought_h86 N r72 n) x1 x2 x3 x4 x5 x6 x7 x8 S = some o := hF
    exact bX12_drought_86 C O K72 ih X hl hF
noncomputable def fX12_drought_b80 (N : Nat) (r72 : Int32 → Int32 → Int32 → Int32 → Int32 → Int32 → gS → Option (Int32 × gS)) (x1 : Int32) (x2 : Int32) (x3 : Int32) (x4 : Int32) (x5 : Int32) (x6 : Int32) (S : gS) : Option (Int32 × gS) := fX12_drought_h86 N r72 N x1 x2 x3 x4 x5 x6 1 0 S
theorem bX12_drought_80 {N : Nat} {r72 : Int32 → Int32 → Int32 → Int32 → Int32 → Int32 → gS → Option (Int32 × gS)} {x1 : Int32} {x2 : Int32} {x3 : Int32} {x4 : Int32} {x5 : Int32} {x6 : Int32} {S : gS} {H : Heap} {locs : List Loc} {ls : Array Slot} {o : Int32 × gS} (C : gC p s m args meth c cX12_drought 9 RX12 ((some .int)) D (mtys cI cS) mord g Am) (O : gO (mcell g cI cS sa) mord g) (K72 : ∀ (x1 : Int32) (x2 : Int32) (x3 : Int32) (x4 : Int32) (x5 : Int32) (x6 : Int32) (S : gS) (H : Heap) (locs : List Loc) (ls : Array Slot), gX D (mcell g cI cS sa) mord g S s H locs → lv_has ls 9 [(0, .ref (g 99)), (1, .int x1), (2, .int x2), (3, .int x3), (4, .int x4), (5, .int x5), (6, .int x6)] → r72 x1 x2 x3 x4 x5 x6 S = some o → W p l e (rmd 6) s m args below meth c H locs 0 0 (gE below args s D (mtys cI cS) (mcell g cI cS sa) mord g (some (.int o.1)) o.2) (F0 m 72 ls [])) (X : gX D (mcell g cI cS sa) mord g S s H locs) (hl : lv_has ls 9 [(0, .ref (g 99)), (1, .int x1), (2, .int x2), (3, .int x3), (4, .int x4), (5, .int x5), (6, .int x6)]) (hF : fX12_drought_b80 N r72 x1 x2 x3 x4 x5 x6 S = some o) : W p l e (rmd 6) s m args below meth c H locs 0 0 (gE below args s D (mtys cI cS) (mcell g cI cS sa) mord g (some (.int o.1)) o.2) (F0 m 80 ls []) := by
  unfold fX12_drought_b80 at hF
  refine lv_iconst (v := 1) C.1.1 C.1.2.1 dX12_drought_80 (by decide) ?_
  refine lv_istore (lv' := [(7, .int 1), (0, .ref (g 99)), (1, .int x1), (2, .int x2), (3, .int x3), (4, .int x4), (5, .int x5), (6, .int x6)]) C.1.1 C.1.2.1 dX12_drought_81 hl (by decide) rfl (fun ls hl => ?_)
  refine lv_iconst (v := 0) C.1.1 C.1.2.1 dX12_drought_83 (by decide) ?_
  refine lv_istore (lv' := [(8, .int 0), (7, .int 1), (0, .ref (g 99)), (1, .int x1), (2, .int x2), (3, .int x3), (4, .int x4), (5, .int x5), (6, .int x6)]) C.1.1 C.1.2.1 dX12_drought_84 hl (by decide) rfl (fun ls hl => ?_)
  exact hX12_drought_86 C O K72 N _ _ _ _ _ _ _ _ _ _ _ _ X (lv_sub hl [2, 3, 4, 5, 6, 7, 8, 1, 0] rfl) hF
noncomputable def fX12_drought_b72 (N : Nat) (r72 : Int32 → Int32 → Int32 → Int32 → Int32 → Int32 → gS → Option (Int32 × gS)) (x1 : Int32) (x2 : Int32) (x3 : Int32) (x4 : Int32) (x5 : Int32) (x6 : Int32) (S : gS) : Option (Int32 × gS) := if (((1 : Int32) <<< (x2 &&& 31) : Int32)) ≤ x6 then fX12_drought_b182 N x4 S else fX12_drought_b80 N r72 x1 x2 x3 x4 x5 x6 S
theorem bX12_drought_72 {N : Nat} {r72 : Int32 → Int32 → Int32 → Int32 → Int32 → Int32 → gS → Option (Int32 × gS)} {x1 : Int32} {x2 : Int32} {x3 : Int32} {x4 : Int32} {x5 : Int32} {x6 : Int32} {S : gS} {H : Heap} {locs : List Loc} {ls : Array Slot} {o : Int32 × gS} (C : gC p s m args meth c cX12_drought 9 RX12 ((some .int)) D (mtys cI cS) mord g Am) (O : gO (mcell g cI cS sa) mord g) (K72 : ∀ (x1 : Int32) (x2 : Int32) (x3 : Int32) (x4 : Int32) (x5 : Int32) (x6 : Int32) (S : gS) (H : Heap) (locs : List Loc) (ls : Array Slot), gX D (mcell g cI cS sa) mord g S s H locs → lv_has ls 9 [(0, .ref (g 99)), (1, .int x1), (2, .int x2), (3, .int x3), (4, .int x4), (5, .int x5), (6, .int x6)] → r72 x1 x2 x3 x4 x5 x6 S = some o → W p l e (rmd 6) s m args below meth c H locs 0 0 (gE below args s D (mtys cI cS) (mcell g cI cS sa) mord g (some (.int o.1)) o.2) (F0 m 72 ls [])) (X : gX D (mcell g cI cS sa) mord g S s H locs) (hl : lv_has ls 9 [(0, .ref (g 99)), (1, .int x1), (2, .int x2), (3, .int x3), (4, .int x4), (5, .int x5), (6, .int x6)]) (hF : fX12_drought_b72 N r72 x1 x2 x3 x4 x5 x6 S = some o) : W p l e (rmd 6) s m args below meth c H locs 0 0 (gE below args s D (mtys cI cS) (mcell g cI cS sa) mord g (some (.int o.1)) o.2) (F0 m 72 ls []) := by
  unfold fX12_drought_b72 at hF
  refine lv_iload C.1.1 C.1.2.1 dX12_drought_72 (lv_at hl 6 rfl) ?_
  refine lv_iconst (v := 1) C.1.1 C.1.2.1 dX12_drought_74 (by decide) ?_
  refine lv_iload_n C.1.1 C.1.2.1 dX12_drought_75 rfl (lv_at hl 2 rfl) ?_
  refine lv_ishl C.1.1 C.1.2.1 dX12_drought_76 ?_
  refine lv_icmp_ge (tgt := 182) C.1.1 C.1.2.1 dX12_drought_77 (by decide) (fun h_z => ?_) (fun h_z => ?_)
  · rw [if_pos h_z] at hF
    exact bX12_drought_182 C O X (lv_sub hl [0, 4] rfl) hF
  · rw [if_neg h_z] at hF
    exact bX12_drought_80 C O K72 X (lv_sub hl [0, 1, 2, 3, 4, 5, 6] rfl) hF
noncomputable def fX12_drought_h72 (N : Nat) : Nat → Int32 → Int32 → Int32 → Int32 → Int32 → Int32 → gS → Option (Int32 × gS)
  | 0, _, _, _, _, _, _, _ => none
  | n + 1, x1, x2, x3, x4, x5, x6, S => fX12_drought_b72 N (fX12_drought_h72 N n) x1 x2 x3 x4 x5 x6 S
theorem hX12_drought_72 {N : Nat} {o : Int32 × gS} (C : gC p s m args meth c cX12_drought 9 RX12 ((some .int)) D (mtys cI cS) mord g Am) (O : gO (mcell g cI cS sa) mord g) : ∀ (n : Nat) (x1 : Int32) (x2 : Int32) (x3 : Int32) (x4 : Int32) (x5 : Int32) (x6 : Int32) (S : gS) (H : Heap) (locs : List Loc) (ls : Array Slot), gX D (mcell g cI cS sa) mord g S s H locs → lv_has ls 9 [(0, .ref (g 99)), (1, .int x1), (2, .int x2), (3, .int x3), (4, .int x4), (5, .int x5), (6, .int x6)] → fX12_drought_h72 N n x1 x2 x3 x4 x5 x6 S = some o → W p l e (rmd 6) s m args below meth c H locs 0 0 (gE below args s D (mtys cI cS) (mcell g cI cS sa) mord g (some (.int o.1)) o.2) (F0 m 72 ls []) := by
  intro n
  induction n with
  | zero =>
    intro x1 x2 x3 x4 x5 x6 S H locs ls X hl hF
    exact absurd (show (none : Option (Int32 × gS)) = some o from hF) (by simp)
  | succ n ih =>
    intro x1 x2 x3 x4 x5 x6 S H locs ls X hl hF
    have hF : fX12_drought_b72 N (fX12_drought_h72 N n) x1 x2 x3 x4 x5 x6 S = some o := hF
    exact bX12_drought_72 C O ih X hl hF
noncomputable def fX12_drought_b49 (N : Nat) (x1 : Int32) (x2 : Int32) (x3 : Int32) (S : gS) : Option (Int32 × gS) := chk (inb x1 (6)) (bnd (fX12_pack N 46 0 S) fun q1 => (fX12_drought_h72 N N x1 x2 x3 0 (S 34 (Int32.toNatClampNeg x1)) 0 q1.2))
theorem bX12_drought_49 {N : Nat} {x1 : Int32} {x2 : Int32} {x3 : Int32} {S : gS} {H : Heap} {locs : List Loc} {ls : Array Slot} {o : Int32 × gS} (C : gC p s m args meth c cX12_drought 9 RX12 ((some .int)) D (mtys cI cS) mord g Am) (O : gO (mcell g cI cS sa) mord g) (X : gX D (mcell g cI cS sa) mord g S s H locs) (hl : lv_has ls 9 [(0, .ref (g 99)), (1, .int x1), (2, .int x2), (3, .int x3)]) (hF : fX12_drought_b49 N x1 x2 x3 S = some o) : W p l e (rmd 6) s m args below meth c H locs 0 0 (gE below args s D (mtys cI cS) (mcell g cI cS sa) mord g (some (.int o.1)) o.2) (F0 m 49 ls []) := by
  unfold fX12_drought_b49 at hF
  refine lv_iconst (v := 0) C.1.1 C.1.2.1 dX12_drought_49 (by decide) ?_
  refine lv_istore (lv' := [(4, .int 0), (0, .ref (g 99)), (1, .int x1), (2, .int x2), (3, .int x3)]) C.1.1 C.1.2.1 dX12_drought_50 hl (by decide) rfl (fun ls hl => ?_)
  refine lv_aload_n C.1.1 C.1.2.1 dX12_drought_52 rfl (lv_at hl 1 rfl) ?_
  refine m_g34 C X dX12_drought_53 ?_
  refine lv_iload_n C.1.1 C.1.2.1 dX12_drought_56 rfl (lv_at hl 2 rfl) ?_
  obtain ⟨h_1, hF⟩ := chk_some hF
  refine m_r34 C X  (inb_vp h_1) rfl dX12_drought_57 ?_
  refine lv_istore (lv' := [(5, .int (S 34 (Int32.toNatClampNeg x1))), (4, .int 0), (0, .ref (g 99)), (1, .int x1), (2, .int x2), (3, .int x3)]) C.1.1 C.1.2.1 dX12_drought_58 hl (by decide) rfl (fun ls hl => ?_)
  refine lv_aload_n C.1.1 C.1.2.1 dX12_drought_60 rfl (lv_at hl 2 rfl) ?_
  refine lv_aload_n C.1.1 C.1.2.1 dX12_drought_61 rfl (lv_at hl 2 rfl) ?_
  refine m_g46 C X dX12_drought_62 ?_
  refine lv_iconst (v := 0) C.1.1 C.1.2.1 dX12_drought_65 (by decide) ?_
  obtain ⟨q1, hq1, hF⟩ := bnd_some hF
  refine m_callV C X vX12_pack rfl (kX12_pack O C.2.2.2.2.1 N 46 0 (rfl : mI 46 = true) S q1 hq1) (Nat.le_of_ble_eq_true rfl) (Nat.le_of_ble_eq_true rfl) (Nat.le_of_ble_eq_true rfl) (Nat.le_of_ble_eq_true rfl) rfl hl.1 rfl (Nat.le_of_ble_eq_true rfl) dX12_drought_66 (fun H locs X => ?_)
  refine lv_iconst (v := 0) C.1.1 C.1.2.1 dX12_drought_69 (by decide) ?_
  refine lv_istore (lv' := [(6, .int 0), (5, .int (S 34 (Int32.toNatClampNeg x1))), (4, .int 0), (0, .ref (g 99)), (1, .int x1), (2, .int x2), (3, .int x3)]) C.1.1 C.1.2.1 dX12_drought_70 hl (by decide) rfl (fun ls hl => ?_)
  exact hX12_drought_72 C O N _ _ _ _ _ _ _ _ _ _ X (lv_sub hl [3, 4, 5, 6, 2, 1, 0] rfl) hF
noncomputable def fX12_drought_b43 (N : Nat) (S : gS) : Option (Int32 × gS) := bnd (fX12_fail N 2 S) fun q1 => (some (q1.1, q1.2))
theorem bX12_drought_43 {N : Nat} {S : gS} {H : Heap} {locs : List Loc} {ls : Array Slot} {o : Int32 × gS} (C : gC p s m args meth c cX12_drought 9 RX12 ((some .int)) D (mtys cI cS) mord g Am) (O : gO (mcell g cI cS sa) mord g) (X : gX D (mcell g cI cS sa) mord g S s H locs) (hl : lv_has ls 9 [(0, .ref (g 99))]) (hF : fX12_drought_b43 N S = some o) : W p l e (rmd 6) s m args below meth c H locs 0 0 (gE below args s D (mtys cI cS) (mcell g cI cS sa) mord g (some (.int o.1)) o.2) (F0 m 43 ls []) := by
  unfold fX12_drought_b43 at hF
  refine lv_aload_n C.1.1 C.1.2.1 dX12_drought_43 rfl (lv_at hl 0 rfl) ?_
  refine lv_iconst (v := 2) C.1.1 C.1.2.1 dX12_drought_44 (by decide) ?_
  obtain ⟨q1, hq1, hF⟩ := bnd_some hF
  refine m_callVi C X vX12_fail rfl (kX12_fail O C.2.2.2.2.1 N 2  S q1 hq1) (Nat.le_of_ble_eq_true rfl) (Nat.le_of_ble_eq_true rfl) (Nat.le_of_ble_eq_true rfl) (Nat.le_of_ble_eq_true rfl) rfl hl.1 rfl (Nat.le_of_ble_eq_true rfl) dX12_drought_45 (fun H locs X => ?_)
  cases hF
  exact g_iret C X dX12_drought_48
noncomputable def fX12_drought_b31 (N : Nat) (x1 : Int32) (x2 : Int32) (x3 : Int32) (S : gS) : Option (Int32 × gS) := bnd (fX12_isIn N (Int32.toInt64 x3) 0 10 S) fun q1 => (if q1.1 = 0 then fX12_drought_b43 N q1.2 else fX12_drought_b49 N x1 x2 x3 q1.2)
theorem bX12_drought_31 {N : Nat} {x1 : Int32} {x2 : Int32} {x3 : Int32} {S : gS} {H : Heap} {locs : List Loc} {ls : Array Slot} {o : Int32 × gS} (C : gC p s m args meth c cX12_drought 9 RX12 ((some .int)) D (mtys cI cS) mord g Am) (O : gO (mcell g cI cS sa) mord g) (X : gX D (mcell g cI cS sa) mord g S s H locs) (hl : lv_has ls 9 [(0, .ref (g 99)), (1, .int x1), (2, .int x2), (3, .int x3)]) (hF : fX12_drought_b31 N x1 x2 x3 S = some o) : W p l e (rmd 6) s m args below meth c H locs 0 0 (gE below args s D (mtys cI cS) (mcell g cI cS sa) mord g (some (.int o.1)) o.2) (F0 m 31 ls []) := by
  unfold fX12_drought_b31 at hF
  refine lv_iload_n C.1.1 C.1.2.1 dX12_drought_31 rfl (lv_at hl 3 rfl) ?_
  refine lv_i2l (v := Int32.toInt64 x3) C.1.1 C.1.2.1 dX12_drought_32 rfl ?_
  refine lv_lconst (v := 0) C.1.1 C.1.2.1 dX12_drought_33 (by decide) ?_
  refine lv_ldc2 C.1.1 C.1.2.1 C.1.2.2.2.1 (C.1.2.2.2.2 _ mKL471) dX12_drought_34 ?_
  obtain ⟨q1, hq1, hF⟩ := bnd_some hF
  refine g_callSi C X vX12_isIn (kX12_isIn O C.2.2.2.2.1 N (Int32.toInt64 x3) 0 10  S q1 hq1) (Nat.le_of_ble_eq_true rfl) (Nat.le_of_ble_eq_true rfl) (Nat.le_of_ble_eq_true rfl) (Nat.le_of_ble_eq_true rfl) rfl hl.1 rfl (Nat.le_of_ble_eq_true rfl) dX12_drought_37 (fun H locs X => ?_)
  refine lv_if_ne (tgt := 49) C.1.1 C.1.2.1 dX12_drought_40 (by decide) (fun h_z => ?_) (fun h_z => ?_)
  · rw [if_neg h_z] at hF
    exact bX12_drought_49 C O X (lv_sub hl [0, 1, 2, 3] rfl) hF
  · rw [if_pos h_z] at hF
    exact bX12_drought_43 C O X (lv_sub hl [0] rfl) hF
noncomputable def fX12_drought_b19 (N : Nat) (x1 : Int32) (x2 : Int32) (x3 : Int32) (S : gS) : Option (Int32 × gS) := bnd (fX12_isIn N (Int32.toInt64 x2) 1 5 S) fun q1 => (if q1.1 = 0 then fX12_drought_b43 N q1.2 else fX12_drought_b31 N x1 x2 x3 q1.2)
theorem bX12_drought_19 {N : Nat} {x1 : Int32} {x2 : Int32} {x3 : Int32} {S : gS} {H : Heap} {locs : List Loc} {ls : Array Slot} {o : Int32 × gS} (C : gC p s m args meth c cX12_drought 9 RX12 ((some .int)) D (mtys cI cS) mord g Am) (O : gO (mcell g cI cS sa) mord g) (X : gX D (mcell g cI cS sa) mord g S s H locs) (hl : lv_has ls 9 [(0, .ref (g 99)), (1, .int x1), (2, .int x2), (3, .int x3)]) (hF : fX12_drought_b19 N x1 x2 x3 S = some o) : W p l e (rmd 6) s m args below meth c H locs 0 0 (gE below args s D (mtys cI cS) (mcell g cI cS sa) mord g (some (.int o.1)) o.2) (F0 m 19 ls []) := by
  unfold fX12_drought_b19 at hF
  refine lv_iload_n C.1.1 C.1.2.1 dX12_drought_19 rfl (lv_at hl 2 rfl) ?_
  refine lv_i2l (v := Int32.toInt64 x2) C.1.1 C.1.2.1 dX12_drought_20 rfl ?_
  refine lv_lconst (v := 1) C.1.1 C.1.2.1 dX12_drought_21 (by decide) ?_
  refine lv_ldc2 C.1.1 C.1.2.1 C.1.2.2.2.1 (C.1.2.2.2.2 _ mKL469) dX12_drought_22 ?_
  obtain ⟨q1, hq1, hF⟩ := bnd_some hF
  refine g_callSi C X vX12_isIn (kX12_isIn O C.2.2.2.2.1 N (Int32.toInt64 x2) 1 5  S q1 hq1) (Nat.le_of_ble_eq_true rfl) (Nat.le_of_ble_eq_true rfl) (Nat.le_of_ble_eq_true rfl) (Nat.le_of_ble_eq_true rfl) rfl hl.1 rfl (Nat.le_of_ble_eq_true rfl) dX12_drought_25 (fun H locs X => ?_)
  refine lv_if_eq (tgt := 43) C.1.1 C.1.2.1 dX12_drought_28 (by decide) (fun h_z => ?_) (fun h_z => ?_)
  · rw [if_pos h_z] at hF
    exact bX12_drought_43 C O X (lv_sub hl [0] rfl) hF
  · rw [if_neg h_z] at hF
    exact bX12_drought_31 C O X (lv_sub hl [0, 1, 2, 3] rfl) hF
noncomputable def fX12_drought_b13 (N : Nat) (S : gS) : Option (Int32 × gS) := bnd (fX12_fail N 1 S) fun q1 => (some (q1.1, q1.2))
theorem bX12_drought_13 {N : Nat} {S : gS} {H : Heap} {locs : List Loc} {ls : Array Slot} {o : Int32 × gS} (C : gC p s m args meth c cX12_drought 9 RX12 ((some .int)) D (mtys cI cS) mord g Am) (O : gO (mcell g cI cS sa) mord g) (X : gX D (mcell g cI cS sa) mord g S s H locs) (hl : lv_has ls 9 [(0, .ref (g 99))]) (hF : fX12_drought_b13 N S = some o) : W p l e (rmd 6) s m args below meth c H locs 0 0 (gE below args s D (mtys cI cS) (mcell g cI cS sa) mord g (some (.int o.1)) o.2) (F0 m 13 ls []) := by
  unfold fX12_drought_b13 at hF
  refine lv_aload_n C.1.1 C.1.2.1 dX12_drought_13 rfl (lv_at hl 0 rfl) ?_
  refine lv_iconst (v := 1) C.1.1 C.1.2.1 dX12_drought_14 (by decide) ?_
  obtain ⟨q1, hq1, hF⟩ := bnd_some hF
  refine m_callVi C X vX12_fail rfl (kX12_fail O C.2.2.2.2.1 N 1  S q1 hq1) (Nat.le_of_ble_eq_true rfl) (Nat.le_of_ble_eq_true rfl) (Nat.le_of_ble_eq_true rfl) (Nat.le_of_ble_eq_true rfl) rfl hl.1 rfl (Nat.le_of_ble_eq_true rfl) dX12_drought_15 (fun H locs X => ?_)
  cases hF
  exact g_iret C X dX12_drought_18
noncomputable def fX12_drought_b0 (N : Nat) (x1 : Int32) (x2 : Int32) (x3 : Int32) (S : gS) : Option (Int32 × gS) := lt (sU S 99 4 0) fun S1 => (bnd (fX12_isGuild N x1 S1) fun q1 => (if q1.1 = 0 then fX12_drought_b13 N q1.2 else fX12_drought_b19 N x1 x2 x3 q1.2))
theorem bX12_drought_0 {N : Nat} {x1 : Int32} {x2 : Int32} {x3 : Int32} {S : gS} {H : Heap} {locs : List Loc} {ls : Array Slot} {o : Int32 × gS} (C : gC p s m args meth c cX12_drought 9 RX12 ((some .int)) D (mtys cI cS) mord g Am) (O : gO (mcell g cI cS sa) mord g) (X : gX D (mcell g cI cS sa) mord g S s H locs) (hl : lv_has ls 9 [(0, .ref (g 99)), (1, .int x1), (2, .int x2), (3, .int x3)]) (hF : fX12_drought_b0 N x1 x2 x3 S = some o) : W p l e (rmd 6) s m args below meth c H locs 0 0 (gE below args s D (mtys cI cS) (mcell g cI cS sa) mord g (some (.int o.1)) o.2) (F0 m 0 ls []) := by
  unfold fX12_drought_b0 at hF
  refine lv_aload_n C.1.1 C.1.2.1 dX12_drought_0 rfl (lv_at hl 0 rfl) ?_
  refine lv_iconst (v := 0) C.1.1 C.1.2.1 dX12_drought_1 (by decide) ?_
  obtain ⟨S1, eS1, hF⟩ := lt_some hF
  refine m_p4 C O X eS1 dX12_drought_2 (fun H locs X => ?_)
  refine lv_aload_n C.1.1 C.1.2.1 dX12_drought_5 rfl (lv_at hl 0 rfl) ?_
  refine lv_iload_n C.1.1 C.1.2.1 dX12_drought_6 rfl (lv_at hl 1 rfl) ?_
  obtain ⟨q1, hq1, hF⟩ := bnd_some hF
  refine m_callVi C X vX12_isGuild rfl (kX12_isGuild O C.2.2.2.2.1 N x1  S1 q1 hq1) (Nat.le_of_ble_eq_true rfl) (Nat.le_of_ble_eq_true rfl) (Nat.le_of_ble_eq_true rfl) (Nat.le_of_ble_eq_true rfl) rfl hl.1 rfl (Nat.le_of_ble_eq_true rfl) dX12_drought_7 (fun H locs X => ?_)
  refine lv_if_ne (tgt := 19) C.1.1 C.1.2.1 dX12_drought_10 (by decide) (fun h_z => ?_) (fun h_z => ?_)
  · rw [if_neg h_z] at hF
    exact bX12_drought_19 C O X (lv_sub hl [0, 1, 2, 3] rfl) hF
  · rw [if_pos h_z] at hF
    exact bX12_drought_13 C O X (lv_sub hl [0] rfl) hF
noncomputable def fX12_drought (N : Nat) (x1 : Int32) (x2 : Int32) (x3 : Int32) (S : gS) : Option (Int32 × gS) := fX12_drought_b0 N x1 x2 x3 S
theorem kX12_drought {l : Launch} {D : va_G} {g : Nat → Nat} {cI cS : ClassId} {sa : Nat → Nat → Option Nat} {Am : (Nat → Prop) → State → Heap → Prop} (O : gO (mcell g cI cS sa) mord g) (P : gAm Am) (N : Nat) (x1 : Int32) (x2 : Int32) (x3 : Int32) (S : gS) (o : Int32 × gS) (hF : fX12_drought N x1 x2 x3 S = some o) : gM l yX12_drought cX12_drought 9 ((some .int)) 6 D (mtys cI cS) (mcell g cI cS sa) mord g Am [.ref (g 99), .int x1, .int x2, .int x3] S (some (.int o.1)) o.2 :=
  gM_of O P (by decide) (Nat.le_of_ble_eq_true rfl) (fun p e s m args below meth c ls C X hl => bX12_drought_0 C O X (lv_sub hl [0, 1, 2, 3] rfl) hF)
-- tellGains
noncomputable def fX12_tellGains_b173 (N : Nat) (S : gS) : Option (Int32 × gS) := some (0, S)
theorem bX12_tellGains_173 {N : Nat} {S : gS} {H : Heap} {locs : List Loc} {ls : Array Slot} {o : Int32 × gS} (C : gC p s m args meth c cX12_tellGains 7 RX12 none D (mtys cI cS) mord g Am) (O : gO (mcell g cI cS sa) mord g) (X : gX D (mcell g cI cS sa) mord g S s H locs) (hl : lv_has ls 7 []) (hF : fX12_tellGains_b173 N S = some o) : W p l e (rmd 6) s m args below meth c H locs 0 0 (gE below args s D (mtys cI cS) (mcell g cI cS sa) mord g none o.2) (F0 m 173 ls []) := by
  unfold fX12_tellGains_b173 at hF
  cases hF
  exact g_vret C X dX12_tellGains_173
noncomputable def fX12_tellGains_b108 (N : Nat) (r11 : Int32 → Int32 → Int32 → gS → Option (Int32 × gS)) (x1 : Int32) (x2 : Int32) (x3 : Int32) (x4 : Int32) (x5 : Int32) (S : gS) : Option (Int32 × gS) := chk (inb ((2 * x3 : Int32)) (8)) (lt (sU S 55 (Int32.toNatClampNeg ((2 * x3 : Int32))) ((((((5 * x4 : Int32)) - ((3 * x5 : Int32)) : Int32)) - ((6 * ((x3 / 2 : Int32)) : Int32)) : Int32))) fun S1 => (chk (inb ((((2 * x3 : Int32)) + 1 : Int32)) (8)) (lt (sU S1 55 (Int32.toNatClampNeg ((((2 * x3 : Int32)) + 1 : Int32))) ((((((5 * x5 : Int32)) - ((3 * x4 : Int32)) : Int32)) - ((6 * ((x3 - x3 / 2 * 2 : Int32)) : Int32)) : Int32))) fun S2 => (bnd (fX12_unpack N 46 0 S2) fun q1 => (r11 x1 x2 ((x3 + 1 : Int32)) q1.2)))))
theorem bX12_tellGains_108 {N : Nat} {r11 : Int32 → Int32 → Int32 → gS → Option (Int32 × gS)} {x1 : Int32} {x2 : Int32} {x3 : Int32} {x4 : Int32} {x5 : Int32} {S : gS} {H : Heap} {locs : List Loc} {ls : Array Slot} {o : Int32 × gS} (C : gC p s m args meth c cX12_tellGains 7 RX12 none D (mtys cI cS) mord g Am) (O : gO (mcell g cI cS sa) mord g) (K11 : ∀ (x1 : Int32) (x2 : Int32) (x3 : Int32) (S : gS) (H : Heap) (locs : List Loc) (ls : Array Slot), gX D (mcell g cI cS sa) mord g S s H locs → lv_has ls 7 [(0, .ref (g 99)), (1, .int x1), (2, .int x2), (3, .int x3)] → r11 x1 x2 x3 S = some o → W p l e (rmd 6) s m args below meth c H locs 0 0 (gE below args s D (mtys cI cS) (mcell g cI cS sa) mord g none o.2) (F0 m 11 ls [])) (X : gX D (mcell g cI cS sa) mord g S s H locs) (hl : lv_has ls 7 [(0, .ref (g 99)), (1, .int x1), (2, .int x2), (3, .int x3), (4, .int x4), (5, .int x5)]) (hF : fX12_tellGains_b108 N r11 x1 x2 x3 x4 x5 S = some o) : W p l e (rmd 6) s m args below meth c H locs 0 0 (gE below args s D (mtys cI cS) (mcell g cI cS sa) mord g none o.2) (F0 m 108 ls []) := by
  unfold fX12_tellGains_b108 at hF
  refine lv_aload_n C.1.1 C.1.2.1 dX12_tellGains_108 rfl (lv_at hl 0 rfl) ?_
  refine m_g55 C X dX12_tellGains_109 ?_
  refine lv_iconst (v := 2) C.1.1 C.1.2.1 dX12_tellGains_112 (by decide) ?_
  refine lv_iload_n C.1.1 C.1.2.1 dX12_tellGains_113 rfl (lv_at hl 3 rfl) ?_
  refine lv_imul C.1.1 C.1.2.1 dX12_tellGains_114 ?_
  refine lv_iconst (v := 5) C.1.1 C.1.2.1 dX12_tellGains_115 (by decide) ?_
  refine lv_iload C.1.1 C.1.2.1 dX12_tellGains_116 (lv_at hl 4 rfl) ?_
  refine lv_imul C.1.1 C.1.2.1 dX12_tellGains_118 ?_
  refine lv_iconst (v := 3) C.1.1 C.1.2.1 dX12_tellGains_119 (by decide) ?_
  refine lv_iload C.1.1 C.1.2.1 dX12_tellGains_120 (lv_at hl 5 rfl) ?_
  refine lv_imul C.1.1 C.1.2.1 dX12_tellGains_122 ?_
  refine lv_isub C.1.1 C.1.2.1 dX12_tellGains_123 ?_
  refine lv_bipush (v := 6) C.1.1 C.1.2.1 dX12_tellGains_124 (by decide) ?_
  refine lv_iload_n C.1.1 C.1.2.1 dX12_tellGains_126 rfl (lv_at hl 3 rfl) ?_
  refine lv_iconst (v := 2) C.1.1 C.1.2.1 dX12_tellGains_127 (by decide) ?_
  refine lv_idiv C.1.1 C.1.2.1 dX12_tellGains_128 (by decide) ?_
  refine lv_imul C.1.1 C.1.2.1 dX12_tellGains_129 ?_
  refine lv_isub C.1.1 C.1.2.1 dX12_tellGains_130 ?_
  obtain ⟨h_1, hF⟩ := chk_some hF
  obtain ⟨S1, eS1, hF⟩ := lt_some hF
  refine m_w55 C O X  (inb_vp h_1) rfl eS1 dX12_tellGains_131 (fun H locs X => ?_)
  refine lv_aload_n C.1.1 C.1.2.1 dX12_tellGains_132 rfl (lv_at hl 0 rfl) ?_
  refine m_g55 C X dX12_tellGains_133 ?_
  refine lv_iconst (v := 2) C.1.1 C.1.2.1 dX12_tellGains_136 (by decide) ?_
  refine lv_iload_n C.1.1 C.1.2.1 dX12_tellGains_137 rfl (lv_at hl 3 rfl) ?_
  refine lv_imul C.1.1 C.1.2.1 dX12_tellGains_138 ?_
  refine lv_iconst (v := 1) C.1.1 C.1.2.1 dX12_tellGains_139 (by decide) ?_
  refine lv_iadd C.1.1 C.1.2.1 dX12_tellGains_140 ?_
  refine lv_iconst (v := 5) C.1.1 C.1.2.1 dX12_tellGains_141 (by decide) ?_
  refine lv_iload C.1.1 C.1.2.1 dX12_tellGains_142 (lv_at hl 5 rfl) ?_
  refine lv_imul C.1.1 C.1.2.1 dX12_tellGains_144 ?_
  refine lv_iconst (v := 3) C.1.1 C.1.2.1 dX12_tellGains_145 (by decide) ?_
  refine lv_iload C.1.1 C.1.2.1 dX12_tellGains_146 (lv_at hl 4 rfl) ?_
  refine lv_imul C.1.1 C.1.2.1 dX12_tellGains_148 ?_
  refine lv_isub C.1.1 C.1.2.1 dX12_tellGains_149 ?_
  refine lv_bipush (v := 6) C.1.1 C.1.2.1 dX12_tellGains_150 (by decide) ?_
  refine lv_iload_n C.1.1 C.1.2.1 dX12_tellGains_152 rfl (lv_at hl 3 rfl) ?_
  refine lv_iconst (v := 2) C.1.1 C.1.2.1 dX12_tellGains_153 (by decide) ?_
  refine lv_irem C.1.1 C.1.2.1 dX12_tellGains_154 (by decide) ?_
  refine lv_imul C.1.1 C.1.2.1 dX12_tellGains_155 ?_
  refine lv_isub C.1.1 C.1.2.1 dX12_tellGains_156 ?_
  obtain ⟨h_2, hF⟩ := chk_some hF
  obtain ⟨S2, eS2, hF⟩ := lt_some hF
  refine m_w55 C O X  (inb_vp h_2) rfl eS2 dX12_tellGains_157 (fun H locs X => ?_)
  refine lv_aload_n C.1.1 C.1.2.1 dX12_tellGains_158 rfl (lv_at hl 0 rfl) ?_
  refine lv_aload_n C.1.1 C.1.2.1 dX12_tellGains_159 rfl (lv_at hl 0 rfl) ?_
  refine m_g46 C X dX12_tellGains_160 ?_
  refine lv_iconst (v := 0) C.1.1 C.1.2.1 dX12_tellGains_163 (by decide) ?_
  obtain ⟨q1, hq1, hF⟩ := bnd_some hF
  refine m_callV C X vX12_unpack rfl (kX12_unpack O C.2.2.2.2.1 N 46 0 (rfl : mI 46 = true) S2 q1 hq1) (Nat.le_of_ble_eq_true rfl) (Nat.le_of_ble_eq_true rfl) (Nat.le_of_ble_eq_true rfl) (Nat.le_of_ble_eq_true rfl) rfl hl.1 rfl (Nat.le_of_ble_eq_true rfl) dX12_tellGains_164 (fun H locs X => ?_)
  refine lv_iinc (v := (x3 + 1 : Int32)) (lv' := [(3, .int ((x3 + 1 : Int32))), (0, .ref (g 99)), (1, .int x1), (2, .int x2), (4, .int x4), (5, .int x5)]) C.1.1 C.1.2.1 dX12_tellGains_167 hl (k := 3) rfl rfl (by decide) rfl (fun ls hl => ?_)
  refine lv_goto (tgt := 11) C.1.1 C.1.2.1 dX12_tellGains_170 (by decide) ?_
  exact K11 _ _ _ _ _ _ _ X (lv_sub hl [1, 2, 3, 0] rfl) hF
noncomputable def fX12_tellGains_b99 (N : Nat) (r11 : Int32 → Int32 → Int32 → gS → Option (Int32 × gS)) (r49 : Int32 → Int32 → Int32 → Int32 → Int32 → Int32 → gS → Option (Int32 × gS)) (x1 : Int32) (x2 : Int32) (x3 : Int32) (x4 : Int32) (x6 : Int32) (t0 : Int32) (t1 : Int32) (S : gS) : Option (Int32 × gS) := r49 x1 x2 x3 x4 ((t0 + t1 : Int32)) ((x6 + 1 : Int32)) S
theorem bX12_tellGains_99 {N : Nat} {r11 : Int32 → Int32 → Int32 → gS → Option (Int32 × gS)} {r49 : Int32 → Int32 → Int32 → Int32 → Int32 → Int32 → gS → Option (Int32 × gS)} {x1 : Int32} {x2 : Int32} {x3 : Int32} {x4 : Int32} {x6 : Int32} {t0 : Int32} {t1 : Int32} {S : gS} {H : Heap} {locs : List Loc} {ls : Array Slot} {o : Int32 × gS} (C : gC p s m args meth c cX12_tellGains 7 RX12 none D (mtys cI cS) mord g Am) (O : gO (mcell g cI cS sa) mord g) (K11 : ∀ (x1 : Int32) (x2 : Int32) (x3 : Int32) (S : gS) (H : Heap) (locs : List Loc) (ls : Array Slot), gX D (mcell g cI cS sa) mord g S s H locs → lv_has ls 7 [(0, .ref (g 99)), (1, .int x1), (2, .int x2), (3, .int x3)] → r11 x1 x2 x3 S = some o → W p l e (rmd 6) s m args below meth c H locs 0 0 (gE below args s D (mtys cI cS) (mcell g cI cS sa) mord g none o.2) (F0 m 11 ls [])) (K49 : ∀ (x1 : Int32) (x2 : Int32) (x3 : Int32) (x4 : Int32) (x5 : Int32) (x6 : Int32) (S : gS) (H : Heap) (locs : List Loc) (ls : Array Slot), gX D (mcell g cI cS sa) mord g S s H locs → lv_has ls 7 [(0, .ref (g 99)), (1, .int x1), (2, .int x2), (3, .int x3), (4, .int x4), (5, .int x5), (6, .int x6)] → r49 x1 x2 x3 x4 x5 x6 S = some o → W p l e (rmd 6) s m args below meth c H locs 0 0 (gE below args s D (mtys cI cS) (mcell g cI cS sa) mord g none o.2) (F0 m 49 ls [])) (X : gX D (mcell g cI cS sa) mord g S s H locs) (hl : lv_has ls 7 [(0, .ref (g 99)), (1, .int x1), (2, .int x2), (3, .int x3), (4, .int x4), (6, .int x6)]) (hF : fX12_tellGains_b99 N r11 r49 x1 x2 x3 x4 x6 t0 t1 S = some o) : W p l e (rmd 6) s m args below meth c H locs 0 0 (gE below args s D (mtys cI cS) (mcell g cI cS sa) mord g none o.2) (F0 m 99 ls [.int t1, .int t0]) := by
  unfold fX12_tellGains_b99 at hF
  refine lv_iadd C.1.1 C.1.2.1 dX12_tellGains_99 ?_
  refine lv_istore (lv' := [(5, .int ((t0 + t1 : Int32))), (0, .ref (g 99)), (1, .int x1), (2, .int x2), (3, .int x3), (4, .int x4), (6, .int x6)]) C.1.1 C.1.2.1 dX12_tellGains_100 hl (by decide) rfl (fun ls hl => ?_)
  refine lv_iinc (v := (x6 + 1 : Int32)) (lv' := [(6, .int ((x6 + 1 : Int32))), (5, .int ((t0 + t1 : Int32))), (0, .ref (g 99)), (1, .int x1), (2, .int x2), (3, .int x3), (4, .int x4)]) C.1.1 C.1.2.1 dX12_tellGains_102 hl (k := 6) rfl rfl (by decide) rfl (fun ls hl => ?_)
  refine lv_goto (tgt := 49) C.1.1 C.1.2.1 dX12_tellGains_105 (by decide) ?_
  exact K49 _ _ _ _ _ _ _ _ _ _ X (lv_sub hl [2, 3, 4, 5, 6, 1, 0] rfl) hF
noncomputable def fX12_tellGains_b98 (N : Nat) (r11 : Int32 → Int32 → Int32 → gS → Option (Int32 × gS)) (r49 : Int32 → Int32 → Int32 → Int32 → Int32 → Int32 → gS → Option (Int32 × gS)) (x1 : Int32) (x2 : Int32) (x3 : Int32) (x4 : Int32) (x6 : Int32) (t0 : Int32) (S : gS) : Option (Int32 × gS) := fX12_tellGains_b99 N r11 r49 x1 x2 x3 x4 x6 t0 1 S
theorem bX12_tellGains_98 {N : Nat} {r11 : Int32 → Int32 → Int32 → gS → Option (Int32 × gS)} {r49 : Int32 → Int32 → Int32 → Int32 → Int32 → Int32 → gS → Option (Int32 × gS)} {x1 : Int32} {x2 : Int32} {x3 : Int32} {x4 : Int32} {x6 : Int32} {t0 : Int32} {S : gS} {H : Heap} {locs : List Loc} {ls : Array Slot} {o : Int32 × gS} (C : gC p s m args meth c cX12_tellGains 7 RX12 none D (mtys cI cS) mord g Am) (O : gO (mcell g cI cS sa) mord g) (K11 : ∀ (x1 : Int32) (x2 : Int32) (x3 : Int32) (S : gS) (H : Heap) (locs : List Loc) (ls : Array Slot), gX D (mcell g cI cS sa) mord g S s H locs → lv_has ls 7 [(0, .ref (g 99)), (1, .int x1), (2, .int x2), (3, .int x3)] → r11 x1 x2 x3 S = some o → W p l e (rmd 6) s m args below meth c H locs 0 0 (gE below args s D (mtys cI cS) (mcell g cI cS sa) mord g none o.2) (F0 m 11 ls [])) (K49 : ∀ (x1 : Int32) (x2 : Int32) (x3 : Int32) (x4 : Int32) (x5 : Int32) (x6 : Int32) (S : gS) (H : Heap) (locs : List Loc) (ls : Array Slot), gX D (mcell g cI cS sa) mord g S s H locs → lv_has ls 7 [(0, .ref (g 99)), (1, .int x1), (2, .int x2), (3, .int x3), (4, .int x4), (5, .int x5), (6, .int x6)] → r49 x1 x2 x3 x4 x5 x6 S = some o → W p l e (rmd 6) s m args below meth c H locs 0 0 (gE below args s D (mtys cI cS) (mcell g cI cS sa) mord g none o.2) (F0 m 49 ls [])) (X : gX D (mcell g cI cS sa) mord g S s H locs) (hl : lv_has ls 7 [(0, .ref (g 99)), (1, .int x1), (2, .int x2), (3, .int x3), (4, .int x4), (6, .int x6)]) (hF : fX12_tellGains_b98 N r11 r49 x1 x2 x3 x4 x6 t0 S = some o) : W p l e (rmd 6) s m args below meth c H locs 0 0 (gE below args s D (mtys cI cS) (mcell g cI cS sa) mord g none o.2) (F0 m 98 ls [.int t0]) := by
  unfold fX12_tellGains_b98 at hF
  refine lv_iconst (v := 1) C.1.1 C.1.2.1 dX12_tellGains_98 (by decide) ?_
  exact bX12_tellGains_99 C O K11 K49 X (lv_sub hl [0, 1, 2, 3, 4, 5] rfl) hF
noncomputable def fX12_tellGains_b94 (N : Nat) (r11 : Int32 → Int32 → Int32 → gS → Option (Int32 × gS)) (r49 : Int32 → Int32 → Int32 → Int32 → Int32 → Int32 → gS → Option (Int32 × gS)) (x1 : Int32) (x2 : Int32) (x3 : Int32) (x4 : Int32) (x6 : Int32) (t0 : Int32) (S : gS) : Option (Int32 × gS) := fX12_tellGains_b99 N r11 r49 x1 x2 x3 x4 x6 t0 0 S
theorem bX12_tellGains_94 {N : Nat} {r11 : Int32 → Int32 → Int32 → gS → Option (Int32 × gS)} {r49 : Int32 → Int32 → Int32 → Int32 → Int32 → Int32 → gS → Option (Int32 × gS)} {x1 : Int32} {x2 : Int32} {x3 : Int32} {x4 : Int32} {x6 : Int32} {t0 : Int32} {S : gS} {H : Heap} {locs : List Loc} {ls : Array Slot} {o : Int32 × gS} (C : gC p s m args meth c cX12_tellGains 7 RX12 none D (mtys cI cS) mord g Am) (O : gO (mcell g cI cS sa) mord g) (K11 : ∀ (x1 : Int32) (x2 : Int32) (x3 : Int32) (S : gS) (H : Heap) (locs : List Loc) (ls : Array Slot), gX D (mcell g cI cS sa) mord g S s H locs → lv_has ls 7 [(0, .ref (g 99)), (1, .int x1), (2, .int x2), (3, .int x3)] → r11 x1 x2 x3 S = some o → W p l e (rmd 6) s m args below meth c H locs 0 0 (gE below args s D (mtys cI cS) (mcell g cI cS sa) mord g none o.2) (F0 m 11 ls [])) (K49 : ∀ (x1 : Int32) (x2 : Int32) (x3 : Int32) (x4 : Int32) (x5 : Int32) (x6 : Int32) (S : gS) (H : Heap) (locs : List Loc) (ls : Array Slot), gX D (mcell g cI cS sa) mord g S s H locs → lv_has ls 7 [(0, .ref (g 99)), (1, .int x1), (2, .int x2), (3, .int x3), (4, .int x4), (5, .int x5), (6, .int x6)] → r49 x1 x2 x3 x4 x5 x6 S = some o → W p l e (rmd 6) s m args below meth c H locs 0 0 (gE below args s D (mtys cI cS) (mcell g cI cS sa) mord g none o.2) (F0 m 49 ls [])) (X : gX D (mcell g cI cS sa) mord g S s H locs) (hl : lv_has ls 7 [(0, .ref (g 99)), (1, .int x1), (2, .int x2), (3, .int x3), (4, .int x4), (6, .int x6)]) (hF : fX12_tellGains_b94 N r11 r49 x1 x2 x3 x4 x6 t0 S = some o) : W p l e (rmd 6) s m args below meth c H locs 0 0 (gE below args s D (mtys cI cS) (mcell g cI cS sa) mord g none o.2) (F0 m 94 ls [.int t0]) := by
  unfold fX12_tellGains_b94 at hF
  refine lv_iconst (v := 0) C.1.1 C.1.2.1 dX12_tellGains_94 (by decide) ?_
  refine lv_goto (tgt := 99) C.1.1 C.1.2.1 dX12_tellGains_95 (by decide) ?_
  exact bX12_tellGains_99 C O K11 K49 X (lv_sub hl [0, 1, 2, 3, 4, 5] rfl) hF
noncomputable def fX12_tellGains_b78 (N : Nat) (r11 : Int32 → Int32 → Int32 → gS → Option (Int32 × gS)) (r49 : Int32 → Int32 → Int32 → Int32 → Int32 → Int32 → gS → Option (Int32 × gS)) (x1 : Int32) (x2 : Int32) (x3 : Int32) (x5 : Int32) (x6 : Int32) (t0 : Int32) (t1 : Int32) (S : gS) : Option (Int32 × gS) := bnd (fX12_isOf N (S 99 45) x2 S) fun q1 => (if q1.1 = 0 then fX12_tellGains_b98 N r11 r49 x1 x2 x3 ((t0 + t1 : Int32)) x6 x5 q1.2 else fX12_tellGains_b94 N r11 r49 x1 x2 x3 ((t0 + t1 : Int32)) x6 x5 q1.2)
theorem bX12_tellGains_78 {N : Nat} {r11 : Int32 → Int32 → Int32 → gS → Option (Int32 × gS)} {r49 : Int32 → Int32 → Int32 → Int32 → Int32 → Int32 → gS → Option (Int32 × gS)} {x1 : Int32} {x2 : Int32} {x3 : Int32} {x5 : Int32} {x6 : Int32} {t0 : Int32} {t1 : Int32} {S : gS} {H : Heap} {locs : List Loc} {ls : Array Slot} {o : Int32 × gS} (C : gC p s m args meth c cX12_tellGains 7 RX12 none D (mtys cI cS) mord g Am) (O : gO (mcell g cI cS sa) mord g) (K11 : ∀ (x1 : Int32) (x2 : Int32) (x3 : Int32) (S : gS) (H : Heap) (locs : List Loc) (ls : Array Slot), gX D (mcell g cI cS sa) mord g S s H locs → lv_has ls 7 [(0, .ref (g 99)), (1, .int x1), (2, .int x2), (3, .int x3)] → r11 x1 x2 x3 S = some o → W p l e (rmd 6) s m args below meth c H locs 0 0 (gE below args s D (mtys cI cS) (mcell g cI cS sa) mord g none o.2) (F0 m 11 ls [])) (K49 : ∀ (x1 : Int32) (x2 : Int32) (x3 : Int32) (x4 : Int32) (x5 : Int32) (x6 : Int32) (S : gS) (H : Heap) (locs : List Loc) (ls : Array Slot), gX D (mcell g cI cS sa) mord g S s H locs → lv_has ls 7 [(0, .ref (g 99)), (1, .int x1), (2, .int x2), (3, .int x3), (4, .int x4), (5, .int x5), (6, .int x6)] → r49 x1 x2 x3 x4 x5 x6 S = some o → W p l e (rmd 6) s m args below meth c H locs 0 0 (gE below args s D (mtys cI cS) (mcell g cI cS sa) mord g none o.2) (F0 m 49 ls [])) (X : gX D (mcell g cI cS sa) mord g S s H locs) (hl : lv_has ls 7 [(0, .ref (g 99)), (1, .int x1), (2, .int x2), (3, .int x3), (5, .int x5), (6, .int x6)]) (hF : fX12_tellGains_b78 N r11 r49 x1 x2 x3 x5 x6 t0 t1 S = some o) : W p l e (rmd 6) s m args below meth c H locs 0 0 (gE below args s D (mtys cI cS) (mcell g cI cS sa) mord g none o.2) (F0 m 78 ls [.int t1, .int t0]) := by
  unfold fX12_tellGains_b78 at hF
  refine lv_iadd C.1.1 C.1.2.1 dX12_tellGains_78 ?_
  refine lv_istore (lv' := [(4, .int ((t0 + t1 : Int32))), (0, .ref (g 99)), (1, .int x1), (2, .int x2), (3, .int x3), (5, .int x5), (6, .int x6)]) C.1.1 C.1.2.1 dX12_tellGains_79 hl (by decide) rfl (fun ls hl => ?_)
  refine lv_iload C.1.1 C.1.2.1 dX12_tellGains_81 (lv_at hl 5 rfl) ?_
  refine lv_aload_n C.1.1 C.1.2.1 dX12_tellGains_83 rfl (lv_at hl 1 rfl) ?_
  refine m_g45 C X dX12_tellGains_84 ?_
  refine lv_iload_n C.1.1 C.1.2.1 dX12_tellGains_87 rfl (lv_at hl 3 rfl) ?_
  obtain ⟨q1, hq1, hF⟩ := bnd_some hF
  refine g_callSi C X vX12_isOf (kX12_isOf O C.2.2.2.2.1 N (S 99 45) x2  S q1 hq1) (Nat.le_of_ble_eq_true rfl) (Nat.le_of_ble_eq_true rfl) (Nat.le_of_ble_eq_true rfl) (Nat.le_of_ble_eq_true rfl) rfl hl.1 rfl (Nat.le_of_ble_eq_true rfl) dX12_tellGains_88 (fun H locs X => ?_)
  refine lv_if_eq (tgt := 98) C.1.1 C.1.2.1 dX12_tellGains_91 (by decide) (fun h_z => ?_) (fun h_z => ?_)
  · rw [if_pos h_z] at hF
    exact bX12_tellGains_98 C O K11 K49 X (lv_sub hl [1, 2, 3, 4, 0, 6] rfl) hF
  · rw [if_neg h_z] at hF
    exact bX12_tellGains_94 C O K11 K49 X (lv_sub hl [1, 2, 3, 4, 0, 6] rfl) hF
noncomputable def fX12_tellGains_b77 (N : Nat) (r11 : Int32 → Int32 → Int32 → gS → Option (Int32 × gS)) (r49 : Int32 → Int32 → Int32 → Int32 → Int32 → Int32 → gS → Option (Int32 × gS)) (x1 : Int32) (x2 : Int32) (x3 : Int32) (x5 : Int32) (x6 : Int32) (t0 : Int32) (S : gS) : Option (Int32 × gS) := fX12_tellGains_b78 N r11 r49 x1 x2 x3 x5 x6 t0 1 S
theorem bX12_tellGains_77 {N : Nat} {r11 : Int32 → Int32 → Int32 → gS → Option (Int32 × gS)} {r49 : Int32 → Int32 → Int32 → Int32 → Int32 → Int32 → gS → Option (Int32 × gS)} {x1 : Int32} {x2 : Int32} {x3 : Int32} {x5 : Int32} {x6 : Int32} {t0 : Int32} {S : gS} {H : Heap} {locs : List Loc} {ls : Array Slot} {o : Int32 × gS} (C : gC p s m args meth c cX12_tellGains 7 RX12 none D (mtys cI cS) mord g Am) (O : gO (mcell g cI cS sa) mord g) (K11 : ∀ (x1 : Int32) (x2 : Int32) (x3 : Int32) (S : gS) (H : Heap) (locs : List Loc) (ls : Array Slot), gX D (mcell g cI cS sa) mord g S s H locs → lv_has ls 7 [(0, .ref (g 99)), (1, .int x1), (2, .int x2), (3, .int x3)] → r11 x1 x2 x3 S = some o → W p l e (rmd 6) s m args below meth c H locs 0 0 (gE below args s D (mtys cI cS) (mcell g cI cS sa) mord g none o.2) (F0 m 11 ls [])) (K49 : ∀ (x1 : Int32) (x2 : Int32) (x3 : Int32) (x4 : Int32) (x5 : Int32) (x6 : Int32) (S : gS) (H : Heap) (locs : List Loc) (ls : Array Slot), gX D (mcell g cI cS sa) mord g S s H locs → lv_has ls 7 [(0, .ref (g 99)), (1, .int x1), (2, .int x2), (3, .int x3), (4, .int x4), (5, .int x5), (6, .int x6)] → r49 x1 x2 x3 x4 x5 x6 S = some o → W p l e (rmd 6) s m args below meth c H locs 0 0 (gE below args s D (mtys cI cS) (mcell g cI cS sa) mord g none o.2) (F0 m 49 ls [])) (X : gX D (mcell g cI cS sa) mord g S s H locs) (hl : lv_has ls 7 [(0, .ref (g 99)), (1, .int x1), (2, .int x2), (3, .int x3), (5, .int x5), (6, .int x6)]) (hF : fX12_tellGains_b77 N r11 r49 x1 x2 x3 x5 x6 t0 S = some o) : W p l e (rmd 6) s m args below meth c H locs 0 0 (gE below args s D (mtys cI cS) (mcell g cI cS sa) mord g none o.2) (F0 m 77 ls [.int t0]) := by
  unfold fX12_tellGains_b77 at hF
  refine lv_iconst (v := 1) C.1.1 C.1.2.1 dX12_tellGains_77 (by decide) ?_
  exact bX12_tellGains_78 C O K11 K49 X (lv_sub hl [0, 1, 2, 3, 4, 5] rfl) hF
noncomputable def fX12_tellGains_b73 (N : Nat) (r11 : Int32 → Int32 → Int32 → gS → Option (Int32 × gS)) (r49 : Int32 → Int32 → Int32 → Int32 → Int32 → Int32 → gS → Option (Int32 × gS)) (x1 : Int32) (x2 : Int32) (x3 : Int32) (x5 : Int32) (x6 : Int32) (t0 : Int32) (S : gS) : Option (Int32 × gS) := fX12_tellGains_b78 N r11 r49 x1 x2 x3 x5 x6 t0 0 S
theorem bX12_tellGains_73 {N : Nat} {r11 : Int32 → Int32 → Int32 → gS → Option (Int32 × gS)} {r49 : Int32 → Int32 → Int32 → Int32 → Int32 → Int32 → gS → Option (Int32 × gS)} {x1 : Int32} {x2 : Int32} {x3 : Int32} {x5 : Int32} {x6 : Int32} {t0 : Int32} {S : gS} {H : Heap} {locs : List Loc} {ls : Array Slot} {o : Int32 × gS} (C : gC p s m args meth c cX12_tellGains 7 RX12 none D (mtys cI cS) mord g Am) (O : gO (mcell g cI cS sa) mord g) (K11 : ∀ (x1 : Int32) (x2 : Int32) (x3 : Int32) (S : gS) (H : Heap) (locs : List Loc) (ls : Array Slot), gX D (mcell g cI cS sa) mord g S s H locs → lv_has ls 7 [(0, .ref (g 99)), (1, .int x1), (2, .int x2), (3, .int x3)] → r11 x1 x2 x3 S = some o → W p l e (rmd 6) s m args below meth c H locs 0 0 (gE below args s D (mtys cI cS) (mcell g cI cS sa) mord g none o.2) (F0 m 11 ls [])) (K49 : ∀ (x1 : Int32) (x2 : Int32) (x3 : Int32) (x4 : Int32) (x5 : Int32) (x6 : Int32) (S : gS) (H : Heap) (locs : List Loc) (ls : Array Slot), gX D (mcell g cI cS sa) mord g S s H locs → lv_has ls 7 [(0, .ref (g 99)), (1, .int x1), (2, .int x2), (3, .int x3), (4, .int x4), (5, .int x5), (6, .int x6)] → r49 x1 x2 x3 x4 x5 x6 S = some o → W p l e (rmd 6) s m args below meth c H locs 0 0 (gE below args s D (mtys cI cS) (mcell g cI cS sa) mord g none o.2) (F0 m 49 ls [])) (X : gX D (mcell g cI cS sa) mord g S s H locs) (hl : lv_has ls 7 [(0, .ref (g 99)), (1, .int x1), (2, .int x2), (3, .int x3), (5, .int x5), (6, .int x6)]) (hF : fX12_tellGains_b73 N r11 r49 x1 x2 x3 x5 x6 t0 S = some o) : W p l e (rmd 6) s m args below meth c H locs 0 0 (gE below args s D (mtys cI cS) (mcell g cI cS sa) mord g none o.2) (F0 m 73 ls [.int t0]) := by
  unfold fX12_tellGains_b73 at hF
  refine lv_iconst (v := 0) C.1.1 C.1.2.1 dX12_tellGains_73 (by decide) ?_
  refine lv_goto (tgt := 78) C.1.1 C.1.2.1 dX12_tellGains_74 (by decide) ?_
  exact bX12_tellGains_78 C O K11 K49 X (lv_sub hl [0, 1, 2, 3, 4, 5] rfl) hF
noncomputable def fX12_tellGains_b56 (N : Nat) (r11 : Int32 → Int32 → Int32 → gS → Option (Int32 × gS)) (r49 : Int32 → Int32 → Int32 → Int32 → Int32 → Int32 → gS → Option (Int32 × gS)) (x1 : Int32) (x2 : Int32) (x3 : Int32) (x4 : Int32) (x5 : Int32) (x6 : Int32) (S : gS) : Option (Int32 × gS) := bnd (fX12_anHour N  S) fun q1 => (bnd (fX12_isOf N (q1.2 99 45) x1 q1.2) fun q2 => (if q2.1 = 0 then fX12_tellGains_b77 N r11 r49 x1 x2 x3 x5 x6 x4 q2.2 else fX12_tellGains_b73 N r11 r49 x1 x2 x3 x5 x6 x4 q2.2))
theorem bX12_tellGains_56 {N : Nat} {r11 : Int32 → Int32 → Int32 → gS → Option (Int32 × gS)} {r49 : Int32 → Int32 → Int32 → Int32 → Int32 → Int32 → gS → Option (Int32 × gS)} {x1 : Int32} {x2 : Int32} {x3 : Int32} {x4 : Int32} {x5 : Int32} {x6 : Int32} {S : gS} {H : Heap} {locs : List Loc} {ls : Array Slot} {o : Int32 × gS} (C : gC p s m args meth c cX12_tellGains 7 RX12 none D (mtys cI cS) mord g Am) (O : gO (mcell g cI cS sa) mord g) (K11 : ∀ (x1 : Int32) (x2 : Int32) (x3 : Int32) (S : gS) (H : Heap) (locs : List Loc) (ls : Array Slot), gX D (mcell g cI cS sa) mord g S s H locs → lv_has ls 7 [(0, .ref (g 99)), (1, .int x1), (2, .int x2), (3, .int x3)] → r11 x1 x2 x3 S = some o → W p l e (rmd 6) s m args below meth c H locs 0 0 (gE below args s D (mtys cI cS) (mcell g cI cS sa) mord g none o.2) (F0 m 11 ls [])) (K49 : ∀ (x1 : Int32) (x2 : Int32) (x3 : Int32) (x4 : Int32) (x5 : Int32) (x6 : Int32) (S : gS) (H : Heap) (locs : List Loc) (ls : Array Slot), gX D (mcell g cI cS sa) mord g S s H locs → lv_has ls 7 [(0, .ref (g 99)), (1, .int x1), (2, .int x2), (3, .int x3), (4, .int x4), (5, .int x5), (6, .int x6)] → r49 x1 x2 x3 x4 x5 x6 S = some o → W p l e (rmd 6) s m args below meth c H locs 0 0 (gE below args s D (mtys cI cS) (mcell g cI cS sa) mord g none o.2) (F0 m 49 ls [])) (X : gX D (mcell g cI cS sa) mord g S s H locs) (hl : lv_has ls 7 [(0, .ref (g 99)), (1, .int x1), (2, .int x2), (3, .int x3), (4, .int x4), (5, .int x5), (6, .int x6)]) (hF : fX12_tellGains_b56 N r11 r49 x1 x2 x3 x4 x5 x6 S = some o) : W p l e (rmd 6) s m args below meth c H locs 0 0 (gE below args s D (mtys cI cS) (mcell g cI cS sa) mord g none o.2) (F0 m 56 ls []) := by
  unfold fX12_tellGains_b56 at hF
  refine lv_aload_n C.1.1 C.1.2.1 dX12_tellGains_56 rfl (lv_at hl 0 rfl) ?_
  obtain ⟨q1, hq1, hF⟩ := bnd_some hF
  refine m_callV C X vX12_anHour rfl (kX12_anHour O C.2.2.2.2.1 N   S q1 hq1) (Nat.le_of_ble_eq_true rfl) (Nat.le_of_ble_eq_true rfl) (Nat.le_of_ble_eq_true rfl) (Nat.le_of_ble_eq_true rfl) rfl hl.1 rfl (Nat.le_of_ble_eq_true rfl) dX12_tellGains_57 (fun H locs X => ?_)
  refine lv_iload C.1.1 C.1.2.1 dX12_tellGains_60 (lv_at hl 4 rfl) ?_
  refine lv_aload_n C.1.1 C.1.2.1 dX12_tellGains_62 rfl (lv_at hl 0 rfl) ?_
  refine m_g45 C X dX12_tellGains_63 ?_
  refine lv_iload_n C.1.1 C.1.2.1 dX12_tellGains_66 rfl (lv_at hl 1 rfl) ?_
  obtain ⟨q2, hq2, hF⟩ := bnd_some hF
  refine g_callSi C X vX12_isOf (kX12_isOf O C.2.2.2.2.1 N (q1.2 99 45) x1  q1.2 q2 hq2) (Nat.le_of_ble_eq_true rfl) (Nat.le_of_ble_eq_true rfl) (Nat.le_of_ble_eq_true rfl) (Nat.le_of_ble_eq_true rfl) rfl hl.1 rfl (Nat.le_of_ble_eq_true rfl) dX12_tellGains_67 (fun H locs X => ?_)
  refine lv_if_eq (tgt := 77) C.1.1 C.1.2.1 dX12_tellGains_70 (by decide) (fun h_z => ?_) (fun h_z => ?_)
  · rw [if_pos h_z] at hF
    exact bX12_tellGains_77 C O K11 K49 X (lv_sub hl [0, 1, 2, 3, 5, 6] rfl) hF
  · rw [if_neg h_z] at hF
    exact bX12_tellGains_73 C O K11 K49 X (lv_sub hl [0, 1, 2, 3, 5, 6] rfl) hF
noncomputable def fX12_tellGains_b49 (N : Nat) (r11 : Int32 → Int32 → Int32 → gS → Option (Int32 × gS)) (r49 : Int32 → Int32 → Int32 → Int32 → Int32 → Int32 → gS → Option (Int32 × gS)) (x1 : Int32) (x2 : Int32) (x3 : Int32) (x4 : Int32) (x5 : Int32) (x6 : Int32) (S : gS) : Option (Int32 × gS) := if 8 ≤ x6 then fX12_tellGains_b108 N r11 x1 x2 x3 x4 x5 S else fX12_tellGains_b56 N r11 r49 x1 x2 x3 x4 x5 x6 S
theorem bX12_tellGains_49 {N : Nat} {r11 : Int32 → Int32 → Int32 → gS → Option (Int32 × gS)} {r49 : Int32 → Int32 → Int32 → Int32 → Int32 → Int32 → gS → Option (Int32 × gS)} {x1 : Int32} {x2 : Int32} {x3 : Int32} {x4 : Int32} {x5 : Int32} {x6 : Int32} {S : gS} {H : Heap} {locs : List Loc} {ls : Array Slot} {o : Int32 × gS} (C : gC p s m args meth c cX12_tellGains 7 RX12 none D (mtys cI cS) mord g Am) (O : gO (mcell g cI cS sa) mord g) (K11 : ∀ (x1 : Int32) (x2 : Int32) (x3 : Int32) (S : gS) (H : Heap) (locs : List Loc) (ls : Array Slot), gX D (mcell g cI cS sa) mord g S s H locs → lv_has ls 7 [(0, .ref (g 99)), (1, .int x1), (2, .int x2), (3, .int x3)] → r11 x1 x2 x3 S = some o → W p l e (rmd 6) s m args below meth c H locs 0 0 (gE below args s D (mtys cI cS) (mcell g cI cS sa) mord g none o.2) (F0 m 11 ls [])) (K49 : ∀ (x1 : Int32) (x2 : Int32) (x3 : Int32) (x4 : Int32) (x5 : Int32) (x6 : Int32) (S : gS) (H : Heap) (locs : List Loc) (ls : Array Slot), gX D (mcell g cI cS sa) mord g S s H locs → lv_has ls 7 [(0, .ref (g 99)), (1, .int x1), (2, .int x2), (3, .int x3), (4, .int x4), (5, .int x5), (6, .int x6)] → r49 x1 x2 x3 x4 x5 x6 S = some o → W p l e (rmd 6) s m args below meth c H locs 0 0 (gE below args s D (mtys cI cS) (mcell g cI cS sa) mord g none o.2) (F0 m 49 ls [])) (X : gX D (mcell g cI cS sa) mord g S s H locs) (hl : lv_has ls 7 [(0, .ref (g 99)), (1, .int x1), (2, .int x2), (3, .int x3), (4, .int x4), (5, .int x5), (6, .int x6)]) (hF : fX12_tellGains_b49 N r11 r49 x1 x2 x3 x4 x5 x6 S = some o) : W p l e (rmd 6) s m args below meth c H locs 0 0 (gE below args s D (mtys cI cS) (mcell g cI cS sa) mord g none o.2) (F0 m 49 ls []) := by
  unfold fX12_tellGains_b49 at hF
  refine lv_iload C.1.1 C.1.2.1 dX12_tellGains_49 (lv_at hl 6 rfl) ?_
  refine lv_bipush (v := 8) C.1.1 C.1.2.1 dX12_tellGains_51 (by decide) ?_
  refine lv_icmp_ge (tgt := 108) C.1.1 C.1.2.1 dX12_tellGains_53 (by decide) (fun h_z => ?_) (fun h_z => ?_)
  · rw [if_pos h_z] at hF
    exact bX12_tellGains_108 C O K11 X (lv_sub hl [0, 1, 2, 3, 4, 5] rfl) hF
  · rw [if_neg h_z] at hF
    exact bX12_tellGains_56 C O K11 K49 X (lv_sub hl [0, 1, 2, 3, 4, 5, 6] rfl) hF
noncomputable def fX12_tellGains_h49 (N : Nat) (r11 : Int32 → Int32 → Int32 → gS → Option (Int32 × gS)) : Nat → Int32 → Int32 → Int32 → Int32 → Int32 → Int32 → gS → Option (Int32 × gS)
  | 0, _, _, _, _, _, _, _ => none
  | n + 1, x1, x2, x3, x4, x5, x6, S => fX12_tellGains_b49 N r11 (fX12_tellGains_h49 N r11 n) x1 x2 x3 x4 x5 x6 S
theorem hX12_tellGains_49 {N : Nat} {r11 : Int32 → Int32 → Int32 → gS → Option (Int32 × gS)} {o : Int32 × gS} (C : gC p s m args meth c cX12_tellGains 7 RX12 none D (mtys cI cS) mord g Am) (O : gO (mcell g cI cS sa) mord g) (K11 : ∀ (x1 : Int32) (x2 : Int32) (x3 : Int32) (S : gS) (H : Heap) (locs : List Loc) (ls : Array Slot), gX D (mcell g cI cS sa) mord g S s H locs → lv_has ls 7 [(0, .ref (g 99)), (1, .int x1), (2, .int x2), (3, .int x3)] → r11 x1 x2 x3 S = some o → W p l e (rmd 6) s m args below meth c H locs 0 0 (gE below args s D (mtys cI cS) (mcell g cI cS sa) mord g none o.2) (F0 m 11 ls [])) : ∀ (n : Nat) (x1 : Int32) (x2 : Int32) (x3 : Int32) (x4 : Int32) (x5 : Int32) (x6 : Int32) (S : gS) (H : Heap) (locs : List Loc) (ls : Array Slot), gX D (mcell g cI cS sa) mord g S s H locs → lv_has ls 7 [(0, .ref (g 99)), (1, .int x1), (2, .int x2), (3, .int x3), (4, .int x4), (5, .int x5), (6, .int x6)] → fX12_tellGains_h49 N r11 n x1 x2 x3 x4 x5 x6 S = some o → W p l e (rmd 6) s m args below meth c H locs 0 0 (gE below args s D (mtys cI cS) (mcell g cI cS sa) mord g none o.2) (F0 m 49 ls []) := by
  intro n
  induction n with
  | zero =>
    intro x1 x2 x3 x4 x5 x6 S H locs ls X hl hF
    exact absurd (show (none : Option (Int32 × gS)) = some o from hF) (by simp)
  | succ n ih =>
    intro x1 x2 x3 x4 x5 x6 S H locs ls X hl hF
    have hF : fX12_tellGains_b49 N r11 (fX12_tellGains_h49 N r11 n) x1 x2 x3 x4 x5 x6 S = some o := hF
    exact bX12_tellGains_49 C O K11 ih X hl hF
noncomputable def fX12_tellGains_b40 (N : Nat) (r11 : Int32 → Int32 → Int32 → gS → Option (Int32 × gS)) (x1 : Int32) (x2 : Int32) (x3 : Int32) (S : gS) : Option (Int32 × gS) := fX12_tellGains_h49 N r11 N x1 x2 x3 0 0 0 S
theorem bX12_tellGains_40 {N : Nat} {r11 : Int32 → Int32 → Int32 → gS → Option (Int32 × gS)} {x1 : Int32} {x2 : Int32} {x3 : Int32} {S : gS} {H : Heap} {locs : List Loc} {ls : Array Slot} {o : Int32 × gS} (C : gC p s m args meth c cX12_tellGains 7 RX12 none D (mtys cI cS) mord g Am) (O : gO (mcell g cI cS sa) mord g) (K11 : ∀ (x1 : Int32) (x2 : Int32) (x3 : Int32) (S : gS) (H : Heap) (locs : List Loc) (ls : Array Slot), gX D (mcell g cI cS sa) mord g S s H locs → lv_has ls 7 [(0, .ref (g 99)), (1, .int x1), (2, .int x2), (3, .int x3)] → r11 x1 x2 x3 S = some o → W p l e (rmd 6) s m args below meth c H locs 0 0 (gE below args s D (mtys cI cS) (mcell g cI cS sa) mord g none o.2) (F0 m 11 ls [])) (X : gX D (mcell g cI cS sa) mord g S s H locs) (hl : lv_has ls 7 [(0, .ref (g 99)), (1, .int x1), (2, .int x2), (3, .int x3)]) (hF : fX12_tellGains_b40 N r11 x1 x2 x3 S = some o) : W p l e (rmd 6) s m args below meth c H locs 0 0 (gE below args s D (mtys cI cS) (mcell g cI cS sa) mord g none o.2) (F0 m 40 ls []) := by
  unfold fX12_tellGains_b40 at hF
  refine lv_iconst (v := 0) C.1.1 C.1.2.1 dX12_tellGains_40 (by decide) ?_
  refine lv_istore (lv' := [(4, .int 0), (0, .ref (g 99)), (1, .int x1), (2, .int x2), (3, .int x3)]) C.1.1 C.1.2.1 dX12_tellGains_41 hl (by decide) rfl (fun ls hl => ?_)
  refine lv_iconst (v := 0) C.1.1 C.1.2.1 dX12_tellGains_43 (by decide) ?_
  refine lv_istore (lv' := [(5, .int 0), (4, .int 0), (0, .ref (g 99)), (1, .int x1), (2, .int x2), (3, .int x3)]) C.1.1 C.1.2.1 dX12_tellGains_44 hl (by decide) rfl (fun ls hl => ?_)
  refine lv_iconst (v := 0) C.1.1 C.1.2.1 dX12_tellGains_46 (by decide) ?_
  refine lv_istore (lv' := [(6, .int 0), (5, .int 0), (4, .int 0), (0, .ref (g 99)), (1, .int x1), (2, .int x2), (3, .int x3)]) C.1.1 C.1.2.1 dX12_tellGains_47 hl (by decide) rfl (fun ls hl => ?_)
  exact hX12_tellGains_49 C O K11 N _ _ _ _ _ _ _ _ _ _ X (lv_sub hl [3, 4, 5, 6, 2, 1, 0] rfl) hF
noncomputable def fX12_tellGains_b35 (N : Nat) (r11 : Int32 → Int32 → Int32 → gS → Option (Int32 × gS)) (x1 : Int32) (x2 : Int32) (x3 : Int32) (S : gS) : Option (Int32 × gS) := bnd (fX12_doConfess N x2 S) fun q1 => (fX12_tellGains_b40 N r11 x1 x2 x3 q1.2)
theorem bX12_tellGains_35 {N : Nat} {r11 : Int32 → Int32 → Int32 → gS → Option (Int32 × gS)} {x1 : Int32} {x2 : Int32} {x3 : Int32} {S : gS} {H : Heap} {locs : List Loc} {ls : Array Slot} {o : Int32 × gS} (C : gC p s m args meth c cX12_tellGains 7 RX12 none D (mtys cI cS) mord g Am) (O : gO (mcell g cI cS sa) mord g) (K11 : ∀ (x1 : Int32) (x2 : Int32) (x3 : Int32) (S : gS) (H : Heap) (locs : List Loc) (ls : Array Slot), gX D (mcell g cI cS sa) mord g S s H locs → lv_has ls 7 [(0, .ref (g 99)), (1, .int x1), (2, .int x2), (3, .int x3)] → r11 x1 x2 x3 S = some o → W p l e (rmd 6) s m args below meth c H locs 0 0 (gE below args s D (mtys cI cS) (mcell g cI cS sa) mord g none o.2) (F0 m 11 ls [])) (X : gX D (mcell g cI cS sa) mord g S s H locs) (hl : lv_has ls 7 [(0, .ref (g 99)), (1, .int x1), (2, .int x2), (3, .int x3)]) (hF : fX12_tellGains_b35 N r11 x1 x2 x3 S = some o) : W p l e (rmd 6) s m args below meth c H locs 0 0 (gE below args s D (mtys cI cS) (mcell g cI cS sa) mord g none o.2) (F0 m 35 ls []) := by
  unfold fX12_tellGains_b35 at hF
  refine lv_aload_n C.1.1 C.1.2.1 dX12_tellGains_35 rfl (lv_at hl 0 rfl) ?_
  refine lv_iload_n C.1.1 C.1.2.1 dX12_tellGains_36 rfl (lv_at hl 2 rfl) ?_
  obtain ⟨q1, hq1, hF⟩ := bnd_some hF
  refine m_callV C X vX12_doConfess rfl (kX12_doConfess O C.2.2.2.2.1 N x2  S q1 hq1) (Nat.le_of_ble_eq_true rfl) (Nat.le_of_ble_eq_true rfl) (Nat.le_of_ble_eq_true rfl) (Nat.le_of_ble_eq_true rfl) rfl hl.1 rfl (Nat.le_of_ble_eq_true rfl) dX12_tellGains_37 (fun H locs X => ?_)
  exact bX12_tellGains_40 C O K11 X (lv_sub hl [0, 1, 2, 3] rfl) hF
noncomputable def fX12_tellGains_b28 (N : Nat) (r11 : Int32 → Int32 → Int32 → gS → Option (Int32 × gS)) (x1 : Int32) (x2 : Int32) (x3 : Int32) (S : gS) : Option (Int32 × gS) := if ((x3 - x3 / 2 * 2 : Int32)) = 1 then fX12_tellGains_b35 N r11 x1 x2 x3 S else fX12_tellGains_b40 N r11 x1 x2 x3 S
theorem bX12_tellGains_28 {N : Nat} {r11 : Int32 → Int32 → Int32 → gS → Option (Int32 × gS)} {x1 : Int32} {x2 : Int32} {x3 : Int32} {S : gS} {H : Heap} {locs : List Loc} {ls : Array Slot} {o : Int32 × gS} (C : gC p s m args meth c cX12_tellGains 7 RX12 none D (mtys cI cS) mord g Am) (O : gO (mcell g cI cS sa) mord g) (K11 : ∀ (x1 : Int32) (x2 : Int32) (x3 : Int32) (S : gS) (H : Heap) (locs : List Loc) (ls : Array Slot), gX D (mcell g cI cS sa) mord g S s H locs → lv_has ls 7 [(0, .ref (g 99)), (1, .int x1), (2, .int x2), (3, .int x3)] → r11 x1 x2 x3 S = some o → W p l e (rmd 6) s m args below meth c H locs 0 0 (gE below args s D (mtys cI cS) (mcell g cI cS sa) mord g none o.2) (F0 m 11 ls [])) (X : gX D (mcell g cI cS sa) mord g S s H locs) (hl : lv_has ls 7 [(0, .ref (g 99)), (1, .int x1), (2, .int x2), (3, .int x3)]) (hF : fX12_tellGains_b28 N r11 x1 x2 x3 S = some o) : W p l e (rmd 6) s m args below meth c H locs 0 0 (gE below args s D (mtys cI cS) (mcell g cI cS sa) mord g none o.2) (F0 m 28 ls []) := by
  unfold fX12_tellGains_b28 at hF
  refine lv_iload_n C.1.1 C.1.2.1 dX12_tellGains_28 rfl (lv_at hl 3 rfl) ?_
  refine lv_iconst (v := 2) C.1.1 C.1.2.1 dX12_tellGains_29 (by decide) ?_
  refine lv_irem C.1.1 C.1.2.1 dX12_tellGains_30 (by decide) ?_
  refine lv_iconst (v := 1) C.1.1 C.1.2.1 dX12_tellGains_31 (by decide) ?_
  refine lv_icmp_ne (tgt := 40) C.1.1 C.1.2.1 dX12_tellGains_32 (by decide) (fun h_z => ?_) (fun h_z => ?_)
  · rw [if_neg h_z] at hF
    exact bX12_tellGains_40 C O K11 X (lv_sub hl [0, 1, 2, 3] rfl) hF
  · rw [if_pos h_z] at hF
    exact bX12_tellGains_35 C O K11 X (lv_sub hl [0, 1, 2, 3] rfl) hF
noncomputable def fX12_tellGains_b23 (N : Nat) (r11 : Int32 → Int32 → Int32 → gS → Option (Int32 × gS)) (x1 : Int32) (x2 : Int32) (x3 : Int32) (S : gS) : Option (Int32 × gS) := bnd (fX12_doConfess N x1 S) fun q1 => (fX12_tellGains_b28 N r11 x1 x2 x3 q1.2)
theorem bX12_tellGains_23 {N : Nat} {r11 : Int32 → Int32 → Int32 → gS → Option (Int32 × gS)} {x1 : Int32} {x2 : Int32} {x3 : Int32} {S : gS} {H : Heap} {locs : List Loc} {ls : Array Slot} {o : Int32 × gS} (C : gC p s m args meth c cX12_tellGains 7 RX12 none D (mtys cI cS) mord g Am) (O : gO (mcell g cI cS sa) mord g) (K11 : ∀ (x1 : Int32) (x2 : Int32) (x3 : Int32) (S : gS) (H : Heap) (locs : List Loc) (ls : Array Slot), gX D (mcell g cI cS sa) mord g S s H locs → lv_has ls 7 [(0, .ref (g 99)), (1, .int x1), (2, .int x2), (3, .int x3)] → r11 x1 x2 x3 S = some o → W p l e (rmd 6) s m args below meth c H locs 0 0 (gE below args s D (mtys cI cS) (mcell g cI cS sa) mord g none o.2) (F0 m 11 ls [])) (X : gX D (mcell g cI cS sa) mord g S s H locs) (hl : lv_has ls 7 [(0, .ref (g 99)), (1, .int x1), (2, .int x2), (3, .int x3)]) (hF : fX12_tellGains_b23 N r11 x1 x2 x3 S = some o) : W p l e (rmd 6) s m args below meth c H locs 0 0 (gE below args s D (mtys cI cS) (mcell g cI cS sa) mord g none o.2) (F0 m 23 ls []) := by
  unfold fX12_tellGains_b23 at hF
  refine lv_aload_n C.1.1 C.1.2.1 dX12_tellGains_23 rfl (lv_at hl 0 rfl) ?_
  refine lv_iload_n C.1.1 C.1.2.1 dX12_tellGains_24 rfl (lv_at hl 1 rfl) ?_
  obtain ⟨q1, hq1, hF⟩ := bnd_some hF
  refine m_callV C X vX12_doConfess rfl (kX12_doConfess O C.2.2.2.2.1 N x1  S q1 hq1) (Nat.le_of_ble_eq_true rfl) (Nat.le_of_ble_eq_true rfl) (Nat.le_of_ble_eq_true rfl) (Nat.le_of_ble_eq_true rfl) rfl hl.1 rfl (Nat.le_of_ble_eq_true rfl) dX12_tellGains_25 (fun H locs X => ?_)
  exact bX12_tellGains_28 C O K11 X (lv_sub hl [0, 1, 2, 3] rfl) hF
noncomputable def fX12_tellGains_b16 (N : Nat) (r11 : Int32 → Int32 → Int32 → gS → Option (Int32 × gS)) (x1 : Int32) (x2 : Int32) (x3 : Int32) (S : gS) : Option (Int32 × gS) := if ((x3 / 2 : Int32)) = 1 then fX12_tellGains_b23 N r11 x1 x2 x3 S else fX12_tellGains_b28 N r11 x1 x2 x3 S
theorem bX12_tellGains_16 {N : Nat} {r11 : Int32 → Int32 → Int32 → gS → Option (Int32 × gS)} {x1 : Int32} {x2 : Int32} {x3 : Int32} {S : gS} {H : Heap} {locs : List Loc} {ls : Array Slot} {o : Int32 × gS} (C : gC p s m args meth c cX12_tellGains 7 RX12 none D (mtys cI cS) mord g Am) (O : gO (mcell g cI cS sa) mord g) (K11 : ∀ (x1 : Int32) (x2 : Int32) (x3 : Int32) (S : gS) (H : Heap) (locs : List Loc) (ls : Array Slot), gX D (mcell g cI cS sa) mord g S s H locs → lv_has ls 7 [(0, .ref (g 99)), (1, .int x1), (2, .int x2), (3, .int x3)] → r11 x1 x2 x3 S = some o → W p l e (rmd 6) s m args below meth c H locs 0 0 (gE below args s D (mtys cI cS) (mcell g cI cS sa) mord g none o.2) (F0 m 11 ls [])) (X : gX D (mcell g cI cS sa) mord g S s H locs) (hl : lv_has ls 7 [(0, .ref (g 99)), (1, .int x1), (2, .int x2), (3, .int x3)]) (hF : fX12_tellGains_b16 N r11 x1 x2 x3 S = some o) : W p l e (rmd 6) s m args below meth c H locs 0 0 (gE below args s D (mtys cI cS) (mcell g cI cS sa) mord g none o.2) (F0 m 16 ls []) := by
  unfold fX12_tellGains_b16 at hF
  refine lv_iload_n C.1.1 C.1.2.1 dX12_tellGains_16 rfl (lv_at hl 3 rfl) ?_
  refine lv_iconst (v := 2) C.1.1 C.1.2.1 dX12_tellGains_17 (by decide) ?_
  refine lv_idiv C.1.1 C.1.2.1 dX12_tellGains_18 (by decide) ?_
  refine lv_iconst (v := 1) C.1.1 C.1.2.1 dX12_tellGains_19 (by decide) ?_
  refine lv_icmp_ne (tgt := 28) C.1.1 C.1.2.1 dX12_tellGains_20 (by decide) (fun h_z => ?_) (fun h_z => ?_)
  · rw [if_neg h_z] at hF
    exact bX12_tellGains_28 C O K11 X (lv_sub hl [0, 1, 2, 3] rfl) hF
  · rw [if_pos h_z] at hF
    exact bX12_tellGains_23 C O K11 X (lv_sub hl [0, 1, 2, 3] rfl) hF
noncomputable def fX12_tellGains_b11 (N : Nat) (r11 : Int32 → Int32 → Int32 → gS → Option (Int32 × gS)) (x1 : Int32) (x2 : Int32) (x3 : Int32) (S : gS) : Option (Int32 × gS) := if 4 ≤ x3 then fX12_tellGains_b173 N S else fX12_tellGains_b16 N r11 x1 x2 x3 S
theorem bX12_tellGains_11 {N : Nat} {r11 : Int32 → Int32 → Int32 → gS → Option (Int32 × gS)} {x1 : Int32} {x2 : Int32} {x3 : Int32} {S : gS} {H : Heap} {locs : List Loc} {ls : Array Slot} {o : Int32 × gS} (C : gC p s m args meth c cX12_tellGains 7 RX12 none D (mtys cI cS) mord g Am) (O : gO (mcell g cI cS sa) mord g) (K11 : ∀ (x1 : Int32) (x2 : Int32) (x3 : Int32) (S : gS) (H : Heap) (locs : List Loc) (ls : Array Slot), gX D (mcell g cI cS sa) mord g S s H locs → lv_has ls 7 [(0, .ref (g 99)), (1, .int x1), (2, .int x2), (3, .int x3)] → r11 x1 x2 x3 S = some o → W p l e (rmd 6) s m args below meth c H locs 0 0 (gE below args s D (mtys cI cS) (mcell g cI cS sa) mord g none o.2) (F0 m 11 ls [])) (X : gX D (mcell g cI cS sa) mord g S s H locs) (hl : lv_has ls 7 [(0, .ref (g 99)), (1, .int x1), (2, .int x2), (3, .int x3)]) (hF : fX12_tellGains_b11 N r11 x1 x2 x3 S = some o) : W p l e (rmd 6) s m args below meth c H locs 0 0 (gE below args s D (mtys cI cS) (mcell g cI cS sa) mord g none o.2) (F0 m 11 ls []) := by
  unfold fX12_tellGains_b11 at hF
  refine lv_iload_n C.1.1 C.1.2.1 dX12_tellGains_11 rfl (lv_at hl 3 rfl) ?_
  refine lv_iconst (v := 4) C.1.1 C.1.2.1 dX12_tellGains_12 (by decide) ?_
  refine lv_icmp_ge (tgt := 173) C.1.1 C.1.2.1 dX12_tellGains_13 (by decide) (fun h_z => ?_) (fun h_z => ?_)
  · rw [if_pos h_z] at hF
    exact bX12_tellGains_173 C O X (lv_sub hl [] rfl) hF
  · rw [if_neg h_z] at hF
    exact bX12_tellGains_16 C O K11 X (lv_sub hl [0, 1, 2, 3] rfl) hF
noncomputable def fX12_tellGains_h11 (N : Nat) : Nat → Int32 → Int32 → Int32 → gS → Option (Int32 × gS)
  | 0, _, _, _, _ => none
  | n + 1, x1, x2, x3, S => fX12_tellGains_b11 N (fX12_tellGains_h11 N n) x1 x2 x3 S
theorem hX12_tellGains_11 {N : Nat} {o : Int32 × gS} (C : gC p s m args meth c cX12_tellGains 7 RX12 none D (mtys cI cS) mord g Am) (O : gO (mcell g cI cS sa) mord g) : ∀ (n : Nat) (x1 : Int32) (x2 : Int32) (x3 : Int32) (S : gS) (H : Heap) (locs : List Loc) (ls : Array Slot), gX D (mcell g cI cS sa) mord g S s H locs → lv_has ls 7 [(0, .ref (g 99)), (1, .int x1), (2, .int x2), (3, .int x3)] → fX12_tellGains_h11 N n x1 x2 x3 S = some o → W p l e (rmd 6) s m args below meth c H locs 0 0 (gE below args s D (mtys cI cS) (mcell g cI cS sa) mord g none o.2) (F0 m 11 ls []) := by
  intro n
  induction n with
  | zero =>
    intro x1 x2 x3 S H locs ls X hl hF
    exact absurd (show (none : Option (Int32 × gS)) = some o from hF) (by simp)
  | succ n ih =>
    intro x1 x2 x3 S H locs ls X hl hF
    have hF : fX12_tellGains_b11 N (fX12_tellGains_h11 N n) x1 x2 x3 S = some o := hF
    exact bX12_tellGains_11 C O ih X hl hF
noncomputable def fX12_tellGains_b0 (N : Nat) (x1 : Int32) (x2 : Int32) (S : gS) : Option (Int32 × gS) := bnd (fX12_pack N 46 0 S) fun q1 => (fX12_tellGains_h11 N N x1 x2 0 q1.2)
theorem bX12_tellGains_0 {N : Nat} {x1 : Int32} {x2 : Int32} {S : gS} {H : Heap} {locs : List Loc} {ls : Array Slot} {o : Int32 × gS} (C : gC p s m args meth c cX12_tellGains 7 RX12 none D (mtys cI cS) mord g Am) (O : gO (mcell g cI cS sa) mord g) (X : gX D (mcell g cI cS sa) mord g S s H locs) (hl : lv_has ls 7 [(0, .ref (g 99)), (1, .int x1), (2, .int x2)]) (hF : fX12_tellGains_b0 N x1 x2 S = some o) : W p l e (rmd 6) s m args below meth c H locs 0 0 (gE below args s D (mtys cI cS) (mcell g cI cS sa) mord g none o.2) (F0 m 0 ls []) := by
  unfold fX12_tellGains_b0 at hF
  refine lv_aload_n C.1.1 C.1.2.1 dX12_tellGains_0 rfl (lv_at hl 0 rfl) ?_
  refine lv_aload_n C.1.1 C.1.2.1 dX12_tellGains_1 rfl (lv_at hl 0 rfl) ?_
  refine m_g46 C X dX12_tellGains_2 ?_
  refine lv_iconst (v := 0) C.1.1 C.1.2.1 dX12_tellGains_5 (by decide) ?_
  obtain ⟨q1, hq1, hF⟩ := bnd_some hF
  refine m_callV C X vX12_pack rfl (kX12_pack O C.2.2.2.2.1 N 46 0 (rfl : mI 46 = true) S q1 hq1) (Nat.le_of_ble_eq_true rfl) (Nat.le_of_ble_eq_true rfl) (Nat.le_of_ble_eq_true rfl) (Nat.le_of_ble_eq_true rfl) rfl hl.1 rfl (Nat.le_of_ble_eq_true rfl) dX12_tellGains_6 (fun H locs X => ?_)
  refine lv_iconst (v := 0) C.1.1 C.1.2.1 dX12_tellGains_9 (by decide) ?_
  refine lv_istore_n (lv' := [(3, .int 0), (0, .ref (g 99)), (1, .int x1), (2, .int x2)]) C.1.1 C.1.2.1 dX12_tellGains_10 rfl hl (by decide) rfl (fun ls hl => ?_)
  exact hX12_tellGains_11 C O N _ _ _ _ _ _ _ X (lv_sub hl [1, 2, 3, 0] rfl) hF
noncomputable def fX12_tellGains (N : Nat) (x1 : Int32) (x2 : Int32) (S : gS) : Option (Int32 × gS) := fX12_tellGains_b0 N x1 x2 S
theorem kX12_tellGains {l : Launch} {D : va_G} {g : Nat → Nat} {cI cS : ClassId} {sa : Nat → Nat → Option Nat} {Am : (Nat → Prop) → State → Heap → Prop} (O : gO (mcell g cI cS sa) mord g) (P : gAm Am) (N : Nat) (x1 : Int32) (x2 : Int32) (S : gS) (o : Int32 × gS) (hF : fX12_tellGains N x1 x2 S = some o) : gM l yX12_tellGains cX12_tellGains 7 none 6 D (mtys cI cS) (mcell g cI cS sa) mord g Am [.ref (g 99), .int x1, .int x2] S none o.2 :=
  gM_of O P (by decide) (Nat.le_of_ble_eq_true rfl) (fun p e s m args below meth c ls C X hl => bX12_tellGains_0 C O X (lv_sub hl [0, 1, 2] rfl) hF)
-- game
noncomputable def fX12_game_b219 (N : Nat) (t0 : Int32) (S : gS) : Option (Int32 × gS) := some (t0, S)
theorem bX12_game_219 {N : Nat} {t0 : Int32} {S : gS} {H : Heap} {locs : List Loc} {ls : Array Slot} {o : Int32 × gS} (C : gC p s m args meth c cX12_game 9 RX12 ((some .int)) D (mtys cI cS) mord g Am) (O : gO (mcell g cI cS sa) mord g) (X : gX D (mcell g cI cS sa) mord g S s H locs) (hl : lv_has ls 9 []) (hF : fX12_game_b219 N t0 S = some o) : W p l e (rmd 7) s m args below meth c H locs 0 0 (gE below args s D (mtys cI cS) (mcell g cI cS sa) mord g (some (.int o.1)) o.2) (F0 m 219 ls [.int t0]) := by
  unfold fX12_game_b219 at hF
  cases hF
  exact g_iret C X dX12_game_219
noncomputable def fX12_game_b217 (N : Nat) (x7 : Int32) (S : gS) : Option (Int32 × gS) := fX12_game_b219 N x7 S
theorem bX12_game_217 {N : Nat} {x7 : Int32} {S : gS} {H : Heap} {locs : List Loc} {ls : Array Slot} {o : Int32 × gS} (C : gC p s m args meth c cX12_game 9 RX12 ((some .int)) D (mtys cI cS) mord g Am) (O : gO (mcell g cI cS sa) mord g) (X : gX D (mcell g cI cS sa) mord g S s H locs) (hl : lv_has ls 9 [(7, .int x7)]) (hF : fX12_game_b217 N x7 S = some o) : W p l e (rmd 7) s m args below meth c H locs 0 0 (gE below args s D (mtys cI cS) (mcell g cI cS sa) mord g (some (.int o.1)) o.2) (F0 m 217 ls []) := by
  unfold fX12_game_b217 at hF
  refine lv_iload C.1.1 C.1.2.1 dX12_game_217 (lv_at hl 0 rfl) ?_
  exact bX12_game_219 C O X (lv_sub hl [] rfl) hF
noncomputable def fX12_game_b212 (N : Nat) (x6 : Int32) (S : gS) : Option (Int32 × gS) := fX12_game_b219 N x6 S
theorem bX12_game_212 {N : Nat} {x6 : Int32} {S : gS} {H : Heap} {locs : List Loc} {ls : Array Slot} {o : Int32 × gS} (C : gC p s m args meth c cX12_game 9 RX12 ((some .int)) D (mtys cI cS) mord g Am) (O : gO (mcell g cI cS sa) mord g) (X : gX D (mcell g cI cS sa) mord g S s H locs) (hl : lv_has ls 9 [(6, .int x6)]) (hF : fX12_game_b212 N x6 S = some o) : W p l e (rmd 7) s m args below meth c H locs 0 0 (gE below args s D (mtys cI cS) (mcell g cI cS sa) mord g (some (.int o.1)) o.2) (F0 m 212 ls []) := by
  unfold fX12_game_b212 at hF
  refine lv_iload C.1.1 C.1.2.1 dX12_game_212 (lv_at hl 0 rfl) ?_
  refine lv_goto (tgt := 219) C.1.1 C.1.2.1 dX12_game_214 (by decide) ?_
  exact bX12_game_219 C O X (lv_sub hl [] rfl) hF
noncomputable def fX12_game_b208 (N : Nat) (x3 : Int32) (x6 : Int32) (x7 : Int32) (S : gS) : Option (Int32 × gS) := if x3 = 0 then fX12_game_b212 N x6 S else fX12_game_b217 N x7 S
theorem bX12_game_208 {N : Nat} {x3 : Int32} {x6 : Int32} {x7 : Int32} {S : gS} {H : Heap} {locs : List Loc} {ls : Array Slot} {o : Int32 × gS} (C : gC p s m args meth c cX12_game 9 RX12 ((some .int)) D (mtys cI cS) mord g Am) (O : gO (mcell g cI cS sa) mord g) (X : gX D (mcell g cI cS sa) mord g S s H locs) (hl : lv_has ls 9 [(3, .int x3), (6, .int x6), (7, .int x7)]) (hF : fX12_game_b208 N x3 x6 x7 S = some o) : W p l e (rmd 7) s m args below meth c H locs 0 0 (gE below args s D (mtys cI cS) (mcell g cI cS sa) mord g (some (.int o.1)) o.2) (F0 m 208 ls []) := by
  unfold fX12_game_b208 at hF
  refine lv_iload_n C.1.1 C.1.2.1 dX12_game_208 rfl (lv_at hl 0 rfl) ?_
  refine lv_if_ne (tgt := 217) C.1.1 C.1.2.1 dX12_game_209 (by decide) (fun h_z => ?_) (fun h_z => ?_)
  · rw [if_neg h_z] at hF
    exact bX12_game_217 C O X (lv_sub hl [2] rfl) hF
  · rw [if_pos h_z] at hF
    exact bX12_game_212 C O X (lv_sub hl [1] rfl) hF
noncomputable def fX12_game_b202 (N : Nat) (r76 : Int32 → Int32 → Int32 → Int32 → Int32 → Int32 → gS → Option (Int32 × gS)) (x3 : Int32) (x4 : Int32) (x5 : Int32) (x6 : Int32) (x7 : Int32) (x8 : Int32) (S : gS) : Option (Int32 × gS) := r76 x3 x4 x5 x6 x7 ((x8 + 1 : Int32)) S
theorem bX12_game_202 {N : Nat} {r76 : Int32 → Int32 → Int32 → Int32 → Int32 → Int32 → gS → Option (Int32 × gS)} {x3 : Int32} {x4 : Int32} {x5 : Int32} {x6 : Int32} {x7 : Int32} {x8 : Int32} {S : gS} {H : Heap} {locs : List Loc} {ls : Array Slot} {o : Int32 × gS} (C : gC p s m args meth c cX12_game 9 RX12 ((some .int)) D (mtys cI cS) mord g Am) (O : gO (mcell g cI cS sa) mord g) (K76 : ∀ (x3 : Int32) (x4 : Int32) (x5 : Int32) (x6 : Int32) (x7 : Int32) (x8 : Int32) (S : gS) (H : Heap) (locs : List Loc) (ls : Array Slot), gX D (mcell g cI cS sa) mord g S s H locs → lv_has ls 9 [(0, .ref (g 99)), (3, .int x3), (4, .int x4), (5, .int x5), (6, .int x6), (7, .int x7), (8, .int x8)] → r76 x3 x4 x5 x6 x7 x8 S = some o → W p l e (rmd 7) s m args below meth c H locs 0 0 (gE below args s D (mtys cI cS) (mcell g cI cS sa) mord g (some (.int o.1)) o.2) (F0 m 76 ls [])) (X : gX D (mcell g cI cS sa) mord g S s H locs) (hl : lv_has ls 9 [(0, .ref (g 99)), (3, .int x3), (4, .int x4), (5, .int x5), (6, .int x6), (7, .int x7), (8, .int x8)]) (hF : fX12_game_b202 N r76 x3 x4 x5 x6 x7 x8 S = some o) : W p l e (rmd 7) s m args below meth c H locs 0 0 (gE below args s D (mtys cI cS) (mcell g cI cS sa) mord g (some (.int o.1)) o.2) (F0 m 202 ls []) := by
  unfold fX12_game_b202 at hF
  refine lv_iinc (v := (x8 + 1 : Int32)) (lv' := [(8, .int ((x8 + 1 : Int32))), (0, .ref (g 99)), (3, .int x3), (4, .int x4), (5, .int x5), (6, .int x6), (7, .int x7)]) C.1.1 C.1.2.1 dX12_game_202 hl (k := 6) rfl rfl (by decide) rfl (fun ls hl => ?_)
  refine lv_goto (tgt := 76) C.1.1 C.1.2.1 dX12_game_205 (by decide) ?_
  exact K76 _ _ _ _ _ _ _ _ _ _ X (lv_sub hl [1, 2, 3, 4, 5, 6, 0] rfl) hF
noncomputable def fX12_game_b200 (N : Nat) (r76 : Int32 → Int32 → Int32 → Int32 → Int32 → Int32 → gS → Option (Int32 × gS)) (x3 : Int32) (x4 : Int32) (x5 : Int32) (x6 : Int32) (x8 : Int32) (t0 : Int32) (S : gS) : Option (Int32 × gS) := fX12_game_b202 N r76 x3 x4 x5 x6 t0 x8 S
theorem bX12_game_200 {N : Nat} {r76 : Int32 → Int32 → Int32 → Int32 → Int32 → Int32 → gS → Option (Int32 × gS)} {x3 : Int32} {x4 : Int32} {x5 : Int32} {x6 : Int32} {x8 : Int32} {t0 : Int32} {S : gS} {H : Heap} {locs : List Loc} {ls : Array Slot} {o : Int32 × gS} (C : gC p s m args meth c cX12_game 9 RX12 ((some .int)) D (mtys cI cS) mord g Am) (O : gO (mcell g cI cS sa) mord g) (K76 : ∀ (x3 : Int32) (x4 : Int32) (x5 : Int32) (x6 : Int32) (x7 : Int32) (x8 : Int32) (S : gS) (H : Heap) (locs : List Loc) (ls : Array Slot), gX D (mcell g cI cS sa) mord g S s H locs → lv_has ls 9 [(0, .ref (g 99)), (3, .int x3), (4, .int x4), (5, .int x5), (6, .int x6), (7, .int x7), (8, .int x8)] → r76 x3 x4 x5 x6 x7 x8 S = some o → W p l e (rmd 7) s m args below meth c H locs 0 0 (gE below args s D (mtys cI cS) (mcell g cI cS sa) mord g (some (.int o.1)) o.2) (F0 m 76 ls [])) (X : gX D (mcell g cI cS sa) mord g S s H locs) (hl : lv_has ls 9 [(0, .ref (g 99)), (3, .int x3), (4, .int x4), (5, .int x5), (6, .int x6), (8, .int x8)]) (hF : fX12_game_b200 N r76 x3 x4 x5 x6 x8 t0 S = some o) : W p l e (rmd 7) s m args below meth c H locs 0 0 (gE below args s D (mtys cI cS) (mcell g cI cS sa) mord g (some (.int o.1)) o.2) (F0 m 200 ls [.int t0]) := by
  unfold fX12_game_b200 at hF
  refine lv_istore (lv' := [(7, .int t0), (0, .ref (g 99)), (3, .int x3), (4, .int x4), (5, .int x5), (6, .int x6), (8, .int x8)]) C.1.1 C.1.2.1 dX12_game_200 hl (by decide) rfl (fun ls hl => ?_)
  exact bX12_game_202 C O K76 X (lv_sub hl [1, 2, 3, 4, 5, 0, 6] rfl) hF
noncomputable def fX12_game_b198 (N : Nat) (r76 : Int32 → Int32 → Int32 → Int32 → Int32 → Int32 → gS → Option (Int32 × gS)) (x3 : Int32) (x4 : Int32) (x5 : Int32) (x6 : Int32) (x7 : Int32) (x8 : Int32) (S : gS) : Option (Int32 × gS) := fX12_game_b200 N r76 x3 x4 x5 x6 x8 x7 S
theorem bX12_game_198 {N : Nat} {r76 : Int32 → Int32 → Int32 → Int32 → Int32 → Int32 → gS → Option (Int32 × gS)} {x3 : Int32} {x4 : Int32} {x5 : Int32} {x6 : Int32} {x7 : Int32} {x8 : Int32} {S : gS} {H : Heap} {locs : List Loc} {ls : Array Slot} {o : Int32 × gS} (C : gC p s m args meth c cX12_game 9 RX12 ((some .int)) D (mtys cI cS) mord g Am) (O : gO (mcell g cI cS sa) mord g) (K76 : ∀ (x3 : Int32) (x4 : Int32) (x5 : Int32) (x6 : Int32) (x7 : Int32) (x8 : Int32) (S : gS) (H : Heap) (locs : List Loc) (ls : Array Slot), gX D (mcell g cI cS sa) mord g S s H locs → lv_has ls 9 [(0, .ref (g 99)), (3, .int x3), (4, .int x4), (5, .int x5), (6, .int x6), (7, .int x7), (8, .int x8)] → r76 x3 x4 x5 x6 x7 x8 S = some o → W p l e (rmd 7) s m args below meth c H locs 0 0 (gE below args s D (mtys cI cS) (mcell g cI cS sa) mord g (some (.int o.1)) o.2) (F0 m 76 ls [])) (X : gX D (mcell g cI cS sa) mord g S s H locs) (hl : lv_has ls 9 [(0, .ref (g 99)), (3, .int x3), (4, .int x4), (5, .int x5), (6, .int x6), (7, .int x7), (8, .int x8)]) (hF : fX12_game_b198 N r76 x3 x4 x5 x6 x7 x8 S = some o) : W p l e (rmd 7) s m args below meth c H locs 0 0 (gE below args s D (mtys cI cS) (mcell g cI cS sa) mord g (some (.int o.1)) o.2) (F0 m 198 ls []) := by
  unfold fX12_game_b198 at hF
  refine lv_iload C.1.1 C.1.2.1 dX12_game_198 (lv_at hl 5 rfl) ?_
  exact bX12_game_200 C O K76 X (lv_sub hl [0, 1, 2, 3, 4, 6] rfl) hF
noncomputable def fX12_game_b183 (N : Nat) (r76 : Int32 → Int32 → Int32 → Int32 → Int32 → Int32 → gS → Option (Int32 × gS)) (x3 : Int32) (x4 : Int32) (x5 : Int32) (x6 : Int32) (x8 : Int32) (S : gS) : Option (Int32 × gS) := fX12_game_b200 N r76 x3 x4 x5 x6 x8 ((((10 * ((x8 / 2 : Int32)) : Int32)) + ((x8 - x8 / 2 * 2 : Int32)) : Int32)) S
theorem bX12_game_183 {N : Nat} {r76 : Int32 → Int32 → Int32 → Int32 → Int32 → Int32 → gS → Option (Int32 × gS)} {x3 : Int32} {x4 : Int32} {x5 : Int32} {x6 : Int32} {x8 : Int32} {S : gS} {H : Heap} {locs : List Loc} {ls : Array Slot} {o : Int32 × gS} (C : gC p s m args meth c cX12_game 9 RX12 ((some .int)) D (mtys cI cS) mord g Am) (O : gO (mcell g cI cS sa) mord g) (K76 : ∀ (x3 : Int32) (x4 : Int32) (x5 : Int32) (x6 : Int32) (x7 : Int32) (x8 : Int32) (S : gS) (H : Heap) (locs : List Loc) (ls : Array Slot), gX D (mcell g cI cS sa) mord g S s H locs → lv_has ls 9 [(0, .ref (g 99)), (3, .int x3), (4, .int x4), (5, .int x5), (6, .int x6), (7, .int x7), (8, .int x8)] → r76 x3 x4 x5 x6 x7 x8 S = some o → W p l e (rmd 7) s m args below meth c H locs 0 0 (gE below args s D (mtys cI cS) (mcell g cI cS sa) mord g (some (.int o.1)) o.2) (F0 m 76 ls [])) (X : gX D (mcell g cI cS sa) mord g S s H locs) (hl : lv_has ls 9 [(0, .ref (g 99)), (3, .int x3), (4, .int x4), (5, .int x5), (6, .int x6), (8, .int x8)]) (hF : fX12_game_b183 N r76 x3 x4 x5 x6 x8 S = some o) : W p l e (rmd 7) s m args below meth c H locs 0 0 (gE below args s D (mtys cI cS) (mcell g cI cS sa) mord g (some (.int o.1)) o.2) (F0 m 183 ls []) := by
  unfold fX12_game_b183 at hF
  refine lv_bipush (v := 10) C.1.1 C.1.2.1 dX12_game_183 (by decide) ?_
  refine lv_iload C.1.1 C.1.2.1 dX12_game_185 (lv_at hl 5 rfl) ?_
  refine lv_iconst (v := 2) C.1.1 C.1.2.1 dX12_game_187 (by decide) ?_
  refine lv_idiv C.1.1 C.1.2.1 dX12_game_188 (by decide) ?_
  refine lv_imul C.1.1 C.1.2.1 dX12_game_189 ?_
  refine lv_iload C.1.1 C.1.2.1 dX12_game_190 (lv_at hl 5 rfl) ?_
  refine lv_iconst (v := 2) C.1.1 C.1.2.1 dX12_game_192 (by decide) ?_
  refine lv_irem C.1.1 C.1.2.1 dX12_game_193 (by decide) ?_
  refine lv_iadd C.1.1 C.1.2.1 dX12_game_194 ?_
  refine lv_goto (tgt := 200) C.1.1 C.1.2.1 dX12_game_195 (by decide) ?_
  exact bX12_game_200 C O K76 X (lv_sub hl [0, 1, 2, 3, 4, 5] rfl) hF
noncomputable def fX12_game_b174 (N : Nat) (r76 : Int32 → Int32 → Int32 → Int32 → Int32 → Int32 → gS → Option (Int32 × gS)) (x3 : Int32) (x4 : Int32) (x5 : Int32) (x6 : Int32) (x7 : Int32) (x8 : Int32) (S : gS) : Option (Int32 × gS) := if x7 = ((-1)) then fX12_game_b183 N r76 x3 x4 x5 ((x6 + 1 : Int32)) x8 S else fX12_game_b198 N r76 x3 x4 x5 ((x6 + 1 : Int32)) x7 x8 S
theorem bX12_game_174 {N : Nat} {r76 : Int32 → Int32 → Int32 → Int32 → Int32 → Int32 → gS → Option (Int32 × gS)} {x3 : Int32} {x4 : Int32} {x5 : Int32} {x6 : Int32} {x7 : Int32} {x8 : Int32} {S : gS} {H : Heap} {locs : List Loc} {ls : Array Slot} {o : Int32 × gS} (C : gC p s m args meth c cX12_game 9 RX12 ((some .int)) D (mtys cI cS) mord g Am) (O : gO (mcell g cI cS sa) mord g) (K76 : ∀ (x3 : Int32) (x4 : Int32) (x5 : Int32) (x6 : Int32) (x7 : Int32) (x8 : Int32) (S : gS) (H : Heap) (locs : List Loc) (ls : Array Slot), gX D (mcell g cI cS sa) mord g S s H locs → lv_has ls 9 [(0, .ref (g 99)), (3, .int x3), (4, .int x4), (5, .int x5), (6, .int x6), (7, .int x7), (8, .int x8)] → r76 x3 x4 x5 x6 x7 x8 S = some o → W p l e (rmd 7) s m args below meth c H locs 0 0 (gE below args s D (mtys cI cS) (mcell g cI cS sa) mord g (some (.int o.1)) o.2) (F0 m 76 ls [])) (X : gX D (mcell g cI cS sa) mord g S s H locs) (hl : lv_has ls 9 [(0, .ref (g 99)), (3, .int x3), (4, .int x4), (5, .int x5), (6, .int x6), (7, .int x7), (8, .int x8)]) (hF : fX12_game_b174 N r76 x3 x4 x5 x6 x7 x8 S = some o) : W p l e (rmd 7) s m args below meth c H locs 0 0 (gE below args s D (mtys cI cS) (mcell g cI cS sa) mord g (some (.int o.1)) o.2) (F0 m 174 ls []) := by
  unfold fX12_game_b174 at hF
  refine lv_iinc (v := (x6 + 1 : Int32)) (lv' := [(6, .int ((x6 + 1 : Int32))), (0, .ref (g 99)), (3, .int x3), (4, .int x4), (5, .int x5), (7, .int x7), (8, .int x8)]) C.1.1 C.1.2.1 dX12_game_174 hl (k := 4) rfl rfl (by decide) rfl (fun ls hl => ?_)
  refine lv_iload C.1.1 C.1.2.1 dX12_game_177 (lv_at hl 5 rfl) ?_
  refine lv_iconst (v := (-1)) C.1.1 C.1.2.1 dX12_game_179 (by decide) ?_
  refine lv_icmp_ne (tgt := 198) C.1.1 C.1.2.1 dX12_game_180 (by decide) (fun h_z => ?_) (fun h_z => ?_)
  · rw [if_neg h_z] at hF
    exact bX12_game_198 C O K76 X (lv_sub hl [1, 2, 3, 4, 0, 5, 6] rfl) hF
  · rw [if_pos h_z] at hF
    exact bX12_game_183 C O K76 X (lv_sub hl [1, 2, 3, 4, 0, 6] rfl) hF
noncomputable def fX12_game_b171 (N : Nat) (r76 : Int32 → Int32 → Int32 → Int32 → Int32 → Int32 → gS → Option (Int32 × gS)) (x3 : Int32) (x4 : Int32) (x5 : Int32) (x6 : Int32) (x7 : Int32) (x8 : Int32) (S : gS) : Option (Int32 × gS) := fX12_game_b202 N r76 x3 x4 x5 x6 x7 x8 S
theorem bX12_game_171 {N : Nat} {r76 : Int32 → Int32 → Int32 → Int32 → Int32 → Int32 → gS → Option (Int32 × gS)} {x3 : Int32} {x4 : Int32} {x5 : Int32} {x6 : Int32} {x7 : Int32} {x8 : Int32} {S : gS} {H : Heap} {locs : List Loc} {ls : Array Slot} {o : Int32 × gS} (C : gC p s m args meth c cX12_game 9 RX12 ((some .int)) D (mtys cI cS) mord g Am) (O : gO (mcell g cI cS sa) mord g) (K76 : ∀ (x3 : Int32) (x4 : Int32) (x5 : Int32) (x6 : Int32) (x7 : Int32) (x8 : Int32) (S : gS) (H : Heap) (locs : List Loc) (ls : Array Slot), gX D (mcell g cI cS sa) mord g S s H locs → lv_has ls 9 [(0, .ref (g 99)), (3, .int x3), (4, .int x4), (5, .int x5), (6, .int x6), (7, .int x7), (8, .int x8)] → r76 x3 x4 x5 x6 x7 x8 S = some o → W p l e (rmd 7) s m args below meth c H locs 0 0 (gE below args s D (mtys cI cS) (mcell g cI cS sa) mord g (some (.int o.1)) o.2) (F0 m 76 ls [])) (X : gX D (mcell g cI cS sa) mord g S s H locs) (hl : lv_has ls 9 [(0, .ref (g 99)), (3, .int x3), (4, .int x4), (5, .int x5), (6, .int x6), (7, .int x7), (8, .int x8)]) (hF : fX12_game_b171 N r76 x3 x4 x5 x6 x7 x8 S = some o) : W p l e (rmd 7) s m args below meth c H locs 0 0 (gE below args s D (mtys cI cS) (mcell g cI cS sa) mord g (some (.int o.1)) o.2) (F0 m 171 ls []) := by
  unfold fX12_game_b171 at hF
  refine lv_goto (tgt := 202) C.1.1 C.1.2.1 dX12_game_171 (by decide) ?_
  exact bX12_game_202 C O K76 X (lv_sub hl [0, 1, 2, 3, 4, 5, 6] rfl) hF
noncomputable def fX12_game_b144 (N : Nat) (r76 : Int32 → Int32 → Int32 → Int32 → Int32 → Int32 → gS → Option (Int32 × gS)) (x3 : Int32) (x4 : Int32) (x5 : Int32) (x6 : Int32) (x7 : Int32) (x8 : Int32) (S : gS) : Option (Int32 × gS) := chk (inb ((((2 * ((x8 ^^^ 1 : Int32)) : Int32)) + 1 : Int32)) (8)) (chk (inb ((((2 * x8 : Int32)) + 1 : Int32)) (8)) (if (S 55 (Int32.toNatClampNeg ((((2 * ((x8 ^^^ 1 : Int32)) : Int32)) + 1 : Int32)))) ≤ (S 55 (Int32.toNatClampNeg ((((2 * x8 : Int32)) + 1 : Int32)))) then fX12_game_b174 N r76 x3 x4 x5 x6 x7 x8 S else fX12_game_b171 N r76 x3 x4 x5 x6 x7 x8 S))
theorem bX12_game_144 {N : Nat} {r76 : Int32 → Int32 → Int32 → Int32 → Int32 → Int32 → gS → Option (Int32 × gS)} {x3 : Int32} {x4 : Int32} {x5 : Int32} {x6 : Int32} {x7 : Int32} {x8 : Int32} {S : gS} {H : Heap} {locs : List Loc} {ls : Array Slot} {o : Int32 × gS} (C : gC p s m args meth c cX12_game 9 RX12 ((some .int)) D (mtys cI cS) mord g Am) (O : gO (mcell g cI cS sa) mord g) (K76 : ∀ (x3 : Int32) (x4 : Int32) (x5 : Int32) (x6 : Int32) (x7 : Int32) (x8 : Int32) (S : gS) (H : Heap) (locs : List Loc) (ls : Array Slot), gX D (mcell g cI cS sa) mord g S s H locs → lv_has ls 9 [(0, .ref (g 99)), (3, .int x3), (4, .int x4), (5, .int x5), (6, .int x6), (7, .int x7), (8, .int x8)] → r76 x3 x4 x5 x6 x7 x8 S = some o → W p l e (rmd 7) s m args below meth c H locs 0 0 (gE below args s D (mtys cI cS) (mcell g cI cS sa) mord g (some (.int o.1)) o.2) (F0 m 76 ls [])) (X : gX D (mcell g cI cS sa) mord g S s H locs) (hl : lv_has ls 9 [(0, .ref (g 99)), (3, .int x3), (4, .int x4), (5, .int x5), (6, .int x6), (7, .int x7), (8, .int x8)]) (hF : fX12_game_b144 N r76 x3 x4 x5 x6 x7 x8 S = some o) : W p l e (rmd 7) s m args below meth c H locs 0 0 (gE below args s D (mtys cI cS) (mcell g cI cS sa) mord g (some (.int o.1)) o.2) (F0 m 144 ls []) := by
  unfold fX12_game_b144 at hF
  refine lv_aload_n C.1.1 C.1.2.1 dX12_game_144 rfl (lv_at hl 0 rfl) ?_
  refine m_g55 C X dX12_game_145 ?_
  refine lv_iconst (v := 2) C.1.1 C.1.2.1 dX12_game_148 (by decide) ?_
  refine lv_iload C.1.1 C.1.2.1 dX12_game_149 (lv_at hl 6 rfl) ?_
  refine lv_iconst (v := 1) C.1.1 C.1.2.1 dX12_game_151 (by decide) ?_
  refine lv_ixor C.1.1 C.1.2.1 dX12_game_152 ?_
  refine lv_imul C.1.1 C.1.2.1 dX12_game_153 ?_
  refine lv_iconst (v := 1) C.1.1 C.1.2.1 dX12_game_154 (by decide) ?_
  refine lv_iadd C.1.1 C.1.2.1 dX12_game_155 ?_
  obtain ⟨h_1, hF⟩ := chk_some hF
  refine m_r55 C X  (inb_vp h_1) rfl dX12_game_156 ?_
  refine lv_aload_n C.1.1 C.1.2.1 dX12_game_157 rfl (lv_at hl 0 rfl) ?_
  refine m_g55 C X dX12_game_158 ?_
  refine lv_iconst (v := 2) C.1.1 C.1.2.1 dX12_game_161 (by decide) ?_
  refine lv_iload C.1.1 C.1.2.1 dX12_game_162 (lv_at hl 6 rfl) ?_
  refine lv_imul C.1.1 C.1.2.1 dX12_game_164 ?_
  refine lv_iconst (v := 1) C.1.1 C.1.2.1 dX12_game_165 (by decide) ?_
  refine lv_iadd C.1.1 C.1.2.1 dX12_game_166 ?_
  obtain ⟨h_2, hF⟩ := chk_some hF
  refine m_r55 C X  (inb_vp h_2) rfl dX12_game_167 ?_
  refine lv_icmp_le (tgt := 174) C.1.1 C.1.2.1 dX12_game_168 (by decide) (fun h_z => ?_) (fun h_z => ?_)
  · rw [if_pos h_z] at hF
    exact bX12_game_174 C O K76 X (lv_sub hl [0, 1, 2, 3, 4, 5, 6] rfl) hF
  · rw [if_neg h_z] at hF
    exact bX12_game_171 C O K76 X (lv_sub hl [0, 1, 2, 3, 4, 5, 6] rfl) hF
noncomputable def fX12_game_b139 (N : Nat) (r76 : Int32 → Int32 → Int32 → Int32 → Int32 → Int32 → gS → Option (Int32 × gS)) (x3 : Int32) (x4 : Int32) (x5 : Int32) (x6 : Int32) (x7 : Int32) (x8 : Int32) (S : gS) : Option (Int32 × gS) := if x5 = 0 then fX12_game_b174 N r76 x3 x4 x5 x6 x7 x8 S else fX12_game_b144 N r76 x3 x4 x5 x6 x7 x8 S
theorem bX12_game_139 {N : Nat} {r76 : Int32 → Int32 → Int32 → Int32 → Int32 → Int32 → gS → Option (Int32 × gS)} {x3 : Int32} {x4 : Int32} {x5 : Int32} {x6 : Int32} {x7 : Int32} {x8 : Int32} {S : gS} {H : Heap} {locs : List Loc} {ls : Array Slot} {o : Int32 × gS} (C : gC p s m args meth c cX12_game 9 RX12 ((some .int)) D (mtys cI cS) mord g Am) (O : gO (mcell g cI cS sa) mord g) (K76 : ∀ (x3 : Int32) (x4 : Int32) (x5 : Int32) (x6 : Int32) (x7 : Int32) (x8 : Int32) (S : gS) (H : Heap) (locs : List Loc) (ls : Array Slot), gX D (mcell g cI cS sa) mord g S s H locs → lv_has ls 9 [(0, .ref (g 99)), (3, .int x3), (4, .int x4), (5, .int x5), (6, .int x6), (7, .int x7), (8, .int x8)] → r76 x3 x4 x5 x6 x7 x8 S = some o → W p l e (rmd 7) s m args below meth c H locs 0 0 (gE below args s D (mtys cI cS) (mcell g cI cS sa) mord g (some (.int o.1)) o.2) (F0 m 76 ls [])) (X : gX D (mcell g cI cS sa) mord g S s H locs) (hl : lv_has ls 9 [(0, .ref (g 99)), (3, .int x3), (4, .int x4), (5, .int x5), (6, .int x6), (7, .int x7), (8, .int x8)]) (hF : fX12_game_b139 N r76 x3 x4 x5 x6 x7 x8 S = some o) : W p l e (rmd 7) s m args below meth c H locs 0 0 (gE below args s D (mtys cI cS) (mcell g cI cS sa) mord g (some (.int o.1)) o.2) (F0 m 139 ls []) := by
  unfold fX12_game_b139 at hF
  refine lv_iload C.1.1 C.1.2.1 dX12_game_139 (lv_at hl 3 rfl) ?_
  refine lv_if_eq (tgt := 174) C.1.1 C.1.2.1 dX12_game_141 (by decide) (fun h_z => ?_) (fun h_z => ?_)
  · rw [if_pos h_z] at hF
    exact bX12_game_174 C O K76 X (lv_sub hl [0, 1, 2, 3, 4, 5, 6] rfl) hF
  · rw [if_neg h_z] at hF
    exact bX12_game_144 C O K76 X (lv_sub hl [0, 1, 2, 3, 4, 5, 6] rfl) hF
noncomputable def fX12_game_b116 (N : Nat) (r76 : Int32 → Int32 → Int32 → Int32 → Int32 → Int32 → gS → Option (Int32 × gS)) (x3 : Int32) (x4 : Int32) (x5 : Int32) (x6 : Int32) (x7 : Int32) (x8 : Int32) (S : gS) : Option (Int32 × gS) := chk (inb ((2 * ((x8 ^^^ 2 : Int32)) : Int32)) (8)) (chk (inb ((2 * x8 : Int32)) (8)) (if (S 55 (Int32.toNatClampNeg ((2 * x8 : Int32)))) < (S 55 (Int32.toNatClampNeg ((2 * ((x8 ^^^ 2 : Int32)) : Int32)))) then fX12_game_b202 N r76 x3 x4 x5 x6 x7 x8 S else fX12_game_b139 N r76 x3 x4 x5 x6 x7 x8 S))
theorem bX12_game_116 {N : Nat} {r76 : Int32 → Int32 → Int32 → Int32 → Int32 → Int32 → gS → Option (Int32 × gS)} {x3 : Int32} {x4 : Int32} {x5 : Int32} {x6 : Int32} {x7 : Int32} {x8 : Int32} {S : gS} {H : Heap} {locs : List Loc} {ls : Array Slot} {o : Int32 × gS} (C : gC p s m args meth c cX12_game 9 RX12 ((some .int)) D (mtys cI cS) mord g Am) (O : gO (mcell g cI cS sa) mord g) (K76 : ∀ (x3 : Int32) (x4 : Int32) (x5 : Int32) (x6 : Int32) (x7 : Int32) (x8 : Int32) (S : gS) (H : Heap) (locs : List Loc) (ls : Array Slot), gX D (mcell g cI cS sa) mord g S s H locs → lv_has ls 9 [(0, .ref (g 99)), (3, .int x3), (4, .int x4), (5, .int x5), (6, .int x6), (7, .int x7), (8, .int x8)] → r76 x3 x4 x5 x6 x7 x8 S = some o → W p l e (rmd 7) s m args below meth c H locs 0 0 (gE below args s D (mtys cI cS) (mcell g cI cS sa) mord g (some (.int o.1)) o.2) (F0 m 76 ls [])) (X : gX D (mcell g cI cS sa) mord g S s H locs) (hl : lv_has ls 9 [(0, .ref (g 99)), (3, .int x3), (4, .int x4), (5, .int x5), (6, .int x6), (7, .int x7), (8, .int x8)]) (hF : fX12_game_b116 N r76 x3 x4 x5 x6 x7 x8 S = some o) : W p l e (rmd 7) s m args below meth c H locs 0 0 (gE below args s D (mtys cI cS) (mcell g cI cS sa) mord g (some (.int o.1)) o.2) (F0 m 116 ls []) := by
  unfold fX12_game_b116 at hF
  refine lv_aload_n C.1.1 C.1.2.1 dX12_game_116 rfl (lv_at hl 0 rfl) ?_
  refine m_g55 C X dX12_game_117 ?_
  refine lv_iconst (v := 2) C.1.1 C.1.2.1 dX12_game_120 (by decide) ?_
  refine lv_iload C.1.1 C.1.2.1 dX12_game_121 (lv_at hl 6 rfl) ?_
  refine lv_iconst (v := 2) C.1.1 C.1.2.1 dX12_game_123 (by decide) ?_
  refine lv_ixor C.1.1 C.1.2.1 dX12_game_124 ?_
  refine lv_imul C.1.1 C.1.2.1 dX12_game_125 ?_
  obtain ⟨h_1, hF⟩ := chk_some hF
  refine m_r55 C X  (inb_vp h_1) rfl dX12_game_126 ?_
  refine lv_aload_n C.1.1 C.1.2.1 dX12_game_127 rfl (lv_at hl 0 rfl) ?_
  refine m_g55 C X dX12_game_128 ?_
  refine lv_iconst (v := 2) C.1.1 C.1.2.1 dX12_game_131 (by decide) ?_
  refine lv_iload C.1.1 C.1.2.1 dX12_game_132 (lv_at hl 6 rfl) ?_
  refine lv_imul C.1.1 C.1.2.1 dX12_game_134 ?_
  obtain ⟨h_2, hF⟩ := chk_some hF
  refine m_r55 C X  (inb_vp h_2) rfl dX12_game_135 ?_
  refine lv_icmp_gt (tgt := 202) C.1.1 C.1.2.1 dX12_game_136 (by decide) (fun h_z => ?_) (fun h_z => ?_)
  · rw [if_pos h_z] at hF
    exact bX12_game_202 C O K76 X (lv_sub hl [0, 1, 2, 3, 4, 5, 6] rfl) hF
  · rw [if_neg h_z] at hF
    exact bX12_game_139 C O K76 X (lv_sub hl [0, 1, 2, 3, 4, 5, 6] rfl) hF
noncomputable def fX12_game_b111 (N : Nat) (r76 : Int32 → Int32 → Int32 → Int32 → Int32 → Int32 → gS → Option (Int32 × gS)) (x3 : Int32) (x4 : Int32) (x5 : Int32) (x6 : Int32) (x7 : Int32) (x8 : Int32) (S : gS) : Option (Int32 × gS) := if x4 = 0 then fX12_game_b139 N r76 x3 x4 x5 x6 x7 x8 S else fX12_game_b116 N r76 x3 x4 x5 x6 x7 x8 S
theorem bX12_game_111 {N : Nat} {r76 : Int32 → Int32 → Int32 → Int32 → Int32 → Int32 → gS → Option (Int32 × gS)} {x3 : Int32} {x4 : Int32} {x5 : Int32} {x6 : Int32} {x7 : Int32} {x8 : Int32} {S : gS} {H : Heap} {locs : List Loc} {ls : Array Slot} {o : Int32 × gS} (C : gC p s m args meth c cX12_game 9 RX12 ((some .int)) D (mtys cI cS) mord g Am) (O : gO (mcell g cI cS sa) mord g) (K76 : ∀ (x3 : Int32) (x4 : Int32) (x5 : Int32) (x6 : Int32) (x7 : Int32) (x8 : Int32) (S : gS) (H : Heap) (locs : List Loc) (ls : Array Slot), gX D (mcell g cI cS sa) mord g S s H locs → lv_has ls 9 [(0, .ref (g 99)), (3, .int x3), (4, .int x4), (5, .int x5), (6, .int x6), (7, .int x7), (8, .int x8)] → r76 x3 x4 x5 x6 x7 x8 S = some o → W p l e (rmd 7) s m args below meth c H locs 0 0 (gE below args s D (mtys cI cS) (mcell g cI cS sa) mord g (some (.int o.1)) o.2) (F0 m 76 ls [])) (X : gX D (mcell g cI cS sa) mord g S s H locs) (hl : lv_has ls 9 [(0, .ref (g 99)), (3, .int x3), (4, .int x4), (5, .int x5), (6, .int x6), (7, .int x7), (8, .int x8)]) (hF : fX12_game_b111 N r76 x3 x4 x5 x6 x7 x8 S = some o) : W p l e (rmd 7) s m args below meth c H locs 0 0 (gE below args s D (mtys cI cS) (mcell g cI cS sa) mord g (some (.int o.1)) o.2) (F0 m 111 ls []) := by
  unfold fX12_game_b111 at hF
  refine lv_iload C.1.1 C.1.2.1 dX12_game_111 (lv_at hl 2 rfl) ?_
  refine lv_if_eq (tgt := 139) C.1.1 C.1.2.1 dX12_game_113 (by decide) (fun h_z => ?_) (fun h_z => ?_)
  · rw [if_pos h_z] at hF
    exact bX12_game_139 C O K76 X (lv_sub hl [0, 1, 2, 3, 4, 5, 6] rfl) hF
  · rw [if_neg h_z] at hF
    exact bX12_game_116 C O K76 X (lv_sub hl [0, 1, 2, 3, 4, 5, 6] rfl) hF
noncomputable def fX12_game_b108 (N : Nat) (r76 : Int32 → Int32 → Int32 → Int32 → Int32 → Int32 → gS → Option (Int32 × gS)) (x3 : Int32) (x4 : Int32) (x5 : Int32) (x6 : Int32) (x7 : Int32) (x8 : Int32) (S : gS) : Option (Int32 × gS) := fX12_game_b202 N r76 x3 x4 x5 x6 x7 x8 S
theorem bX12_game_108 {N : Nat} {r76 : Int32 → Int32 → Int32 → Int32 → Int32 → Int32 → gS → Option (Int32 × gS)} {x3 : Int32} {x4 : Int32} {x5 : Int32} {x6 : Int32} {x7 : Int32} {x8 : Int32} {S : gS} {H : Heap} {locs : List Loc} {ls : Array Slot} {o : Int32 × gS} (C : gC p s m args meth c cX12_game 9 RX12 ((some .int)) D (mtys cI cS) mord g Am) (O : gO (mcell g cI cS sa) mord g) (K76 : ∀ (x3 : Int32) (x4 : Int32) (x5 : Int32) (x6 : Int32) (x7 : Int32) (x8 : Int32) (S : gS) (H : Heap) (locs : List Loc) (ls : Array Slot), gX D (mcell g cI cS sa) mord g S s H locs → lv_has ls 9 [(0, .ref (g 99)), (3, .int x3), (4, .int x4), (5, .int x5), (6, .int x6), (7, .int x7), (8, .int x8)] → r76 x3 x4 x5 x6 x7 x8 S = some o → W p l e (rmd 7) s m args below meth c H locs 0 0 (gE below args s D (mtys cI cS) (mcell g cI cS sa) mord g (some (.int o.1)) o.2) (F0 m 76 ls [])) (X : gX D (mcell g cI cS sa) mord g S s H locs) (hl : lv_has ls 9 [(0, .ref (g 99)), (3, .int x3), (4, .int x4), (5, .int x5), (6, .int x6), (7, .int x7), (8, .int x8)]) (hF : fX12_game_b108 N r76 x3 x4 x5 x6 x7 x8 S = some o) : W p l e (rmd 7) s m args below meth c H locs 0 0 (gE below args s D (mtys cI cS) (mcell g cI cS sa) mord g (some (.int o.1)) o.2) (F0 m 108 ls []) := by
  unfold fX12_game_b108 at hF
  refine lv_goto (tgt := 202) C.1.1 C.1.2.1 dX12_game_108 (by decide) ?_
  exact bX12_game_202 C O K76 X (lv_sub hl [0, 1, 2, 3, 4, 5, 6] rfl) hF
noncomputable def fX12_game_b103 (N : Nat) (r76 : Int32 → Int32 → Int32 → Int32 → Int32 → Int32 → gS → Option (Int32 × gS)) (x3 : Int32) (x4 : Int32) (x5 : Int32) (x6 : Int32) (x7 : Int32) (x8 : Int32) (S : gS) : Option (Int32 × gS) := if x5 = 0 then fX12_game_b108 N r76 x3 x4 x5 x6 x7 x8 S else fX12_game_b111 N r76 x3 x4 x5 x6 x7 x8 S
theorem bX12_game_103 {N : Nat} {r76 : Int32 → Int32 → Int32 → Int32 → Int32 → Int32 → gS → Option (Int32 × gS)} {x3 : Int32} {x4 : Int32} {x5 : Int32} {x6 : Int32} {x7 : Int32} {x8 : Int32} {S : gS} {H : Heap} {locs : List Loc} {ls : Array Slot} {o : Int32 × gS} (C : gC p s m args meth c cX12_game 9 RX12 ((some .int)) D (mtys cI cS) mord g Am) (O : gO (mcell g cI cS sa) mord g) (K76 : ∀ (x3 : Int32) (x4 : Int32) (x5 : Int32) (x6 : Int32) (x7 : Int32) (x8 : Int32) (S : gS) (H : Heap) (locs : List Loc) (ls : Array Slot), gX D (mcell g cI cS sa) mord g S s H locs → lv_has ls 9 [(0, .ref (g 99)), (3, .int x3), (4, .int x4), (5, .int x5), (6, .int x6), (7, .int x7), (8, .int x8)] → r76 x3 x4 x5 x6 x7 x8 S = some o → W p l e (rmd 7) s m args below meth c H locs 0 0 (gE below args s D (mtys cI cS) (mcell g cI cS sa) mord g (some (.int o.1)) o.2) (F0 m 76 ls [])) (X : gX D (mcell g cI cS sa) mord g S s H locs) (hl : lv_has ls 9 [(0, .ref (g 99)), (3, .int x3), (4, .int x4), (5, .int x5), (6, .int x6), (7, .int x7), (8, .int x8)]) (hF : fX12_game_b103 N r76 x3 x4 x5 x6 x7 x8 S = some o) : W p l e (rmd 7) s m args below meth c H locs 0 0 (gE below args s D (mtys cI cS) (mcell g cI cS sa) mord g (some (.int o.1)) o.2) (F0 m 103 ls []) := by
  unfold fX12_game_b103 at hF
  refine lv_iload C.1.1 C.1.2.1 dX12_game_103 (lv_at hl 3 rfl) ?_
  refine lv_if_ne (tgt := 111) C.1.1 C.1.2.1 dX12_game_105 (by decide) (fun h_z => ?_) (fun h_z => ?_)
  · rw [if_neg h_z] at hF
    exact bX12_game_111 C O K76 X (lv_sub hl [0, 1, 2, 3, 4, 5, 6] rfl) hF
  · rw [if_pos h_z] at hF
    exact bX12_game_108 C O K76 X (lv_sub hl [0, 1, 2, 3, 4, 5, 6] rfl) hF
noncomputable def fX12_game_b95 (N : Nat) (r76 : Int32 → Int32 → Int32 → Int32 → Int32 → Int32 → gS → Option (Int32 × gS)) (x3 : Int32) (x4 : Int32) (x5 : Int32) (x6 : Int32) (x7 : Int32) (x8 : Int32) (S : gS) : Option (Int32 × gS) := if ((x8 - x8 / 2 * 2 : Int32)) = 1 then fX12_game_b103 N r76 x3 x4 x5 x6 x7 x8 S else fX12_game_b111 N r76 x3 x4 x5 x6 x7 x8 S
theorem bX12_game_95 {N : Nat} {r76 : Int32 → Int32 → Int32 → Int32 → Int32 → Int32 → gS → Option (Int32 × gS)} {x3 : Int32} {x4 : Int32} {x5 : Int32} {x6 : Int32} {x7 : Int32} {x8 : Int32} {S : gS} {H : Heap} {locs : List Loc} {ls : Array Slot} {o : Int32 × gS} (C : gC p s m args meth c cX12_game 9 RX12 ((some .int)) D (mtys cI cS) mord g Am) (O : gO (mcell g cI cS sa) mord g) (K76 : ∀ (x3 : Int32) (x4 : Int32) (x5 : Int32) (x6 : Int32) (x7 : Int32) (x8 : Int32) (S : gS) (H : Heap) (locs : List Loc) (ls : Array Slot), gX D (mcell g cI cS sa) mord g S s H locs → lv_has ls 9 [(0, .ref (g 99)), (3, .int x3), (4, .int x4), (5, .int x5), (6, .int x6), (7, .int x7), (8, .int x8)] → r76 x3 x4 x5 x6 x7 x8 S = some o → W p l e (rmd 7) s m args below meth c H locs 0 0 (gE below args s D (mtys cI cS) (mcell g cI cS sa) mord g (some (.int o.1)) o.2) (F0 m 76 ls [])) (X : gX D (mcell g cI cS sa) mord g S s H locs) (hl : lv_has ls 9 [(0, .ref (g 99)), (3, .int x3), (4, .int x4), (5, .int x5), (6, .int x6), (7, .int x7), (8, .int x8)]) (hF : fX12_game_b95 N r76 x3 x4 x5 x6 x7 x8 S = some o) : W p l e (rmd 7) s m args below meth c H locs 0 0 (gE below args s D (mtys cI cS) (mcell g cI cS sa) mord g (some (.int o.1)) o.2) (F0 m 95 ls []) := by
  unfold fX12_game_b95 at hF
  refine lv_iload C.1.1 C.1.2.1 dX12_game_95 (lv_at hl 6 rfl) ?_
  refine lv_iconst (v := 2) C.1.1 C.1.2.1 dX12_game_97 (by decide) ?_
  refine lv_irem C.1.1 C.1.2.1 dX12_game_98 (by decide) ?_
  refine lv_iconst (v := 1) C.1.1 C.1.2.1 dX12_game_99 (by decide) ?_
  refine lv_icmp_ne (tgt := 111) C.1.1 C.1.2.1 dX12_game_100 (by decide) (fun h_z => ?_) (fun h_z => ?_)
  · rw [if_neg h_z] at hF
    exact bX12_game_111 C O K76 X (lv_sub hl [0, 1, 2, 3, 4, 5, 6] rfl) hF
  · rw [if_pos h_z] at hF
    exact bX12_game_103 C O K76 X (lv_sub hl [0, 1, 2, 3, 4, 5, 6] rfl) hF
noncomputable def fX12_game_b90 (N : Nat) (r76 : Int32 → Int32 → Int32 → Int32 → Int32 → Int32 → gS → Option (Int32 × gS)) (x3 : Int32) (x4 : Int32) (x5 : Int32) (x6 : Int32) (x7 : Int32) (x8 : Int32) (S : gS) : Option (Int32 × gS) := if x4 = 0 then fX12_game_b202 N r76 x3 x4 x5 x6 x7 x8 S else fX12_game_b95 N r76 x3 x4 x5 x6 x7 x8 S
theorem bX12_game_90 {N : Nat} {r76 : Int32 → Int32 → Int32 → Int32 → Int32 → Int32 → gS → Option (Int32 × gS)} {x3 : Int32} {x4 : Int32} {x5 : Int32} {x6 : Int32} {x7 : Int32} {x8 : Int32} {S : gS} {H : Heap} {locs : List Loc} {ls : Array Slot} {o : Int32 × gS} (C : gC p s m args meth c cX12_game 9 RX12 ((some .int)) D (mtys cI cS) mord g Am) (O : gO (mcell g cI cS sa) mord g) (K76 : ∀ (x3 : Int32) (x4 : Int32) (x5 : Int32) (x6 : Int32) (x7 : Int32) (x8 : Int32) (S : gS) (H : Heap) (locs : List Loc) (ls : Array Slot), gX D (mcell g cI cS sa) mord g S s H locs → lv_has ls 9 [(0, .ref (g 99)), (3, .int x3), (4, .int x4), (5, .int x5), (6, .int x6), (7, .int x7), (8, .int x8)] → r76 x3 x4 x5 x6 x7 x8 S = some o → W p l e (rmd 7) s m args below meth c H locs 0 0 (gE below args s D (mtys cI cS) (mcell g cI cS sa) mord g (some (.int o.1)) o.2) (F0 m 76 ls [])) (X : gX D (mcell g cI cS sa) mord g S s H locs) (hl : lv_has ls 9 [(0, .ref (g 99)), (3, .int x3), (4, .int x4), (5, .int x5), (6, .int x6), (7, .int x7), (8, .int x8)]) (hF : fX12_game_b90 N r76 x3 x4 x5 x6 x7 x8 S = some o) : W p l e (rmd 7) s m args below meth c H locs 0 0 (gE below args s D (mtys cI cS) (mcell g cI cS sa) mord g (some (.int o.1)) o.2) (F0 m 90 ls []) := by
  unfold fX12_game_b90 at hF
  refine lv_iload C.1.1 C.1.2.1 dX12_game_90 (lv_at hl 2 rfl) ?_
  refine lv_if_eq (tgt := 202) C.1.1 C.1.2.1 dX12_game_92 (by decide) (fun h_z => ?_) (fun h_z => ?_)
  · rw [if_pos h_z] at hF
    exact bX12_game_202 C O K76 X (lv_sub hl [0, 1, 2, 3, 4, 5, 6] rfl) hF
  · rw [if_neg h_z] at hF
    exact bX12_game_95 C O K76 X (lv_sub hl [0, 1, 2, 3, 4, 5, 6] rfl) hF
noncomputable def fX12_game_b82 (N : Nat) (r76 : Int32 → Int32 → Int32 → Int32 → Int32 → Int32 → gS → Option (Int32 × gS)) (x3 : Int32) (x4 : Int32) (x5 : Int32) (x6 : Int32) (x7 : Int32) (x8 : Int32) (S : gS) : Option (Int32 × gS) := if ((x8 / 2 : Int32)) = 1 then fX12_game_b90 N r76 x3 x4 x5 x6 x7 x8 S else fX12_game_b95 N r76 x3 x4 x5 x6 x7 x8 S
theorem bX12_game_82 {N : Nat} {r76 : Int32 → Int32 → Int32 → Int32 → Int32 → Int32 → gS → Option (Int32 × gS)} {x3 : Int32} {x4 : Int32} {x5 : Int32} {x6 : Int32} {x7 : Int32} {x8 : Int32} {S : gS} {H : Heap} {locs : List Loc} {ls : Array Slot} {o : Int32 × gS} (C : gC p s m args meth c cX12_game 9 RX12 ((some .int)) D (mtys cI cS) mord g Am) (O : gO (mcell g cI cS sa) mord g) (K76 : ∀ (x3 : Int32) (x4 : Int32) (x5 : Int32) (x6 : Int32) (x7 : Int32) (x8 : Int32) (S : gS) (H : Heap) (locs : List Loc) (ls : Array Slot), gX D (mcell g cI cS sa) mord g S s H locs → lv_has ls 9 [(0, .ref (g 99)), (3, .int x3), (4, .int x4), (5, .int x5), (6, .int x6), (7, .int x7), (8, .int x8)] → r76 x3 x4 x5 x6 x7 x8 S = some o → W p l e (rmd 7) s m args below meth c H locs 0 0 (gE below args s D (mtys cI cS) (mcell g cI cS sa) mord g (some (.int o.1)) o.2) (F0 m 76 ls [])) (X : gX D (mcell g cI cS sa) mord g S s H locs) (hl : lv_has ls 9 [(0, .ref (g 99)), (3, .int x3), (4, .int x4), (5, .int x5), (6, .int x6), (7, .int x7), (8, .int x8)]) (hF : fX12_game_b82 N r76 x3 x4 x5 x6 x7 x8 S = some o) : W p l e (rmd 7) s m args below meth c H locs 0 0 (gE below args s D (mtys cI cS) (mcell g cI cS sa) mord g (some (.int o.1)) o.2) (F0 m 82 ls []) := by
  unfold fX12_game_b82 at hF
  refine lv_iload C.1.1 C.1.2.1 dX12_game_82 (lv_at hl 6 rfl) ?_
  refine lv_iconst (v := 2) C.1.1 C.1.2.1 dX12_game_84 (by decide) ?_
  refine lv_idiv C.1.1 C.1.2.1 dX12_game_85 (by decide) ?_
  refine lv_iconst (v := 1) C.1.1 C.1.2.1 dX12_game_86 (by decide) ?_
  refine lv_icmp_ne (tgt := 95) C.1.1 C.1.2.1 dX12_game_87 (by decide) (fun h_z => ?_) (fun h_z => ?_)
  · rw [if_neg h_z] at hF
    exact bX12_game_95 C O K76 X (lv_sub hl [0, 1, 2, 3, 4, 5, 6] rfl) hF
  · rw [if_pos h_z] at hF
    exact bX12_game_90 C O K76 X (lv_sub hl [0, 1, 2, 3, 4, 5, 6] rfl) hF
noncomputable def fX12_game_b76 (N : Nat) (r76 : Int32 → Int32 → Int32 → Int32 → Int32 → Int32 → gS → Option (Int32 × gS)) (x3 : Int32) (x4 : Int32) (x5 : Int32) (x6 : Int32) (x7 : Int32) (x8 : Int32) (S : gS) : Option (Int32 × gS) := if 4 ≤ x8 then fX12_game_b208 N x3 x6 x7 S else fX12_game_b82 N r76 x3 x4 x5 x6 x7 x8 S
theorem bX12_game_76 {N : Nat} {r76 : Int32 → Int32 → Int32 → Int32 → Int32 → Int32 → gS → Option (Int32 × gS)} {x3 : Int32} {x4 : Int32} {x5 : Int32} {x6 : Int32} {x7 : Int32} {x8 : Int32} {S : gS} {H : Heap} {locs : List Loc} {ls : Array Slot} {o : Int32 × gS} (C : gC p s m args meth c cX12_game 9 RX12 ((some .int)) D (mtys cI cS) mord g Am) (O : gO (mcell g cI cS sa) mord g) (K76 : ∀ (x3 : Int32) (x4 : Int32) (x5 : Int32) (x6 : Int32) (x7 : Int32) (x8 : Int32) (S : gS) (H : Heap) (locs : List Loc) (ls : Array Slot), gX D (mcell g cI cS sa) mord g S s H locs → lv_has ls 9 [(0, .ref (g 99)), (3, .int x3), (4, .int x4), (5, .int x5), (6, .int x6), (7, .int x7), (8, .int x8)] → r76 x3 x4 x5 x6 x7 x8 S = some o → W p l e (rmd 7) s m args below meth c H locs 0 0 (gE below args s D (mtys cI cS) (mcell g cI cS sa) mord g (some (.int o.1)) o.2) (F0 m 76 ls [])) (X : gX D (mcell g cI cS sa) mord g S s H locs) (hl : lv_has ls 9 [(0, .ref (g 99)), (3, .int x3), (4, .int x4), (5, .int x5), (6, .int x6), (7, .int x7), (8, .int x8)]) (hF : fX12_game_b76 N r76 x3 x4 x5 x6 x7 x8 S = some o) : W p l e (rmd 7) s m args below meth c H locs 0 0 (gE below args s D (mtys cI cS) (mcell g cI cS sa) mord g (some (.int o.1)) o.2) (F0 m 76 ls []) := by
  unfold fX12_game_b76 at hF
  refine lv_iload C.1.1 C.1.2.1 dX12_game_76 (lv_at hl 6 rfl) ?_
  refine lv_iconst (v := 4) C.1.1 C.1.2.1 dX12_game_78 (by decide) ?_
  refine lv_icmp_ge (tgt := 208) C.1.1 C.1.2.1 dX12_game_79 (by decide) (fun h_z => ?_) (fun h_z => ?_)
  · rw [if_pos h_z] at hF
    exact bX12_game_208 C O X (lv_sub hl [1, 4, 5] rfl) hF
  · rw [if_neg h_z] at hF
    exact bX12_game_82 C O K76 X (lv_sub hl [0, 1, 2, 3, 4, 5, 6] rfl) hF
noncomputable def fX12_game_h76 (N : Nat) : Nat → Int32 → Int32 → Int32 → Int32 → Int32 → Int32 → gS → Option (Int32 × gS)
  | 0, _, _, _, _, _, _, _ => none
  | n + 1, x3, x4, x5, x6, x7, x8, S => fX12_game_b76 N (fX12_game_h76 N n) x3 x4 x5 x6 x7 x8 S
theorem hX12_game_76 {N : Nat} {o : Int32 × gS} (C : gC p s m args meth c cX12_game 9 RX12 ((some .int)) D (mtys cI cS) mord g Am) (O : gO (mcell g cI cS sa) mord g) : ∀ (n : Nat) (x3 : Int32) (x4 : Int32) (x5 : Int32) (x6 : Int32) (x7 : Int32) (x8 : Int32) (S : gS) (H : Heap) (locs : List Loc) (ls : Array Slot), gX D (mcell g cI cS sa) mord g S s H locs → lv_has ls 9 [(0, .ref (g 99)), (3, .int x3), (4, .int x4), (5, .int x5), (6, .int x6), (7, .int x7), (8, .int x8)] → fX12_game_h76 N n x3 x4 x5 x6 x7 x8 S = some o → W p l e (rmd 7) s m args below meth c H locs 0 0 (gE below args s D (mtys cI cS) (mcell g cI cS sa) mord g (some (.int o.1)) o.2) (F0 m 76 ls []) := by
  intro n
  induction n with
  | zero =>
    intro x3 x4 x5 x6 x7 x8 S H locs ls X hl hF
    exact absurd (show (none : Option (Int32 × gS)) = some o from hF) (by simp)
  | succ n ih =>
    intro x3 x4 x5 x6 x7 x8 S H locs ls X hl hF
    have hF : fX12_game_b76 N (fX12_game_h76 N n) x3 x4 x5 x6 x7 x8 S = some o := hF
    exact bX12_game_76 C O ih X hl hF
noncomputable def fX12_game_b47 (N : Nat) (x1 : Int32) (x2 : Int32) (x3 : Int32) (S : gS) : Option (Int32 × gS) := bnd (fX12_canConfess N x1 S) fun q1 => (bnd (fX12_canConfess N x2 q1.2) fun q2 => (bnd (fX12_tellGains N x1 x2 q2.2) fun q3 => (fX12_game_h76 N N x3 q1.1 q2.1 0 ((-1)) 0 q3.2)))
theorem bX12_game_47 {N : Nat} {x1 : Int32} {x2 : Int32} {x3 : Int32} {S : gS} {H : Heap} {locs : List Loc} {ls : Array Slot} {o : Int32 × gS} (C : gC p s m args meth c cX12_game 9 RX12 ((some .int)) D (mtys cI cS) mord g Am) (O : gO (mcell g cI cS sa) mord g) (X : gX D (mcell g cI cS sa) mord g S s H locs) (hl : lv_has ls 9 [(0, .ref (g 99)), (1, .int x1), (2, .int x2), (3, .int x3)]) (hF : fX12_game_b47 N x1 x2 x3 S = some o) : W p l e (rmd 7) s m args below meth c H locs 0 0 (gE below args s D (mtys cI cS) (mcell g cI cS sa) mord g (some (.int o.1)) o.2) (F0 m 47 ls []) := by
  unfold fX12_game_b47 at hF
  refine lv_aload_n C.1.1 C.1.2.1 dX12_game_47 rfl (lv_at hl 0 rfl) ?_
  refine lv_iload_n C.1.1 C.1.2.1 dX12_game_48 rfl (lv_at hl 1 rfl) ?_
  obtain ⟨q1, hq1, hF⟩ := bnd_some hF
  refine m_callVi C X vX12_canConfess rfl (kX12_canConfess O C.2.2.2.2.1 N x1  S q1 hq1) (Nat.le_of_ble_eq_true rfl) (Nat.le_of_ble_eq_true rfl) (Nat.le_of_ble_eq_true rfl) (Nat.le_of_ble_eq_true rfl) rfl hl.1 rfl (Nat.le_of_ble_eq_true rfl) dX12_game_49 (fun H locs X => ?_)
  refine lv_istore (lv' := [(4, .int q1.1), (0, .ref (g 99)), (1, .int x1), (2, .int x2), (3, .int x3)]) C.1.1 C.1.2.1 dX12_game_52 hl (by decide) rfl (fun ls hl => ?_)
  refine lv_aload_n C.1.1 C.1.2.1 dX12_game_54 rfl (lv_at hl 1 rfl) ?_
  refine lv_iload_n C.1.1 C.1.2.1 dX12_game_55 rfl (lv_at hl 3 rfl) ?_
  obtain ⟨q2, hq2, hF⟩ := bnd_some hF
  refine m_callVi C X vX12_canConfess rfl (kX12_canConfess O C.2.2.2.2.1 N x2  q1.2 q2 hq2) (Nat.le_of_ble_eq_true rfl) (Nat.le_of_ble_eq_true rfl) (Nat.le_of_ble_eq_true rfl) (Nat.le_of_ble_eq_true rfl) rfl hl.1 rfl (Nat.le_of_ble_eq_true rfl) dX12_game_56 (fun H locs X => ?_)
  refine lv_istore (lv' := [(5, .int q2.1), (4, .int q1.1), (0, .ref (g 99)), (1, .int x1), (2, .int x2), (3, .int x3)]) C.1.1 C.1.2.1 dX12_game_59 hl (by decide) rfl (fun ls hl => ?_)
  refine lv_aload_n C.1.1 C.1.2.1 dX12_game_61 rfl (lv_at hl 2 rfl) ?_
  refine lv_iload_n C.1.1 C.1.2.1 dX12_game_62 rfl (lv_at hl 3 rfl) ?_
  refine lv_iload_n C.1.1 C.1.2.1 dX12_game_63 rfl (lv_at hl 4 rfl) ?_
  obtain ⟨q3, hq3, hF⟩ := bnd_some hF
  refine m_callV C X vX12_tellGains rfl (kX12_tellGains O C.2.2.2.2.1 N x1 x2  q2.2 q3 hq3) (Nat.le_of_ble_eq_true rfl) (Nat.le_of_ble_eq_true rfl) (Nat.le_of_ble_eq_true rfl) (Nat.le_of_ble_eq_true rfl) rfl hl.1 rfl (Nat.le_of_ble_eq_true rfl) dX12_game_64 (fun H locs X => ?_)
  refine lv_iconst (v := 0) C.1.1 C.1.2.1 dX12_game_67 (by decide) ?_
  refine lv_istore (lv' := [(6, .int 0), (5, .int q2.1), (4, .int q1.1), (0, .ref (g 99)), (1, .int x1), (2, .int x2), (3, .int x3)]) C.1.1 C.1.2.1 dX12_game_68 hl (by decide) rfl (fun ls hl => ?_)
  refine lv_iconst (v := (-1)) C.1.1 C.1.2.1 dX12_game_70 (by decide) ?_
  refine lv_istore (lv' := [(7, .int ((-1))), (6, .int 0), (5, .int q2.1), (4, .int q1.1), (0, .ref (g 99)), (1, .int x1), (2, .int x2), (3, .int x3)]) C.1.1 C.1.2.1 dX12_game_71 hl (by decide) rfl (fun ls hl => ?_)
  refine lv_iconst (v := 0) C.1.1 C.1.2.1 dX12_game_73 (by decide) ?_
  refine lv_istore (lv' := [(8, .int 0), (7, .int ((-1))), (6, .int 0), (5, .int q2.1), (4, .int q1.1), (0, .ref (g 99)), (1, .int x1), (2, .int x2), (3, .int x3)]) C.1.1 C.1.2.1 dX12_game_74 hl (by decide) rfl (fun ls hl => ?_)
  exact hX12_game_76 C O N _ _ _ _ _ _ _ _ _ _ X (lv_sub hl [5, 8, 4, 3, 2, 1, 0] rfl) hF
noncomputable def fX12_game_b41 (N : Nat) (S : gS) : Option (Int32 × gS) := bnd (fX12_fail N 2 S) fun q1 => (some (q1.1, q1.2))
theorem bX12_game_41 {N : Nat} {S : gS} {H : Heap} {locs : List Loc} {ls : Array Slot} {o : Int32 × gS} (C : gC p s m args meth c cX12_game 9 RX12 ((some .int)) D (mtys cI cS) mord g Am) (O : gO (mcell g cI cS sa) mord g) (X : gX D (mcell g cI cS sa) mord g S s H locs) (hl : lv_has ls 9 [(0, .ref (g 99))]) (hF : fX12_game_b41 N S = some o) : W p l e (rmd 7) s m args below meth c H locs 0 0 (gE below args s D (mtys cI cS) (mcell g cI cS sa) mord g (some (.int o.1)) o.2) (F0 m 41 ls []) := by
  unfold fX12_game_b41 at hF
  refine lv_aload_n C.1.1 C.1.2.1 dX12_game_41 rfl (lv_at hl 0 rfl) ?_
  refine lv_iconst (v := 2) C.1.1 C.1.2.1 dX12_game_42 (by decide) ?_
  obtain ⟨q1, hq1, hF⟩ := bnd_some hF
  refine m_callVi C X vX12_fail rfl (kX12_fail O C.2.2.2.2.1 N 2  S q1 hq1) (Nat.le_of_ble_eq_true rfl) (Nat.le_of_ble_eq_true rfl) (Nat.le_of_ble_eq_true rfl) (Nat.le_of_ble_eq_true rfl) rfl hl.1 rfl (Nat.le_of_ble_eq_true rfl) dX12_game_43 (fun H locs X => ?_)
  cases hF
  exact g_iret C X dX12_game_46
noncomputable def fX12_game_b36 (N : Nat) (x1 : Int32) (x2 : Int32) (x3 : Int32) (S : gS) : Option (Int32 × gS) := if x1 = x2 then fX12_game_b41 N S else fX12_game_b47 N x1 x2 x3 S
theorem bX12_game_36 {N : Nat} {x1 : Int32} {x2 : Int32} {x3 : Int32} {S : gS} {H : Heap} {locs : List Loc} {ls : Array Slot} {o : Int32 × gS} (C : gC p s m args meth c cX12_game 9 RX12 ((some .int)) D (mtys cI cS) mord g Am) (O : gO (mcell g cI cS sa) mord g) (X : gX D (mcell g cI cS sa) mord g S s H locs) (hl : lv_has ls 9 [(0, .ref (g 99)), (1, .int x1), (2, .int x2), (3, .int x3)]) (hF : fX12_game_b36 N x1 x2 x3 S = some o) : W p l e (rmd 7) s m args below meth c H locs 0 0 (gE below args s D (mtys cI cS) (mcell g cI cS sa) mord g (some (.int o.1)) o.2) (F0 m 36 ls []) := by
  unfold fX12_game_b36 at hF
  refine lv_iload_n C.1.1 C.1.2.1 dX12_game_36 rfl (lv_at hl 1 rfl) ?_
  refine lv_iload_n C.1.1 C.1.2.1 dX12_game_37 rfl (lv_at hl 2 rfl) ?_
  refine lv_icmp_ne (tgt := 47) C.1.1 C.1.2.1 dX12_game_38 (by decide) (fun h_z => ?_) (fun h_z => ?_)
  · rw [if_neg h_z] at hF
    exact bX12_game_47 C O X (lv_sub hl [0, 1, 2, 3] rfl) hF
  · rw [if_pos h_z] at hF
    exact bX12_game_41 C O X (lv_sub hl [0] rfl) hF
noncomputable def fX12_game_b30 (N : Nat) (S : gS) : Option (Int32 × gS) := bnd (fX12_fail N 1 S) fun q1 => (some (q1.1, q1.2))
theorem bX12_game_30 {N : Nat} {S : gS} {H : Heap} {locs : List Loc} {ls : Array Slot} {o : Int32 × gS} (C : gC p s m args meth c cX12_game 9 RX12 ((some .int)) D (mtys cI cS) mord g Am) (O : gO (mcell g cI cS sa) mord g) (X : gX D (mcell g cI cS sa) mord g S s H locs) (hl : lv_has ls 9 [(0, .ref (g 99))]) (hF : fX12_game_b30 N S = some o) : W p l e (rmd 7) s m args below meth c H locs 0 0 (gE below args s D (mtys cI cS) (mcell g cI cS sa) mord g (some (.int o.1)) o.2) (F0 m 30 ls []) := by
  unfold fX12_game_b30 at hF
  refine lv_aload_n C.1.1 C.1.2.1 dX12_game_30 rfl (lv_at hl 0 rfl) ?_
  refine lv_iconst (v := 1) C.1.1 C.1.2.1 dX12_game_31 (by decide) ?_
  obtain ⟨q1, hq1, hF⟩ := bnd_some hF
  refine m_callVi C X vX12_fail rfl (kX12_fail O C.2.2.2.2.1 N 1  S q1 hq1) (Nat.le_of_ble_eq_true rfl) (Nat.le_of_ble_eq_true rfl) (Nat.le_of_ble_eq_true rfl) (Nat.le_of_ble_eq_true rfl) rfl hl.1 rfl (Nat.le_of_ble_eq_true rfl) dX12_game_32 (fun H locs X => ?_)
  cases hF
  exact g_iret C X dX12_game_35
noncomputable def fX12_game_b25 (N : Nat) (x1 : Int32) (x2 : Int32) (x3 : Int32) (S : gS) : Option (Int32 × gS) := if x3 ≤ 1 then fX12_game_b36 N x1 x2 x3 S else fX12_game_b30 N S
theorem bX12_game_25 {N : Nat} {x1 : Int32} {x2 : Int32} {x3 : Int32} {S : gS} {H : Heap} {locs : List Loc} {ls : Array Slot} {o : Int32 × gS} (C : gC p s m args meth c cX12_game 9 RX12 ((some .int)) D (mtys cI cS) mord g Am) (O : gO (mcell g cI cS sa) mord g) (X : gX D (mcell g cI cS sa) mord g S s H locs) (hl : lv_has ls 9 [(0, .ref (g 99)), (1, .int x1), (2, .int x2), (3, .int x3)]) (hF : fX12_game_b25 N x1 x2 x3 S = some o) : W p l e (rmd 7) s m args below meth c H locs 0 0 (gE below args s D (mtys cI cS) (mcell g cI cS sa) mord g (some (.int o.1)) o.2) (F0 m 25 ls []) := by
  unfold fX12_game_b25 at hF
  refine lv_iload_n C.1.1 C.1.2.1 dX12_game_25 rfl (lv_at hl 3 rfl) ?_
  refine lv_iconst (v := 1) C.1.1 C.1.2.1 dX12_game_26 (by decide) ?_
  refine lv_icmp_le (tgt := 36) C.1.1 C.1.2.1 dX12_game_27 (by decide) (fun h_z => ?_) (fun h_z => ?_)
  · rw [if_pos h_z] at hF
    exact bX12_game_36 C O X (lv_sub hl [0, 1, 2, 3] rfl) hF
  · rw [if_neg h_z] at hF
    exact bX12_game_30 C O X (lv_sub hl [0] rfl) hF
noncomputable def fX12_game_b21 (N : Nat) (x1 : Int32) (x2 : Int32) (x3 : Int32) (S : gS) : Option (Int32 × gS) := if x3 < 0 then fX12_game_b30 N S else fX12_game_b25 N x1 x2 x3 S
theorem bX12_game_21 {N : Nat} {x1 : Int32} {x2 : Int32} {x3 : Int32} {S : gS} {H : Heap} {locs : List Loc} {ls : Array Slot} {o : Int32 × gS} (C : gC p s m args meth c cX12_game 9 RX12 ((some .int)) D (mtys cI cS) mord g Am) (O : gO (mcell g cI cS sa) mord g) (X : gX D (mcell g cI cS sa) mord g S s H locs) (hl : lv_has ls 9 [(0, .ref (g 99)), (1, .int x1), (2, .int x2), (3, .int x3)]) (hF : fX12_game_b21 N x1 x2 x3 S = some o) : W p l e (rmd 7) s m args below meth c H locs 0 0 (gE below args s D (mtys cI cS) (mcell g cI cS sa) mord g (some (.int o.1)) o.2) (F0 m 21 ls []) := by
  unfold fX12_game_b21 at hF
  refine lv_iload_n C.1.1 C.1.2.1 dX12_game_21 rfl (lv_at hl 3 rfl) ?_
  refine lv_if_lt (tgt := 30) C.1.1 C.1.2.1 dX12_game_22 (by decide) (fun h_z => ?_) (fun h_z => ?_)
  · rw [if_pos h_z] at hF
    exact bX12_game_30 C O X (lv_sub hl [0] rfl) hF
  · rw [if_neg h_z] at hF
    exact bX12_game_25 C O X (lv_sub hl [0, 1, 2, 3] rfl) hF
noncomputable def fX12_game_b13 (N : Nat) (x1 : Int32) (x2 : Int32) (x3 : Int32) (S : gS) : Option (Int32 × gS) := bnd (fX12_isGuild N x2 S) fun q1 => (if q1.1 = 0 then fX12_game_b30 N q1.2 else fX12_game_b21 N x1 x2 x3 q1.2)
theorem bX12_game_13 {N : Nat} {x1 : Int32} {x2 : Int32} {x3 : Int32} {S : gS} {H : Heap} {locs : List Loc} {ls : Array Slot} {o : Int32 × gS} (C : gC p s m args meth c cX12_game 9 RX12 ((some .int)) D (mtys cI cS) mord g Am) (O : gO (mcell g cI cS sa) mord g) (X : gX D (mcell g cI cS sa) mord g S s H locs) (hl : lv_has ls 9 [(0, .ref (g 99)), (1, .int x1), (2, .int x2), (3, .int x3)]) (hF : fX12_game_b13 N x1 x2 x3 S = some o) : W p l e (rmd 7) s m args below meth c H locs 0 0 (gE below args s D (mtys cI cS) (mcell g cI cS sa) mord g (some (.int o.1)) o.2) (F0 m 13 ls []) := by
  unfold fX12_game_b13 at hF
  refine lv_aload_n C.1.1 C.1.2.1 dX12_game_13 rfl (lv_at hl 0 rfl) ?_
  refine lv_iload_n C.1.1 C.1.2.1 dX12_game_14 rfl (lv_at hl 2 rfl) ?_
  obtain ⟨q1, hq1, hF⟩ := bnd_some hF
  refine m_callVi C X vX12_isGuild rfl (kX12_isGuild O C.2.2.2.2.1 N x2  S q1 hq1) (Nat.le_of_ble_eq_true rfl) (Nat.le_of_ble_eq_true rfl) (Nat.le_of_ble_eq_true rfl) (Nat.le_of_ble_eq_true rfl) rfl hl.1 rfl (Nat.le_of_ble_eq_true rfl) dX12_game_15 (fun H locs X => ?_)
  refine lv_if_eq (tgt := 30) C.1.1 C.1.2.1 dX12_game_18 (by decide) (fun h_z => ?_) (fun h_z => ?_)
  · rw [if_pos h_z] at hF
    exact bX12_game_30 C O X (lv_sub hl [0] rfl) hF
  · rw [if_neg h_z] at hF
    exact bX12_game_21 C O X (lv_sub hl [0, 1, 2, 3] rfl) hF
noncomputable def fX12_game_b0 (N : Nat) (x1 : Int32) (x2 : Int32) (x3 : Int32) (S : gS) : Option (Int32 × gS) := lt (sU S 99 4 0) fun S1 => (bnd (fX12_isGuild N x1 S1) fun q1 => (if q1.1 = 0 then fX12_game_b30 N q1.2 else fX12_game_b13 N x1 x2 x3 q1.2))
theorem bX12_game_0 {N : Nat} {x1 : Int32} {x2 : Int32} {x3 : Int32} {S : gS} {H : Heap} {locs : List Loc} {ls : Array Slot} {o : Int32 × gS} (C : gC p s m args meth c cX12_game 9 RX12 ((some .int)) D (mtys cI cS) mord g Am) (O : gO (mcell g cI cS sa) mord g) (X : gX D (mcell g cI cS sa) mord g S s H locs) (hl : lv_has ls 9 [(0, .ref (g 99)), (1, .int x1), (2, .int x2), (3, .int x3)]) (hF : fX12_game_b0 N x1 x2 x3 S = some o) : W p l e (rmd 7) s m args below meth c H locs 0 0 (gE below args s D (mtys cI cS) (mcell g cI cS sa) mord g (some (.int o.1)) o.2) (F0 m 0 ls []) := by
  unfold fX12_game_b0 at hF
  refine lv_aload_n C.1.1 C.1.2.1 dX12_game_0 rfl (lv_at hl 0 rfl) ?_
  refine lv_iconst (v := 0) C.1.1 C.1.2.1 dX12_game_1 (by decide) ?_
  obtain ⟨S1, eS1, hF⟩ := lt_some hF
  refine m_p4 C O X eS1 dX12_game_2 (fun H locs X => ?_)
  refine lv_aload_n C.1.1 C.1.2.1 dX12_game_5 rfl (lv_at hl 0 rfl) ?_
  refine lv_iload_n C.1.1 C.1.2.1 dX12_game_6 rfl (lv_at hl 1 rfl) ?_
  obtain ⟨q1, hq1, hF⟩ := bnd_some hF
  refine m_callVi C X vX12_isGuild rfl (kX12_isGuild O C.2.2.2.2.1 N x1  S1 q1 hq1) (Nat.le_of_ble_eq_true rfl) (Nat.le_of_ble_eq_true rfl) (Nat.le_of_ble_eq_true rfl) (Nat.le_of_ble_eq_true rfl) rfl hl.1 rfl (Nat.le_of_ble_eq_true rfl) dX12_game_7 (fun H locs X => ?_)
  refine lv_if_eq (tgt := 30) C.1.1 C.1.2.1 dX12_game_10 (by decide) (fun h_z => ?_) (fun h_z => ?_)
  · rw [if_pos h_z] at hF
    exact bX12_game_30 C O X (lv_sub hl [0] rfl) hF
  · rw [if_neg h_z] at hF
    exact bX12_game_13 C O X (lv_sub hl [0, 1, 2, 3] rfl) hF
noncomputable def fX12_game (N : Nat) (x1 : Int32) (x2 : Int32) (x3 : Int32) (S : gS) : Option (Int32 × gS) := fX12_game_b0 N x1 x2 x3 S
theorem kX12_game {l : Launch} {D : va_G} {g : Nat → Nat} {cI cS : ClassId} {sa : Nat → Nat → Option Nat} {Am : (Nat → Prop) → State → Heap → Prop} (O : gO (mcell g cI cS sa) mord g) (P : gAm Am) (N : Nat) (x1 : Int32) (x2 : Int32) (x3 : Int32) (S : gS) (o : Int32 × gS) (hF : fX12_game N x1 x2 x3 S = some o) : gM l yX12_game cX12_game 9 ((some .int)) 7 D (mtys cI cS) (mcell g cI cS sa) mord g Am [.ref (g 99), .int x1, .int x2, .int x3] S (some (.int o.1)) o.2 :=
  gM_of O P (by decide) (Nat.le_of_ble_eq_true rfl) (fun p e s m args below meth c ls C X hl => bX12_game_0 C O X (lv_sub hl [0, 1, 2, 3] rfl) hF)
-- drawOf
noncomputable def fX12_drawOf_b0 (N : Nat) (x1 : Int32) (S : gS) : Option (Int32 × gS) := lt (sU S 99 56 (((((S 99 56) * 1103515245 : Int32)) + 12345 : Int32))) fun S1 => (chk (nz x1) (some (((((((S1 99 56) >>> ((16 : Int32) &&& 31) : Int32)) &&& 32767 : Int32)) - (((((S1 99 56) >>> ((16 : Int32) &&& 31) : Int32)) &&& 32767 : Int32)) / x1 * x1 : Int32), S1)))
theorem bX12_drawOf_0 {N : Nat} {x1 : Int32} {S : gS} {H : Heap} {locs : List Loc} {ls : Array Slot} {o : Int32 × gS} (C : gC p s m args meth c cX12_drawOf 2 RX12 ((some .int)) D (mtys cI cS) mord g Am) (O : gO (mcell g cI cS sa) mord g) (X : gX D (mcell g cI cS sa) mord g S s H locs) (hl : lv_has ls 2 [(0, .ref (g 99)), (1, .int x1)]) (hF : fX12_drawOf_b0 N x1 S = some o) : W p l e (rmd 0) s m args below meth c H locs 0 0 (gE below args s D (mtys cI cS) (mcell g cI cS sa) mord g (some (.int o.1)) o.2) (F0 m 0 ls []) := by
  unfold fX12_drawOf_b0 at hF
  refine lv_aload_n C.1.1 C.1.2.1 dX12_drawOf_0 rfl (lv_at hl 0 rfl) ?_
  refine lv_aload_n C.1.1 C.1.2.1 dX12_drawOf_1 rfl (lv_at hl 0 rfl) ?_
  refine m_g56 C X dX12_drawOf_2 ?_
  refine lv_ldcw C.1.1 C.1.2.1 C.1.2.2.2.1 (C.1.2.2.2.2 _ mKI480) dX12_drawOf_5 ?_
  refine lv_imul C.1.1 C.1.2.1 dX12_drawOf_8 ?_
  refine lv_sipush (v := 12345) C.1.1 C.1.2.1 dX12_drawOf_9 (by decide) ?_
  refine lv_iadd C.1.1 C.1.2.1 dX12_drawOf_12 ?_
  obtain ⟨S1, eS1, hF⟩ := lt_some hF
  refine m_p56 C O X eS1 dX12_drawOf_13 (fun H locs X => ?_)
  refine lv_aload_n C.1.1 C.1.2.1 dX12_drawOf_16 rfl (lv_at hl 0 rfl) ?_
  refine m_g56 C X dX12_drawOf_17 ?_
  refine lv_bipush (v := 16) C.1.1 C.1.2.1 dX12_drawOf_20 (by decide) ?_
  refine lv_ishr C.1.1 C.1.2.1 dX12_drawOf_22 ?_
  refine lv_sipush (v := 32767) C.1.1 C.1.2.1 dX12_drawOf_23 (by decide) ?_
  refine lv_iand C.1.1 C.1.2.1 dX12_drawOf_26 ?_
  refine lv_iload_n C.1.1 C.1.2.1 dX12_drawOf_27 rfl (lv_at hl 1 rfl) ?_
  obtain ⟨h_1, hF⟩ := chk_some hF
  refine lv_irem C.1.1 C.1.2.1 dX12_drawOf_28 (nz_ne h_1) ?_
  cases hF
  exact g_iret C X dX12_drawOf_29
noncomputable def fX12_drawOf (N : Nat) (x1 : Int32) (S : gS) : Option (Int32 × gS) := fX12_drawOf_b0 N x1 S
theorem kX12_drawOf {l : Launch} {D : va_G} {g : Nat → Nat} {cI cS : ClassId} {sa : Nat → Nat → Option Nat} {Am : (Nat → Prop) → State → Heap → Prop} (O : gO (mcell g cI cS sa) mord g) (P : gAm Am) (N : Nat) (x1 : Int32) (S : gS) (o : Int32 × gS) (hF : fX12_drawOf N x1 S = some o) : gM l yX12_drawOf cX12_drawOf 2 ((some .int)) 0 D (mtys cI cS) (mcell g cI cS sa) mord g Am [.ref (g 99), .int x1] S (some (.int o.1)) o.2 :=
  gM_of O P (by decide) (Nat.le_of_ble_eq_true rfl) (fun p e s m args below meth c ls C X hl => bX12_drawOf_0 C O X (lv_sub hl [0, 1] rfl) hF)
-- something
noncomputable def fX12_something_b151 (N : Nat) (S : gS) : Option (Int32 × gS) := bnd (fX12_drawOf N 4 S) fun q1 => (lt (sU q1.2 99 41 q1.1) fun S2 => (some (0, S2)))
theorem bX12_something_151 {N : Nat} {S : gS} {H : Heap} {locs : List Loc} {ls : Array Slot} {o : Int32 × gS} (C : gC p s m args meth c cX12_something 5 RX12 none D (mtys cI cS) mord g Am) (O : gO (mcell g cI cS sa) mord g) (X : gX D (mcell g cI cS sa) mord g S s H locs) (hl : lv_has ls 5 [(0, .ref (g 99))]) (hF : fX12_something_b151 N S = some o) : W p l e (rmd 1) s m args below meth c H locs 0 0 (gE below args s D (mtys cI cS) (mcell g cI cS sa) mord g none o.2) (F0 m 151 ls []) := by
  unfold fX12_something_b151 at hF
  refine lv_aload_n C.1.1 C.1.2.1 dX12_something_151 rfl (lv_at hl 0 rfl) ?_
  refine lv_aload_n C.1.1 C.1.2.1 dX12_something_152 rfl (lv_at hl 0 rfl) ?_
  refine lv_iconst (v := 4) C.1.1 C.1.2.1 dX12_something_153 (by decide) ?_
  obtain ⟨q1, hq1, hF⟩ := bnd_some hF
  refine m_callVi C X vX12_drawOf rfl (kX12_drawOf O C.2.2.2.2.1 N 4  S q1 hq1) (Nat.le_of_ble_eq_true rfl) (Nat.le_of_ble_eq_true rfl) (Nat.le_of_ble_eq_true rfl) (Nat.le_of_ble_eq_true rfl) rfl hl.1 rfl (Nat.le_of_ble_eq_true rfl) dX12_something_154 (fun H locs X => ?_)
  obtain ⟨S2, eS2, hF⟩ := lt_some hF
  refine m_p41 C O X eS2 dX12_something_157 (fun H locs X => ?_)
  cases hF
  exact g_vret C X dX12_something_160
noncomputable def fX12_something_b119 (N : Nat) (S : gS) : Option (Int32 × gS) := bnd (fX12_drawOf N (S 5 1) S) fun q1 => (chk (inb q1.1 (6)) (chk (inb q1.1 (6)) (lt (sU q1.2 33 (Int32.toNatClampNeg q1.1) (if (((q1.2 33 (Int32.toNatClampNeg q1.1)) + 20 : Int32)) < 999 then (((q1.2 33 (Int32.toNatClampNeg q1.1)) + 20 : Int32)) else 999)) fun S2 => (fX12_something_b151 N S2))))
theorem bX12_something_119 {N : Nat} {S : gS} {H : Heap} {locs : List Loc} {ls : Array Slot} {o : Int32 × gS} (C : gC p s m args meth c cX12_something 5 RX12 none D (mtys cI cS) mord g Am) (O : gO (mcell g cI cS sa) mord g) (X : gX D (mcell g cI cS sa) mord g S s H locs) (hl : lv_has ls 5 [(0, .ref (g 99))]) (hF : fX12_something_b119 N S = some o) : W p l e (rmd 1) s m args below meth c H locs 0 0 (gE below args s D (mtys cI cS) (mcell g cI cS sa) mord g none o.2) (F0 m 119 ls []) := by
  unfold fX12_something_b119 at hF
  refine lv_aload_n C.1.1 C.1.2.1 dX12_something_119 rfl (lv_at hl 0 rfl) ?_
  refine lv_aload_n C.1.1 C.1.2.1 dX12_something_120 rfl (lv_at hl 0 rfl) ?_
  refine m_g5 C X dX12_something_121 ?_
  refine lv_iconst (v := 1) C.1.1 C.1.2.1 dX12_something_124 (by decide) ?_
  refine m_r5 C X (j := 1) (inb_vp (by decide)) (by decide) dX12_something_125 ?_
  obtain ⟨q1, hq1, hF⟩ := bnd_some hF
  refine m_callVi C X vX12_drawOf rfl (kX12_drawOf O C.2.2.2.2.1 N (S 5 1)  S q1 hq1) (Nat.le_of_ble_eq_true rfl) (Nat.le_of_ble_eq_true rfl) (Nat.le_of_ble_eq_true rfl) (Nat.le_of_ble_eq_true rfl) rfl hl.1 rfl (Nat.le_of_ble_eq_true rfl) dX12_something_126 (fun H locs X => ?_)
  refine lv_istore_n (lv' := [(3, .int q1.1), (0, .ref (g 99))]) C.1.1 C.1.2.1 dX12_something_129 rfl hl (by decide) rfl (fun ls hl => ?_)
  refine lv_aload_n C.1.1 C.1.2.1 dX12_something_130 rfl (lv_at hl 1 rfl) ?_
  refine m_g33 C X dX12_something_131 ?_
  refine lv_iload_n C.1.1 C.1.2.1 dX12_something_134 rfl (lv_at hl 0 rfl) ?_
  refine lv_sipush (v := 999) C.1.1 C.1.2.1 dX12_something_135 (by decide) ?_
  refine lv_aload_n C.1.1 C.1.2.1 dX12_something_138 rfl (lv_at hl 1 rfl) ?_
  refine m_g33 C X dX12_something_139 ?_
  refine lv_iload_n C.1.1 C.1.2.1 dX12_something_142 rfl (lv_at hl 0 rfl) ?_
  obtain ⟨h_1, hF⟩ := chk_some hF
  refine m_r33 C X  (inb_vp h_1) rfl dX12_something_143 ?_
  refine lv_bipush (v := 20) C.1.1 C.1.2.1 dX12_something_144 (by decide) ?_
  refine lv_iadd C.1.1 C.1.2.1 dX12_something_146 ?_
  refine g_min C hl.1 mMmin192 ⟨Nat.le_of_ble_eq_true rfl, Nat.le_of_ble_eq_true rfl⟩ (Nat.le_of_ble_eq_true rfl) (Nat.le_of_ble_eq_true rfl) dX12_something_147 ?_
  obtain ⟨h_2, hF⟩ := chk_some hF
  obtain ⟨S2, eS2, hF⟩ := lt_some hF
  refine m_w33 C O X  (inb_vp h_2) rfl eS2 dX12_something_150 (fun H locs X => ?_)
  exact bX12_something_151 C O X (lv_sub hl [1] rfl) hF
noncomputable def fX12_something_b115 (N : Nat) (x2 : Int32) (S : gS) : Option (Int32 × gS) := if x2 = 0 then fX12_something_b151 N S else fX12_something_b119 N S
theorem bX12_something_115 {N : Nat} {x2 : Int32} {S : gS} {H : Heap} {locs : List Loc} {ls : Array Slot} {o : Int32 × gS} (C : gC p s m args meth c cX12_something 5 RX12 none D (mtys cI cS) mord g Am) (O : gO (mcell g cI cS sa) mord g) (X : gX D (mcell g cI cS sa) mord g S s H locs) (hl : lv_has ls 5 [(0, .ref (g 99)), (2, .int x2)]) (hF : fX12_something_b115 N x2 S = some o) : W p l e (rmd 1) s m args below meth c H locs 0 0 (gE below args s D (mtys cI cS) (mcell g cI cS sa) mord g none o.2) (F0 m 115 ls []) := by
  unfold fX12_something_b115 at hF
  refine lv_iload_n C.1.1 C.1.2.1 dX12_something_115 rfl (lv_at hl 1 rfl) ?_
  refine lv_if_eq (tgt := 151) C.1.1 C.1.2.1 dX12_something_116 (by decide) (fun h_z => ?_) (fun h_z => ?_)
  · rw [if_pos h_z] at hF
    exact bX12_something_151 C O X (lv_sub hl [0] rfl) hF
  · rw [if_neg h_z] at hF
    exact bX12_something_119 C O X (lv_sub hl [0] rfl) hF
noncomputable def fX12_something_b110 (N : Nat) (x1 : Int32) (x2 : Int32) (S : gS) : Option (Int32 × gS) := if x1 = 2 then fX12_something_b115 N x2 S else fX12_something_b151 N S
theorem bX12_something_110 {N : Nat} {x1 : Int32} {x2 : Int32} {S : gS} {H : Heap} {locs : List Loc} {ls : Array Slot} {o : Int32 × gS} (C : gC p s m args meth c cX12_something 5 RX12 none D (mtys cI cS) mord g Am) (O : gO (mcell g cI cS sa) mord g) (X : gX D (mcell g cI cS sa) mord g S s H locs) (hl : lv_has ls 5 [(0, .ref (g 99)), (1, .int x1), (2, .int x2)]) (hF : fX12_something_b110 N x1 x2 S = some o) : W p l e (rmd 1) s m args below meth c H locs 0 0 (gE below args s D (mtys cI cS) (mcell g cI cS sa) mord g none o.2) (F0 m 110 ls []) := by
  unfold fX12_something_b110 at hF
  refine lv_iload_n C.1.1 C.1.2.1 dX12_something_110 rfl (lv_at hl 1 rfl) ?_
  refine lv_iconst (v := 2) C.1.1 C.1.2.1 dX12_something_111 (by decide) ?_
  refine lv_icmp_ne (tgt := 151) C.1.1 C.1.2.1 dX12_something_112 (by decide) (fun h_z => ?_) (fun h_z => ?_)
  · rw [if_neg h_z] at hF
    exact bX12_something_151 C O X (lv_sub hl [0] rfl) hF
  · rw [if_pos h_z] at hF
    exact bX12_something_115 C O X (lv_sub hl [0, 2] rfl) hF
noncomputable def fX12_something_b89 (N : Nat) (x1 : Int32) (x2 : Int32) (S : gS) : Option (Int32 × gS) := bnd (fX12_drawOf N (S 5 0) S) fun q1 => (lt (sU q1.2 99 38 (((S 99 38) ^^^ (((1 : Int32) <<< (q1.1 &&& 31) : Int32)) : Int32))) fun S2 => (fX12_something_b110 N x1 x2 S2))
theorem bX12_something_89 {N : Nat} {x1 : Int32} {x2 : Int32} {S : gS} {H : Heap} {locs : List Loc} {ls : Array Slot} {o : Int32 × gS} (C : gC p s m args meth c cX12_something 5 RX12 none D (mtys cI cS) mord g Am) (O : gO (mcell g cI cS sa) mord g) (X : gX D (mcell g cI cS sa) mord g S s H locs) (hl : lv_has ls 5 [(0, .ref (g 99)), (1, .int x1), (2, .int x2)]) (hF : fX12_something_b89 N x1 x2 S = some o) : W p l e (rmd 1) s m args below meth c H locs 0 0 (gE below args s D (mtys cI cS) (mcell g cI cS sa) mord g none o.2) (F0 m 89 ls []) := by
  unfold fX12_something_b89 at hF
  refine lv_aload_n C.1.1 C.1.2.1 dX12_something_89 rfl (lv_at hl 0 rfl) ?_
  refine lv_dup C.1.1 C.1.2.1 dX12_something_90 rfl ?_
  refine m_g38 C X dX12_something_91 ?_
  refine lv_iconst (v := 1) C.1.1 C.1.2.1 dX12_something_94 (by decide) ?_
  refine lv_aload_n C.1.1 C.1.2.1 dX12_something_95 rfl (lv_at hl 0 rfl) ?_
  refine lv_aload_n C.1.1 C.1.2.1 dX12_something_96 rfl (lv_at hl 0 rfl) ?_
  refine m_g5 C X dX12_something_97 ?_
  refine lv_iconst (v := 0) C.1.1 C.1.2.1 dX12_something_100 (by decide) ?_
  refine m_r5 C X (j := 0) (inb_vp (by decide)) (by decide) dX12_something_101 ?_
  obtain ⟨q1, hq1, hF⟩ := bnd_some hF
  refine m_callVi C X vX12_drawOf rfl (kX12_drawOf O C.2.2.2.2.1 N (S 5 0)  S q1 hq1) (Nat.le_of_ble_eq_true rfl) (Nat.le_of_ble_eq_true rfl) (Nat.le_of_ble_eq_true rfl) (Nat.le_of_ble_eq_true rfl) rfl hl.1 rfl (Nat.le_of_ble_eq_true rfl) dX12_something_102 (fun H locs X => ?_)
  refine lv_ishl C.1.1 C.1.2.1 dX12_something_105 ?_
  refine lv_ixor C.1.1 C.1.2.1 dX12_something_106 ?_
  obtain ⟨S2, eS2, hF⟩ := lt_some hF
  refine m_p38 C O X eS2 dX12_something_107 (fun H locs X => ?_)
  exact bX12_something_110 C O X (lv_sub hl [0, 1, 2] rfl) hF
noncomputable def fX12_something_b85 (N : Nat) (x1 : Int32) (x2 : Int32) (S : gS) : Option (Int32 × gS) := if x2 = 0 then fX12_something_b110 N x1 x2 S else fX12_something_b89 N x1 x2 S
theorem bX12_something_85 {N : Nat} {x1 : Int32} {x2 : Int32} {S : gS} {H : Heap} {locs : List Loc} {ls : Array Slot} {o : Int32 × gS} (C : gC p s m args meth c cX12_something 5 RX12 none D (mtys cI cS) mord g Am) (O : gO (mcell g cI cS sa) mord g) (X : gX D (mcell g cI cS sa) mord g S s H locs) (hl : lv_has ls 5 [(0, .ref (g 99)), (1, .int x1), (2, .int x2)]) (hF : fX12_something_b85 N x1 x2 S = some o) : W p l e (rmd 1) s m args below meth c H locs 0 0 (gE below args s D (mtys cI cS) (mcell g cI cS sa) mord g none o.2) (F0 m 85 ls []) := by
  unfold fX12_something_b85 at hF
  refine lv_iload_n C.1.1 C.1.2.1 dX12_something_85 rfl (lv_at hl 2 rfl) ?_
  refine lv_if_eq (tgt := 110) C.1.1 C.1.2.1 dX12_something_86 (by decide) (fun h_z => ?_) (fun h_z => ?_)
  · rw [if_pos h_z] at hF
    exact bX12_something_110 C O X (lv_sub hl [0, 1, 2] rfl) hF
  · rw [if_neg h_z] at hF
    exact bX12_something_89 C O X (lv_sub hl [0, 1, 2] rfl) hF
noncomputable def fX12_something_b80 (N : Nat) (x1 : Int32) (x2 : Int32) (S : gS) : Option (Int32 × gS) := if x1 = 1 then fX12_something_b85 N x1 x2 S else fX12_something_b110 N x1 x2 S
theorem bX12_something_80 {N : Nat} {x1 : Int32} {x2 : Int32} {S : gS} {H : Heap} {locs : List Loc} {ls : Array Slot} {o : Int32 × gS} (C : gC p s m args meth c cX12_something 5 RX12 none D (mtys cI cS) mord g Am) (O : gO (mcell g cI cS sa) mord g) (X : gX D (mcell g cI cS sa) mord g S s H locs) (hl : lv_has ls 5 [(0, .ref (g 99)), (1, .int x1), (2, .int x2)]) (hF : fX12_something_b80 N x1 x2 S = some o) : W p l e (rmd 1) s m args below meth c H locs 0 0 (gE below args s D (mtys cI cS) (mcell g cI cS sa) mord g none o.2) (F0 m 80 ls []) := by
  unfold fX12_something_b80 at hF
  refine lv_iload_n C.1.1 C.1.2.1 dX12_something_80 rfl (lv_at hl 1 rfl) ?_
  refine lv_iconst (v := 1) C.1.1 C.1.2.1 dX12_something_81 (by decide) ?_
  refine lv_icmp_ne (tgt := 110) C.1.1 C.1.2.1 dX12_something_82 (by decide) (fun h_z => ?_) (fun h_z => ?_)
  · rw [if_neg h_z] at hF
    exact bX12_something_110 C O X (lv_sub hl [0, 1, 2] rfl) hF
  · rw [if_pos h_z] at hF
    exact bX12_something_85 C O X (lv_sub hl [0, 1, 2] rfl) hF
noncomputable def fX12_something_b72 (N : Nat) (x1 : Int32) (x2 : Int32) (x3 : Int32) (x4 : Int32) (S : gS) : Option (Int32 × gS) := chk (inb x3 (6)) (lt (sU S 35 (Int32.toNatClampNeg x3) x4) fun S1 => (fX12_something_b80 N x1 x2 S1))
theorem bX12_something_72 {N : Nat} {x1 : Int32} {x2 : Int32} {x3 : Int32} {x4 : Int32} {S : gS} {H : Heap} {locs : List Loc} {ls : Array Slot} {o : Int32 × gS} (C : gC p s m args meth c cX12_something 5 RX12 none D (mtys cI cS) mord g Am) (O : gO (mcell g cI cS sa) mord g) (X : gX D (mcell g cI cS sa) mord g S s H locs) (hl : lv_has ls 5 [(0, .ref (g 99)), (1, .int x1), (2, .int x2), (3, .int x3), (4, .int x4)]) (hF : fX12_something_b72 N x1 x2 x3 x4 S = some o) : W p l e (rmd 1) s m args below meth c H locs 0 0 (gE below args s D (mtys cI cS) (mcell g cI cS sa) mord g none o.2) (F0 m 72 ls []) := by
  unfold fX12_something_b72 at hF
  refine lv_aload_n C.1.1 C.1.2.1 dX12_something_72 rfl (lv_at hl 0 rfl) ?_
  refine m_g35 C X dX12_something_73 ?_
  refine lv_iload_n C.1.1 C.1.2.1 dX12_something_76 rfl (lv_at hl 3 rfl) ?_
  refine lv_iload C.1.1 C.1.2.1 dX12_something_77 (lv_at hl 4 rfl) ?_
  obtain ⟨h_1, hF⟩ := chk_some hF
  obtain ⟨S1, eS1, hF⟩ := lt_some hF
  refine m_w35 C O X  (inb_vp h_1) rfl eS1 dX12_something_79 (fun H locs X => ?_)
  exact bX12_something_80 C O X (lv_sub hl [0, 1, 2] rfl) hF
noncomputable def fX12_something_b39 (N : Nat) (x1 : Int32) (x2 : Int32) (S : gS) : Option (Int32 × gS) := bnd (fX12_drawOf N (S 5 1) S) fun q1 => (bnd (fX12_drawOf N (q1.2 5 0) q1.2) fun q2 => (bnd (fX12_hirerOf N q2.1 q2.2) fun q3 => (if q3.1 = ((-1)) then fX12_something_b72 N x1 x2 q1.1 q2.1 q3.2 else fX12_something_b80 N x1 x2 q3.2)))
theorem bX12_something_39 {N : Nat} {x1 : Int32} {x2 : Int32} {S : gS} {H : Heap} {locs : List Loc} {ls : Array Slot} {o : Int32 × gS} (C : gC p s m args meth c cX12_something 5 RX12 none D (mtys cI cS) mord g Am) (O : gO (mcell g cI cS sa) mord g) (X : gX D (mcell g cI cS sa) mord g S s H locs) (hl : lv_has ls 5 [(0, .ref (g 99)), (1, .int x1), (2, .int x2)]) (hF : fX12_something_b39 N x1 x2 S = some o) : W p l e (rmd 1) s m args below meth c H locs 0 0 (gE below args s D (mtys cI cS) (mcell g cI cS sa) mord g none o.2) (F0 m 39 ls []) := by
  unfold fX12_something_b39 at hF
  refine lv_aload_n C.1.1 C.1.2.1 dX12_something_39 rfl (lv_at hl 0 rfl) ?_
  refine lv_aload_n C.1.1 C.1.2.1 dX12_something_40 rfl (lv_at hl 0 rfl) ?_
  refine m_g5 C X dX12_something_41 ?_
  refine lv_iconst (v := 1) C.1.1 C.1.2.1 dX12_something_44 (by decide) ?_
  refine m_r5 C X (j := 1) (inb_vp (by decide)) (by decide) dX12_something_45 ?_
  obtain ⟨q1, hq1, hF⟩ := bnd_some hF
  refine m_callVi C X vX12_drawOf rfl (kX12_drawOf O C.2.2.2.2.1 N (S 5 1)  S q1 hq1) (Nat.le_of_ble_eq_true rfl) (Nat.le_of_ble_eq_true rfl) (Nat.le_of_ble_eq_true rfl) (Nat.le_of_ble_eq_true rfl) rfl hl.1 rfl (Nat.le_of_ble_eq_true rfl) dX12_something_46 (fun H locs X => ?_)
  refine lv_istore_n (lv' := [(3, .int q1.1), (0, .ref (g 99)), (1, .int x1), (2, .int x2)]) C.1.1 C.1.2.1 dX12_something_49 rfl hl (by decide) rfl (fun ls hl => ?_)
  refine lv_aload_n C.1.1 C.1.2.1 dX12_something_50 rfl (lv_at hl 1 rfl) ?_
  refine lv_aload_n C.1.1 C.1.2.1 dX12_something_51 rfl (lv_at hl 1 rfl) ?_
  refine m_g5 C X dX12_something_52 ?_
  refine lv_iconst (v := 0) C.1.1 C.1.2.1 dX12_something_55 (by decide) ?_
  refine m_r5 C X (j := 0) (inb_vp (by decide)) (by decide) dX12_something_56 ?_
  obtain ⟨q2, hq2, hF⟩ := bnd_some hF
  refine m_callVi C X vX12_drawOf rfl (kX12_drawOf O C.2.2.2.2.1 N (q1.2 5 0)  q1.2 q2 hq2) (Nat.le_of_ble_eq_true rfl) (Nat.le_of_ble_eq_true rfl) (Nat.le_of_ble_eq_true rfl) (Nat.le_of_ble_eq_true rfl) rfl hl.1 rfl (Nat.le_of_ble_eq_true rfl) dX12_something_57 (fun H locs X => ?_)
  refine lv_istore (lv' := [(4, .int q2.1), (3, .int q1.1), (0, .ref (g 99)), (1, .int x1), (2, .int x2)]) C.1.1 C.1.2.1 dX12_something_60 hl (by decide) rfl (fun ls hl => ?_)
  refine lv_aload_n C.1.1 C.1.2.1 dX12_something_62 rfl (lv_at hl 2 rfl) ?_
  refine lv_iload C.1.1 C.1.2.1 dX12_something_63 (lv_at hl 0 rfl) ?_
  obtain ⟨q3, hq3, hF⟩ := bnd_some hF
  refine m_callVi C X vX12_hirerOf rfl (kX12_hirerOf O C.2.2.2.2.1 N q2.1  q2.2 q3 hq3) (Nat.le_of_ble_eq_true rfl) (Nat.le_of_ble_eq_true rfl) (Nat.le_of_ble_eq_true rfl) (Nat.le_of_ble_eq_true rfl) rfl hl.1 rfl (Nat.le_of_ble_eq_true rfl) dX12_something_65 (fun H locs X => ?_)
  refine lv_iconst (v := (-1)) C.1.1 C.1.2.1 dX12_something_68 (by decide) ?_
  refine lv_icmp_ne (tgt := 80) C.1.1 C.1.2.1 dX12_something_69 (by decide) (fun h_z => ?_) (fun h_z => ?_)
  · rw [if_neg h_z] at hF
    exact bX12_something_80 C O X (lv_sub hl [2, 3, 4] rfl) hF
  · rw [if_pos h_z] at hF
    exact bX12_something_72 C O X (lv_sub hl [2, 3, 4, 1, 0] rfl) hF
noncomputable def fX12_something_b35 (N : Nat) (x1 : Int32) (x2 : Int32) (S : gS) : Option (Int32 × gS) := if x2 = 0 then fX12_something_b80 N x1 x2 S else fX12_something_b39 N x1 x2 S
theorem bX12_something_35 {N : Nat} {x1 : Int32} {x2 : Int32} {S : gS} {H : Heap} {locs : List Loc} {ls : Array Slot} {o : Int32 × gS} (C : gC p s m args meth c cX12_something 5 RX12 none D (mtys cI cS) mord g Am) (O : gO (mcell g cI cS sa) mord g) (X : gX D (mcell g cI cS sa) mord g S s H locs) (hl : lv_has ls 5 [(0, .ref (g 99)), (1, .int x1), (2, .int x2)]) (hF : fX12_something_b35 N x1 x2 S = some o) : W p l e (rmd 1) s m args below meth c H locs 0 0 (gE below args s D (mtys cI cS) (mcell g cI cS sa) mord g none o.2) (F0 m 35 ls []) := by
  unfold fX12_something_b35 at hF
  refine lv_iload_n C.1.1 C.1.2.1 dX12_something_35 rfl (lv_at hl 2 rfl) ?_
  refine lv_if_eq (tgt := 80) C.1.1 C.1.2.1 dX12_something_36 (by decide) (fun h_z => ?_) (fun h_z => ?_)
  · rw [if_pos h_z] at hF
    exact bX12_something_80 C O X (lv_sub hl [0, 1, 2] rfl) hF
  · rw [if_neg h_z] at hF
    exact bX12_something_39 C O X (lv_sub hl [0, 1, 2] rfl) hF
noncomputable def fX12_something_b30 (N : Nat) (x1 : Int32) (t0 : Int32) (S : gS) : Option (Int32 × gS) := if x1 = 0 then fX12_something_b35 N x1 t0 S else fX12_something_b80 N x1 t0 S
theorem bX12_something_30 {N : Nat} {x1 : Int32} {t0 : Int32} {S : gS} {H : Heap} {locs : List Loc} {ls : Array Slot} {o : Int32 × gS} (C : gC p s m args meth c cX12_something 5 RX12 none D (mtys cI cS) mord g Am) (O : gO (mcell g cI cS sa) mord g) (X : gX D (mcell g cI cS sa) mord g S s H locs) (hl : lv_has ls 5 [(0, .ref (g 99)), (1, .int x1)]) (hF : fX12_something_b30 N x1 t0 S = some o) : W p l e (rmd 1) s m args below meth c H locs 0 0 (gE below args s D (mtys cI cS) (mcell g cI cS sa) mord g none o.2) (F0 m 30 ls [.int t0]) := by
  unfold fX12_something_b30 at hF
  refine lv_istore_n (lv' := [(2, .int t0), (0, .ref (g 99)), (1, .int x1)]) C.1.1 C.1.2.1 dX12_something_30 rfl hl (by decide) rfl (fun ls hl => ?_)
  refine lv_iload_n C.1.1 C.1.2.1 dX12_something_31 rfl (lv_at hl 2 rfl) ?_
  refine lv_if_ne (tgt := 80) C.1.1 C.1.2.1 dX12_something_32 (by decide) (fun h_z => ?_) (fun h_z => ?_)
  · rw [if_neg h_z] at hF
    exact bX12_something_80 C O X (lv_sub hl [1, 2, 0] rfl) hF
  · rw [if_pos h_z] at hF
    exact bX12_something_35 C O X (lv_sub hl [1, 2, 0] rfl) hF
noncomputable def fX12_something_b29 (N : Nat) (x1 : Int32) (S : gS) : Option (Int32 × gS) := fX12_something_b30 N x1 0 S
theorem bX12_something_29 {N : Nat} {x1 : Int32} {S : gS} {H : Heap} {locs : List Loc} {ls : Array Slot} {o : Int32 × gS} (C : gC p s m args meth c cX12_something 5 RX12 none D (mtys cI cS) mord g Am) (O : gO (mcell g cI cS sa) mord g) (X : gX D (mcell g cI cS sa) mord g S s H locs) (hl : lv_has ls 5 [(0, .ref (g 99)), (1, .int x1)]) (hF : fX12_something_b29 N x1 S = some o) : W p l e (rmd 1) s m args below meth c H locs 0 0 (gE below args s D (mtys cI cS) (mcell g cI cS sa) mord g none o.2) (F0 m 29 ls []) := by
  unfold fX12_something_b29 at hF
  refine lv_iconst (v := 0) C.1.1 C.1.2.1 dX12_something_29 (by decide) ?_
  exact bX12_something_30 C O X (lv_sub hl [0, 1] rfl) hF
noncomputable def fX12_something_b25 (N : Nat) (x1 : Int32) (S : gS) : Option (Int32 × gS) := fX12_something_b30 N x1 1 S
theorem bX12_something_25 {N : Nat} {x1 : Int32} {S : gS} {H : Heap} {locs : List Loc} {ls : Array Slot} {o : Int32 × gS} (C : gC p s m args meth c cX12_something 5 RX12 none D (mtys cI cS) mord g Am) (O : gO (mcell g cI cS sa) mord g) (X : gX D (mcell g cI cS sa) mord g S s H locs) (hl : lv_has ls 5 [(0, .ref (g 99)), (1, .int x1)]) (hF : fX12_something_b25 N x1 S = some o) : W p l e (rmd 1) s m args below meth c H locs 0 0 (gE below args s D (mtys cI cS) (mcell g cI cS sa) mord g none o.2) (F0 m 25 ls []) := by
  unfold fX12_something_b25 at hF
  refine lv_iconst (v := 1) C.1.1 C.1.2.1 dX12_something_25 (by decide) ?_
  refine lv_goto (tgt := 30) C.1.1 C.1.2.1 dX12_something_26 (by decide) ?_
  exact bX12_something_30 C O X (lv_sub hl [0, 1] rfl) hF
noncomputable def fX12_something_b16 (N : Nat) (x1 : Int32) (S : gS) : Option (Int32 × gS) := if (S 5 1) ≤ 0 then fX12_something_b29 N x1 S else fX12_something_b25 N x1 S
theorem bX12_something_16 {N : Nat} {x1 : Int32} {S : gS} {H : Heap} {locs : List Loc} {ls : Array Slot} {o : Int32 × gS} (C : gC p s m args meth c cX12_something 5 RX12 none D (mtys cI cS) mord g Am) (O : gO (mcell g cI cS sa) mord g) (X : gX D (mcell g cI cS sa) mord g S s H locs) (hl : lv_has ls 5 [(0, .ref (g 99)), (1, .int x1)]) (hF : fX12_something_b16 N x1 S = some o) : W p l e (rmd 1) s m args below meth c H locs 0 0 (gE below args s D (mtys cI cS) (mcell g cI cS sa) mord g none o.2) (F0 m 16 ls []) := by
  unfold fX12_something_b16 at hF
  refine lv_aload_n C.1.1 C.1.2.1 dX12_something_16 rfl (lv_at hl 0 rfl) ?_
  refine m_g5 C X dX12_something_17 ?_
  refine lv_iconst (v := 1) C.1.1 C.1.2.1 dX12_something_20 (by decide) ?_
  refine m_r5 C X (j := 1) (inb_vp (by decide)) (by decide) dX12_something_21 ?_
  refine lv_if_le (tgt := 29) C.1.1 C.1.2.1 dX12_something_22 (by decide) (fun h_z => ?_) (fun h_z => ?_)
  · rw [if_pos h_z] at hF
    exact bX12_something_29 C O X (lv_sub hl [0, 1] rfl) hF
  · rw [if_neg h_z] at hF
    exact bX12_something_25 C O X (lv_sub hl [0, 1] rfl) hF
noncomputable def fX12_something_b0 (N : Nat) (S : gS) : Option (Int32 × gS) := bnd (fX12_drawOf N 7 S) fun q1 => (if (q1.2 5 0) ≤ 0 then fX12_something_b29 N q1.1 q1.2 else fX12_something_b16 N q1.1 q1.2)
theorem bX12_something_0 {N : Nat} {S : gS} {H : Heap} {locs : List Loc} {ls : Array Slot} {o : Int32 × gS} (C : gC p s m args meth c cX12_something 5 RX12 none D (mtys cI cS) mord g Am) (O : gO (mcell g cI cS sa) mord g) (X : gX D (mcell g cI cS sa) mord g S s H locs) (hl : lv_has ls 5 [(0, .ref (g 99))]) (hF : fX12_something_b0 N S = some o) : W p l e (rmd 1) s m args below meth c H locs 0 0 (gE below args s D (mtys cI cS) (mcell g cI cS sa) mord g none o.2) (F0 m 0 ls []) := by
  unfold fX12_something_b0 at hF
  refine lv_aload_n C.1.1 C.1.2.1 dX12_something_0 rfl (lv_at hl 0 rfl) ?_
  refine lv_bipush (v := 7) C.1.1 C.1.2.1 dX12_something_1 (by decide) ?_
  obtain ⟨q1, hq1, hF⟩ := bnd_some hF
  refine m_callVi C X vX12_drawOf rfl (kX12_drawOf O C.2.2.2.2.1 N 7  S q1 hq1) (Nat.le_of_ble_eq_true rfl) (Nat.le_of_ble_eq_true rfl) (Nat.le_of_ble_eq_true rfl) (Nat.le_of_ble_eq_true rfl) rfl hl.1 rfl (Nat.le_of_ble_eq_true rfl) dX12_something_3 (fun H locs X => ?_)
  refine lv_istore_n (lv' := [(1, .int q1.1), (0, .ref (g 99))]) C.1.1 C.1.2.1 dX12_something_6 rfl hl (by decide) rfl (fun ls hl => ?_)
  refine lv_aload_n C.1.1 C.1.2.1 dX12_something_7 rfl (lv_at hl 1 rfl) ?_
  refine m_g5 C X dX12_something_8 ?_
  refine lv_iconst (v := 0) C.1.1 C.1.2.1 dX12_something_11 (by decide) ?_
  refine m_r5 C X (j := 0) (inb_vp (by decide)) (by decide) dX12_something_12 ?_
  refine lv_if_le (tgt := 29) C.1.1 C.1.2.1 dX12_something_13 (by decide) (fun h_z => ?_) (fun h_z => ?_)
  · rw [if_pos h_z] at hF
    exact bX12_something_29 C O X (lv_sub hl [1, 0] rfl) hF
  · rw [if_neg h_z] at hF
    exact bX12_something_16 C O X (lv_sub hl [1, 0] rfl) hF
noncomputable def fX12_something (N : Nat) (S : gS) : Option (Int32 × gS) := fX12_something_b0 N S
theorem kX12_something {l : Launch} {D : va_G} {g : Nat → Nat} {cI cS : ClassId} {sa : Nat → Nat → Option Nat} {Am : (Nat → Prop) → State → Heap → Prop} (O : gO (mcell g cI cS sa) mord g) (P : gAm Am) (N : Nat) (S : gS) (o : Int32 × gS) (hF : fX12_something N S = some o) : gM l yX12_something cX12_something 5 none 1 D (mtys cI cS) (mcell g cI cS sa) mord g Am [.ref (g 99)] S none o.2 :=
  gM_of O P (by decide) (Nat.le_of_ble_eq_true rfl) (fun p e s m args below meth c ls C X hl => bX12_something_0 C O X (lv_sub hl [0] rfl) hF)
-- years
noncomputable def fX12_years_b130 (N : Nat) (t0 : Int32) (S : gS) : Option (Int32 × gS) := bnd (fX12_unpack N 46 0 S) fun q1 => (some (t0, q1.2))
theorem bX12_years_130 {N : Nat} {t0 : Int32} {S : gS} {H : Heap} {locs : List Loc} {ls : Array Slot} {o : Int32 × gS} (C : gC p s m args meth c cX12_years 6 RX12 ((some .int)) D (mtys cI cS) mord g Am) (O : gO (mcell g cI cS sa) mord g) (X : gX D (mcell g cI cS sa) mord g S s H locs) (hl : lv_has ls 6 [(0, .ref (g 99))]) (hF : fX12_years_b130 N t0 S = some o) : W p l e (rmd 6) s m args below meth c H locs 0 0 (gE below args s D (mtys cI cS) (mcell g cI cS sa) mord g (some (.int o.1)) o.2) (F0 m 130 ls [.int t0]) := by
  unfold fX12_years_b130 at hF
  refine lv_istore (lv' := [(5, .int t0), (0, .ref (g 99))]) C.1.1 C.1.2.1 dX12_years_130 hl (by decide) rfl (fun ls hl => ?_)
  refine lv_aload_n C.1.1 C.1.2.1 dX12_years_132 rfl (lv_at hl 1 rfl) ?_
  refine lv_aload_n C.1.1 C.1.2.1 dX12_years_133 rfl (lv_at hl 1 rfl) ?_
  refine m_g46 C X dX12_years_134 ?_
  refine lv_iconst (v := 0) C.1.1 C.1.2.1 dX12_years_137 (by decide) ?_
  obtain ⟨q1, hq1, hF⟩ := bnd_some hF
  refine m_callV C X vX12_unpack rfl (kX12_unpack O C.2.2.2.2.1 N 46 0 (rfl : mI 46 = true) S q1 hq1) (Nat.le_of_ble_eq_true rfl) (Nat.le_of_ble_eq_true rfl) (Nat.le_of_ble_eq_true rfl) (Nat.le_of_ble_eq_true rfl) rfl hl.1 rfl (Nat.le_of_ble_eq_true rfl) dX12_years_138 (fun H locs X => ?_)
  refine lv_iload C.1.1 C.1.2.1 dX12_years_141 (lv_at hl 0 rfl) ?_
  cases hF
  exact g_iret C X dX12_years_143
noncomputable def fX12_years_b123 (N : Nat) (S : gS) : Option (Int32 × gS) := bnd (fX12_hiredNow N  S) fun q1 => (bnd (fX12_bitsOf N q1.1 q1.2) fun q2 => (fX12_years_b130 N q2.1 q2.2))
theorem bX12_years_123 {N : Nat} {S : gS} {H : Heap} {locs : List Loc} {ls : Array Slot} {o : Int32 × gS} (C : gC p s m args meth c cX12_years 6 RX12 ((some .int)) D (mtys cI cS) mord g Am) (O : gO (mcell g cI cS sa) mord g) (X : gX D (mcell g cI cS sa) mord g S s H locs) (hl : lv_has ls 6 [(0, .ref (g 99))]) (hF : fX12_years_b123 N S = some o) : W p l e (rmd 6) s m args below meth c H locs 0 0 (gE below args s D (mtys cI cS) (mcell g cI cS sa) mord g (some (.int o.1)) o.2) (F0 m 123 ls []) := by
  unfold fX12_years_b123 at hF
  refine lv_aload_n C.1.1 C.1.2.1 dX12_years_123 rfl (lv_at hl 0 rfl) ?_
  obtain ⟨q1, hq1, hF⟩ := bnd_some hF
  refine m_callVi C X vX12_hiredNow rfl (kX12_hiredNow O C.2.2.2.2.1 N   S q1 hq1) (Nat.le_of_ble_eq_true rfl) (Nat.le_of_ble_eq_true rfl) (Nat.le_of_ble_eq_true rfl) (Nat.le_of_ble_eq_true rfl) rfl hl.1 rfl (Nat.le_of_ble_eq_true rfl) dX12_years_124 (fun H locs X => ?_)
  obtain ⟨q2, hq2, hF⟩ := bnd_some hF
  refine g_callSi C X vX12_bitsOf (kX12_bitsOf O C.2.2.2.2.1 N q1.1  q1.2 q2 hq2) (Nat.le_of_ble_eq_true rfl) (Nat.le_of_ble_eq_true rfl) (Nat.le_of_ble_eq_true rfl) (Nat.le_of_ble_eq_true rfl) rfl hl.1 rfl (Nat.le_of_ble_eq_true rfl) dX12_years_127 (fun H locs X => ?_)
  exact bX12_years_130 C O X (lv_sub hl [0] rfl) hF
noncomputable def fX12_years_b112 (N : Nat) (S : gS) : Option (Int32 × gS) := bnd (fX12_sumOf N 33 S) fun q1 => (fX12_years_b130 N q1.1 q1.2)
theorem bX12_years_112 {N : Nat} {S : gS} {H : Heap} {locs : List Loc} {ls : Array Slot} {o : Int32 × gS} (C : gC p s m args meth c cX12_years 6 RX12 ((some .int)) D (mtys cI cS) mord g Am) (O : gO (mcell g cI cS sa) mord g) (X : gX D (mcell g cI cS sa) mord g S s H locs) (hl : lv_has ls 6 [(0, .ref (g 99))]) (hF : fX12_years_b112 N S = some o) : W p l e (rmd 6) s m args below meth c H locs 0 0 (gE below args s D (mtys cI cS) (mcell g cI cS sa) mord g (some (.int o.1)) o.2) (F0 m 112 ls []) := by
  unfold fX12_years_b112 at hF
  refine lv_aload_n C.1.1 C.1.2.1 dX12_years_112 rfl (lv_at hl 0 rfl) ?_
  refine lv_aload_n C.1.1 C.1.2.1 dX12_years_113 rfl (lv_at hl 0 rfl) ?_
  refine m_g33 C X dX12_years_114 ?_
  obtain ⟨q1, hq1, hF⟩ := bnd_some hF
  refine m_callVi C X vX12_sumOf rfl (kX12_sumOf O C.2.2.2.2.1 N 33 (rfl : mI 33 = true) S q1 hq1) (Nat.le_of_ble_eq_true rfl) (Nat.le_of_ble_eq_true rfl) (Nat.le_of_ble_eq_true rfl) (Nat.le_of_ble_eq_true rfl) rfl hl.1 rfl (Nat.le_of_ble_eq_true rfl) dX12_years_117 (fun H locs X => ?_)
  refine lv_goto (tgt := 130) C.1.1 C.1.2.1 dX12_years_120 (by decide) ?_
  exact bX12_years_130 C O X (lv_sub hl [0] rfl) hF
noncomputable def fX12_years_b107 (N : Nat) (x3 : Int32) (S : gS) : Option (Int32 × gS) := if x3 = 1 then fX12_years_b112 N S else fX12_years_b123 N S
theorem bX12_years_107 {N : Nat} {x3 : Int32} {S : gS} {H : Heap} {locs : List Loc} {ls : Array Slot} {o : Int32 × gS} (C : gC p s m args meth c cX12_years 6 RX12 ((some .int)) D (mtys cI cS) mord g Am) (O : gO (mcell g cI cS sa) mord g) (X : gX D (mcell g cI cS sa) mord g S s H locs) (hl : lv_has ls 6 [(0, .ref (g 99)), (3, .int x3)]) (hF : fX12_years_b107 N x3 S = some o) : W p l e (rmd 6) s m args below meth c H locs 0 0 (gE below args s D (mtys cI cS) (mcell g cI cS sa) mord g (some (.int o.1)) o.2) (F0 m 107 ls []) := by
  unfold fX12_years_b107 at hF
  refine lv_iload_n C.1.1 C.1.2.1 dX12_years_107 rfl (lv_at hl 1 rfl) ?_
  refine lv_iconst (v := 1) C.1.1 C.1.2.1 dX12_years_108 (by decide) ?_
  refine lv_icmp_ne (tgt := 123) C.1.1 C.1.2.1 dX12_years_109 (by decide) (fun h_z => ?_) (fun h_z => ?_)
  · rw [if_neg h_z] at hF
    exact bX12_years_123 C O X (lv_sub hl [0] rfl) hF
  · rw [if_pos h_z] at hF
    exact bX12_years_112 C O X (lv_sub hl [0] rfl) hF
noncomputable def fX12_years_b102 (N : Nat) (x4 : Int32) (S : gS) : Option (Int32 × gS) := fX12_years_b130 N x4 S
theorem bX12_years_102 {N : Nat} {x4 : Int32} {S : gS} {H : Heap} {locs : List Loc} {ls : Array Slot} {o : Int32 × gS} (C : gC p s m args meth c cX12_years 6 RX12 ((some .int)) D (mtys cI cS) mord g Am) (O : gO (mcell g cI cS sa) mord g) (X : gX D (mcell g cI cS sa) mord g S s H locs) (hl : lv_has ls 6 [(0, .ref (g 99)), (4, .int x4)]) (hF : fX12_years_b102 N x4 S = some o) : W p l e (rmd 6) s m args below meth c H locs 0 0 (gE below args s D (mtys cI cS) (mcell g cI cS sa) mord g (some (.int o.1)) o.2) (F0 m 102 ls []) := by
  unfold fX12_years_b102 at hF
  refine lv_iload C.1.1 C.1.2.1 dX12_years_102 (lv_at hl 1 rfl) ?_
  refine lv_goto (tgt := 130) C.1.1 C.1.2.1 dX12_years_104 (by decide) ?_
  exact bX12_years_130 C O X (lv_sub hl [0] rfl) hF
noncomputable def fX12_years_b93 (N : Nat) (x3 : Int32) (x4 : Int32) (S : gS) : Option (Int32 × gS) := lt (sU S 99 41 ((-1))) fun S1 => (if x3 = 0 then fX12_years_b102 N x4 S1 else fX12_years_b107 N x3 S1)
theorem bX12_years_93 {N : Nat} {x3 : Int32} {x4 : Int32} {S : gS} {H : Heap} {locs : List Loc} {ls : Array Slot} {o : Int32 × gS} (C : gC p s m args meth c cX12_years 6 RX12 ((some .int)) D (mtys cI cS) mord g Am) (O : gO (mcell g cI cS sa) mord g) (X : gX D (mcell g cI cS sa) mord g S s H locs) (hl : lv_has ls 6 [(0, .ref (g 99)), (3, .int x3), (4, .int x4)]) (hF : fX12_years_b93 N x3 x4 S = some o) : W p l e (rmd 6) s m args below meth c H locs 0 0 (gE below args s D (mtys cI cS) (mcell g cI cS sa) mord g (some (.int o.1)) o.2) (F0 m 93 ls []) := by
  unfold fX12_years_b93 at hF
  refine lv_aload_n C.1.1 C.1.2.1 dX12_years_93 rfl (lv_at hl 0 rfl) ?_
  refine lv_iconst (v := (-1)) C.1.1 C.1.2.1 dX12_years_94 (by decide) ?_
  obtain ⟨S1, eS1, hF⟩ := lt_some hF
  refine m_p41 C O X eS1 dX12_years_95 (fun H locs X => ?_)
  refine lv_iload_n C.1.1 C.1.2.1 dX12_years_98 rfl (lv_at hl 1 rfl) ?_
  refine lv_if_ne (tgt := 107) C.1.1 C.1.2.1 dX12_years_99 (by decide) (fun h_z => ?_) (fun h_z => ?_)
  · rw [if_neg h_z] at hF
    exact bX12_years_107 C O X (lv_sub hl [0, 1] rfl) hF
  · rw [if_pos h_z] at hF
    exact bX12_years_102 C O X (lv_sub hl [0, 2] rfl) hF
noncomputable def fX12_years_b67 (N : Nat) (r61 : Int32 → Int32 → Int32 → Int32 → gS → Option (Int32 × gS)) (x2 : Int32) (x3 : Int32) (x4 : Int32) (x5 : Int32) (S : gS) : Option (Int32 × gS) := bnd (fX12_something N  S) fun q1 => (bnd (fX12_anHour N  q1.2) fun q2 => (bnd (fX12_bitsOf N (q2.2 99 45) q2.2) fun q3 => (r61 x2 x3 ((x4 + q3.1 : Int32)) ((x5 + 1 : Int32)) q3.2)))
theorem bX12_years_67 {N : Nat} {r61 : Int32 → Int32 → Int32 → Int32 → gS → Option (Int32 × gS)} {x2 : Int32} {x3 : Int32} {x4 : Int32} {x5 : Int32} {S : gS} {H : Heap} {locs : List Loc} {ls : Array Slot} {o : Int32 × gS} (C : gC p s m args meth c cX12_years 6 RX12 ((some .int)) D (mtys cI cS) mord g Am) (O : gO (mcell g cI cS sa) mord g) (K61 : ∀ (x2 : Int32) (x3 : Int32) (x4 : Int32) (x5 : Int32) (S : gS) (H : Heap) (locs : List Loc) (ls : Array Slot), gX D (mcell g cI cS sa) mord g S s H locs → lv_has ls 6 [(0, .ref (g 99)), (2, .int x2), (3, .int x3), (4, .int x4), (5, .int x5)] → r61 x2 x3 x4 x5 S = some o → W p l e (rmd 6) s m args below meth c H locs 0 0 (gE below args s D (mtys cI cS) (mcell g cI cS sa) mord g (some (.int o.1)) o.2) (F0 m 61 ls [])) (X : gX D (mcell g cI cS sa) mord g S s H locs) (hl : lv_has ls 6 [(0, .ref (g 99)), (2, .int x2), (3, .int x3), (4, .int x4), (5, .int x5)]) (hF : fX12_years_b67 N r61 x2 x3 x4 x5 S = some o) : W p l e (rmd 6) s m args below meth c H locs 0 0 (gE below args s D (mtys cI cS) (mcell g cI cS sa) mord g (some (.int o.1)) o.2) (F0 m 67 ls []) := by
  unfold fX12_years_b67 at hF
  refine lv_aload_n C.1.1 C.1.2.1 dX12_years_67 rfl (lv_at hl 0 rfl) ?_
  obtain ⟨q1, hq1, hF⟩ := bnd_some hF
  refine m_callV C X vX12_something rfl (kX12_something O C.2.2.2.2.1 N   S q1 hq1) (Nat.le_of_ble_eq_true rfl) (Nat.le_of_ble_eq_true rfl) (Nat.le_of_ble_eq_true rfl) (Nat.le_of_ble_eq_true rfl) rfl hl.1 rfl (Nat.le_of_ble_eq_true rfl) dX12_years_68 (fun H locs X => ?_)
  refine lv_aload_n C.1.1 C.1.2.1 dX12_years_71 rfl (lv_at hl 0 rfl) ?_
  obtain ⟨q2, hq2, hF⟩ := bnd_some hF
  refine m_callV C X vX12_anHour rfl (kX12_anHour O C.2.2.2.2.1 N   q1.2 q2 hq2) (Nat.le_of_ble_eq_true rfl) (Nat.le_of_ble_eq_true rfl) (Nat.le_of_ble_eq_true rfl) (Nat.le_of_ble_eq_true rfl) rfl hl.1 rfl (Nat.le_of_ble_eq_true rfl) dX12_years_72 (fun H locs X => ?_)
  refine lv_iload C.1.1 C.1.2.1 dX12_years_75 (lv_at hl 3 rfl) ?_
  refine lv_aload_n C.1.1 C.1.2.1 dX12_years_77 rfl (lv_at hl 0 rfl) ?_
  refine m_g45 C X dX12_years_78 ?_
  obtain ⟨q3, hq3, hF⟩ := bnd_some hF
  refine g_callSi C X vX12_bitsOf (kX12_bitsOf O C.2.2.2.2.1 N (q2.2 99 45)  q2.2 q3 hq3) (Nat.le_of_ble_eq_true rfl) (Nat.le_of_ble_eq_true rfl) (Nat.le_of_ble_eq_true rfl) (Nat.le_of_ble_eq_true rfl) rfl hl.1 rfl (Nat.le_of_ble_eq_true rfl) dX12_years_81 (fun H locs X => ?_)
  refine lv_iadd C.1.1 C.1.2.1 dX12_years_84 ?_
  refine lv_istore (lv' := [(4, .int ((x4 + q3.1 : Int32))), (0, .ref (g 99)), (2, .int x2), (3, .int x3), (5, .int x5)]) C.1.1 C.1.2.1 dX12_years_85 hl (by decide) rfl (fun ls hl => ?_)
  refine lv_iinc (v := (x5 + 1 : Int32)) (lv' := [(5, .int ((x5 + 1 : Int32))), (4, .int ((x4 + q3.1 : Int32))), (0, .ref (g 99)), (2, .int x2), (3, .int x3)]) C.1.1 C.1.2.1 dX12_years_87 hl (k := 4) rfl rfl (by decide) rfl (fun ls hl => ?_)
  refine lv_goto (tgt := 61) C.1.1 C.1.2.1 dX12_years_90 (by decide) ?_
  exact K61 _ _ _ _ _ _ _ _ X (lv_sub hl [2, 3, 4, 1, 0] rfl) hF
noncomputable def fX12_years_b61 (N : Nat) (r61 : Int32 → Int32 → Int32 → Int32 → gS → Option (Int32 × gS)) (x2 : Int32) (x3 : Int32) (x4 : Int32) (x5 : Int32) (S : gS) : Option (Int32 × gS) := if x2 ≤ x5 then fX12_years_b93 N x3 x4 S else fX12_years_b67 N r61 x2 x3 x4 x5 S
theorem bX12_years_61 {N : Nat} {r61 : Int32 → Int32 → Int32 → Int32 → gS → Option (Int32 × gS)} {x2 : Int32} {x3 : Int32} {x4 : Int32} {x5 : Int32} {S : gS} {H : Heap} {locs : List Loc} {ls : Array Slot} {o : Int32 × gS} (C : gC p s m args meth c cX12_years 6 RX12 ((some .int)) D (mtys cI cS) mord g Am) (O : gO (mcell g cI cS sa) mord g) (K61 : ∀ (x2 : Int32) (x3 : Int32) (x4 : Int32) (x5 : Int32) (S : gS) (H : Heap) (locs : List Loc) (ls : Array Slot), gX D (mcell g cI cS sa) mord g S s H locs → lv_has ls 6 [(0, .ref (g 99)), (2, .int x2), (3, .int x3), (4, .int x4), (5, .int x5)] → r61 x2 x3 x4 x5 S = some o → W p l e (rmd 6) s m args below meth c H locs 0 0 (gE below args s D (mtys cI cS) (mcell g cI cS sa) mord g (some (.int o.1)) o.2) (F0 m 61 ls [])) (X : gX D (mcell g cI cS sa) mord g S s H locs) (hl : lv_has ls 6 [(0, .ref (g 99)), (2, .int x2), (3, .int x3), (4, .int x4), (5, .int x5)]) (hF : fX12_years_b61 N r61 x2 x3 x4 x5 S = some o) : W p l e (rmd 6) s m args below meth c H locs 0 0 (gE below args s D (mtys cI cS) (mcell g cI cS sa) mord g (some (.int o.1)) o.2) (F0 m 61 ls []) := by
  unfold fX12_years_b61 at hF
  refine lv_iload C.1.1 C.1.2.1 dX12_years_61 (lv_at hl 4 rfl) ?_
  refine lv_iload_n C.1.1 C.1.2.1 dX12_years_63 rfl (lv_at hl 1 rfl) ?_
  refine lv_icmp_ge (tgt := 93) C.1.1 C.1.2.1 dX12_years_64 (by decide) (fun h_z => ?_) (fun h_z => ?_)
  · rw [if_pos h_z] at hF
    exact bX12_years_93 C O X (lv_sub hl [0, 2, 3] rfl) hF
  · rw [if_neg h_z] at hF
    exact bX12_years_67 C O K61 X (lv_sub hl [0, 1, 2, 3, 4] rfl) hF
noncomputable def fX12_years_h61 (N : Nat) : Nat → Int32 → Int32 → Int32 → Int32 → gS → Option (Int32 × gS)
  | 0, _, _, _, _, _ => none
  | n + 1, x2, x3, x4, x5, S => fX12_years_b61 N (fX12_years_h61 N n) x2 x3 x4 x5 S
theorem hX12_years_61 {N : Nat} {o : Int32 × gS} (C : gC p s m args meth c cX12_years 6 RX12 ((some .int)) D (mtys cI cS) mord g Am) (O : gO (mcell g cI cS sa) mord g) : ∀ (n : Nat) (x2 : Int32) (x3 : Int32) (x4 : Int32) (x5 : Int32) (S : gS) (H : Heap) (locs : List Loc) (ls : Array Slot), gX D (mcell g cI cS sa) mord g S s H locs → lv_has ls 6 [(0, .ref (g 99)), (2, .int x2), (3, .int x3), (4, .int x4), (5, .int x5)] → fX12_years_h61 N n x2 x3 x4 x5 S = some o → W p l e (rmd 6) s m args below meth c H locs 0 0 (gE below args s D (mtys cI cS) (mcell g cI cS sa) mord g (some (.int o.1)) o.2) (F0 m 61 ls []) := by
  intro n
  induction n with
  | zero =>
    intro x2 x3 x4 x5 S H locs ls X hl hF
    exact absurd (show (none : Option (Int32 × gS)) = some o from hF) (by simp)
  | succ n ih =>
    intro x2 x3 x4 x5 S H locs ls X hl hF
    have hF : fX12_years_b61 N (fX12_years_h61 N n) x2 x3 x4 x5 S = some o := hF
    exact bX12_years_61 C O ih X hl hF
noncomputable def fX12_years_b41 (N : Nat) (x1 : Int32) (x2 : Int32) (x3 : Int32) (S : gS) : Option (Int32 × gS) := bnd (fX12_pack N 46 0 S) fun q1 => (lt (sU q1.2 99 56 x1) fun S2 => (fX12_years_h61 N N x2 x3 0 0 S2))
theorem bX12_years_41 {N : Nat} {x1 : Int32} {x2 : Int32} {x3 : Int32} {S : gS} {H : Heap} {locs : List Loc} {ls : Array Slot} {o : Int32 × gS} (C : gC p s m args meth c cX12_years 6 RX12 ((some .int)) D (mtys cI cS) mord g Am) (O : gO (mcell g cI cS sa) mord g) (X : gX D (mcell g cI cS sa) mord g S s H locs) (hl : lv_has ls 6 [(0, .ref (g 99)), (1, .int x1), (2, .int x2), (3, .int x3)]) (hF : fX12_years_b41 N x1 x2 x3 S = some o) : W p l e (rmd 6) s m args below meth c H locs 0 0 (gE below args s D (mtys cI cS) (mcell g cI cS sa) mord g (some (.int o.1)) o.2) (F0 m 41 ls []) := by
  unfold fX12_years_b41 at hF
  refine lv_aload_n C.1.1 C.1.2.1 dX12_years_41 rfl (lv_at hl 0 rfl) ?_
  refine lv_aload_n C.1.1 C.1.2.1 dX12_years_42 rfl (lv_at hl 0 rfl) ?_
  refine m_g46 C X dX12_years_43 ?_
  refine lv_iconst (v := 0) C.1.1 C.1.2.1 dX12_years_46 (by decide) ?_
  obtain ⟨q1, hq1, hF⟩ := bnd_some hF
  refine m_callV C X vX12_pack rfl (kX12_pack O C.2.2.2.2.1 N 46 0 (rfl : mI 46 = true) S q1 hq1) (Nat.le_of_ble_eq_true rfl) (Nat.le_of_ble_eq_true rfl) (Nat.le_of_ble_eq_true rfl) (Nat.le_of_ble_eq_true rfl) rfl hl.1 rfl (Nat.le_of_ble_eq_true rfl) dX12_years_47 (fun H locs X => ?_)
  refine lv_aload_n C.1.1 C.1.2.1 dX12_years_50 rfl (lv_at hl 0 rfl) ?_
  refine lv_iload_n C.1.1 C.1.2.1 dX12_years_51 rfl (lv_at hl 1 rfl) ?_
  obtain ⟨S2, eS2, hF⟩ := lt_some hF
  refine m_p56 C O X eS2 dX12_years_52 (fun H locs X => ?_)
  refine lv_iconst (v := 0) C.1.1 C.1.2.1 dX12_years_55 (by decide) ?_
  refine lv_istore (lv' := [(4, .int 0), (0, .ref (g 99)), (1, .int x1), (2, .int x2), (3, .int x3)]) C.1.1 C.1.2.1 dX12_years_56 hl (by decide) rfl (fun ls hl => ?_)
  refine lv_iconst (v := 0) C.1.1 C.1.2.1 dX12_years_58 (by decide) ?_
  refine lv_istore (lv' := [(5, .int 0), (4, .int 0), (0, .ref (g 99)), (1, .int x1), (2, .int x2), (3, .int x3)]) C.1.1 C.1.2.1 dX12_years_59 hl (by decide) rfl (fun ls hl => ?_)
  exact hX12_years_61 C O N _ _ _ _ _ _ _ _ X (lv_sub hl [2, 4, 5, 1, 0] rfl) hF
noncomputable def fX12_years_b35 (N : Nat) (S : gS) : Option (Int32 × gS) := bnd (fX12_fail N 2 S) fun q1 => (some (q1.1, q1.2))
theorem bX12_years_35 {N : Nat} {S : gS} {H : Heap} {locs : List Loc} {ls : Array Slot} {o : Int32 × gS} (C : gC p s m args meth c cX12_years 6 RX12 ((some .int)) D (mtys cI cS) mord g Am) (O : gO (mcell g cI cS sa) mord g) (X : gX D (mcell g cI cS sa) mord g S s H locs) (hl : lv_has ls 6 [(0, .ref (g 99))]) (hF : fX12_years_b35 N S = some o) : W p l e (rmd 6) s m args below meth c H locs 0 0 (gE below args s D (mtys cI cS) (mcell g cI cS sa) mord g (some (.int o.1)) o.2) (F0 m 35 ls []) := by
  unfold fX12_years_b35 at hF
  refine lv_aload_n C.1.1 C.1.2.1 dX12_years_35 rfl (lv_at hl 0 rfl) ?_
  refine lv_iconst (v := 2) C.1.1 C.1.2.1 dX12_years_36 (by decide) ?_
  obtain ⟨q1, hq1, hF⟩ := bnd_some hF
  refine m_callVi C X vX12_fail rfl (kX12_fail O C.2.2.2.2.1 N 2  S q1 hq1) (Nat.le_of_ble_eq_true rfl) (Nat.le_of_ble_eq_true rfl) (Nat.le_of_ble_eq_true rfl) (Nat.le_of_ble_eq_true rfl) rfl hl.1 rfl (Nat.le_of_ble_eq_true rfl) dX12_years_37 (fun H locs X => ?_)
  cases hF
  exact g_iret C X dX12_years_40
noncomputable def fX12_years_b23 (N : Nat) (x1 : Int32) (x2 : Int32) (x3 : Int32) (S : gS) : Option (Int32 × gS) := bnd (fX12_isIn N (Int32.toInt64 x2) 0 60 S) fun q1 => (if q1.1 = 0 then fX12_years_b35 N q1.2 else fX12_years_b41 N x1 x2 x3 q1.2)
theorem bX12_years_23 {N : Nat} {x1 : Int32} {x2 : Int32} {x3 : Int32} {S : gS} {H : Heap} {locs : List Loc} {ls : Array Slot} {o : Int32 × gS} (C : gC p s m args meth c cX12_years 6 RX12 ((some .int)) D (mtys cI cS) mord g Am) (O : gO (mcell g cI cS sa) mord g) (X : gX D (mcell g cI cS sa) mord g S s H locs) (hl : lv_has ls 6 [(0, .ref (g 99)), (1, .int x1), (2, .int x2), (3, .int x3)]) (hF : fX12_years_b23 N x1 x2 x3 S = some o) : W p l e (rmd 6) s m args below meth c H locs 0 0 (gE below args s D (mtys cI cS) (mcell g cI cS sa) mord g (some (.int o.1)) o.2) (F0 m 23 ls []) := by
  unfold fX12_years_b23 at hF
  refine lv_iload_n C.1.1 C.1.2.1 dX12_years_23 rfl (lv_at hl 2 rfl) ?_
  refine lv_i2l (v := Int32.toInt64 x2) C.1.1 C.1.2.1 dX12_years_24 rfl ?_
  refine lv_lconst (v := 0) C.1.1 C.1.2.1 dX12_years_25 (by decide) ?_
  refine lv_ldc2 C.1.1 C.1.2.1 C.1.2.2.2.1 (C.1.2.2.2.2 _ mKL432) dX12_years_26 ?_
  obtain ⟨q1, hq1, hF⟩ := bnd_some hF
  refine g_callSi C X vX12_isIn (kX12_isIn O C.2.2.2.2.1 N (Int32.toInt64 x2) 0 60  S q1 hq1) (Nat.le_of_ble_eq_true rfl) (Nat.le_of_ble_eq_true rfl) (Nat.le_of_ble_eq_true rfl) (Nat.le_of_ble_eq_true rfl) rfl hl.1 rfl (Nat.le_of_ble_eq_true rfl) dX12_years_29 (fun H locs X => ?_)
  refine lv_if_ne (tgt := 41) C.1.1 C.1.2.1 dX12_years_32 (by decide) (fun h_z => ?_) (fun h_z => ?_)
  · rw [if_neg h_z] at hF
    exact bX12_years_41 C O X (lv_sub hl [0, 1, 2, 3] rfl) hF
  · rw [if_pos h_z] at hF
    exact bX12_years_35 C O X (lv_sub hl [0] rfl) hF
noncomputable def fX12_years_b17 (N : Nat) (S : gS) : Option (Int32 × gS) := bnd (fX12_fail N 1 S) fun q1 => (some (q1.1, q1.2))
theorem bX12_years_17 {N : Nat} {S : gS} {H : Heap} {locs : List Loc} {ls : Array Slot} {o : Int32 × gS} (C : gC p s m args meth c cX12_years 6 RX12 ((some .int)) D (mtys cI cS) mord g Am) (O : gO (mcell g cI cS sa) mord g) (X : gX D (mcell g cI cS sa) mord g S s H locs) (hl : lv_has ls 6 [(0, .ref (g 99))]) (hF : fX12_years_b17 N S = some o) : W p l e (rmd 6) s m args below meth c H locs 0 0 (gE below args s D (mtys cI cS) (mcell g cI cS sa) mord g (some (.int o.1)) o.2) (F0 m 17 ls []) := by
  unfold fX12_years_b17 at hF
  refine lv_aload_n C.1.1 C.1.2.1 dX12_years_17 rfl (lv_at hl 0 rfl) ?_
  refine lv_iconst (v := 1) C.1.1 C.1.2.1 dX12_years_18 (by decide) ?_
  obtain ⟨q1, hq1, hF⟩ := bnd_some hF
  refine m_callVi C X vX12_fail rfl (kX12_fail O C.2.2.2.2.1 N 1  S q1 hq1) (Nat.le_of_ble_eq_true rfl) (Nat.le_of_ble_eq_true rfl) (Nat.le_of_ble_eq_true rfl) (Nat.le_of_ble_eq_true rfl) rfl hl.1 rfl (Nat.le_of_ble_eq_true rfl) dX12_years_19 (fun H locs X => ?_)
  cases hF
  exact g_iret C X dX12_years_22
noncomputable def fX12_years_b0 (N : Nat) (x1 : Int32) (x2 : Int32) (x3 : Int32) (S : gS) : Option (Int32 × gS) := lt (sU S 99 4 0) fun S1 => (bnd (fX12_isIn N (Int32.toInt64 x3) 0 2 S1) fun q1 => (if q1.1 = 0 then fX12_years_b17 N q1.2 else fX12_years_b23 N x1 x2 x3 q1.2))
theorem bX12_years_0 {N : Nat} {x1 : Int32} {x2 : Int32} {x3 : Int32} {S : gS} {H : Heap} {locs : List Loc} {ls : Array Slot} {o : Int32 × gS} (C : gC p s m args meth c cX12_years 6 RX12 ((some .int)) D (mtys cI cS) mord g Am) (O : gO (mcell g cI cS sa) mord g) (X : gX D (mcell g cI cS sa) mord g S s H locs) (hl : lv_has ls 6 [(0, .ref (g 99)), (1, .int x1), (2, .int x2), (3, .int x3)]) (hF : fX12_years_b0 N x1 x2 x3 S = some o) : W p l e (rmd 6) s m args below meth c H locs 0 0 (gE below args s D (mtys cI cS) (mcell g cI cS sa) mord g (some (.int o.1)) o.2) (F0 m 0 ls []) := by
  unfold fX12_years_b0 at hF
  refine lv_aload_n C.1.1 C.1.2.1 dX12_years_0 rfl (lv_at hl 0 rfl) ?_
  refine lv_iconst (v := 0) C.1.1 C.1.2.1 dX12_years_1 (by decide) ?_
  obtain ⟨S1, eS1, hF⟩ := lt_some hF
  refine m_p4 C O X eS1 dX12_years_2 (fun H locs X => ?_)
  refine lv_iload_n C.1.1 C.1.2.1 dX12_years_5 rfl (lv_at hl 3 rfl) ?_
  refine lv_i2l (v := Int32.toInt64 x3) C.1.1 C.1.2.1 dX12_years_6 rfl ?_
  refine lv_lconst (v := 0) C.1.1 C.1.2.1 dX12_years_7 (by decide) ?_
  refine lv_ldc2 C.1.1 C.1.2.1 C.1.2.2.2.1 (C.1.2.2.2.2 _ mKL461) dX12_years_8 ?_
  obtain ⟨q1, hq1, hF⟩ := bnd_some hF
  refine g_callSi C X vX12_isIn (kX12_isIn O C.2.2.2.2.1 N (Int32.toInt64 x3) 0 2  S1 q1 hq1) (Nat.le_of_ble_eq_true rfl) (Nat.le_of_ble_eq_true rfl) (Nat.le_of_ble_eq_true rfl) (Nat.le_of_ble_eq_true rfl) rfl hl.1 rfl (Nat.le_of_ble_eq_true rfl) dX12_years_11 (fun H locs X => ?_)
  refine lv_if_ne (tgt := 23) C.1.1 C.1.2.1 dX12_years_14 (by decide) (fun h_z => ?_) (fun h_z => ?_)
  · rw [if_neg h_z] at hF
    exact bX12_years_23 C O X (lv_sub hl [0, 1, 2, 3] rfl) hF
  · rw [if_pos h_z] at hF
    exact bX12_years_17 C O X (lv_sub hl [0] rfl) hF
noncomputable def fX12_years (N : Nat) (x1 : Int32) (x2 : Int32) (x3 : Int32) (S : gS) : Option (Int32 × gS) := fX12_years_b0 N x1 x2 x3 S
theorem kX12_years {l : Launch} {D : va_G} {g : Nat → Nat} {cI cS : ClassId} {sa : Nat → Nat → Option Nat} {Am : (Nat → Prop) → State → Heap → Prop} (O : gO (mcell g cI cS sa) mord g) (P : gAm Am) (N : Nat) (x1 : Int32) (x2 : Int32) (x3 : Int32) (S : gS) (o : Int32 × gS) (hF : fX12_years N x1 x2 x3 S = some o) : gM l yX12_years cX12_years 6 ((some .int)) 6 D (mtys cI cS) (mcell g cI cS sa) mord g Am [.ref (g 99), .int x1, .int x2, .int x3] S (some (.int o.1)) o.2 :=
  gM_of O P (by decide) (Nat.le_of_ble_eq_true rfl) (fun p e s m args below meth c ls C X hl => bX12_years_0 C O X (lv_sub hl [0, 1, 2, 3] rfl) hF)
-- copyTo
noncomputable def fX12_copyTo_b20 (N : Nat) (S : gS) : Option (Int32 × gS) := some (0, S)
theorem bX12_copyTo_20 {N : Nat} {S : gS} {H : Heap} {locs : List Loc} {ls : Array Slot} {o : Int32 × gS} (C : gC p s m args meth c cX12_copyTo 3 RX12 none D (mtys cI cS) mord g Am) (O : gO (mcell g cI cS sa) mord g) (X : gX D (mcell g cI cS sa) mord g S s H locs) (hl : lv_has ls 3 []) (hF : fX12_copyTo_b20 N S = some o) : W p l e (rmd 0) s m args below meth c H locs 0 0 (gE below args s D (mtys cI cS) (mcell g cI cS sa) mord g none o.2) (F0 m 20 ls []) := by
  unfold fX12_copyTo_b20 at hF
  cases hF
  exact g_vret C X dX12_copyTo_20
noncomputable def fX12_copyTo_b8 (N : Nat) (r2 : Nat → Nat → Int32 → gS → Option (Int32 × gS)) (k0 : Nat) (k1 : Nat) (x2 : Int32) (S : gS) : Option (Int32 × gS) := chk (inb x2 (mN k1)) (chk (inb x2 (mN k0)) (lt (sU S k0 (Int32.toNatClampNeg x2) (S k1 (Int32.toNatClampNeg x2))) fun S1 => (r2 k0 k1 ((x2 + 1 : Int32)) S1)))
theorem bX12_copyTo_8 {N : Nat} {r2 : Nat → Nat → Int32 → gS → Option (Int32 × gS)} {k0 : Nat} {k1 : Nat} {x2 : Int32} {S : gS} {H : Heap} {locs : List Loc} {ls : Array Slot} {o : Int32 × gS} (C : gC p s m args meth c cX12_copyTo 3 RX12 none D (mtys cI cS) mord g Am) (O : gO (mcell g cI cS sa) mord g) (K2 : ∀ (k0 : Nat) (k1 : Nat) (x2 : Int32) (hk_k0 : mI k0 = true) (hk_k1 : mI k1 = true) (S : gS) (H : Heap) (locs : List Loc) (ls : Array Slot), gX D (mcell g cI cS sa) mord g S s H locs → lv_has ls 3 [(0, .ref (g k0)), (1, .ref (g k1)), (2, .int x2)] → r2 k0 k1 x2 S = some o → W p l e (rmd 0) s m args below meth c H locs 0 0 (gE below args s D (mtys cI cS) (mcell g cI cS sa) mord g none o.2) (F0 m 2 ls [])) (hk_k0 : mI k0 = true) (hk_k1 : mI k1 = true) (X : gX D (mcell g cI cS sa) mord g S s H locs) (hl : lv_has ls 3 [(0, .ref (g k0)), (1, .ref (g k1)), (2, .int x2)]) (hF : fX12_copyTo_b8 N r2 k0 k1 x2 S = some o) : W p l e (rmd 0) s m args below meth c H locs 0 0 (gE below args s D (mtys cI cS) (mcell g cI cS sa) mord g none o.2) (F0 m 8 ls []) := by
  unfold fX12_copyTo_b8 at hF
  refine lv_aload_n C.1.1 C.1.2.1 dX12_copyTo_8 rfl (lv_at hl 0 rfl) ?_
  refine lv_iload_n C.1.1 C.1.2.1 dX12_copyTo_9 rfl (lv_at hl 2 rfl) ?_
  refine lv_aload_n C.1.1 C.1.2.1 dX12_copyTo_10 rfl (lv_at hl 1 rfl) ?_
  refine lv_iload_n C.1.1 C.1.2.1 dX12_copyTo_11 rfl (lv_at hl 2 rfl) ?_
  obtain ⟨h_1, hF⟩ := chk_some hF
  refine m_rv C X (k := k1) hk_k1  (inb_vp h_1) rfl dX12_copyTo_12 ?_
  obtain ⟨h_2, hF⟩ := chk_some hF
  obtain ⟨S1, eS1, hF⟩ := lt_some hF
  refine m_wv C O X (k := k0) hk_k0  (inb_vp h_2) rfl eS1 dX12_copyTo_13 (fun H locs X => ?_)
  refine lv_iinc (v := (x2 + 1 : Int32)) (lv' := [(2, .int ((x2 + 1 : Int32))), (0, .ref (g k0)), (1, .ref (g k1))]) C.1.1 C.1.2.1 dX12_copyTo_14 hl (k := 2) rfl rfl (by decide) rfl (fun ls hl => ?_)
  refine lv_goto (tgt := 2) C.1.1 C.1.2.1 dX12_copyTo_17 (by decide) ?_
  exact K2 _ _ _ hk_k0 hk_k1 _ _ _ _ X (lv_sub hl [1, 2, 0] rfl) hF
noncomputable def fX12_copyTo_b2 (N : Nat) (r2 : Nat → Nat → Int32 → gS → Option (Int32 × gS)) (k0 : Nat) (k1 : Nat) (x2 : Int32) (S : gS) : Option (Int32 × gS) := if (Int32.ofNat (mN k0)) ≤ x2 then fX12_copyTo_b20 N S else fX12_copyTo_b8 N r2 k0 k1 x2 S
theorem bX12_copyTo_2 {N : Nat} {r2 : Nat → Nat → Int32 → gS → Option (Int32 × gS)} {k0 : Nat} {k1 : Nat} {x2 : Int32} {S : gS} {H : Heap} {locs : List Loc} {ls : Array Slot} {o : Int32 × gS} (C : gC p s m args meth c cX12_copyTo 3 RX12 none D (mtys cI cS) mord g Am) (O : gO (mcell g cI cS sa) mord g) (K2 : ∀ (k0 : Nat) (k1 : Nat) (x2 : Int32) (hk_k0 : mI k0 = true) (hk_k1 : mI k1 = true) (S : gS) (H : Heap) (locs : List Loc) (ls : Array Slot), gX D (mcell g cI cS sa) mord g S s H locs → lv_has ls 3 [(0, .ref (g k0)), (1, .ref (g k1)), (2, .int x2)] → r2 k0 k1 x2 S = some o → W p l e (rmd 0) s m args below meth c H locs 0 0 (gE below args s D (mtys cI cS) (mcell g cI cS sa) mord g none o.2) (F0 m 2 ls [])) (hk_k0 : mI k0 = true) (hk_k1 : mI k1 = true) (X : gX D (mcell g cI cS sa) mord g S s H locs) (hl : lv_has ls 3 [(0, .ref (g k0)), (1, .ref (g k1)), (2, .int x2)]) (hF : fX12_copyTo_b2 N r2 k0 k1 x2 S = some o) : W p l e (rmd 0) s m args below meth c H locs 0 0 (gE below args s D (mtys cI cS) (mcell g cI cS sa) mord g none o.2) (F0 m 2 ls []) := by
  unfold fX12_copyTo_b2 at hF
  refine lv_iload_n C.1.1 C.1.2.1 dX12_copyTo_2 rfl (lv_at hl 2 rfl) ?_
  refine lv_aload_n C.1.1 C.1.2.1 dX12_copyTo_3 rfl (lv_at hl 0 rfl) ?_
  refine m_lv C X (k := k0) hk_k0 (x := Int32.ofNat (mN k0)) rfl dX12_copyTo_4 ?_
  refine lv_icmp_ge (tgt := 20) C.1.1 C.1.2.1 dX12_copyTo_5 (by decide) (fun h_z => ?_) (fun h_z => ?_)
  · rw [if_pos h_z] at hF
    exact bX12_copyTo_20 C O X (lv_sub hl [] rfl) hF
  · rw [if_neg h_z] at hF
    exact bX12_copyTo_8 C O K2 hk_k0 hk_k1 X (lv_sub hl [0, 1, 2] rfl) hF
noncomputable def fX12_copyTo_h2 (N : Nat) : Nat → Nat → Nat → Int32 → gS → Option (Int32 × gS)
  | 0, _, _, _, _ => none
  | n + 1, k0, k1, x2, S => fX12_copyTo_b2 N (fX12_copyTo_h2 N n) k0 k1 x2 S
theorem hX12_copyTo_2 {N : Nat} {o : Int32 × gS} (C : gC p s m args meth c cX12_copyTo 3 RX12 none D (mtys cI cS) mord g Am) (O : gO (mcell g cI cS sa) mord g) : ∀ (n : Nat) (k0 : Nat) (k1 : Nat) (x2 : Int32) (hk_k0 : mI k0 = true) (hk_k1 : mI k1 = true) (S : gS) (H : Heap) (locs : List Loc) (ls : Array Slot), gX D (mcell g cI cS sa) mord g S s H locs → lv_has ls 3 [(0, .ref (g k0)), (1, .ref (g k1)), (2, .int x2)] → fX12_copyTo_h2 N n k0 k1 x2 S = some o → W p l e (rmd 0) s m args below meth c H locs 0 0 (gE below args s D (mtys cI cS) (mcell g cI cS sa) mord g none o.2) (F0 m 2 ls []) := by
  intro n
  induction n with
  | zero =>
    intro k0 k1 x2 hk_k0 hk_k1 S H locs ls X hl hF
    exact absurd (show (none : Option (Int32 × gS)) = some o from hF) (by simp)
  | succ n ih =>
    intro k0 k1 x2 hk_k0 hk_k1 S H locs ls X hl hF
    have hF : fX12_copyTo_b2 N (fX12_copyTo_h2 N n) k0 k1 x2 S = some o := hF
    exact bX12_copyTo_2 C O ih hk_k0 hk_k1 X hl hF
noncomputable def fX12_copyTo_b0 (N : Nat) (k0 : Nat) (k1 : Nat) (S : gS) : Option (Int32 × gS) := fX12_copyTo_h2 N N k0 k1 0 S
theorem bX12_copyTo_0 {N : Nat} {k0 : Nat} {k1 : Nat} {S : gS} {H : Heap} {locs : List Loc} {ls : Array Slot} {o : Int32 × gS} (C : gC p s m args meth c cX12_copyTo 3 RX12 none D (mtys cI cS) mord g Am) (O : gO (mcell g cI cS sa) mord g) (hk_k0 : mI k0 = true) (hk_k1 : mI k1 = true) (X : gX D (mcell g cI cS sa) mord g S s H locs) (hl : lv_has ls 3 [(0, .ref (g k0)), (1, .ref (g k1))]) (hF : fX12_copyTo_b0 N k0 k1 S = some o) : W p l e (rmd 0) s m args below meth c H locs 0 0 (gE below args s D (mtys cI cS) (mcell g cI cS sa) mord g none o.2) (F0 m 0 ls []) := by
  unfold fX12_copyTo_b0 at hF
  refine lv_iconst (v := 0) C.1.1 C.1.2.1 dX12_copyTo_0 (by decide) ?_
  refine lv_istore_n (lv' := [(2, .int 0), (0, .ref (g k0)), (1, .ref (g k1))]) C.1.1 C.1.2.1 dX12_copyTo_1 rfl hl (by decide) rfl (fun ls hl => ?_)
  exact hX12_copyTo_2 C O N _ _ _ hk_k0 hk_k1 _ _ _ _ X (lv_sub hl [1, 2, 0] rfl) hF
noncomputable def fX12_copyTo (N : Nat) (k0 : Nat) (k1 : Nat) (S : gS) : Option (Int32 × gS) := fX12_copyTo_b0 N k0 k1 S
theorem kX12_copyTo {l : Launch} {D : va_G} {g : Nat → Nat} {cI cS : ClassId} {sa : Nat → Nat → Option Nat} {Am : (Nat → Prop) → State → Heap → Prop} (O : gO (mcell g cI cS sa) mord g) (P : gAm Am) (N : Nat) (k0 : Nat) (k1 : Nat) (hk_k0 : mI k0 = true) (hk_k1 : mI k1 = true) (S : gS) (o : Int32 × gS) (hF : fX12_copyTo N k0 k1 S = some o) : gM l yX12_copyTo cX12_copyTo 3 none 0 D (mtys cI cS) (mcell g cI cS sa) mord g Am [.ref (g k0), .ref (g k1)] S none o.2 :=
  gM_of O P (by decide) (Nat.le_of_ble_eq_true rfl) (fun p e s m args below meth c ls C X hl => bX12_copyTo_0 C O hk_k0 hk_k1 X (lv_sub hl [0, 1] rfl) hF)
-- image
noncomputable def fX12_image_b0 (N : Nat) (S : gS) : Option (Int32 × gS) := lt (sU S 99 4 0) fun S1 => (lt (sU S1 99 57 1) fun S2 => (lt (sU S2 99 58 (S2 99 39)) fun S3 => (lt (sU S3 99 59 (S3 99 40)) fun S4 => (bnd (fX12_pack N 60 0 S4) fun q1 => (bnd (fX12_copyTo N 61 36 q1.2) fun q2 => (bnd (fX12_copyTo N 62 48 q2.2) fun q3 => (bnd (fX12_copyTo N 63 49 q3.2) fun q4 => (bnd (fX12_copyTo N 64 50 q4.2) fun q5 => (bnd (fX12_copyTo N 65 17 q5.2) fun q6 => (some (0, q6.2)))))))))))
theorem bX12_image_0 {N : Nat} {S : gS} {H : Heap} {locs : List Loc} {ls : Array Slot} {o : Int32 × gS} (C : gC p s m args meth c cX12_image 1 RX12 none D (mtys cI cS) mord g Am) (O : gO (mcell g cI cS sa) mord g) (X : gX D (mcell g cI cS sa) mord g S s H locs) (hl : lv_has ls 1 [(0, .ref (g 99))]) (hF : fX12_image_b0 N S = some o) : W p l e (rmd 1) s m args below meth c H locs 0 0 (gE below args s D (mtys cI cS) (mcell g cI cS sa) mord g none o.2) (F0 m 0 ls []) := by
  unfold fX12_image_b0 at hF
  refine lv_aload_n C.1.1 C.1.2.1 dX12_image_0 rfl (lv_at hl 0 rfl) ?_
  refine lv_iconst (v := 0) C.1.1 C.1.2.1 dX12_image_1 (by decide) ?_
  obtain ⟨S1, eS1, hF⟩ := lt_some hF
  refine m_p4 C O X eS1 dX12_image_2 (fun H locs X => ?_)
  refine lv_aload_n C.1.1 C.1.2.1 dX12_image_5 rfl (lv_at hl 0 rfl) ?_
  refine lv_iconst (v := 1) C.1.1 C.1.2.1 dX12_image_6 (by decide) ?_
  obtain ⟨S2, eS2, hF⟩ := lt_some hF
  refine m_p57 C O X (by decide) eS2 dX12_image_7 (fun H locs X => ?_)
  refine lv_aload_n C.1.1 C.1.2.1 dX12_image_10 rfl (lv_at hl 0 rfl) ?_
  refine lv_aload_n C.1.1 C.1.2.1 dX12_image_11 rfl (lv_at hl 0 rfl) ?_
  refine m_g39 C X dX12_image_12 ?_
  obtain ⟨S3, eS3, hF⟩ := lt_some hF
  refine m_p58 C O X eS3 dX12_image_15 (fun H locs X => ?_)
  refine lv_aload_n C.1.1 C.1.2.1 dX12_image_18 rfl (lv_at hl 0 rfl) ?_
  refine lv_aload_n C.1.1 C.1.2.1 dX12_image_19 rfl (lv_at hl 0 rfl) ?_
  refine m_g40 C X dX12_image_20 ?_
  obtain ⟨S4, eS4, hF⟩ := lt_some hF
  refine m_p59 C O X eS4 dX12_image_23 (fun H locs X => ?_)
  refine lv_aload_n C.1.1 C.1.2.1 dX12_image_26 rfl (lv_at hl 0 rfl) ?_
  refine lv_aload_n C.1.1 C.1.2.1 dX12_image_27 rfl (lv_at hl 0 rfl) ?_
  refine m_g60 C X dX12_image_28 ?_
  refine lv_iconst (v := 0) C.1.1 C.1.2.1 dX12_image_31 (by decide) ?_
  obtain ⟨q1, hq1, hF⟩ := bnd_some hF
  refine m_callV C X vX12_pack rfl (kX12_pack O C.2.2.2.2.1 N 60 0 (rfl : mI 60 = true) S4 q1 hq1) (Nat.le_of_ble_eq_true rfl) (Nat.le_of_ble_eq_true rfl) (Nat.le_of_ble_eq_true rfl) (Nat.le_of_ble_eq_true rfl) rfl hl.1 rfl (Nat.le_of_ble_eq_true rfl) dX12_image_32 (fun H locs X => ?_)
  refine lv_aload_n C.1.1 C.1.2.1 dX12_image_35 rfl (lv_at hl 0 rfl) ?_
  refine m_g61 C X dX12_image_36 ?_
  refine lv_aload_n C.1.1 C.1.2.1 dX12_image_39 rfl (lv_at hl 0 rfl) ?_
  refine m_g36 C X dX12_image_40 ?_
  obtain ⟨q2, hq2, hF⟩ := bnd_some hF
  refine g_callS C X vX12_copyTo (kX12_copyTo O C.2.2.2.2.1 N 61 36 (rfl : mI 61 = true) (rfl : mI 36 = true) q1.2 q2 hq2) (Nat.le_of_ble_eq_true rfl) (Nat.le_of_ble_eq_true rfl) (Nat.le_of_ble_eq_true rfl) (Nat.le_of_ble_eq_true rfl) rfl hl.1 rfl (Nat.le_of_ble_eq_true rfl) dX12_image_43 (fun H locs X => ?_)
  refine lv_aload_n C.1.1 C.1.2.1 dX12_image_46 rfl (lv_at hl 0 rfl) ?_
  refine m_g62 C X dX12_image_47 ?_
  refine lv_aload_n C.1.1 C.1.2.1 dX12_image_50 rfl (lv_at hl 0 rfl) ?_
  refine m_g48 C X dX12_image_51 ?_
  obtain ⟨q3, hq3, hF⟩ := bnd_some hF
  refine g_callS C X vX12_copyTo (kX12_copyTo O C.2.2.2.2.1 N 62 48 (rfl : mI 62 = true) (rfl : mI 48 = true) q2.2 q3 hq3) (Nat.le_of_ble_eq_true rfl) (Nat.le_of_ble_eq_true rfl) (Nat.le_of_ble_eq_true rfl) (Nat.le_of_ble_eq_true rfl) rfl hl.1 rfl (Nat.le_of_ble_eq_true rfl) dX12_image_54 (fun H locs X => ?_)
  refine lv_aload_n C.1.1 C.1.2.1 dX12_image_57 rfl (lv_at hl 0 rfl) ?_
  refine m_g63 C X dX12_image_58 ?_
  refine lv_aload_n C.1.1 C.1.2.1 dX12_image_61 rfl (lv_at hl 0 rfl) ?_
  refine m_g49 C X dX12_image_62 ?_
  obtain ⟨q4, hq4, hF⟩ := bnd_some hF
  refine g_callS C X vX12_copyTo (kX12_copyTo O C.2.2.2.2.1 N 63 49 (rfl : mI 63 = true) (rfl : mI 49 = true) q3.2 q4 hq4) (Nat.le_of_ble_eq_true rfl) (Nat.le_of_ble_eq_true rfl) (Nat.le_of_ble_eq_true rfl) (Nat.le_of_ble_eq_true rfl) rfl hl.1 rfl (Nat.le_of_ble_eq_true rfl) dX12_image_65 (fun H locs X => ?_)
  refine lv_aload_n C.1.1 C.1.2.1 dX12_image_68 rfl (lv_at hl 0 rfl) ?_
  refine m_g64 C X dX12_image_69 ?_
  refine lv_aload_n C.1.1 C.1.2.1 dX12_image_72 rfl (lv_at hl 0 rfl) ?_
  refine m_g50 C X dX12_image_73 ?_
  obtain ⟨q5, hq5, hF⟩ := bnd_some hF
  refine g_callS C X vX12_copyTo (kX12_copyTo O C.2.2.2.2.1 N 64 50 (rfl : mI 64 = true) (rfl : mI 50 = true) q4.2 q5 hq5) (Nat.le_of_ble_eq_true rfl) (Nat.le_of_ble_eq_true rfl) (Nat.le_of_ble_eq_true rfl) (Nat.le_of_ble_eq_true rfl) rfl hl.1 rfl (Nat.le_of_ble_eq_true rfl) dX12_image_76 (fun H locs X => ?_)
  refine lv_aload_n C.1.1 C.1.2.1 dX12_image_79 rfl (lv_at hl 0 rfl) ?_
  refine m_g65 C X dX12_image_80 ?_
  refine lv_aload_n C.1.1 C.1.2.1 dX12_image_83 rfl (lv_at hl 0 rfl) ?_
  refine m_g17 C X dX12_image_84 ?_
  obtain ⟨q6, hq6, hF⟩ := bnd_some hF
  refine g_callS C X vX12_copyTo (kX12_copyTo O C.2.2.2.2.1 N 65 17 (rfl : mI 65 = true) (rfl : mI 17 = true) q5.2 q6 hq6) (Nat.le_of_ble_eq_true rfl) (Nat.le_of_ble_eq_true rfl) (Nat.le_of_ble_eq_true rfl) (Nat.le_of_ble_eq_true rfl) rfl hl.1 rfl (Nat.le_of_ble_eq_true rfl) dX12_image_87 (fun H locs X => ?_)
  cases hF
  exact g_vret C X dX12_image_90
noncomputable def fX12_image (N : Nat) (S : gS) : Option (Int32 × gS) := fX12_image_b0 N S
theorem kX12_image {l : Launch} {D : va_G} {g : Nat → Nat} {cI cS : ClassId} {sa : Nat → Nat → Option Nat} {Am : (Nat → Prop) → State → Heap → Prop} (O : gO (mcell g cI cS sa) mord g) (P : gAm Am) (N : Nat) (S : gS) (o : Int32 × gS) (hF : fX12_image N S = some o) : gM l yX12_image cX12_image 1 none 1 D (mtys cI cS) (mcell g cI cS sa) mord g Am [.ref (g 99)] S none o.2 :=
  gM_of O P (by decide) (Nat.le_of_ble_eq_true rfl) (fun p e s m args below meth c ls C X hl => bX12_image_0 C O X (lv_sub hl [0] rfl) hF)
-- restore
noncomputable def fX12_restore_b14 (N : Nat) (S : gS) : Option (Int32 × gS) := lt (sU S 99 39 (S 99 58)) fun S1 => (lt (sU S1 99 40 (S1 99 59)) fun S2 => (bnd (fX12_unpack N 60 0 S2) fun q1 => (bnd (fX12_copyTo N 36 61 q1.2) fun q2 => (bnd (fX12_copyTo N 48 62 q2.2) fun q3 => (bnd (fX12_copyTo N 49 63 q3.2) fun q4 => (bnd (fX12_copyTo N 50 64 q4.2) fun q5 => (bnd (fX12_copyTo N 17 65 q5.2) fun q6 => (some (1, q6.2)))))))))
theorem bX12_restore_14 {N : Nat} {S : gS} {H : Heap} {locs : List Loc} {ls : Array Slot} {o : Int32 × gS} (C : gC p s m args meth c cX12_restore 1 RX12 ((some .boolean)) D (mtys cI cS) mord g Am) (O : gO (mcell g cI cS sa) mord g) (X : gX D (mcell g cI cS sa) mord g S s H locs) (hl : lv_has ls 1 [(0, .ref (g 99))]) (hF : fX12_restore_b14 N S = some o) : W p l e (rmd 1) s m args below meth c H locs 0 0 (gE below args s D (mtys cI cS) (mcell g cI cS sa) mord g (some (.int o.1)) o.2) (F0 m 14 ls []) := by
  unfold fX12_restore_b14 at hF
  refine lv_aload_n C.1.1 C.1.2.1 dX12_restore_14 rfl (lv_at hl 0 rfl) ?_
  refine lv_aload_n C.1.1 C.1.2.1 dX12_restore_15 rfl (lv_at hl 0 rfl) ?_
  refine m_g58 C X dX12_restore_16 ?_
  obtain ⟨S1, eS1, hF⟩ := lt_some hF
  refine m_p39 C O X eS1 dX12_restore_19 (fun H locs X => ?_)
  refine lv_aload_n C.1.1 C.1.2.1 dX12_restore_22 rfl (lv_at hl 0 rfl) ?_
  refine lv_aload_n C.1.1 C.1.2.1 dX12_restore_23 rfl (lv_at hl 0 rfl) ?_
  refine m_g59 C X dX12_restore_24 ?_
  obtain ⟨S2, eS2, hF⟩ := lt_some hF
  refine m_p40 C O X eS2 dX12_restore_27 (fun H locs X => ?_)
  refine lv_aload_n C.1.1 C.1.2.1 dX12_restore_30 rfl (lv_at hl 0 rfl) ?_
  refine lv_aload_n C.1.1 C.1.2.1 dX12_restore_31 rfl (lv_at hl 0 rfl) ?_
  refine m_g60 C X dX12_restore_32 ?_
  refine lv_iconst (v := 0) C.1.1 C.1.2.1 dX12_restore_35 (by decide) ?_
  obtain ⟨q1, hq1, hF⟩ := bnd_some hF
  refine m_callV C X vX12_unpack rfl (kX12_unpack O C.2.2.2.2.1 N 60 0 (rfl : mI 60 = true) S2 q1 hq1) (Nat.le_of_ble_eq_true rfl) (Nat.le_of_ble_eq_true rfl) (Nat.le_of_ble_eq_true rfl) (Nat.le_of_ble_eq_true rfl) rfl hl.1 rfl (Nat.le_of_ble_eq_true rfl) dX12_restore_36 (fun H locs X => ?_)
  refine lv_aload_n C.1.1 C.1.2.1 dX12_restore_39 rfl (lv_at hl 0 rfl) ?_
  refine m_g36 C X dX12_restore_40 ?_
  refine lv_aload_n C.1.1 C.1.2.1 dX12_restore_43 rfl (lv_at hl 0 rfl) ?_
  refine m_g61 C X dX12_restore_44 ?_
  obtain ⟨q2, hq2, hF⟩ := bnd_some hF
  refine g_callS C X vX12_copyTo (kX12_copyTo O C.2.2.2.2.1 N 36 61 (rfl : mI 36 = true) (rfl : mI 61 = true) q1.2 q2 hq2) (Nat.le_of_ble_eq_true rfl) (Nat.le_of_ble_eq_true rfl) (Nat.le_of_ble_eq_true rfl) (Nat.le_of_ble_eq_true rfl) rfl hl.1 rfl (Nat.le_of_ble_eq_true rfl) dX12_restore_47 (fun H locs X => ?_)
  refine lv_aload_n C.1.1 C.1.2.1 dX12_restore_50 rfl (lv_at hl 0 rfl) ?_
  refine m_g48 C X dX12_restore_51 ?_
  refine lv_aload_n C.1.1 C.1.2.1 dX12_restore_54 rfl (lv_at hl 0 rfl) ?_
  refine m_g62 C X dX12_restore_55 ?_
  obtain ⟨q3, hq3, hF⟩ := bnd_some hF
  refine g_callS C X vX12_copyTo (kX12_copyTo O C.2.2.2.2.1 N 48 62 (rfl : mI 48 = true) (rfl : mI 62 = true) q2.2 q3 hq3) (Nat.le_of_ble_eq_true rfl) (Nat.le_of_ble_eq_true rfl) (Nat.le_of_ble_eq_true rfl) (Nat.le_of_ble_eq_true rfl) rfl hl.1 rfl (Nat.le_of_ble_eq_true rfl) dX12_restore_58 (fun H locs X => ?_)
  refine lv_aload_n C.1.1 C.1.2.1 dX12_restore_61 rfl (lv_at hl 0 rfl) ?_
  refine m_g49 C X dX12_restore_62 ?_
  refine lv_aload_n C.1.1 C.1.2.1 dX12_restore_65 rfl (lv_at hl 0 rfl) ?_
  refine m_g63 C X dX12_restore_66 ?_
  obtain ⟨q4, hq4, hF⟩ := bnd_some hF
  refine g_callS C X vX12_copyTo (kX12_copyTo O C.2.2.2.2.1 N 49 63 (rfl : mI 49 = true) (rfl : mI 63 = true) q3.2 q4 hq4) (Nat.le_of_ble_eq_true rfl) (Nat.le_of_ble_eq_true rfl) (Nat.le_of_ble_eq_true rfl) (Nat.le_of_ble_eq_true rfl) rfl hl.1 rfl (Nat.le_of_ble_eq_true rfl) dX12_restore_69 (fun H locs X => ?_)
  refine lv_aload_n C.1.1 C.1.2.1 dX12_restore_72 rfl (lv_at hl 0 rfl) ?_
  refine m_g50 C X dX12_restore_73 ?_
  refine lv_aload_n C.1.1 C.1.2.1 dX12_restore_76 rfl (lv_at hl 0 rfl) ?_
  refine m_g64 C X dX12_restore_77 ?_
  obtain ⟨q5, hq5, hF⟩ := bnd_some hF
  refine g_callS C X vX12_copyTo (kX12_copyTo O C.2.2.2.2.1 N 50 64 (rfl : mI 50 = true) (rfl : mI 64 = true) q4.2 q5 hq5) (Nat.le_of_ble_eq_true rfl) (Nat.le_of_ble_eq_true rfl) (Nat.le_of_ble_eq_true rfl) (Nat.le_of_ble_eq_true rfl) rfl hl.1 rfl (Nat.le_of_ble_eq_true rfl) dX12_restore_80 (fun H locs X => ?_)
  refine lv_aload_n C.1.1 C.1.2.1 dX12_restore_83 rfl (lv_at hl 0 rfl) ?_
  refine m_g17 C X dX12_restore_84 ?_
  refine lv_aload_n C.1.1 C.1.2.1 dX12_restore_87 rfl (lv_at hl 0 rfl) ?_
  refine m_g65 C X dX12_restore_88 ?_
  obtain ⟨q6, hq6, hF⟩ := bnd_some hF
  refine g_callS C X vX12_copyTo (kX12_copyTo O C.2.2.2.2.1 N 17 65 (rfl : mI 17 = true) (rfl : mI 65 = true) q5.2 q6 hq6) (Nat.le_of_ble_eq_true rfl) (Nat.le_of_ble_eq_true rfl) (Nat.le_of_ble_eq_true rfl) (Nat.le_of_ble_eq_true rfl) rfl hl.1 rfl (Nat.le_of_ble_eq_true rfl) dX12_restore_91 (fun H locs X => ?_)
  refine lv_iconst (v := 1) C.1.1 C.1.2.1 dX12_restore_94 (by decide) ?_
  cases hF
  exact g_zret (x := 1) C X (by decide) dX12_restore_95
noncomputable def fX12_restore_b12 (N : Nat) (S : gS) : Option (Int32 × gS) := some (0, S)
theorem bX12_restore_12 {N : Nat} {S : gS} {H : Heap} {locs : List Loc} {ls : Array Slot} {o : Int32 × gS} (C : gC p s m args meth c cX12_restore 1 RX12 ((some .boolean)) D (mtys cI cS) mord g Am) (O : gO (mcell g cI cS sa) mord g) (X : gX D (mcell g cI cS sa) mord g S s H locs) (hl : lv_has ls 1 []) (hF : fX12_restore_b12 N S = some o) : W p l e (rmd 1) s m args below meth c H locs 0 0 (gE below args s D (mtys cI cS) (mcell g cI cS sa) mord g (some (.int o.1)) o.2) (F0 m 12 ls []) := by
  unfold fX12_restore_b12 at hF
  refine lv_iconst (v := 0) C.1.1 C.1.2.1 dX12_restore_12 (by decide) ?_
  cases hF
  exact g_zret (x := 0) C X (by decide) dX12_restore_13
noncomputable def fX12_restore_b0 (N : Nat) (S : gS) : Option (Int32 × gS) := lt (sU S 99 4 0) fun S1 => (if (S1 99 57) = 0 then fX12_restore_b12 N S1 else fX12_restore_b14 N S1)
theorem bX12_restore_0 {N : Nat} {S : gS} {H : Heap} {locs : List Loc} {ls : Array Slot} {o : Int32 × gS} (C : gC p s m args meth c cX12_restore 1 RX12 ((some .boolean)) D (mtys cI cS) mord g Am) (O : gO (mcell g cI cS sa) mord g) (X : gX D (mcell g cI cS sa) mord g S s H locs) (hl : lv_has ls 1 [(0, .ref (g 99))]) (hF : fX12_restore_b0 N S = some o) : W p l e (rmd 1) s m args below meth c H locs 0 0 (gE below args s D (mtys cI cS) (mcell g cI cS sa) mord g (some (.int o.1)) o.2) (F0 m 0 ls []) := by
  unfold fX12_restore_b0 at hF
  refine lv_aload_n C.1.1 C.1.2.1 dX12_restore_0 rfl (lv_at hl 0 rfl) ?_
  refine lv_iconst (v := 0) C.1.1 C.1.2.1 dX12_restore_1 (by decide) ?_
  obtain ⟨S1, eS1, hF⟩ := lt_some hF
  refine m_p4 C O X eS1 dX12_restore_2 (fun H locs X => ?_)
  refine lv_aload_n C.1.1 C.1.2.1 dX12_restore_5 rfl (lv_at hl 0 rfl) ?_
  refine m_g57 C X dX12_restore_6 ?_
  refine lv_if_ne (tgt := 14) C.1.1 C.1.2.1 dX12_restore_9 (by decide) (fun h_z => ?_) (fun h_z => ?_)
  · rw [if_neg h_z] at hF
    exact bX12_restore_14 C O X (lv_sub hl [0] rfl) hF
  · rw [if_pos h_z] at hF
    exact bX12_restore_12 C O X (lv_sub hl [] rfl) hF
noncomputable def fX12_restore (N : Nat) (S : gS) : Option (Int32 × gS) := fX12_restore_b0 N S
theorem kX12_restore {l : Launch} {D : va_G} {g : Nat → Nat} {cI cS : ClassId} {sa : Nat → Nat → Option Nat} {Am : (Nat → Prop) → State → Heap → Prop} (O : gO (mcell g cI cS sa) mord g) (P : gAm Am) (N : Nat) (S : gS) (o : Int32 × gS) (hF : fX12_restore N S = some o) : gM l yX12_restore cX12_restore 1 ((some .boolean)) 1 D (mtys cI cS) (mcell g cI cS sa) mord g Am [.ref (g 99)] S (some (.int o.1)) o.2 :=
  gM_of O P (by decide) (Nat.le_of_ble_eq_true rfl) (fun p e s m args below meth c ls C X hl => bX12_restore_0 C O X (lv_sub hl [0] rfl) hF)
end
end

/-! part 09.xgen -/
section
/-! more general rows: fields and methods of nest mates, rows of bytes and booleans, rows of rows -/
section GEN2
variable {p : Program} {l : Launch} {e : Env} {R : Room} {s : State} {m : MethodId} {args : Array Value} {below : List Frame} {meth : Method} {c : Code} {H : Heap} {locs : List Loc} {cs sl : Nat} {Q : State → Prop} {Am : (Nat → Prop) → State → Heap → Prop}
variable {cc cy : ByteArray} {nL mL pc n index d : Nat} {own Cn host : String} {ret rt : Option FieldType} {D : va_G} {tys : List (ClassId × FieldType)} {cell : gS → Nat → Nat × va_E} {ord : List Nat} {adr : Nat → Nat} {S S' : gS} {ls : Array Slot} {rest As av : List Value} {y : MethodName} {v : Option Value}
theorem g_getN (C : gC p s m args meth c cc nL own ret D tys ord adr Am) (X : gX D cell ord adr S s H locs) {q k ci N : Nat} {T : u_T} {fs : List Value} {x : Value} (hq : ord[q]? = some k) (hc : cell S k = (adr k, .inr (ci, fs))) (hcl : vwCl[ci]? = some (Cn, T, N)) (hin : ∀ w ∈ u_ws Cn T N, w ∈ gT) (j : Nat) (hj : j < N) (hl : va_Nw (Cond.fieldLinkNest own index (T j).1 (T j).2.1 (T j).2.2.1 host) s) (hv : fs[j]? = some x) (hdg : decode cc pc = .ok (.getfield index, 3))
    (kk : W p l e R s m args below meth c H locs cs sl Q (F0 m (pc + 3) ls (x :: rest))) : W p l e R s m args below meth c H locs cs sl Q (F0 m pc ls (.ref (adr k) :: rest)) :=
  va_getN (D := D) C.1.1 C.1.2.1 C.1.2.2.2.2 hin C.1.2.2.2.1 C.2.1 X.1 q (gw_get hq hc) hcl j hj (va_Nw.use rfl hl) (fun _ h => h) hv hdg kk
theorem g_putN (C : gC p s m args meth c cc nL own ret D tys ord adr Am) (O : gO cell ord adr) (X : gX D cell ord adr S s H locs) {q k ci N : Nat} {T : u_T} {fs : List Value} {x : Value} (hq : ord[q]? = some k) (hc : cell S k = (adr k, .inr (ci, fs))) (hcl : vwCl[ci]? = some (Cn, T, N)) (hin : ∀ w ∈ u_ws Cn T N, w ∈ gT) (ty0 : Nat → FieldType) (hty : ∀ k, k < N → parseFieldDescriptor (T k).2.2.1 = some (ty0 k)) (hnm : ∀ a, a < N → ∀ b, b < N → a ≠ b → (T a).2.1 ≠ (T b).2.1) (j : Nat) (hj : j < N) (hl : va_Nw (Cond.fieldLinkNest own index (T j).1 (T j).2.1 (T j).2.2.1 host) s) (hfin : (T j).2.2.2 = false) (hn : narrow (ty0 j) x = x) (hfit : fits (ty0 j) x = true) (hlen : j < fs.length) (hS : ∀ i, i ≠ k → S' i = S i) (hc' : cell S' k = (adr k, .inr (ci, fs.set j x))) (hdg : decode cc pc = .ok (.putfield index, 3))
    (kk : ∀ (H1 : Heap) (locs1 : List Loc), gX D cell ord adr S' s H1 locs1 → W p l e R s m args below meth c H1 locs1 cs sl Q (F0 m (pc + 3) ls rest)) : W p l e R s m args below meth c H locs cs sl Q (F0 m pc ls (x :: .ref (adr k) :: rest)) :=
  va_putN (D := D) (ty := ty0 j) C.1.1 C.1.2.1 C.1.2.2.2.2 hin ty0 hty hnm C.1.2.2.2.1 C.2.1 X.1 (gw_D O S _) X.2 q (gw_get hq hc) hcl j hj (va_Nw.use rfl hl) (fun _ h => h) hfin (hty j hj) hn hfit hlen hdg (fun H1 locs1 hP hD hS1 => kk H1 locs1 ⟨by rw [gw_set O hq hc' hS] at hP; exact hP, hS1⟩)
theorem g_bald (C : gC p s m args meth c cc nL own ret D tys ord adr Am) (X : gX D cell ord adr S s H locs) {q k t0 n : Nat} {cA : ClassId} {f : Nat → Int32} (hq : ord[q]? = some k) (hc : cell S k = (adr k, .inl (cA, n, .inl f))) (ht : tys[t0]? = some (cA, .byte)) {i : Int32} {j : Nat} (hin : vp_in i n) (hj : i.toNatClampNeg = j) (hdg : decode cc pc = .ok (.baload, 1))
    (kk : W p l e R s m args below meth c H locs cs sl Q (F0 m (pc + 1) ls (.int (f j) :: rest))) : W p l e R s m args below meth c H locs cs sl Q (F0 m pc ls (.int i :: .ref (adr k) :: rest)) := by
  subst hj
  exact va_bald C.1.1 C.1.2.1 C.2.1 X.1 q t0 (gw_get hq hc) ht hin hdg kk
theorem g_zald (C : gC p s m args meth c cc nL own ret D tys ord adr Am) (X : gX D cell ord adr S s H locs) {q k t0 n : Nat} {cA : ClassId} {f : Nat → Int32} (hq : ord[q]? = some k) (hc : cell S k = (adr k, .inl (cA, n, .inl f))) (ht : tys[t0]? = some (cA, .boolean)) {i : Int32} {j : Nat} (hin : vp_in i n) (hj : i.toNatClampNeg = j) (hdg : decode cc pc = .ok (.baload, 1))
    (kk : W p l e R s m args below meth c H locs cs sl Q (F0 m (pc + 1) ls (.int (f j) :: rest))) : W p l e R s m args below meth c H locs cs sl Q (F0 m pc ls (.int i :: .ref (adr k) :: rest)) := by
  subst hj
  exact va_zald C.1.1 C.1.2.1 C.2.1 X.1 q t0 (gw_get hq hc) ht hin hdg kk
theorem g_bast (C : gC p s m args meth c cc nL own ret D tys ord adr Am) (O : gO cell ord adr) (X : gX D cell ord adr S s H locs) {q k t0 n : Nat} {cA : ClassId} {f : Nat → Int32} (hq : ord[q]? = some k) (hc : cell S k = (adr k, .inl (cA, n, .inl f))) (ht : tys[t0]? = some (cA, .byte)) {i x : Int32} {j : Nat} (hin : vp_in i n) (hj : i.toNatClampNeg = j) (hS : ∀ i, i ≠ k → S' i = S i) (hc' : cell S' k = (adr k, .inl (cA, n, .inl (upd f j (vp_nar .byte x))))) (hdg : decode cc pc = .ok (.bastore, 1))
    (kk : ∀ (H1 : Heap) (locs1 : List Loc), gX D cell ord adr S' s H1 locs1 → W p l e R s m args below meth c H1 locs1 cs sl Q (F0 m (pc + 1) ls rest)) : W p l e R s m args below meth c H locs cs sl Q (F0 m pc ls (.int x :: .int i :: .ref (adr k) :: rest)) := by
  subst hj
  exact va_bast C.1.1 C.1.2.1 C.2.1 X.1 (gw_D O S _) X.2 q t0 (gw_get hq hc) ht hin hdg (fun H1 locs1 hP hD hS1 => kk H1 locs1 ⟨by rw [gw_set O hq hc' hS] at hP; exact hP, hS1⟩)
theorem g_zast (C : gC p s m args meth c cc nL own ret D tys ord adr Am) (O : gO cell ord adr) (X : gX D cell ord adr S s H locs) {q k t0 n : Nat} {cA : ClassId} {f : Nat → Int32} (hq : ord[q]? = some k) (hc : cell S k = (adr k, .inl (cA, n, .inl f))) (ht : tys[t0]? = some (cA, .boolean)) {i x : Int32} {j : Nat} (hin : vp_in i n) (hj : i.toNatClampNeg = j) (hS : ∀ i, i ≠ k → S' i = S i) (hc' : cell S' k = (adr k, .inl (cA, n, .inl (upd f j (vp_nar .boolean x))))) (hdg : decode cc pc = .ok (.bastore, 1))
    (kk : ∀ (H1 : Heap) (locs1 : List Loc), gX D cell ord adr S' s H1 locs1 → W p l e R s m args below meth c H1 locs1 cs sl Q (F0 m (pc + 1) ls rest)) : W p l e R s m args below meth c H locs cs sl Q (F0 m pc ls (.int x :: .int i :: .ref (adr k) :: rest)) := by
  subst hj
  exact va_zast C.1.1 C.1.2.1 C.2.1 X.1 (gw_D O S _) X.2 q t0 (gw_get hq hc) ht hin hdg (fun H1 locs1 hP hD hS1 => kk H1 locs1 ⟨by rw [gw_set O hq hc' hS] at hP; exact hP, hS1⟩)
/-- a row out of a row of rows -/
theorem g_aald (C : gC p s m args meth c cc nL own ret D tys ord adr Am) (X : gX D cell ord adr S s H locs) {q k t0 n : Nat} {cA : ClassId} {f : Nat → Option Nat} {ty : FieldType} (hq : ord[q]? = some k) (hc : cell S k = (adr k, .inl (cA, n, .inr (.inr (.inr (.inr f)))))) (ht : tys[t0]? = some (cA, .array ty)) {i : Int32} {a : Nat} (hin : vp_in i n) (hj : f i.toNatClampNeg = some a) (hdg : decode cc pc = .ok (.aaload, 1))
    (kk : W p l e R s m args below meth c H locs cs sl Q (F0 m (pc + 1) ls (.ref a :: rest))) : W p l e R s m args below meth c H locs cs sl Q (F0 m pc ls (.int i :: .ref (adr k) :: rest)) := by
  have hlt : i.toNatClampNeg < n := Nat.not_le.mp fun q => hin (Or.inr q)
  exact W.aald (v := .ref a) (ty := .array ty) C.1.1 C.1.2.1 (X.1 q _ (gw_get hq hc)) ((C.2.1.2 t0 _ ht).1 n (fun j => va_rf (f j))) rfl (fun q => by cases q) (by show ¬ (i < 0 ∨ (arrV _ _ _).slots.size ≤ _); rw [arrV_size]; exact hin) (by show (arrV _ _ _).slots[_]? = _; rw [arrV_read _ _ hlt, hj]; rfl) rfl rfl hdg kk
/-- the words of a static method of a nest mate -/
def gWN (own host : String) (index : Nat) (y : MethodName) (cy : ByteArray) (mL : Nat) (rt : Option FieldType) (n : Nat) : Prop :=
  Cond.static y ∈ gT ∧ Cond.initialized y.cls ∈ gT ∧ Cond.code y cy mL rt ∈ gT ∧ (y.cls ≠ "java/lang/invoke/MethodHandle" ∧ y.cls ≠ "java/lang/invoke/VarHandle" ∧ (parseMethodDescriptor y.desc).map (fun d => d.parameters.length) = some n)
theorem g_callSNi (C : gC p s m args meth c cc nL own ret D tys ord adr Am) (X : gX D cell ord adr S s H locs) (w : gWN own host index y cy mL rt n) (hl : va_Nw (.methodLinkNest own index y host) s) {x : Int32}
    (hM : gM l y cy mL rt d D tys cell ord adr Am As S (some (.int x)) S') (hR : d + 1 ≤ R.frames) (hR2 : 8 + (mL + 11) + (40 * d + 13) ≤ R.locals) (hcs : cs ≤ R.cells) (hsl : sl ≤ R.slots) (hn : As.length = n) (hls : ls.size = nL) {st : List Value} (hst : st = As.reverse ++ rest) (hrest : (rest.map fun v => v.category).sum ≤ 8) (hdg : decode cc pc = .ok (.invokestatic index, 3))
    (kk : ∀ (H1 : Heap) (locs1 : List Loc), gX D cell ord adr S' s H1 locs1 → W p l e R s m args below meth c H1 locs1 cs sl Q (F0 m (pc + 3) ls (.int x :: rest))) : W p l e R s m args below meth c H locs cs sl Q (F0 m pc ls st) := by
  subst hst
  refine g_back (va_runSN (host := host) C.1 (hM H.size) ⟨va_cnB n C.1.2.2.2.2 (gT_in (fun w' h => ?_)) rfl rfl rfl hl (C.1.2.2.2.2 _ w.2.1) w.2.2.2 ⟨hR, hR2⟩, C.1.2.2.2.2 _ w.1, trivial⟩ (g_pre C X) rfl hn hls rfl (lv_room hrest) hdg ⟨hcs, hsl⟩) X kk
  rcases List.mem_cons.mp h with rfl | h
  · exact w.2.2.1
  · exact h
/-- a static method of another class -/
def gWO (own : String) (index : Nat) (y : MethodName) (cy : ByteArray) (mL : Nat) (rt : Option FieldType) (n : Nat) : Prop :=
  Cond.methodLink own index y ∈ gT ∧ Cond.static y ∈ gT ∧ Cond.initialized y.cls ∈ gT ∧ Cond.code y cy mL rt ∈ gT ∧ (y.cls ≠ "java/lang/invoke/MethodHandle" ∧ y.cls ≠ "java/lang/invoke/VarHandle" ∧ (parseMethodDescriptor y.desc).map (fun d => d.parameters.length) = some n)
theorem g_callOi (C : gC p s m args meth c cc nL own ret D tys ord adr Am) (X : gX D cell ord adr S s H locs) (w : gWO own index y cy mL rt n) {x : Int32}
    (hM : gM l y cy mL rt d D tys cell ord adr Am As S (some (.int x)) S') (hR : d + 1 ≤ R.frames) (hR2 : 8 + (mL + 11) + (40 * d + 13) ≤ R.locals) (hcs : cs ≤ R.cells) (hsl : sl ≤ R.slots) (hn : As.length = n) (hls : ls.size = nL) {st : List Value} (hst : st = As.reverse ++ rest) (hrest : (rest.map fun v => v.category).sum ≤ 8) (hdg : decode cc pc = .ok (.invokestatic index, 3))
    (kk : ∀ (H1 : Heap) (locs1 : List Loc), gX D cell ord adr S' s H1 locs1 → W p l e R s m args below meth c H1 locs1 cs sl Q (F0 m (pc + 3) ls (.int x :: rest))) : W p l e R s m args below meth c H locs cs sl Q (F0 m pc ls st) := by
  subst hst
  refine g_back (va_runS C.1 (hM H.size) ⟨callB_of n C.1.2.2.2.2 (gT_in (fun w' h => ?_)) rfl rfl rfl (C.1.2.2.2.2 _ w.2.2.1) (C.1.2.2.2.2 _ w.1) w.2.2.2.2 ⟨hR, hR2⟩, C.1.2.2.2.2 _ w.2.1⟩ (g_pre C X) rfl hn hls rfl (lv_room hrest) hdg ⟨hcs, hsl⟩) X kk
  rcases List.mem_cons.mp h with rfl | h
  · exact w.2.2.2.1
  · exact h
/-- an instance method, what comes back told -/
theorem g_callVi (C : gC p s m args meth c cc nL own ret D tys ord adr Am) (X : gX D cell ord adr S s H locs) (w : gWV own index y cy mL rt n) {b q0 ci : Nat} {fs : List Value} {qc : vw_C} (hc : vwCl[ci]? = some qc) (hqc : qc.1 = y.cls) (he : (gw cell ord S)[q0]? = some (b, .inr (ci, fs))) {x : Int32}
    (hM : gM l y cy mL rt d D tys cell ord adr Am (.ref b :: As) S (some (.int x)) S') (hR : d + 1 ≤ R.frames) (hR2 : 8 + (mL + 11) + (40 * d + 13) ≤ R.locals) (hcs : cs ≤ R.cells) (hsl : sl ≤ R.slots) (hn : As.length = n) (hls : ls.size = nL) {st : List Value} (hst : st = As.reverse ++ .ref b :: rest) (hrest : (rest.map fun v => v.category).sum ≤ 8) (hdg : decode cc pc = .ok (.invokevirtual index, 3))
    (kk : ∀ (H1 : Heap) (locs1 : List Loc), gX D cell ord adr S' s H1 locs1 → W p l e R s m args below meth c H1 locs1 cs sl Q (F0 m (pc + 3) ls (.int x :: rest))) : W p l e R s m args below meth c H locs cs sl Q (F0 m pc ls st) :=
  g_callV C X w hc hqc he hM hR hR2 hcs hsl hn hls hst hrest hdg kk
end GEN2
end

/-! part 10.class -/
section
/-! THE CLASS: its world, its rows (printed by wip/whole/mkclass.py) -/
noncomputable def xkl : List Nat := [11, 3, 8, 21, 9, 20, 20, 20, 22, 20, 20, 20, 20, 20, 4, 20, 20, 4, 20, 20, 1, 7, 20, 20, 20, 20, 0, 20, 5, 20, 20, 20, 20, 1, 7, 20, 20, 20, 20, 0, 20, 5, 20, 20, 20, 20, 7, 20, 20, 20, 20, 10, 6, 23, 20, 20, 20, 20, 20, 20, 20, 20, 2, 23, 20, 20, 20, 20, 20, 20, 20, 20, 9, 20, 20, 20, 22, 20, 20, 20, 20, 20, 4, 20, 20, 4, 20, 20]
noncomputable def xnl : List Nat := [0, 0, 0, 700, 0, 8, 8, 8, 8, 6, 6, 6, 6, 8, 0, 700, 31, 0, 700, 31, 0, 0, 6, 6, 6, 6, 0, 1040, 0, 8, 8, 8, 3, 0, 0, 6, 6, 6, 6, 0, 1040, 0, 8, 8, 8, 3, 0, 6, 6, 6, 6, 0, 0, 7, 256, 256, 256, 256, 256, 256, 256, 6, 0, 6, 21, 21, 21, 21, 21, 21, 21, 21, 0, 8, 8, 8, 8, 6, 6, 6, 6, 8, 0, 700, 31, 0, 700, 31]
noncomputable def xk (k : Nat) : Nat := xkl.getD k 99
noncomputable def xN (k : Nat) : Nat := xnl.getD k 0
noncomputable def xord : List Nat := List.range 88
noncomputable def xtw (S : gS) : Nat := if S 0 7 = 0 then 72 else 4
noncomputable def xdr (S : gS) : Nat := if S 1 1 = 0 then 4 else 72
noncomputable def xfl (g : Nat → Nat) (c j : Nat) (f : Nat → Int32) : List Value := match c with
  | 0 => [.ref (g (j + 1)), .int (f 1)]
  | 1 => [.ref (g (j + 1)), .ref (g (j + 6)), .ref (g (j + 8)), .ref (g (j + 12))]
  | 2 => [.ref (g (j + 1)), .ref (g (j + 8)), .ref (g (j + 9)), .int (f 3), .int (f 4), .int (f 5)]
  | 3 => [.ref (g (j + 1)), .ref (g (if f 1 = 0 then 4 else 72)), .int (f 2), .int (f 3)]
  | 4 => [.ref (g (j + 1)), .ref (g (j + 2)), .int (f 2), .int (f 3)]
  | 5 => [.ref (g (j + 1)), .ref (g (j + 2)), .ref (g (j + 3)), .int (f 3)]
  | 6 => [.ref (g (j + 1)), .ref (g (j + 9)), .int (f 2), .int (f 3)]
  | 7 => [.int (f 0), .int (f 1), .ref (g (j + 1)), .ref (g (j + 2)), .ref (g (j + 3)), .ref (g (j + 4))]
  | 8 => [.ref (g (j + 1)), .int (f 1), .int (f 2), .int (f 3), .int (f 4), .int (f 5), .int (f 6)]
  | 9 => [.int (f 0), .ref (g (j + 1)), .ref (g (j + 2)), .ref (g (j + 3)), .ref (g (j + 4)), .int (f 5), .ref (g (j + 5)), .ref (g (j + 6)), .ref (g (j + 7)), .ref (g (j + 8)), .int (f 10), .ref (g (j + 9)), .int (f 12), .ref (g (j + 10)), .ref (g (j + 13))]
  | 10 => [.int (f 0), .int (f 1), .int (f 2), .int (f 3), .int (f 4), .int (f 5), .int (f 6), .int (f 7)]
  | 11 => [.ref (g (j + 1)), .ref (g (j + 20)), .ref (g (j + 33)), .ref (g (j + 46)), .ref (g (j + 51)), .ref (g (j + 52)), .ref (g (j + 62)), .ref (g (if f 7 = 0 then 72 else 4)), .int (f 8), .int (f 9)]
  | _ => []
noncomputable def xE (g : Nat → Nat) (cI cB cZ cQ : ClassId) (f : Nat → Int32) (j : Nat) : va_E :=
  if xk j = 20 then .inl (cI, xN j, .inl f) else if xk j = 21 then .inl (cB, xN j, .inl f) else if xk j = 22 then .inl (cZ, xN j, .inl f) else if xk j = 23 then .inl (cQ, xN j, .inr (.inr (.inr (.inr (fun i => if i < xN j then some (g (j + 1 + i)) else none))))) else .inr (xk j, xfl g (xk j) j f)
noncomputable def xcell (g : Nat → Nat) (cI cB cZ cQ : ClassId) (S : gS) (j : Nat) : Nat × va_E := (g j, xE g cI cB cZ cQ (S j) j)
abbrev xtys (cI cB cZ cQ : ClassId) : List (ClassId × FieldType) := [(cI, .int), (cB, .byte), (cZ, .boolean), (cQ, .array .int)]
noncomputable def xNest : List Cond := [Cond.methodLinkNest RX11 11 yX3_init "GrottoHours", Cond.methodLinkNest RX3 11 yX8_init "GrottoHours", Cond.fieldLinkNest RX11 73 "GrottoHours$Tape" "length" "I" "GrottoHours", Cond.fieldLinkNest RX3 43 "GrottoHours$Tape" "kind" "I" "GrottoHours", Cond.fieldLinkNest RX3 53 "GrottoHours$Tape" "start" "I" "GrottoHours", Cond.fieldLinkNest RX3 66 "GrottoHours$Tape" "number" "I" "GrottoHours", Cond.methodLinkNest RX3 20 yX9_init "GrottoHours", Cond.fieldLinkNest RX3 217 "GrottoHours$Rule" "knowsGreed" "Z" "GrottoHours", Cond.fieldLinkNest RX6 32 "GrottoHours$Town" "grottoes" "I" "GrottoHours", Cond.fieldLinkNest RX11 108 "GrottoHours$Town" "grottoes" "I" "GrottoHours", Cond.fieldLinkNest RX3 113 "GrottoHours$Town" "grottoes" "I" "GrottoHours", Cond.fieldLinkNest RX11 165 "GrottoHours$Town" "drip" "[I" "GrottoHours", Cond.fieldLinkNest RX3 116 "GrottoHours$Town" "drip" "[I" "GrottoHours", Cond.fieldLinkNest RX10 114 "GrottoHours$Town" "drip" "[I" "GrottoHours", Cond.fieldLinkNest RX11 168 "GrottoHours$Town" "phase" "[I" "GrottoHours", Cond.fieldLinkNest RX3 124 "GrottoHours$Town" "phase" "[I" "GrottoHours", Cond.fieldLinkNest RX6 52 "GrottoHours$Town" "price" "[I" "GrottoHours", Cond.fieldLinkNest RX11 171 "GrottoHours$Town" "price" "[I" "GrottoHours", Cond.fieldLinkNest RX10 108 "GrottoHours$Town" "price" "[I" "GrottoHours", Cond.fieldLinkNest RX3 127 "GrottoHours$Town" "price" "[I" "GrottoHours", Cond.fieldLinkNest RX10 76 "GrottoHours$Town" "hollow" "[Z" "GrottoHours", Cond.fieldLinkNest RX11 174 "GrottoHours$Town" "hollow" "[Z" "GrottoHours", Cond.fieldLinkNest RX3 130 "GrottoHours$Town" "hollow" "[Z" "GrottoHours", Cond.fieldLinkNest RX6 27 "GrottoHours$Town" "guilds" "I" "GrottoHours", Cond.fieldLinkNest RX7 31 "GrottoHours$Town" "guilds" "I" "GrottoHours", Cond.fieldLinkNest RX2 34 "GrottoHours$Town" "guilds" "I" "GrottoHours", Cond.fieldLinkNest RX11 111 "GrottoHours$Town" "guilds" "I" "GrottoHours", Cond.fieldLinkNest RX3 133 "GrottoHours$Town" "guilds" "I" "GrottoHours", Cond.fieldLinkNest RX10 42 "GrottoHours$Town" "greed" "[I" "GrottoHours", Cond.fieldLinkNest RX2 76 "GrottoHours$Town" "greed" "[I" "GrottoHours", Cond.fieldLinkNest RX11 194 "GrottoHours$Town" "greed" "[I" "GrottoHours", Cond.fieldLinkNest RX3 136 "GrottoHours$Town" "greed" "[I" "GrottoHours", Cond.fieldLinkNest RX7 36 "GrottoHours$Town" "sin" "[I" "GrottoHours", Cond.fieldLinkNest RX3 139 "GrottoHours$Town" "sin" "[I" "GrottoHours", Cond.fieldLinkNest RX7 37 "GrottoHours$Town" "purse" "[I" "GrottoHours", Cond.fieldLinkNest RX3 142 "GrottoHours$Town" "purse" "[I" "GrottoHours", Cond.fieldLinkNest RX7 38 "GrottoHours$Town" "hired" "[I" "GrottoHours", Cond.fieldLinkNest RX3 145 "GrottoHours$Town" "hired" "[I" "GrottoHours", Cond.fieldLinkNest RX3 161 "GrottoHours$Town" "wets" "I" "GrottoHours", Cond.fieldLinkNest RX3 164 "GrottoHours$Town" "wet" "[I" "GrottoHours", Cond.fieldLinkNest RX3 169 "GrottoHours$Town" "bound" "I" "GrottoHours", Cond.fieldLinkNest RX3 102 "GrottoHours$Town" "prays" "LGrottoHours$Rule;" "GrottoHours", Cond.fieldLinkNest RX10 117 "GrottoHours$Town" "prays" "LGrottoHours$Rule;" "GrottoHours", Cond.fieldLinkNest RX11 304 "GrottoHours$Town" "prays" "LGrottoHours$Rule;" "GrottoHours", Cond.fieldLinkNest RX10 94 "GrottoHours$Town" "costs" "LGrottoHours$Rule;" "GrottoHours", Cond.fieldLinkNest RX3 111 "GrottoHours$Town" "costs" "LGrottoHours$Rule;" "GrottoHours", Cond.fieldLinkNest RX11 313 "GrottoHours$Town" "costs" "LGrottoHours$Rule;" "GrottoHours", Cond.fieldLinkNest RX11 69 "GrottoHours$Reader" "tape" "LGrottoHours$Tape;" "GrottoHours", Cond.fieldLinkNest RX11 96 "GrottoHours$Reader" "draft" "LGrottoHours$Town;" "GrottoHours", Cond.fieldLinkNest RX11 102 "GrottoHours$Reader" "faultPlace" "I" "GrottoHours", Cond.methodLinkNest RX11 18 yX1_init "GrottoHours", Cond.methodLinkNest RX1 11 yX7_init "GrottoHours", Cond.fieldLinkNest RX10 55 "GrottoHours$State" "hour" "I" "GrottoHours", Cond.fieldLinkNest RX11 114 "GrottoHours$State" "hour" "I" "GrottoHours", Cond.fieldLinkNest RX10 60 "GrottoHours$State" "drained" "I" "GrottoHours", Cond.fieldLinkNest RX11 128 "GrottoHours$State" "drained" "I" "GrottoHours", Cond.fieldLinkNest RX10 45 "GrottoHours$State" "sin" "[I" "GrottoHours", Cond.fieldLinkNest RX11 197 "GrottoHours$State" "sin" "[I" "GrottoHours", Cond.fieldLinkNest RX10 49 "GrottoHours$State" "purse" "[I" "GrottoHours", Cond.fieldLinkNest RX6 77 "GrottoHours$State" "purse" "[I" "GrottoHours", Cond.fieldLinkNest RX11 200 "GrottoHours$State" "purse" "[I" "GrottoHours", Cond.fieldLinkNest RX10 51 "GrottoHours$State" "silences" "[I" "GrottoHours", Cond.fieldLinkNest RX11 203 "GrottoHours$State" "silences" "[I" "GrottoHours", Cond.fieldLinkNest RX10 53 "GrottoHours$State" "hired" "[I" "GrottoHours", Cond.fieldLinkNest RX11 206 "GrottoHours$State" "hired" "[I" "GrottoHours", Cond.methodLinkNest RX1 20 yX0_init "GrottoHours", Cond.fieldLinkNest RX1 40 "GrottoHours$Acts" "many" "I" "GrottoHours", Cond.fieldLinkNest RX11 141 "GrottoHours$Acts" "many" "I" "GrottoHours", Cond.methodLinkNest RX1 27 yX5_init "GrottoHours", Cond.fieldLinkNest RX1 44 "GrottoHours$Seen" "many" "I" "GrottoHours", Cond.fieldLinkNest RX11 150 "GrottoHours$Seen" "many" "I" "GrottoHours", Cond.fieldLinkNest RX2 39 "GrottoHours$Book" "state" "LGrottoHours$State;" "GrottoHours", Cond.fieldLinkNest RX11 105 "GrottoHours$Book" "state" "LGrottoHours$State;" "GrottoHours", Cond.fieldLinkNest RX11 137 "GrottoHours$Book" "acts" "LGrottoHours$Acts;" "GrottoHours", Cond.fieldLinkNest RX2 55 "GrottoHours$Book" "seen" "LGrottoHours$Seen;" "GrottoHours", Cond.fieldLinkNest RX11 146 "GrottoHours$Book" "seen" "LGrottoHours$Seen;" "GrottoHours", Cond.fieldLinkNest RX11 153 "GrottoHours$Book" "refused" "[I" "GrottoHours", Cond.methodLinkNest RX11 28 yX7_init "GrottoHours", Cond.methodLinkNest RX11 35 yX10_init "GrottoHours", Cond.fieldLinkNest RX2 79 "GrottoHours$Walk" "greed" "I" "GrottoHours", Cond.fieldLinkNest RX2 91 "GrottoHours$Walk" "sin" "I" "GrottoHours", Cond.fieldLinkNest RX11 250 "GrottoHours$Walk" "sin" "I" "GrottoHours", Cond.fieldLinkNest RX11 252 "GrottoHours$Walk" "purse" "I" "GrottoHours", Cond.fieldLinkNest RX11 254 "GrottoHours$Walk" "silences" "I" "GrottoHours", Cond.fieldLinkNest RX11 256 "GrottoHours$Walk" "hired" "I" "GrottoHours", Cond.fieldLinkNest RX2 94 "GrottoHours$Walk" "hour" "I" "GrottoHours", Cond.fieldLinkNest RX11 261 "GrottoHours$Walk" "hour" "I" "GrottoHours", Cond.methodLinkNest RX11 42 yX6_init "GrottoHours", Cond.fieldLinkNest RX11 301 "GrottoHours$Sharing" "row" "[I" "GrottoHours", Cond.fieldLinkNest RX11 297 "GrottoHours$Sharing" "many" "I" "GrottoHours", Cond.fieldLinkNest RX11 298 "GrottoHours$Sharing" "much" "I" "GrottoHours", Cond.methodLinkNest RX11 49 yX2_init "GrottoHours", Cond.fieldLinkNest RX11 331 "GrottoHours$Guess" "many" "I" "GrottoHours", Cond.fieldLinkNest RX11 332 "GrottoHours$Guess" "earliest" "I" "GrottoHours", Cond.fieldLinkNest RX11 335 "GrottoHours$Guess" "isSoWithout" "Z" "GrottoHours", Cond.methodLinkNest RX11 56 yX9_init "GrottoHours", Cond.methodLinkNest RX9 76 yX11_isOneOf "GrottoHours", Cond.methodLinkNest RX3 69 yX11_isWithin "GrottoHours", Cond.methodLinkNest RX7 39 yX11_isOneOf "GrottoHours", Cond.methodLinkNest RX6 73 yX11_isOneOf "GrottoHours"]
def xO (g : Nat → Nat) (cI cB cZ cQ : ClassId) (Am : (Nat → Prop) → State → Heap → Prop) : Prop := gO (xcell g cI cB cZ cQ) xord g ∧ ∀ (A : Nat → Prop) (U : State) (H : Heap), Am A U H → ∀ w ∈ xNest, va_Nw w U
theorem x_lt {k c : Nat} (h : xk k = c) (hc : c ≠ 99) : k < 88 := by
  rcases Nat.lt_or_ge k 88 with q | q
  · exact q
  · exfalso
    apply hc
    rw [← h]
    show (xkl[k]?).getD 99 = 99
    rw [List.getElem?_eq_none (show xkl.length ≤ k from q)]
    rfl
theorem x_pos {k c : Nat} (h : xk k = c) (hc : c ≠ 99) : xord[k]? = some k := by
  unfold xord
  rw [List.getElem?_range (x_lt h hc)]
theorem x_all {P : Nat → Prop} {c k : Nat} (hP : ∀ k : Fin 88, xk k.val = c → P k.val) (hc : c ≠ 99) (h : xk k = c) : P k := hP ⟨k, x_lt h hc⟩ h
theorem xtw_k {S : gS} {T : Nat} (h : T = xtw S) : xk T = 9 := by
  subst h
  unfold xtw
  split <;> decide
theorem xdr_k {S : gS} {T : Nat} (h : T = xdr S) : xk T = 9 := by
  subst h
  unfold xdr
  split <;> decide
theorem x_cI (g : Nat → Nat) (cI cB cZ cQ : ClassId) (S : gS) {k : Nat} (h : xk k = 20) : xcell g cI cB cZ cQ S k = (g k, .inl (cI, xN k, .inl (S k))) := by
  unfold xcell xE
  rw [if_pos h]
theorem x_cB (g : Nat → Nat) (cI cB cZ cQ : ClassId) (S : gS) {k : Nat} (h : xk k = 21) : xcell g cI cB cZ cQ S k = (g k, .inl (cB, xN k, .inl (S k))) := by
  unfold xcell xE
  rw [h]
  rfl
theorem x_cZ (g : Nat → Nat) (cI cB cZ cQ : ClassId) (S : gS) {k : Nat} (h : xk k = 22) : xcell g cI cB cZ cQ S k = (g k, .inl (cZ, xN k, .inl (S k))) := by
  unfold xcell xE
  rw [h]
  rfl
theorem x_cQ (g : Nat → Nat) (cI cB cZ cQ : ClassId) (S : gS) {k : Nat} (h : xk k = 23) : xcell g cI cB cZ cQ S k = (g k, .inl (cQ, xN k, .inr (.inr (.inr (.inr (fun i => if i < xN k then some (g (k + 1 + i)) else none)))))) := by
  unfold xcell xE
  rw [h]
  rfl
theorem x_c0 (g : Nat → Nat) (cI cB cZ cQ : ClassId) (S : gS) {k : Nat} (h : xk k = 0) : xcell g cI cB cZ cQ S k = (g k, .inr (0, xfl g 0 k (S k))) := by
  unfold xcell xE
  rw [h]
  rfl
set_option maxRecDepth 100000 in
theorem x_in0 : ∀ w ∈ u_ws RX0 TX0 2, w ∈ gT := gT_places [363, 365] (by decide +kernel) (by decide +kernel)
theorem x_c1 (g : Nat → Nat) (cI cB cZ cQ : ClassId) (S : gS) {k : Nat} (h : xk k = 1) : xcell g cI cB cZ cQ S k = (g k, .inr (1, xfl g 1 k (S k))) := by
  unfold xcell xE
  rw [h]
  rfl
set_option maxRecDepth 100000 in
theorem x_in1 : ∀ w ∈ u_ws RX1 TX1 4, w ∈ gT := gT_places [399, 401, 403, 405] (by decide +kernel) (by decide +kernel)
theorem x_c2 (g : Nat → Nat) (cI cB cZ cQ : ClassId) (S : gS) {k : Nat} (h : xk k = 2) : xcell g cI cB cZ cQ S k = (g k, .inr (2, xfl g 2 k (S k))) := by
  unfold xcell xE
  rw [h]
  rfl
set_option maxRecDepth 100000 in
theorem x_in2 : ∀ w ∈ u_ws RX2 TX2 6, w ∈ gT := gT_places [489, 491, 493, 495, 497, 499] (by decide +kernel) (by decide +kernel)
theorem x_c3 (g : Nat → Nat) (cI cB cZ cQ : ClassId) (S : gS) {k : Nat} (h : xk k = 3) : xcell g cI cB cZ cQ S k = (g k, .inr (3, xfl g 3 k (S k))) := by
  unfold xcell xE
  rw [h]
  rfl
set_option maxRecDepth 100000 in
theorem x_in3 : ∀ w ∈ u_ws RX3 TX3 4, w ∈ gT := gT_places [300, 302, 304, 306] (by decide +kernel) (by decide +kernel)
theorem x_c4 (g : Nat → Nat) (cI cB cZ cQ : ClassId) (S : gS) {k : Nat} (h : xk k = 4) : xcell g cI cB cZ cQ S k = (g k, .inr (4, xfl g 4 k (S k))) := by
  unfold xcell xE
  rw [h]
  rfl
set_option maxRecDepth 100000 in
theorem x_in4 : ∀ w ∈ u_ws RX4 TX4 4, w ∈ gT := gT_places [197, 199, 201, 203] (by decide +kernel) (by decide +kernel)
theorem x_c5 (g : Nat → Nat) (cI cB cZ cQ : ClassId) (S : gS) {k : Nat} (h : xk k = 5) : xcell g cI cB cZ cQ S k = (g k, .inr (5, xfl g 5 k (S k))) := by
  unfold xcell xE
  rw [h]
  rfl
set_option maxRecDepth 100000 in
theorem x_in5 : ∀ w ∈ u_ws RX5 TX5 4, w ∈ gT := gT_places [380, 382, 384, 386] (by decide +kernel) (by decide +kernel)
theorem x_c6 (g : Nat → Nat) (cI cB cZ cQ : ClassId) (S : gS) {k : Nat} (h : xk k = 6) : xcell g cI cB cZ cQ S k = (g k, .inr (6, xfl g 6 k (S k))) := by
  unfold xcell xE
  rw [h]
  rfl
set_option maxRecDepth 100000 in
theorem x_in6 : ∀ w ∈ u_ws RX6 TX6 4, w ∈ gT := gT_places [464, 466, 468, 470] (by decide +kernel) (by decide +kernel)
theorem x_c7 (g : Nat → Nat) (cI cB cZ cQ : ClassId) (S : gS) {k : Nat} (h : xk k = 7) : xcell g cI cB cZ cQ S k = (g k, .inr (7, xfl g 7 k (S k))) := by
  unfold xcell xE
  rw [h]
  rfl
set_option maxRecDepth 100000 in
theorem x_in7 : ∀ w ∈ u_ws RX7 TX7 6, w ∈ gT := gT_places [340, 342, 344, 346, 348, 350] (by decide +kernel) (by decide +kernel)
theorem x_c8 (g : Nat → Nat) (cI cB cZ cQ : ClassId) (S : gS) {k : Nat} (h : xk k = 8) : xcell g cI cB cZ cQ S k = (g k, .inr (8, xfl g 8 k (S k))) := by
  unfold xcell xE
  rw [h]
  rfl
set_option maxRecDepth 100000 in
theorem x_in8 : ∀ w ∈ u_ws RX8 TX8 7, w ∈ gT := gT_places [164, 166, 168, 170, 172, 174, 176] (by decide +kernel) (by decide +kernel)
theorem x_c9 (g : Nat → Nat) (cI cB cZ cQ : ClassId) (S : gS) {k : Nat} (h : xk k = 9) : xcell g cI cB cZ cQ S k = (g k, .inr (9, xfl g 9 k (S k))) := by
  unfold xcell xE
  rw [h]
  rfl
set_option maxRecDepth 100000 in
theorem x_in9 : ∀ w ∈ u_ws RX9 TX9 15, w ∈ gT := gT_places [262, 264, 266, 268, 270, 272, 274, 276, 278, 280, 282, 284, 286, 288, 290] (by decide +kernel) (by decide +kernel)
theorem x_c10 (g : Nat → Nat) (cI cB cZ cQ : ClassId) (S : gS) {k : Nat} (h : xk k = 10) : xcell g cI cB cZ cQ S k = (g k, .inr (10, xfl g 10 k (S k))) := by
  unfold xcell xE
  rw [h]
  rfl
set_option maxRecDepth 100000 in
theorem x_in10 : ∀ w ∈ u_ws RX10 TX10 8, w ∈ gT := gT_places [432, 434, 436, 438, 440, 442, 444, 446] (by decide +kernel) (by decide +kernel)
theorem x_c11 (g : Nat → Nat) (cI cB cZ cQ : ClassId) (S : gS) {k : Nat} (h : xk k = 11) : xcell g cI cB cZ cQ S k = (g k, .inr (11, xfl g 11 k (S k))) := by
  unfold xcell xE
  rw [h]
  rfl
set_option maxRecDepth 100000 in
theorem x_in11 : ∀ w ∈ u_ws RX11 TX11 10, w ∈ gT := gT_places [514, 516, 518, 520, 522, 524, 526, 528, 530, 532] (by decide +kernel) (by decide +kernel)
theorem xs_0_0 {k : Nat} (h : xk k = 0) : xk (k + 1) = 20 ∧ xN (k + 1) = 1040 := x_all (P := fun k => xk (k + 1) = 20 ∧ xN (k + 1) = 1040) (by decide) (by decide) h
theorem xs_1_0 {k : Nat} (h : xk k = 1) : xk (k + 1) = 7 := x_all (P := fun k => xk (k + 1) = 7) (by decide) (by decide) h
theorem xs_1_1 {k : Nat} (h : xk k = 1) : xk (k + 6) = 0 := x_all (P := fun k => xk (k + 6) = 0) (by decide) (by decide) h
theorem xs_1_2 {k : Nat} (h : xk k = 1) : xk (k + 8) = 5 := x_all (P := fun k => xk (k + 8) = 5) (by decide) (by decide) h
theorem xs_1_3 {k : Nat} (h : xk k = 1) : xk (k + 12) = 20 ∧ xN (k + 12) = 3 := x_all (P := fun k => xk (k + 12) = 20 ∧ xN (k + 12) = 3) (by decide) (by decide) h
theorem xs_2_0 {k : Nat} (h : xk k = 2) : xk (k + 1) = 23 ∧ xN (k + 1) = 6 := x_all (P := fun k => xk (k + 1) = 23 ∧ xN (k + 1) = 6) (by decide) (by decide) h
theorem xs_2_1 {k : Nat} (h : xk k = 2) : xk (k + 8) = 20 ∧ xN (k + 8) = 21 := x_all (P := fun k => xk (k + 8) = 20 ∧ xN (k + 8) = 21) (by decide) (by decide) h
theorem xs_2_2 {k : Nat} (h : xk k = 2) : xk (k + 9) = 20 ∧ xN (k + 9) = 21 := x_all (P := fun k => xk (k + 9) = 20 ∧ xN (k + 9) = 21) (by decide) (by decide) h
theorem xs_3_0 {k : Nat} (h : xk k = 3) : xk (k + 1) = 8 := x_all (P := fun k => xk (k + 1) = 8) (by decide) (by decide) h
theorem xs_4_0 {k : Nat} (h : xk k = 4) : xk (k + 1) = 20 ∧ xN (k + 1) = 700 := x_all (P := fun k => xk (k + 1) = 20 ∧ xN (k + 1) = 700) (by decide) (by decide) h
theorem xs_4_1 {k : Nat} (h : xk k = 4) : xk (k + 2) = 20 ∧ xN (k + 2) = 31 := x_all (P := fun k => xk (k + 2) = 20 ∧ xN (k + 2) = 31) (by decide) (by decide) h
theorem xs_5_0 {k : Nat} (h : xk k = 5) : xk (k + 1) = 20 ∧ xN (k + 1) = 8 := x_all (P := fun k => xk (k + 1) = 20 ∧ xN (k + 1) = 8) (by decide) (by decide) h
theorem xs_5_1 {k : Nat} (h : xk k = 5) : xk (k + 2) = 20 ∧ xN (k + 2) = 8 := x_all (P := fun k => xk (k + 2) = 20 ∧ xN (k + 2) = 8) (by decide) (by decide) h
theorem xs_5_2 {k : Nat} (h : xk k = 5) : xk (k + 3) = 20 ∧ xN (k + 3) = 8 := x_all (P := fun k => xk (k + 3) = 20 ∧ xN (k + 3) = 8) (by decide) (by decide) h
theorem xs_6_0 {k : Nat} (h : xk k = 6) : xk (k + 1) = 23 ∧ xN (k + 1) = 7 := x_all (P := fun k => xk (k + 1) = 23 ∧ xN (k + 1) = 7) (by decide) (by decide) h
theorem xs_6_1 {k : Nat} (h : xk k = 6) : xk (k + 9) = 20 ∧ xN (k + 9) = 6 := x_all (P := fun k => xk (k + 9) = 20 ∧ xN (k + 9) = 6) (by decide) (by decide) h
theorem xs_7_2 {k : Nat} (h : xk k = 7) : xk (k + 1) = 20 ∧ xN (k + 1) = 6 := x_all (P := fun k => xk (k + 1) = 20 ∧ xN (k + 1) = 6) (by decide) (by decide) h
theorem xs_7_3 {k : Nat} (h : xk k = 7) : xk (k + 2) = 20 ∧ xN (k + 2) = 6 := x_all (P := fun k => xk (k + 2) = 20 ∧ xN (k + 2) = 6) (by decide) (by decide) h
theorem xs_7_4 {k : Nat} (h : xk k = 7) : xk (k + 3) = 20 ∧ xN (k + 3) = 6 := x_all (P := fun k => xk (k + 3) = 20 ∧ xN (k + 3) = 6) (by decide) (by decide) h
theorem xs_7_5 {k : Nat} (h : xk k = 7) : xk (k + 4) = 20 ∧ xN (k + 4) = 6 := x_all (P := fun k => xk (k + 4) = 20 ∧ xN (k + 4) = 6) (by decide) (by decide) h
theorem xs_8_0 {k : Nat} (h : xk k = 8) : xk (k + 1) = 21 ∧ xN (k + 1) = 700 := x_all (P := fun k => xk (k + 1) = 21 ∧ xN (k + 1) = 700) (by decide) (by decide) h
theorem xs_9_1 {k : Nat} (h : xk k = 9) : xk (k + 1) = 20 ∧ xN (k + 1) = 8 := x_all (P := fun k => xk (k + 1) = 20 ∧ xN (k + 1) = 8) (by decide) (by decide) h
theorem xs_9_2 {k : Nat} (h : xk k = 9) : xk (k + 2) = 20 ∧ xN (k + 2) = 8 := x_all (P := fun k => xk (k + 2) = 20 ∧ xN (k + 2) = 8) (by decide) (by decide) h
theorem xs_9_3 {k : Nat} (h : xk k = 9) : xk (k + 3) = 20 ∧ xN (k + 3) = 8 := x_all (P := fun k => xk (k + 3) = 20 ∧ xN (k + 3) = 8) (by decide) (by decide) h
theorem xs_9_4 {k : Nat} (h : xk k = 9) : xk (k + 4) = 22 ∧ xN (k + 4) = 8 := x_all (P := fun k => xk (k + 4) = 22 ∧ xN (k + 4) = 8) (by decide) (by decide) h
theorem xs_9_6 {k : Nat} (h : xk k = 9) : xk (k + 5) = 20 ∧ xN (k + 5) = 6 := x_all (P := fun k => xk (k + 5) = 20 ∧ xN (k + 5) = 6) (by decide) (by decide) h
theorem xs_9_7 {k : Nat} (h : xk k = 9) : xk (k + 6) = 20 ∧ xN (k + 6) = 6 := x_all (P := fun k => xk (k + 6) = 20 ∧ xN (k + 6) = 6) (by decide) (by decide) h
theorem xs_9_8 {k : Nat} (h : xk k = 9) : xk (k + 7) = 20 ∧ xN (k + 7) = 6 := x_all (P := fun k => xk (k + 7) = 20 ∧ xN (k + 7) = 6) (by decide) (by decide) h
theorem xs_9_9 {k : Nat} (h : xk k = 9) : xk (k + 8) = 20 ∧ xN (k + 8) = 6 := x_all (P := fun k => xk (k + 8) = 20 ∧ xN (k + 8) = 6) (by decide) (by decide) h
theorem xs_9_11 {k : Nat} (h : xk k = 9) : xk (k + 9) = 20 ∧ xN (k + 9) = 8 := x_all (P := fun k => xk (k + 9) = 20 ∧ xN (k + 9) = 8) (by decide) (by decide) h
theorem xs_9_13 {k : Nat} (h : xk k = 9) : xk (k + 10) = 4 := x_all (P := fun k => xk (k + 10) = 4) (by decide) (by decide) h
theorem xs_9_14 {k : Nat} (h : xk k = 9) : xk (k + 13) = 4 := x_all (P := fun k => xk (k + 13) = 4) (by decide) (by decide) h
theorem xs_11_0 {k : Nat} (h : xk k = 11) : xk (k + 1) = 3 := x_all (P := fun k => xk (k + 1) = 3) (by decide) (by decide) h
theorem xs_11_1 {k : Nat} (h : xk k = 11) : xk (k + 20) = 1 := x_all (P := fun k => xk (k + 20) = 1) (by decide) (by decide) h
theorem xs_11_2 {k : Nat} (h : xk k = 11) : xk (k + 33) = 1 := x_all (P := fun k => xk (k + 33) = 1) (by decide) (by decide) h
theorem xs_11_3 {k : Nat} (h : xk k = 11) : xk (k + 46) = 7 := x_all (P := fun k => xk (k + 46) = 7) (by decide) (by decide) h
theorem xs_11_4 {k : Nat} (h : xk k = 11) : xk (k + 51) = 10 := x_all (P := fun k => xk (k + 51) = 10) (by decide) (by decide) h
theorem xs_11_5 {k : Nat} (h : xk k = 11) : xk (k + 52) = 6 := x_all (P := fun k => xk (k + 52) = 6) (by decide) (by decide) h
theorem xs_11_6 {k : Nat} (h : xk k = 11) : xk (k + 62) = 2 := x_all (P := fun k => xk (k + 62) = 2) (by decide) (by decide) h
theorem xs_rows {k i : Nat} (h : xk k = 23) (hi : i < xN k) : xk (k + 1 + i) = 20 := by
  have := x_all (P := fun k => ∀ i : Fin 7, i.val < xN k → xk (k + 1 + i.val) = 20) (by decide) (by decide) h
  have h7 : xN k ≤ 7 := x_all (P := fun k => xN k ≤ 7) (by decide) (by decide) h
  exact this ⟨i, by omega⟩ hi
theorem xq_53 {i : Int32} {T : Nat} (h : vp_in i 7) (e : T = 53 + 1 + Int32.toNatClampNeg i) : xk T = 20 ∧ xN T = 256 := by
  have hlt : i.toNatClampNeg < 7 := Nat.not_le.mp fun z => h (Or.inr z)
  subst e
  exact (show ∀ j : Fin 7, xk (53 + 1 + j.val) = 20 ∧ xN (53 + 1 + j.val) = 256 by decide) ⟨_, hlt⟩
theorem xq_63 {i : Int32} {T : Nat} (h : vp_in i 6) (e : T = 63 + 1 + Int32.toNatClampNeg i) : xk T = 20 ∧ xN T = 21 := by
  have hlt : i.toNatClampNeg < 6 := Nat.not_le.mp fun z => h (Or.inr z)
  subst e
  exact (show ∀ j : Fin 6, xk (63 + 1 + j.val) = 20 ∧ xN (63 + 1 + j.val) = 21 by decide) ⟨_, hlt⟩
section XROWS
variable {p : Program} {l : Launch} {e : Env} {R : Room} {s : State} {m : MethodId} {args : Array Value} {below : List Frame} {meth : Method} {c : Code} {H : Heap} {locs : List Loc} {cs sl : Nat} {Q : State → Prop} {Am : (Nat → Prop) → State → Heap → Prop} {cc : ByteArray} {nL pc : Nat} {ret : Option FieldType} {own : String} {D : va_G} {g : Nat → Nat} {cI cB cZ cQ : ClassId} {S S' : gS} {ls : Array Slot} {rest : List Value} {k : Nat}
theorem xl_X8_9 : Cond.fieldLink RX8 9 "GrottoHours$Tape" "bytes" "[B" ∈ gT := gT_c1 47 rfl rfl
theorem xg_X8_9 (C : gC p s m args meth c cc nL RX8 ret D (xtys cI cB cZ cQ) xord g Am) (O : xO g cI cB cZ cQ Am) (X : gX D (xcell g cI cB cZ cQ) xord g S s H locs) (hk : xk k = 8) {j : Nat} (hj : k + 1 = j) (hdg : decode cc pc = .ok (.getfield 9, 3)) (kk : W p l e R s m args below meth c H locs cs sl Q (F0 m (pc + 3) ls (.ref (g j) :: rest))) : W p l e R s m args below meth c H locs cs sl Q (F0 m pc ls (.ref (g k) :: rest)) := by
  subst hj
  exact g_get C X (q := k) (k := k) (x_pos hk (by decide)) (x_c8 g cI cB cZ cQ S hk) (ci := 8) rfl x_in8 0 (by decide) xl_X8_9 rfl hdg kk
theorem xl_X8_15 : Cond.fieldLink RX8 15 "GrottoHours$Tape" "length" "I" ∈ gT := gT_c1 48 rfl rfl
theorem xg_X8_15 (C : gC p s m args meth c cc nL RX8 ret D (xtys cI cB cZ cQ) xord g Am) (O : xO g cI cB cZ cQ Am) (X : gX D (xcell g cI cB cZ cQ) xord g S s H locs) (hk : xk k = 8) (hdg : decode cc pc = .ok (.getfield 15, 3)) (kk : W p l e R s m args below meth c H locs cs sl Q (F0 m (pc + 3) ls (.int (S k 1) :: rest))) : W p l e R s m args below meth c H locs cs sl Q (F0 m pc ls (.ref (g k) :: rest)) :=
  g_get C X (q := k) (k := k) (x_pos hk (by decide)) (x_c8 g cI cB cZ cQ S hk) (ci := 8) rfl x_in8 1 (by decide) xl_X8_15 rfl hdg kk
theorem xp_X8_15 (C : gC p s m args meth c cc nL RX8 ret D (xtys cI cB cZ cQ) xord g Am) (O : xO g cI cB cZ cQ Am) (X : gX D (xcell g cI cB cZ cQ) xord g S s H locs) (hk : xk k = 8) {x : Int32} (hS : S' = sU S k 1 x) (hdg : decode cc pc = .ok (.putfield 15, 3)) (kk : ∀ (H1 : Heap) (locs1 : List Loc), gX D (xcell g cI cB cZ cQ) xord g S' s H1 locs1 → W p l e R s m args below meth c H1 locs1 cs sl Q (F0 m (pc + 3) ls rest)) : W p l e R s m args below meth c H locs cs sl Q (F0 m pc ls (.int x :: .ref (g k) :: rest)) := by
  subst hS
  exact g_put C O.1 X (q := k) (k := k) (x_pos hk (by decide)) (x_c8 g cI cB cZ cQ S hk) (ci := 8) rfl x_in8 tyX8 tyX8_ok nmX8 1 (by decide) xl_X8_15 rfl rfl rfl (Nat.le_of_ble_eq_true rfl) (fun i h => sU_ne h) (by rw [x_c8 g cI cB cZ cQ _ hk, sU_eq]; rfl) hdg kk
theorem xl_X11_73 : Cond.fieldLinkNest RX11 73 "GrottoHours$Tape" "length" "I" "GrottoHours" ∈ xNest := List.mem_of_getElem? (i := 2) rfl
theorem xg_X11_73 (C : gC p s m args meth c cc nL RX11 ret D (xtys cI cB cZ cQ) xord g Am) (O : xO g cI cB cZ cQ Am) (X : gX D (xcell g cI cB cZ cQ) xord g S s H locs) (hk : xk k = 8) (hdg : decode cc pc = .ok (.getfield 73, 3)) (kk : W p l e R s m args below meth c H locs cs sl Q (F0 m (pc + 3) ls (.int (S k 1) :: rest))) : W p l e R s m args below meth c H locs cs sl Q (F0 m pc ls (.ref (g k) :: rest)) :=
  g_getN C X (q := k) (k := k) (x_pos hk (by decide)) (x_c8 g cI cB cZ cQ S hk) (ci := 8) rfl x_in8 1 (by decide) (O.2 _ _ _ C.2.2.2.2.2 _ xl_X11_73) rfl hdg kk
theorem xp_X11_73 (C : gC p s m args meth c cc nL RX11 ret D (xtys cI cB cZ cQ) xord g Am) (O : xO g cI cB cZ cQ Am) (X : gX D (xcell g cI cB cZ cQ) xord g S s H locs) (hk : xk k = 8) {x : Int32} (hS : S' = sU S k 1 x) (hdg : decode cc pc = .ok (.putfield 73, 3)) (kk : ∀ (H1 : Heap) (locs1 : List Loc), gX D (xcell g cI cB cZ cQ) xord g S' s H1 locs1 → W p l e R s m args below meth c H1 locs1 cs sl Q (F0 m (pc + 3) ls rest)) : W p l e R s m args below meth c H locs cs sl Q (F0 m pc ls (.int x :: .ref (g k) :: rest)) := by
  subst hS
  exact g_putN C O.1 X (q := k) (k := k) (x_pos hk (by decide)) (x_c8 g cI cB cZ cQ S hk) (ci := 8) rfl x_in8 tyX8 tyX8_ok nmX8 1 (by decide) (O.2 _ _ _ C.2.2.2.2.2 _ xl_X11_73) rfl rfl rfl (Nat.le_of_ble_eq_true rfl) (fun i h => sU_ne h) (by rw [x_c8 g cI cB cZ cQ _ hk, sU_eq]; rfl) hdg kk
theorem xl_X8_19 : Cond.fieldLink RX8 19 "GrottoHours$Tape" "end" "I" ∈ gT := gT_c1 50 rfl rfl
theorem xg_X8_19 (C : gC p s m args meth c cc nL RX8 ret D (xtys cI cB cZ cQ) xord g Am) (O : xO g cI cB cZ cQ Am) (X : gX D (xcell g cI cB cZ cQ) xord g S s H locs) (hk : xk k = 8) (hdg : decode cc pc = .ok (.getfield 19, 3)) (kk : W p l e R s m args below meth c H locs cs sl Q (F0 m (pc + 3) ls (.int (S k 2) :: rest))) : W p l e R s m args below meth c H locs cs sl Q (F0 m pc ls (.ref (g k) :: rest)) :=
  g_get C X (q := k) (k := k) (x_pos hk (by decide)) (x_c8 g cI cB cZ cQ S hk) (ci := 8) rfl x_in8 2 (by decide) xl_X8_19 rfl hdg kk
theorem xp_X8_19 (C : gC p s m args meth c cc nL RX8 ret D (xtys cI cB cZ cQ) xord g Am) (O : xO g cI cB cZ cQ Am) (X : gX D (xcell g cI cB cZ cQ) xord g S s H locs) (hk : xk k = 8) {x : Int32} (hS : S' = sU S k 2 x) (hdg : decode cc pc = .ok (.putfield 19, 3)) (kk : ∀ (H1 : Heap) (locs1 : List Loc), gX D (xcell g cI cB cZ cQ) xord g S' s H1 locs1 → W p l e R s m args below meth c H1 locs1 cs sl Q (F0 m (pc + 3) ls rest)) : W p l e R s m args below meth c H locs cs sl Q (F0 m pc ls (.int x :: .ref (g k) :: rest)) := by
  subst hS
  exact g_put C O.1 X (q := k) (k := k) (x_pos hk (by decide)) (x_c8 g cI cB cZ cQ S hk) (ci := 8) rfl x_in8 tyX8 tyX8_ok nmX8 2 (by decide) xl_X8_19 rfl rfl rfl (Nat.le_of_ble_eq_true rfl) (fun i h => sU_ne h) (by rw [x_c8 g cI cB cZ cQ _ hk, sU_eq]; rfl) hdg kk
theorem xl_X8_22 : Cond.fieldLink RX8 22 "GrottoHours$Tape" "place" "I" ∈ gT := gT_c1 51 rfl rfl
theorem xg_X8_22 (C : gC p s m args meth c cc nL RX8 ret D (xtys cI cB cZ cQ) xord g Am) (O : xO g cI cB cZ cQ Am) (X : gX D (xcell g cI cB cZ cQ) xord g S s H locs) (hk : xk k = 8) (hdg : decode cc pc = .ok (.getfield 22, 3)) (kk : W p l e R s m args below meth c H locs cs sl Q (F0 m (pc + 3) ls (.int (S k 3) :: rest))) : W p l e R s m args below meth c H locs cs sl Q (F0 m pc ls (.ref (g k) :: rest)) :=
  g_get C X (q := k) (k := k) (x_pos hk (by decide)) (x_c8 g cI cB cZ cQ S hk) (ci := 8) rfl x_in8 3 (by decide) xl_X8_22 rfl hdg kk
theorem xp_X8_22 (C : gC p s m args meth c cc nL RX8 ret D (xtys cI cB cZ cQ) xord g Am) (O : xO g cI cB cZ cQ Am) (X : gX D (xcell g cI cB cZ cQ) xord g S s H locs) (hk : xk k = 8) {x : Int32} (hS : S' = sU S k 3 x) (hdg : decode cc pc = .ok (.putfield 22, 3)) (kk : ∀ (H1 : Heap) (locs1 : List Loc), gX D (xcell g cI cB cZ cQ) xord g S' s H1 locs1 → W p l e R s m args below meth c H1 locs1 cs sl Q (F0 m (pc + 3) ls rest)) : W p l e R s m args below meth c H locs cs sl Q (F0 m pc ls (.int x :: .ref (g k) :: rest)) := by
  subst hS
  exact g_put C O.1 X (q := k) (k := k) (x_pos hk (by decide)) (x_c8 g cI cB cZ cQ S hk) (ci := 8) rfl x_in8 tyX8 tyX8_ok nmX8 3 (by decide) xl_X8_22 rfl rfl rfl (Nat.le_of_ble_eq_true rfl) (fun i h => sU_ne h) (by rw [x_c8 g cI cB cZ cQ _ hk, sU_eq]; rfl) hdg kk
theorem xl_X8_25 : Cond.fieldLink RX8 25 "GrottoHours$Tape" "kind" "I" ∈ gT := gT_c1 52 rfl rfl
theorem xg_X8_25 (C : gC p s m args meth c cc nL RX8 ret D (xtys cI cB cZ cQ) xord g Am) (O : xO g cI cB cZ cQ Am) (X : gX D (xcell g cI cB cZ cQ) xord g S s H locs) (hk : xk k = 8) (hdg : decode cc pc = .ok (.getfield 25, 3)) (kk : W p l e R s m args below meth c H locs cs sl Q (F0 m (pc + 3) ls (.int (S k 4) :: rest))) : W p l e R s m args below meth c H locs cs sl Q (F0 m pc ls (.ref (g k) :: rest)) :=
  g_get C X (q := k) (k := k) (x_pos hk (by decide)) (x_c8 g cI cB cZ cQ S hk) (ci := 8) rfl x_in8 4 (by decide) xl_X8_25 rfl hdg kk
theorem xp_X8_25 (C : gC p s m args meth c cc nL RX8 ret D (xtys cI cB cZ cQ) xord g Am) (O : xO g cI cB cZ cQ Am) (X : gX D (xcell g cI cB cZ cQ) xord g S s H locs) (hk : xk k = 8) {x : Int32} (hS : S' = sU S k 4 x) (hdg : decode cc pc = .ok (.putfield 25, 3)) (kk : ∀ (H1 : Heap) (locs1 : List Loc), gX D (xcell g cI cB cZ cQ) xord g S' s H1 locs1 → W p l e R s m args below meth c H1 locs1 cs sl Q (F0 m (pc + 3) ls rest)) : W p l e R s m args below meth c H locs cs sl Q (F0 m pc ls (.int x :: .ref (g k) :: rest)) := by
  subst hS
  exact g_put C O.1 X (q := k) (k := k) (x_pos hk (by decide)) (x_c8 g cI cB cZ cQ S hk) (ci := 8) rfl x_in8 tyX8 tyX8_ok nmX8 4 (by decide) xl_X8_25 rfl rfl rfl (Nat.le_of_ble_eq_true rfl) (fun i h => sU_ne h) (by rw [x_c8 g cI cB cZ cQ _ hk, sU_eq]; rfl) hdg kk
theorem xl_X3_43 : Cond.fieldLinkNest RX3 43 "GrottoHours$Tape" "kind" "I" "GrottoHours" ∈ xNest := List.mem_of_getElem? (i := 3) rfl
theorem xg_X3_43 (C : gC p s m args meth c cc nL RX3 ret D (xtys cI cB cZ cQ) xord g Am) (O : xO g cI cB cZ cQ Am) (X : gX D (xcell g cI cB cZ cQ) xord g S s H locs) (hk : xk k = 8) (hdg : decode cc pc = .ok (.getfield 43, 3)) (kk : W p l e R s m args below meth c H locs cs sl Q (F0 m (pc + 3) ls (.int (S k 4) :: rest))) : W p l e R s m args below meth c H locs cs sl Q (F0 m pc ls (.ref (g k) :: rest)) :=
  g_getN C X (q := k) (k := k) (x_pos hk (by decide)) (x_c8 g cI cB cZ cQ S hk) (ci := 8) rfl x_in8 4 (by decide) (O.2 _ _ _ C.2.2.2.2.2 _ xl_X3_43) rfl hdg kk
theorem xp_X3_43 (C : gC p s m args meth c cc nL RX3 ret D (xtys cI cB cZ cQ) xord g Am) (O : xO g cI cB cZ cQ Am) (X : gX D (xcell g cI cB cZ cQ) xord g S s H locs) (hk : xk k = 8) {x : Int32} (hS : S' = sU S k 4 x) (hdg : decode cc pc = .ok (.putfield 43, 3)) (kk : ∀ (H1 : Heap) (locs1 : List Loc), gX D (xcell g cI cB cZ cQ) xord g S' s H1 locs1 → W p l e R s m args below meth c H1 locs1 cs sl Q (F0 m (pc + 3) ls rest)) : W p l e R s m args below meth c H locs cs sl Q (F0 m pc ls (.int x :: .ref (g k) :: rest)) := by
  subst hS
  exact g_putN C O.1 X (q := k) (k := k) (x_pos hk (by decide)) (x_c8 g cI cB cZ cQ S hk) (ci := 8) rfl x_in8 tyX8 tyX8_ok nmX8 4 (by decide) (O.2 _ _ _ C.2.2.2.2.2 _ xl_X3_43) rfl rfl rfl (Nat.le_of_ble_eq_true rfl) (fun i h => sU_ne h) (by rw [x_c8 g cI cB cZ cQ _ hk, sU_eq]; rfl) hdg kk
theorem xl_X8_28 : Cond.fieldLink RX8 28 "GrottoHours$Tape" "start" "I" ∈ gT := gT_c1 54 rfl rfl
theorem xg_X8_28 (C : gC p s m args meth c cc nL RX8 ret D (xtys cI cB cZ cQ) xord g Am) (O : xO g cI cB cZ cQ Am) (X : gX D (xcell g cI cB cZ cQ) xord g S s H locs) (hk : xk k = 8) (hdg : decode cc pc = .ok (.getfield 28, 3)) (kk : W p l e R s m args below meth c H locs cs sl Q (F0 m (pc + 3) ls (.int (S k 5) :: rest))) : W p l e R s m args below meth c H locs cs sl Q (F0 m pc ls (.ref (g k) :: rest)) :=
  g_get C X (q := k) (k := k) (x_pos hk (by decide)) (x_c8 g cI cB cZ cQ S hk) (ci := 8) rfl x_in8 5 (by decide) xl_X8_28 rfl hdg kk
theorem xp_X8_28 (C : gC p s m args meth c cc nL RX8 ret D (xtys cI cB cZ cQ) xord g Am) (O : xO g cI cB cZ cQ Am) (X : gX D (xcell g cI cB cZ cQ) xord g S s H locs) (hk : xk k = 8) {x : Int32} (hS : S' = sU S k 5 x) (hdg : decode cc pc = .ok (.putfield 28, 3)) (kk : ∀ (H1 : Heap) (locs1 : List Loc), gX D (xcell g cI cB cZ cQ) xord g S' s H1 locs1 → W p l e R s m args below meth c H1 locs1 cs sl Q (F0 m (pc + 3) ls rest)) : W p l e R s m args below meth c H locs cs sl Q (F0 m pc ls (.int x :: .ref (g k) :: rest)) := by
  subst hS
  exact g_put C O.1 X (q := k) (k := k) (x_pos hk (by decide)) (x_c8 g cI cB cZ cQ S hk) (ci := 8) rfl x_in8 tyX8 tyX8_ok nmX8 5 (by decide) xl_X8_28 rfl rfl rfl (Nat.le_of_ble_eq_true rfl) (fun i h => sU_ne h) (by rw [x_c8 g cI cB cZ cQ _ hk, sU_eq]; rfl) hdg kk
theorem xl_X3_53 : Cond.fieldLinkNest RX3 53 "GrottoHours$Tape" "start" "I" "GrottoHours" ∈ xNest := List.mem_of_getElem? (i := 4) rfl
theorem xg_X3_53 (C : gC p s m args meth c cc nL RX3 ret D (xtys cI cB cZ cQ) xord g Am) (O : xO g cI cB cZ cQ Am) (X : gX D (xcell g cI cB cZ cQ) xord g S s H locs) (hk : xk k = 8) (hdg : decode cc pc = .ok (.getfield 53, 3)) (kk : W p l e R s m args below meth c H locs cs sl Q (F0 m (pc + 3) ls (.int (S k 5) :: rest))) : W p l e R s m args below meth c H locs cs sl Q (F0 m pc ls (.ref (g k) :: rest)) :=
  g_getN C X (q := k) (k := k) (x_pos hk (by decide)) (x_c8 g cI cB cZ cQ S hk) (ci := 8) rfl x_in8 5 (by decide) (O.2 _ _ _ C.2.2.2.2.2 _ xl_X3_53) rfl hdg kk
theorem xp_X3_53 (C : gC p s m args meth c cc nL RX3 ret D (xtys cI cB cZ cQ) xord g Am) (O : xO g cI cB cZ cQ Am) (X : gX D (xcell g cI cB cZ cQ) xord g S s H locs) (hk : xk k = 8) {x : Int32} (hS : S' = sU S k 5 x) (hdg : decode cc pc = .ok (.putfield 53, 3)) (kk : ∀ (H1 : Heap) (locs1 : List Loc), gX D (xcell g cI cB cZ cQ) xord g S' s H1 locs1 → W p l e R s m args below meth c H1 locs1 cs sl Q (F0 m (pc + 3) ls rest)) : W p l e R s m args below meth c H locs cs sl Q (F0 m pc ls (.int x :: .ref (g k) :: rest)) := by
  subst hS
  exact g_putN C O.1 X (q := k) (k := k) (x_pos hk (by decide)) (x_c8 g cI cB cZ cQ S hk) (ci := 8) rfl x_in8 tyX8 tyX8_ok nmX8 5 (by decide) (O.2 _ _ _ C.2.2.2.2.2 _ xl_X3_53) rfl rfl rfl (Nat.le_of_ble_eq_true rfl) (fun i h => sU_ne h) (by rw [x_c8 g cI cB cZ cQ _ hk, sU_eq]; rfl) hdg kk
theorem xl_X8_31 : Cond.fieldLink RX8 31 "GrottoHours$Tape" "number" "I" ∈ gT := gT_c1 56 rfl rfl
theorem xg_X8_31 (C : gC p s m args meth c cc nL RX8 ret D (xtys cI cB cZ cQ) xord g Am) (O : xO g cI cB cZ cQ Am) (X : gX D (xcell g cI cB cZ cQ) xord g S s H locs) (hk : xk k = 8) (hdg : decode cc pc = .ok (.getfield 31, 3)) (kk : W p l e R s m args below meth c H locs cs sl Q (F0 m (pc + 3) ls (.int (S k 6) :: rest))) : W p l e R s m args below meth c H locs cs sl Q (F0 m pc ls (.ref (g k) :: rest)) :=
  g_get C X (q := k) (k := k) (x_pos hk (by decide)) (x_c8 g cI cB cZ cQ S hk) (ci := 8) rfl x_in8 6 (by decide) xl_X8_31 rfl hdg kk
theorem xp_X8_31 (C : gC p s m args meth c cc nL RX8 ret D (xtys cI cB cZ cQ) xord g Am) (O : xO g cI cB cZ cQ Am) (X : gX D (xcell g cI cB cZ cQ) xord g S s H locs) (hk : xk k = 8) {x : Int32} (hS : S' = sU S k 6 x) (hdg : decode cc pc = .ok (.putfield 31, 3)) (kk : ∀ (H1 : Heap) (locs1 : List Loc), gX D (xcell g cI cB cZ cQ) xord g S' s H1 locs1 → W p l e R s m args below meth c H1 locs1 cs sl Q (F0 m (pc + 3) ls rest)) : W p l e R s m args below meth c H locs cs sl Q (F0 m pc ls (.int x :: .ref (g k) :: rest)) := by
  subst hS
  exact g_put C O.1 X (q := k) (k := k) (x_pos hk (by decide)) (x_c8 g cI cB cZ cQ S hk) (ci := 8) rfl x_in8 tyX8 tyX8_ok nmX8 6 (by decide) xl_X8_31 rfl rfl rfl (Nat.le_of_ble_eq_true rfl) (fun i h => sU_ne h) (by rw [x_c8 g cI cB cZ cQ _ hk, sU_eq]; rfl) hdg kk
theorem xl_X3_66 : Cond.fieldLinkNest RX3 66 "GrottoHours$Tape" "number" "I" "GrottoHours" ∈ xNest := List.mem_of_getElem? (i := 5) rfl
theorem xg_X3_66 (C : gC p s m args meth c cc nL RX3 ret D (xtys cI cB cZ cQ) xord g Am) (O : xO g cI cB cZ cQ Am) (X : gX D (xcell g cI cB cZ cQ) xord g S s H locs) (hk : xk k = 8) (hdg : decode cc pc = .ok (.getfield 66, 3)) (kk : W p l e R s m args below meth c H locs cs sl Q (F0 m (pc + 3) ls (.int (S k 6) :: rest))) : W p l e R s m args below meth c H locs cs sl Q (F0 m pc ls (.ref (g k) :: rest)) :=
  g_getN C X (q := k) (k := k) (x_pos hk (by decide)) (x_c8 g cI cB cZ cQ S hk) (ci := 8) rfl x_in8 6 (by decide) (O.2 _ _ _ C.2.2.2.2.2 _ xl_X3_66) rfl hdg kk
theorem xp_X3_66 (C : gC p s m args meth c cc nL RX3 ret D (xtys cI cB cZ cQ) xord g Am) (O : xO g cI cB cZ cQ Am) (X : gX D (xcell g cI cB cZ cQ) xord g S s H locs) (hk : xk k = 8) {x : Int32} (hS : S' = sU S k 6 x) (hdg : decode cc pc = .ok (.putfield 66, 3)) (kk : ∀ (H1 : Heap) (locs1 : List Loc), gX D (xcell g cI cB cZ cQ) xord g S' s H1 locs1 → W p l e R s m args below meth c H1 locs1 cs sl Q (F0 m (pc + 3) ls rest)) : W p l e R s m args below meth c H locs cs sl Q (F0 m pc ls (.int x :: .ref (g k) :: rest)) := by
  subst hS
  exact g_putN C O.1 X (q := k) (k := k) (x_pos hk (by decide)) (x_c8 g cI cB cZ cQ S hk) (ci := 8) rfl x_in8 tyX8 tyX8_ok nmX8 6 (by decide) (O.2 _ _ _ C.2.2.2.2.2 _ xl_X3_66) rfl rfl rfl (Nat.le_of_ble_eq_true rfl) (fun i h => sU_ne h) (by rw [x_c8 g cI cB cZ cQ _ hk, sU_eq]; rfl) hdg kk
theorem xl_X4_9 : Cond.fieldLink RX4 9 "GrottoHours$Rule" "codes" "[I" ∈ gT := gT_c1 86 rfl rfl
theorem xg_X4_9 (C : gC p s m args meth c cc nL RX4 ret D (xtys cI cB cZ cQ) xord g Am) (O : xO g cI cB cZ cQ Am) (X : gX D (xcell g cI cB cZ cQ) xord g S s H locs) (hk : xk k = 4) {j : Nat} (hj : k + 1 = j) (hdg : decode cc pc = .ok (.getfield 9, 3)) (kk : W p l e R s m args below meth c H locs cs sl Q (F0 m (pc + 3) ls (.ref (g j) :: rest))) : W p l e R s m args below meth c H locs cs sl Q (F0 m pc ls (.ref (g k) :: rest)) := by
  subst hj
  exact g_get C X (q := k) (k := k) (x_pos hk (by decide)) (x_c4 g cI cB cZ cQ S hk) (ci := 4) rfl x_in4 0 (by decide) xl_X4_9 rfl hdg kk
theorem xl_X4_15 : Cond.fieldLink RX4 15 "GrottoHours$Rule" "held" "[I" ∈ gT := gT_c1 87 rfl rfl
theorem xg_X4_15 (C : gC p s m args meth c cc nL RX4 ret D (xtys cI cB cZ cQ) xord g Am) (O : xO g cI cB cZ cQ Am) (X : gX D (xcell g cI cB cZ cQ) xord g S s H locs) (hk : xk k = 4) {j : Nat} (hj : k + 2 = j) (hdg : decode cc pc = .ok (.getfield 15, 3)) (kk : W p l e R s m args below meth c H locs cs sl Q (F0 m (pc + 3) ls (.ref (g j) :: rest))) : W p l e R s m args below meth c H locs cs sl Q (F0 m pc ls (.ref (g k) :: rest)) := by
  subst hj
  exact g_get C X (q := k) (k := k) (x_pos hk (by decide)) (x_c4 g cI cB cZ cQ S hk) (ci := 4) rfl x_in4 1 (by decide) xl_X4_15 rfl hdg kk
theorem xl_X4_22 : Cond.fieldLink RX4 22 "GrottoHours$Rule" "knowsGreed" "Z" ∈ gT := gT_c1 88 rfl rfl
theorem xg_X4_22 (C : gC p s m args meth c cc nL RX4 ret D (xtys cI cB cZ cQ) xord g Am) (O : xO g cI cB cZ cQ Am) (X : gX D (xcell g cI cB cZ cQ) xord g S s H locs) (hk : xk k = 4) (hdg : decode cc pc = .ok (.getfield 22, 3)) (kk : W p l e R s m args below meth c H locs cs sl Q (F0 m (pc + 3) ls (.int (S k 2) :: rest))) : W p l e R s m args below meth c H locs cs sl Q (F0 m pc ls (.ref (g k) :: rest)) :=
  g_get C X (q := k) (k := k) (x_pos hk (by decide)) (x_c4 g cI cB cZ cQ S hk) (ci := 4) rfl x_in4 2 (by decide) xl_X4_22 rfl hdg kk
theorem xl_X3_217 : Cond.fieldLinkNest RX3 217 "GrottoHours$Rule" "knowsGreed" "Z" "GrottoHours" ∈ xNest := List.mem_of_getElem? (i := 7) rfl
theorem xg_X3_217 (C : gC p s m args meth c cc nL RX3 ret D (xtys cI cB cZ cQ) xord g Am) (O : xO g cI cB cZ cQ Am) (X : gX D (xcell g cI cB cZ cQ) xord g S s H locs) (hk : xk k = 4) (hdg : decode cc pc = .ok (.getfield 217, 3)) (kk : W p l e R s m args below meth c H locs cs sl Q (F0 m (pc + 3) ls (.int (S k 2) :: rest))) : W p l e R s m args below meth c H locs cs sl Q (F0 m pc ls (.ref (g k) :: rest)) :=
  g_getN C X (q := k) (k := k) (x_pos hk (by decide)) (x_c4 g cI cB cZ cQ S hk) (ci := 4) rfl x_in4 2 (by decide) (O.2 _ _ _ C.2.2.2.2.2 _ xl_X3_217) rfl hdg kk
theorem xl_X4_18 : Cond.fieldLink RX4 18 "GrottoHours$Rule" "length" "I" ∈ gT := gT_c1 90 rfl rfl
theorem xg_X4_18 (C : gC p s m args meth c cc nL RX4 ret D (xtys cI cB cZ cQ) xord g Am) (O : xO g cI cB cZ cQ Am) (X : gX D (xcell g cI cB cZ cQ) xord g S s H locs) (hk : xk k = 4) (hdg : decode cc pc = .ok (.getfield 18, 3)) (kk : W p l e R s m args below meth c H locs cs sl Q (F0 m (pc + 3) ls (.int (S k 3) :: rest))) : W p l e R s m args below meth c H locs cs sl Q (F0 m pc ls (.ref (g k) :: rest)) :=
  g_get C X (q := k) (k := k) (x_pos hk (by decide)) (x_c4 g cI cB cZ cQ S hk) (ci := 4) rfl x_in4 3 (by decide) xl_X4_18 rfl hdg kk
theorem xp_X4_18 (C : gC p s m args meth c cc nL RX4 ret D (xtys cI cB cZ cQ) xord g Am) (O : xO g cI cB cZ cQ Am) (X : gX D (xcell g cI cB cZ cQ) xord g S s H locs) (hk : xk k = 4) {x : Int32} (hS : S' = sU S k 3 x) (hdg : decode cc pc = .ok (.putfield 18, 3)) (kk : ∀ (H1 : Heap) (locs1 : List Loc), gX D (xcell g cI cB cZ cQ) xord g S' s H1 locs1 → W p l e R s m args below meth c H1 locs1 cs sl Q (F0 m (pc + 3) ls rest)) : W p l e R s m args below meth c H locs cs sl Q (F0 m pc ls (.int x :: .ref (g k) :: rest)) := by
  subst hS
  exact g_put C O.1 X (q := k) (k := k) (x_pos hk (by decide)) (x_c4 g cI cB cZ cQ S hk) (ci := 4) rfl x_in4 tyX4 tyX4_ok nmX4 3 (by decide) xl_X4_18 rfl rfl rfl (Nat.le_of_ble_eq_true rfl) (fun i h => sU_ne h) (by rw [x_c4 g cI cB cZ cQ _ hk, sU_eq]; rfl) hdg kk
theorem xl_X9_9 : Cond.fieldLink RX9 9 "GrottoHours$Town" "grottoes" "I" ∈ gT := gT_c1 102 rfl rfl
theorem xg_X9_9 (C : gC p s m args meth c cc nL RX9 ret D (xtys cI cB cZ cQ) xord g Am) (O : xO g cI cB cZ cQ Am) (X : gX D (xcell g cI cB cZ cQ) xord g S s H locs) (hk : xk k = 9) (hdg : decode cc pc = .ok (.getfield 9, 3)) (kk : W p l e R s m args below meth c H locs cs sl Q (F0 m (pc + 3) ls (.int (S k 0) :: rest))) : W p l e R s m args below meth c H locs cs sl Q (F0 m pc ls (.ref (g k) :: rest)) :=
  g_get C X (q := k) (k := k) (x_pos hk (by decide)) (x_c9 g cI cB cZ cQ S hk) (ci := 9) rfl x_in9 0 (by decide) xl_X9_9 rfl hdg kk
theorem xp_X9_9 (C : gC p s m args meth c cc nL RX9 ret D (xtys cI cB cZ cQ) xord g Am) (O : xO g cI cB cZ cQ Am) (X : gX D (xcell g cI cB cZ cQ) xord g S s H locs) (hk : xk k = 9) {x : Int32} (hS : S' = sU S k 0 x) (hdg : decode cc pc = .ok (.putfield 9, 3)) (kk : ∀ (H1 : Heap) (locs1 : List Loc), gX D (xcell g cI cB cZ cQ) xord g S' s H1 locs1 → W p l e R s m args below meth c H1 locs1 cs sl Q (F0 m (pc + 3) ls rest)) : W p l e R s m args below meth c H locs cs sl Q (F0 m pc ls (.int x :: .ref (g k) :: rest)) := by
  subst hS
  exact g_put C O.1 X (q := k) (k := k) (x_pos hk (by decide)) (x_c9 g cI cB cZ cQ S hk) (ci := 9) rfl x_in9 tyX9 tyX9_ok nmX9 0 (by decide) xl_X9_9 rfl rfl rfl (Nat.le_of_ble_eq_true rfl) (fun i h => sU_ne h) (by rw [x_c9 g cI cB cZ cQ _ hk, sU_eq]; rfl) hdg kk
theorem xl_X6_32 : Cond.fieldLinkNest RX6 32 "GrottoHours$Town" "grottoes" "I" "GrottoHours" ∈ xNest := List.mem_of_getElem? (i := 8) rfl
theorem xg_X6_32 (C : gC p s m args meth c cc nL RX6 ret D (xtys cI cB cZ cQ) xord g Am) (O : xO g cI cB cZ cQ Am) (X : gX D (xcell g cI cB cZ cQ) xord g S s H locs) (hk : xk k = 9) (hdg : decode cc pc = .ok (.getfield 32, 3)) (kk : W p l e R s m args below meth c H locs cs sl Q (F0 m (pc + 3) ls (.int (S k 0) :: rest))) : W p l e R s m args below meth c H locs cs sl Q (F0 m pc ls (.ref (g k) :: rest)) :=
  g_getN C X (q := k) (k := k) (x_pos hk (by decide)) (x_c9 g cI cB cZ cQ S hk) (ci := 9) rfl x_in9 0 (by decide) (O.2 _ _ _ C.2.2.2.2.2 _ xl_X6_32) rfl hdg kk
theorem xp_X6_32 (C : gC p s m args meth c cc nL RX6 ret D (xtys cI cB cZ cQ) xord g Am) (O : xO g cI cB cZ cQ Am) (X : gX D (xcell g cI cB cZ cQ) xord g S s H locs) (hk : xk k = 9) {x : Int32} (hS : S' = sU S k 0 x) (hdg : decode cc pc = .ok (.putfield 32, 3)) (kk : ∀ (H1 : Heap) (locs1 : List Loc), gX D (xcell g cI cB cZ cQ) xord g S' s H1 locs1 → W p l e R s m args below meth c H1 locs1 cs sl Q (F0 m (pc + 3) ls rest)) : W p l e R s m args below meth c H locs cs sl Q (F0 m pc ls (.int x :: .ref (g k) :: rest)) := by
  subst hS
  exact g_putN C O.1 X (q := k) (k := k) (x_pos hk (by decide)) (x_c9 g cI cB cZ cQ S hk) (ci := 9) rfl x_in9 tyX9 tyX9_ok nmX9 0 (by decide) (O.2 _ _ _ C.2.2.2.2.2 _ xl_X6_32) rfl rfl rfl (Nat.le_of_ble_eq_true rfl) (fun i h => sU_ne h) (by rw [x_c9 g cI cB cZ cQ _ hk, sU_eq]; rfl) hdg kk
theorem xl_X11_108 : Cond.fieldLinkNest RX11 108 "GrottoHours$Town" "grottoes" "I" "GrottoHours" ∈ xNest := List.mem_of_getElem? (i := 9) rfl
theorem xg_X11_108 (C : gC p s m args meth c cc nL RX11 ret D (xtys cI cB cZ cQ) xord g Am) (O : xO g cI cB cZ cQ Am) (X : gX D (xcell g cI cB cZ cQ) xord g S s H locs) (hk : xk k = 9) (hdg : decode cc pc = .ok (.getfield 108, 3)) (kk : W p l e R s m args below meth c H locs cs sl Q (F0 m (pc + 3) ls (.int (S k 0) :: rest))) : W p l e R s m args below meth c H locs cs sl Q (F0 m pc ls (.ref (g k) :: rest)) :=
  g_getN C X (q := k) (k := k) (x_pos hk (by decide)) (x_c9 g cI cB cZ cQ S hk) (ci := 9) rfl x_in9 0 (by decide) (O.2 _ _ _ C.2.2.2.2.2 _ xl_X11_108) rfl hdg kk
theorem xp_X11_108 (C : gC p s m args meth c cc nL RX11 ret D (xtys cI cB cZ cQ) xord g Am) (O : xO g cI cB cZ cQ Am) (X : gX D (xcell g cI cB cZ cQ) xord g S s H locs) (hk : xk k = 9) {x : Int32} (hS : S' = sU S k 0 x) (hdg : decode cc pc = .ok (.putfield 108, 3)) (kk : ∀ (H1 : Heap) (locs1 : List Loc), gX D (xcell g cI cB cZ cQ) xord g S' s H1 locs1 → W p l e R s m args below meth c H1 locs1 cs sl Q (F0 m (pc + 3) ls rest)) : W p l e R s m args below meth c H locs cs sl Q (F0 m pc ls (.int x :: .ref (g k) :: rest)) := by
  subst hS
  exact g_putN C O.1 X (q := k) (k := k) (x_pos hk (by decide)) (x_c9 g cI cB cZ cQ S hk) (ci := 9) rfl x_in9 tyX9 tyX9_ok nmX9 0 (by decide) (O.2 _ _ _ C.2.2.2.2.2 _ xl_X11_108) rfl rfl rfl (Nat.le_of_ble_eq_true rfl) (fun i h => sU_ne h) (by rw [x_c9 g cI cB cZ cQ _ hk, sU_eq]; rfl) hdg kk
theorem xl_X3_113 : Cond.fieldLinkNest RX3 113 "GrottoHours$Town" "grottoes" "I" "GrottoHours" ∈ xNest := List.mem_of_getElem? (i := 10) rfl
theorem xg_X3_113 (C : gC p s m args meth c cc nL RX3 ret D (xtys cI cB cZ cQ) xord g Am) (O : xO g cI cB cZ cQ Am) (X : gX D (xcell g cI cB cZ cQ) xord g S s H locs) (hk : xk k = 9) (hdg : decode cc pc = .ok (.getfield 113, 3)) (kk : W p l e R s m args below meth c H locs cs sl Q (F0 m (pc + 3) ls (.int (S k 0) :: rest))) : W p l e R s m args below meth c H locs cs sl Q (F0 m pc ls (.ref (g k) :: rest)) :=
  g_getN C X (q := k) (k := k) (x_pos hk (by decide)) (x_c9 g cI cB cZ cQ S hk) (ci := 9) rfl x_in9 0 (by decide) (O.2 _ _ _ C.2.2.2.2.2 _ xl_X3_113) rfl hdg kk
theorem xp_X3_113 (C : gC p s m args meth c cc nL RX3 ret D (xtys cI cB cZ cQ) xord g Am) (O : xO g cI cB cZ cQ Am) (X : gX D (xcell g cI cB cZ cQ) xord g S s H locs) (hk : xk k = 9) {x : Int32} (hS : S' = sU S k 0 x) (hdg : decode cc pc = .ok (.putfield 113, 3)) (kk : ∀ (H1 : Heap) (locs1 : List Loc), gX D (xcell g cI cB cZ cQ) xord g S' s H1 locs1 → W p l e R s m args below meth c H1 locs1 cs sl Q (F0 m (pc + 3) ls rest)) : W p l e R s m args below meth c H locs cs sl Q (F0 m pc ls (.int x :: .ref (g k) :: rest)) := by
  subst hS
  exact g_putN C O.1 X (q := k) (k := k) (x_pos hk (by decide)) (x_c9 g cI cB cZ cQ S hk) (ci := 9) rfl x_in9 tyX9 tyX9_ok nmX9 0 (by decide) (O.2 _ _ _ C.2.2.2.2.2 _ xl_X3_113) rfl rfl rfl (Nat.le_of_ble_eq_true rfl) (fun i h => sU_ne h) (by rw [x_c9 g cI cB cZ cQ _ hk, sU_eq]; rfl) hdg kk
theorem xl_X9_15 : Cond.fieldLink RX9 15 "GrottoHours$Town" "drip" "[I" ∈ gT := gT_c1 106 rfl rfl
theorem xg_X9_15 (C : gC p s m args meth c cc nL RX9 ret D (xtys cI cB cZ cQ) xord g Am) (O : xO g cI cB cZ cQ Am) (X : gX D (xcell g cI cB cZ cQ) xord g S s H locs) (hk : xk k = 9) {j : Nat} (hj : k + 1 = j) (hdg : decode cc pc = .ok (.getfield 15, 3)) (kk : W p l e R s m args below meth c H locs cs sl Q (F0 m (pc + 3) ls (.ref (g j) :: rest))) : W p l e R s m args below meth c H locs cs sl Q (F0 m pc ls (.ref (g k) :: rest)) := by
  subst hj
  exact g_get C X (q := k) (k := k) (x_pos hk (by decide)) (x_c9 g cI cB cZ cQ S hk) (ci := 9) rfl x_in9 1 (by decide) xl_X9_15 rfl hdg kk
theorem xl_X11_165 : Cond.fieldLinkNest RX11 165 "GrottoHours$Town" "drip" "[I" "GrottoHours" ∈ xNest := List.mem_of_getElem? (i := 11) rfl
theorem xg_X11_165 (C : gC p s m args meth c cc nL RX11 ret D (xtys cI cB cZ cQ) xord g Am) (O : xO g cI cB cZ cQ Am) (X : gX D (xcell g cI cB cZ cQ) xord g S s H locs) (hk : xk k = 9) {j : Nat} (hj : k + 1 = j) (hdg : decode cc pc = .ok (.getfield 165, 3)) (kk : W p l e R s m args below meth c H locs cs sl Q (F0 m (pc + 3) ls (.ref (g j) :: rest))) : W p l e R s m args below meth c H locs cs sl Q (F0 m pc ls (.ref (g k) :: rest)) := by
  subst hj
  exact g_getN C X (q := k) (k := k) (x_pos hk (by decide)) (x_c9 g cI cB cZ cQ S hk) (ci := 9) rfl x_in9 1 (by decide) (O.2 _ _ _ C.2.2.2.2.2 _ xl_X11_165) rfl hdg kk
theorem xl_X3_116 : Cond.fieldLinkNest RX3 116 "GrottoHours$Town" "drip" "[I" "GrottoHours" ∈ xNest := List.mem_of_getElem? (i := 12) rfl
theorem xg_X3_116 (C : gC p s m args meth c cc nL RX3 ret D (xtys cI cB cZ cQ) xord g Am) (O : xO g cI cB cZ cQ Am) (X : gX D (xcell g cI cB cZ cQ) xord g S s H locs) (hk : xk k = 9) {j : Nat} (hj : k + 1 = j) (hdg : decode cc pc = .ok (.getfield 116, 3)) (kk : W p l e R s m args below meth c H locs cs sl Q (F0 m (pc + 3) ls (.ref (g j) :: rest))) : W p l e R s m args below meth c H locs cs sl Q (F0 m pc ls (.ref (g k) :: rest)) := by
  subst hj
  exact g_getN C X (q := k) (k := k) (x_pos hk (by decide)) (x_c9 g cI cB cZ cQ S hk) (ci := 9) rfl x_in9 1 (by decide) (O.2 _ _ _ C.2.2.2.2.2 _ xl_X3_116) rfl hdg kk
theorem xl_X10_114 : Cond.fieldLinkNest RX10 114 "GrottoHours$Town" "drip" "[I" "GrottoHours" ∈ xNest := List.mem_of_getElem? (i := 13) rfl
theorem xg_X10_114 (C : gC p s m args meth c cc nL RX10 ret D (xtys cI cB cZ cQ) xord g Am) (O : xO g cI cB cZ cQ Am) (X : gX D (xcell g cI cB cZ cQ) xord g S s H locs) (hk : xk k = 9) {j : Nat} (hj : k + 1 = j) (hdg : decode cc pc = .ok (.getfield 114, 3)) (kk : W p l e R s m args below meth c H locs cs sl Q (F0 m (pc + 3) ls (.ref (g j) :: rest))) : W p l e R s m args below meth c H locs cs sl Q (F0 m pc ls (.ref (g k) :: rest)) := by
  subst hj
  exact g_getN C X (q := k) (k := k) (x_pos hk (by decide)) (x_c9 g cI cB cZ cQ S hk) (ci := 9) rfl x_in9 1 (by decide) (O.2 _ _ _ C.2.2.2.2.2 _ xl_X10_114) rfl hdg kk
theorem xl_X9_19 : Cond.fieldLink RX9 19 "GrottoHours$Town" "phase" "[I" ∈ gT := gT_c1 110 rfl rfl
theorem xg_X9_19 (C : gC p s m args meth c cc nL RX9 ret D (xtys cI cB cZ cQ) xord g Am) (O : xO g cI cB cZ cQ Am) (X : gX D (xcell g cI cB cZ cQ) xord g S s H locs) (hk : xk k = 9) {j : Nat} (hj : k + 2 = j) (hdg : decode cc pc = .ok (.getfield 19, 3)) (kk : W p l e R s m args below meth c H locs cs sl Q (F0 m (pc + 3) ls (.ref (g j) :: rest))) : W p l e R s m args below meth c H locs cs sl Q (F0 m pc ls (.ref (g k) :: rest)) := by
  subst hj
  exact g_get C X (q := k) (k := k) (x_pos hk (by decide)) (x_c9 g cI cB cZ cQ S hk) (ci := 9) rfl x_in9 2 (by decide) xl_X9_19 rfl hdg kk
theorem xl_X11_168 : Cond.fieldLinkNest RX11 168 "GrottoHours$Town" "phase" "[I" "GrottoHours" ∈ xNest := List.mem_of_getElem? (i := 14) rfl
theorem xg_X11_168 (C : gC p s m args meth c cc nL RX11 ret D (xtys cI cB cZ cQ) xord g Am) (O : xO g cI cB cZ cQ Am) (X : gX D (xcell g cI cB cZ cQ) xord g S s H locs) (hk : xk k = 9) {j : Nat} (hj : k + 2 = j) (hdg : decode cc pc = .ok (.getfield 168, 3)) (kk : W p l e R s m args below meth c H locs cs sl Q (F0 m (pc + 3) ls (.ref (g j) :: rest))) : W p l e R s m args below meth c H locs cs sl Q (F0 m pc ls (.ref (g k) :: rest)) := by
  subst hj
  exact g_getN C X (q := k) (k := k) (x_pos hk (by decide)) (x_c9 g cI cB cZ cQ S hk) (ci := 9) rfl x_in9 2 (by decide) (O.2 _ _ _ C.2.2.2.2.2 _ xl_X11_168) rfl hdg kk
theorem xl_X3_124 : Cond.fieldLinkNest RX3 124 "GrottoHours$Town" "phase" "[I" "GrottoHours" ∈ xNest := List.mem_of_getElem? (i := 15) rfl
theorem xg_X3_124 (C : gC p s m args meth c cc nL RX3 ret D (xtys cI cB cZ cQ) xord g Am) (O : xO g cI cB cZ cQ Am) (X : gX D (xcell g cI cB cZ cQ) xord g S s H locs) (hk : xk k = 9) {j : Nat} (hj : k + 2 = j) (hdg : decode cc pc = .ok (.getfield 124, 3)) (kk : W p l e R s m args below meth c H locs cs sl Q (F0 m (pc + 3) ls (.ref (g j) :: rest))) : W p l e R s m args below meth c H locs cs sl Q (F0 m pc ls (.ref (g k) :: rest)) := by
  subst hj
  exact g_getN C X (q := k) (k := k) (x_pos hk (by decide)) (x_c9 g cI cB cZ cQ S hk) (ci := 9) rfl x_in9 2 (by decide) (O.2 _ _ _ C.2.2.2.2.2 _ xl_X3_124) rfl hdg kk
theorem xl_X9_22 : Cond.fieldLink RX9 22 "GrottoHours$Town" "price" "[I" ∈ gT := gT_c1 113 rfl rfl
theorem xg_X9_22 (C : gC p s m args meth c cc nL RX9 ret D (xtys cI cB cZ cQ) xord g Am) (O : xO g cI cB cZ cQ Am) (X : gX D (xcell g cI cB cZ cQ) xord g S s H locs) (hk : xk k = 9) {j : Nat} (hj : k + 3 = j) (hdg : decode cc pc = .ok (.getfield 22, 3)) (kk : W p l e R s m args below meth c H locs cs sl Q (F0 m (pc + 3) ls (.ref (g j) :: rest))) : W p l e R s m args below meth c H locs cs sl Q (F0 m pc ls (.ref (g k) :: rest)) := by
  subst hj
  exact g_get C X (q := k) (k := k) (x_pos hk (by decide)) (x_c9 g cI cB cZ cQ S hk) (ci := 9) rfl x_in9 3 (by decide) xl_X9_22 rfl hdg kk
theorem xl_X6_52 : Cond.fieldLinkNest RX6 52 "GrottoHours$Town" "price" "[I" "GrottoHours" ∈ xNest := List.mem_of_getElem? (i := 16) rfl
theorem xg_X6_52 (C : gC p s m args meth c cc nL RX6 ret D (xtys cI cB cZ cQ) xord g Am) (O : xO g cI cB cZ cQ Am) (X : gX D (xcell g cI cB cZ cQ) xord g S s H locs) (hk : xk k = 9) {j : Nat} (hj : k + 3 = j) (hdg : decode cc pc = .ok (.getfield 52, 3)) (kk : W p l e R s m args below meth c H locs cs sl Q (F0 m (pc + 3) ls (.ref (g j) :: rest))) : W p l e R s m args below meth c H locs cs sl Q (F0 m pc ls (.ref (g k) :: rest)) := by
  subst hj
  exact g_getN C X (q := k) (k := k) (x_pos hk (by decide)) (x_c9 g cI cB cZ cQ S hk) (ci := 9) rfl x_in9 3 (by decide) (O.2 _ _ _ C.2.2.2.2.2 _ xl_X6_52) rfl hdg kk
theorem xl_X11_171 : Cond.fieldLinkNest RX11 171 "GrottoHours$Town" "price" "[I" "GrottoHours" ∈ xNest := List.mem_of_getElem? (i := 17) rfl
theorem xg_X11_171 (C : gC p s m args meth c cc nL RX11 ret D (xtys cI cB cZ cQ) xord g Am) (O : xO g cI cB cZ cQ Am) (X : gX D (xcell g cI cB cZ cQ) xord g S s H locs) (hk : xk k = 9) {j : Nat} (hj : k + 3 = j) (hdg : decode cc pc = .ok (.getfield 171, 3)) (kk : W p l e R s m args below meth c H locs cs sl Q (F0 m (pc + 3) ls (.ref (g j) :: rest))) : W p l e R s m args below meth c H locs cs sl Q (F0 m pc ls (.ref (g k) :: rest)) := by
  subst hj
  exact g_getN C X (q := k) (k := k) (x_pos hk (by decide)) (x_c9 g cI cB cZ cQ S hk) (ci := 9) rfl x_in9 3 (by decide) (O.2 _ _ _ C.2.2.2.2.2 _ xl_X11_171) rfl hdg kk
theorem xl_X10_108 : Cond.fieldLinkNest RX10 108 "GrottoHours$Town" "price" "[I" "GrottoHours" ∈ xNest := List.mem_of_getElem? (i := 18) rfl
theorem xg_X10_108 (C : gC p s m args meth c cc nL RX10 ret D (xtys cI cB cZ cQ) xord g Am) (O : xO g cI cB cZ cQ Am) (X : gX D (xcell g cI cB cZ cQ) xord g S s H locs) (hk : xk k = 9) {j : Nat} (hj : k + 3 = j) (hdg : decode cc pc = .ok (.getfield 108, 3)) (kk : W p l e R s m args below meth c H locs cs sl Q (F0 m (pc + 3) ls (.ref (g j) :: rest))) : W p l e R s m args below meth c H locs cs sl Q (F0 m pc ls (.ref (g k) :: rest)) := by
  subst hj
  exact g_getN C X (q := k) (k := k) (x_pos hk (by decide)) (x_c9 g cI cB cZ cQ S hk) (ci := 9) rfl x_in9 3 (by decide) (O.2 _ _ _ C.2.2.2.2.2 _ xl_X10_108) rfl hdg kk
theorem xl_X3_127 : Cond.fieldLinkNest RX3 127 "GrottoHours$Town" "price" "[I" "GrottoHours" ∈ xNest := List.mem_of_getElem? (i := 19) rfl
theorem xg_X3_127 (C : gC p s m args meth c cc nL RX3 ret D (xtys cI cB cZ cQ) xord g Am) (O : xO g cI cB cZ cQ Am) (X : gX D (xcell g cI cB cZ cQ) xord g S s H locs) (hk : xk k = 9) {j : Nat} (hj : k + 3 = j) (hdg : decode cc pc = .ok (.getfield 127, 3)) (kk : W p l e R s m args below meth c H locs cs sl Q (F0 m (pc + 3) ls (.ref (g j) :: rest))) : W p l e R s m args below meth c H locs cs sl Q (F0 m pc ls (.ref (g k) :: rest)) := by
  subst hj
  exact g_getN C X (q := k) (k := k) (x_pos hk (by decide)) (x_c9 g cI cB cZ cQ S hk) (ci := 9) rfl x_in9 3 (by decide) (O.2 _ _ _ C.2.2.2.2.2 _ xl_X3_127) rfl hdg kk
theorem xl_X9_25 : Cond.fieldLink RX9 25 "GrottoHours$Town" "hollow" "[Z" ∈ gT := gT_c1 118 rfl rfl
theorem xg_X9_25 (C : gC p s m args meth c cc nL RX9 ret D (xtys cI cB cZ cQ) xord g Am) (O : xO g cI cB cZ cQ Am) (X : gX D (xcell g cI cB cZ cQ) xord g S s H locs) (hk : xk k = 9) {j : Nat} (hj : k + 4 = j) (hdg : decode cc pc = .ok (.getfield 25, 3)) (kk : W p l e R s m args below meth c H locs cs sl Q (F0 m (pc + 3) ls (.ref (g j) :: rest))) : W p l e R s m args below meth c H locs cs sl Q (F0 m pc ls (.ref (g k) :: rest)) := by
  subst hj
  exact g_get C X (q := k) (k := k) (x_pos hk (by decide)) (x_c9 g cI cB cZ cQ S hk) (ci := 9) rfl x_in9 4 (by decide) xl_X9_25 rfl hdg kk
theorem xl_X10_76 : Cond.fieldLinkNest RX10 76 "GrottoHours$Town" "hollow" "[Z" "GrottoHours" ∈ xNest := List.mem_of_getElem? (i := 20) rfl
theorem xg_X10_76 (C : gC p s m args meth c cc nL RX10 ret D (xtys cI cB cZ cQ) xord g Am) (O : xO g cI cB cZ cQ Am) (X : gX D (xcell g cI cB cZ cQ) xord g S s H locs) (hk : xk k = 9) {j : Nat} (hj : k + 4 = j) (hdg : decode cc pc = .ok (.getfield 76, 3)) (kk : W p l e R s m args below meth c H locs cs sl Q (F0 m (pc + 3) ls (.ref (g j) :: rest))) : W p l e R s m args below meth c H locs cs sl Q (F0 m pc ls (.ref (g k) :: rest)) := by
  subst hj
  exact g_getN C X (q := k) (k := k) (x_pos hk (by decide)) (x_c9 g cI cB cZ cQ S hk) (ci := 9) rfl x_in9 4 (by decide) (O.2 _ _ _ C.2.2.2.2.2 _ xl_X10_76) rfl hdg kk
theorem xl_X11_174 : Cond.fieldLinkNest RX11 174 "GrottoHours$Town" "hollow" "[Z" "GrottoHours" ∈ xNest := List.mem_of_getElem? (i := 21) rfl
theorem xg_X11_174 (C : gC p s m args meth c cc nL RX11 ret D (xtys cI cB cZ cQ) xord g Am) (O : xO g cI cB cZ cQ Am) (X : gX D (xcell g cI cB cZ cQ) xord g S s H locs) (hk : xk k = 9) {j : Nat} (hj : k + 4 = j) (hdg : decode cc pc = .ok (.getfield 174, 3)) (kk : W p l e R s m args below meth c H locs cs sl Q (F0 m (pc + 3) ls (.ref (g j) :: rest))) : W p l e R s m args below meth c H locs cs sl Q (F0 m pc ls (.ref (g k) :: rest)) := by
  subst hj
  exact g_getN C X (q := k) (k := k) (x_pos hk (by decide)) (x_c9 g cI cB cZ cQ S hk) (ci := 9) rfl x_in9 4 (by decide) (O.2 _ _ _ C.2.2.2.2.2 _ xl_X11_174) rfl hdg kk
theorem xl_X3_130 : Cond.fieldLinkNest RX3 130 "GrottoHours$Town" "hollow" "[Z" "GrottoHours" ∈ xNest := List.mem_of_getElem? (i := 22) rfl
theorem xg_X3_130 (C : gC p s m args meth c cc nL RX3 ret D (xtys cI cB cZ cQ) xord g Am) (O : xO g cI cB cZ cQ Am) (X : gX D (xcell g cI cB cZ cQ) xord g S s H locs) (hk : xk k = 9) {j : Nat} (hj : k + 4 = j) (hdg : decode cc pc = .ok (.getfield 130, 3)) (kk : W p l e R s m args below meth c H locs cs sl Q (F0 m (pc + 3) ls (.ref (g j) :: rest))) : W p l e R s m args below meth c H locs cs sl Q (F0 m pc ls (.ref (g k) :: rest)) := by
  subst hj
  exact g_getN C X (q := k) (k := k) (x_pos hk (by decide)) (x_c9 g cI cB cZ cQ S hk) (ci := 9) rfl x_in9 4 (by decide) (O.2 _ _ _ C.2.2.2.2.2 _ xl_X3_130) rfl hdg kk
theorem xl_X9_29 : Cond.fieldLink RX9 29 "GrottoHours$Town" "guilds" "I" ∈ gT := gT_c1 122 rfl rfl
theorem xg_X9_29 (C : gC p s m args meth c cc nL RX9 ret D (xtys cI cB cZ cQ) xord g Am) (O : xO g cI cB cZ cQ Am) (X : gX D (xcell g cI cB cZ cQ) xord g S s H locs) (hk : xk k = 9) (hdg : decode cc pc = .ok (.getfield 29, 3)) (kk : W p l e R s m args below meth c H locs cs sl Q (F0 m (pc + 3) ls (.int (S k 5) :: rest))) : W p l e R s m args below meth c H locs cs sl Q (F0 m pc ls (.ref (g k) :: rest)) :=
  g_get C X (q := k) (k := k) (x_pos hk (by decide)) (x_c9 g cI cB cZ cQ S hk) (ci := 9) rfl x_in9 5 (by decide) xl_X9_29 rfl hdg kk
theorem xp_X9_29 (C : gC p s m args meth c cc nL RX9 ret D (xtys cI cB cZ cQ) xord g Am) (O : xO g cI cB cZ cQ Am) (X : gX D (xcell g cI cB cZ cQ) xord g S s H locs) (hk : xk k = 9) {x : Int32} (hS : S' = sU S k 5 x) (hdg : decode cc pc = .ok (.putfield 29, 3)) (kk : ∀ (H1 : Heap) (locs1 : List Loc), gX D (xcell g cI cB cZ cQ) xord g S' s H1 locs1 → W p l e R s m args below meth c H1 locs1 cs sl Q (F0 m (pc + 3) ls rest)) : W p l e R s m args below meth c H locs cs sl Q (F0 m pc ls (.int x :: .ref (g k) :: rest)) := by
  subst hS
  exact g_put C O.1 X (q := k) (k := k) (x_pos hk (by decide)) (x_c9 g cI cB cZ cQ S hk) (ci := 9) rfl x_in9 tyX9 tyX9_ok nmX9 5 (by decide) xl_X9_29 rfl rfl rfl (Nat.le_of_ble_eq_true rfl) (fun i h => sU_ne h) (by rw [x_c9 g cI cB cZ cQ _ hk, sU_eq]; rfl) hdg kk
theorem xl_X6_27 : Cond.fieldLinkNest RX6 27 "GrottoHours$Town" "guilds" "I" "GrottoHours" ∈ xNest := List.mem_of_getElem? (i := 23) rfl
theorem xg_X6_27 (C : gC p s m args meth c cc nL RX6 ret D (xtys cI cB cZ cQ) xord g Am) (O : xO g cI cB cZ cQ Am) (X : gX D (xcell g cI cB cZ cQ) xord g S s H locs) (hk : xk k = 9) (hdg : decode cc pc = .ok (.getfield 27, 3)) (kk : W p l e R s m args below meth c H locs cs sl Q (F0 m (pc + 3) ls (.int (S k 5) :: rest))) : W p l e R s m args below meth c H locs cs sl Q (F0 m pc ls (.ref (g k) :: rest)) :=
  g_getN C X (q := k) (k := k) (x_pos hk (by decide)) (x_c9 g cI cB cZ cQ S hk) (ci := 9) rfl x_in9 5 (by decide) (O.2 _ _ _ C.2.2.2.2.2 _ xl_X6_27) rfl hdg kk
theorem xp_X6_27 (C : gC p s m args meth c cc nL RX6 ret D (xtys cI cB cZ cQ) xord g Am) (O : xO g cI cB cZ cQ Am) (X : gX D (xcell g cI cB cZ cQ) xord g S s H locs) (hk : xk k = 9) {x : Int32} (hS : S' = sU S k 5 x) (hdg : decode cc pc = .ok (.putfield 27, 3)) (kk : ∀ (H1 : Heap) (locs1 : List Loc), gX D (xcell g cI cB cZ cQ) xord g S' s H1 locs1 → W p l e R s m args below meth c H1 locs1 cs sl Q (F0 m (pc + 3) ls rest)) : W p l e R s m args below meth c H locs cs sl Q (F0 m pc ls (.int x :: .ref (g k) :: rest)) := by
  subst hS
  exact g_putN C O.1 X (q := k) (k := k) (x_pos hk (by decide)) (x_c9 g cI cB cZ cQ S hk) (ci := 9) rfl x_in9 tyX9 tyX9_ok nmX9 5 (by decide) (O.2 _ _ _ C.2.2.2.2.2 _ xl_X6_27) rfl rfl rfl (Nat.le_of_ble_eq_true rfl) (fun i h => sU_ne h) (by rw [x_c9 g cI cB cZ cQ _ hk, sU_eq]; rfl) hdg kk
theorem xl_X7_31 : Cond.fieldLinkNest RX7 31 "GrottoHours$Town" "guilds" "I" "GrottoHours" ∈ xNest := List.mem_of_getElem? (i := 24) rfl
theorem xg_X7_31 (C : gC p s m args meth c cc nL RX7 ret D (xtys cI cB cZ cQ) xord g Am) (O : xO g cI cB cZ cQ Am) (X : gX D (xcell g cI cB cZ cQ) xord g S s H locs) (hk : xk k = 9) (hdg : decode cc pc = .ok (.getfield 31, 3)) (kk : W p l e R s m args below meth c H locs cs sl Q (F0 m (pc + 3) ls (.int (S k 5) :: rest))) : W p l e R s m args below meth c H locs cs sl Q (F0 m pc ls (.ref (g k) :: rest)) :=
  g_getN C X (q := k) (k := k) (x_pos hk (by decide)) (x_c9 g cI cB cZ cQ S hk) (ci := 9) rfl x_in9 5 (by decide) (O.2 _ _ _ C.2.2.2.2.2 _ xl_X7_31) rfl hdg kk
theorem xp_X7_31 (C : gC p s m args meth c cc nL RX7 ret D (xtys cI cB cZ cQ) xord g Am) (O : xO g cI cB cZ cQ Am) (X : gX D (xcell g cI cB cZ cQ) xord g S s H locs) (hk : xk k = 9) {x : Int32} (hS : S' = sU S k 5 x) (hdg : decode cc pc = .ok (.putfield 31, 3)) (kk : ∀ (H1 : Heap) (locs1 : List Loc), gX D (xcell g cI cB cZ cQ) xord g S' s H1 locs1 → W p l e R s m args below meth c H1 locs1 cs sl Q (F0 m (pc + 3) ls rest)) : W p l e R s m args below meth c H locs cs sl Q (F0 m pc ls (.int x :: .ref (g k) :: rest)) := by
  subst hS
  exact g_putN C O.1 X (q := k) (k := k) (x_pos hk (by decide)) (x_c9 g cI cB cZ cQ S hk) (ci := 9) rfl x_in9 tyX9 tyX9_ok nmX9 5 (by decide) (O.2 _ _ _ C.2.2.2.2.2 _ xl_X7_31) rfl rfl rfl (Nat.le_of_ble_eq_true rfl) (fun i h => sU_ne h) (by rw [x_c9 g cI cB cZ cQ _ hk, sU_eq]; rfl) hdg kk
theorem xl_X2_34 : Cond.fieldLinkNest RX2 34 "GrottoHours$Town" "guilds" "I" "GrottoHours" ∈ xNest := List.mem_of_getElem? (i := 25) rfl
theorem xg_X2_34 (C : gC p s m args meth c cc nL RX2 ret D (xtys cI cB cZ cQ) xord g Am) (O : xO g cI cB cZ cQ Am) (X : gX D (xcell g cI cB cZ cQ) xord g S s H locs) (hk : xk k = 9) (hdg : decode cc pc = .ok (.getfield 34, 3)) (kk : W p l e R s m args below meth c H locs cs sl Q (F0 m (pc + 3) ls (.int (S k 5) :: rest))) : W p l e R s m args below meth c H locs cs sl Q (F0 m pc ls (.ref (g k) :: rest)) :=
  g_getN C X (q := k) (k := k) (x_pos hk (by decide)) (x_c9 g cI cB cZ cQ S hk) (ci := 9) rfl x_in9 5 (by decide) (O.2 _ _ _ C.2.2.2.2.2 _ xl_X2_34) rfl hdg kk
theorem xp_X2_34 (C : gC p s m args meth c cc nL RX2 ret D (xtys cI cB cZ cQ) xord g Am) (O : xO g cI cB cZ cQ Am) (X : gX D (xcell g cI cB cZ cQ) xord g S s H locs) (hk : xk k = 9) {x : Int32} (hS : S' = sU S k 5 x) (hdg : decode cc pc = .ok (.putfield 34, 3)) (kk : ∀ (H1 : Heap) (locs1 : List Loc), gX D (xcell g cI cB cZ cQ) xord g S' s H1 locs1 → W p l e R s m args below meth c H1 locs1 cs sl Q (F0 m (pc + 3) ls rest)) : W p l e R s m args below meth c H locs cs sl Q (F0 m pc ls (.int x :: .ref (g k) :: rest)) := by
  subst hS
  exact g_putN C O.1 X (q := k) (k := k) (x_pos hk (by decide)) (x_c9 g cI cB cZ cQ S hk) (ci := 9) rfl x_in9 tyX9 tyX9_ok nmX9 5 (by decide) (O.2 _ _ _ C.2.2.2.2.2 _ xl_X2_34) rfl rfl rfl (Nat.le_of_ble_eq_true rfl) (fun i h => sU_ne h) (by rw [x_c9 g cI cB cZ cQ _ hk, sU_eq]; rfl) hdg kk
theorem xl_X11_111 : Cond.fieldLinkNest RX11 111 "GrottoHours$Town" "guilds" "I" "GrottoHours" ∈ xNest := List.mem_of_getElem? (i := 26) rfl
theorem xg_X11_111 (C : gC p s m args meth c cc nL RX11 ret D (xtys cI cB cZ cQ) xord g Am) (O : xO g cI cB cZ cQ Am) (X : gX D (xcell g cI cB cZ cQ) xord g S s H locs) (hk : xk k = 9) (hdg : decode cc pc = .ok (.getfield 111, 3)) (kk : W p l e R s m args below meth c H locs cs sl Q (F0 m (pc + 3) ls (.int (S k 5) :: rest))) : W p l e R s m args below meth c H locs cs sl Q (F0 m pc ls (.ref (g k) :: rest)) :=
  g_getN C X (q := k) (k := k) (x_pos hk (by decide)) (x_c9 g cI cB cZ cQ S hk) (ci := 9) rfl x_in9 5 (by decide) (O.2 _ _ _ C.2.2.2.2.2 _ xl_X11_111) rfl hdg kk
theorem xp_X11_111 (C : gC p s m args meth c cc nL RX11 ret D (xtys cI cB cZ cQ) xord g Am) (O : xO g cI cB cZ cQ Am) (X : gX D (xcell g cI cB cZ cQ) xord g S s H locs) (hk : xk k = 9) {x : Int32} (hS : S' = sU S k 5 x) (hdg : decode cc pc = .ok (.putfield 111, 3)) (kk : ∀ (H1 : Heap) (locs1 : List Loc), gX D (xcell g cI cB cZ cQ) xord g S' s H1 locs1 → W p l e R s m args below meth c H1 locs1 cs sl Q (F0 m (pc + 3) ls rest)) : W p l e R s m args below meth c H locs cs sl Q (F0 m pc ls (.int x :: .ref (g k) :: rest)) := by
  subst hS
  exact g_putN C O.1 X (q := k) (k := k) (x_pos hk (by decide)) (x_c9 g cI cB cZ cQ S hk) (ci := 9) rfl x_in9 tyX9 tyX9_ok nmX9 5 (by decide) (O.2 _ _ _ C.2.2.2.2.2 _ xl_X11_111) rfl rfl rfl (Nat.le_of_ble_eq_true rfl) (fun i h => sU_ne h) (by rw [x_c9 g cI cB cZ cQ _ hk, sU_eq]; rfl) hdg kk
theorem xl_X3_133 : Cond.fieldLinkNest RX3 133 "GrottoHours$Town" "guilds" "I" "GrottoHours" ∈ xNest := List.mem_of_getElem? (i := 27) rfl
theorem xg_X3_133 (C : gC p s m args meth c cc nL RX3 ret D (xtys cI cB cZ cQ) xord g Am) (O : xO g cI cB cZ cQ Am) (X : gX D (xcell g cI cB cZ cQ) xord g S s H locs) (hk : xk k = 9) (hdg : decode cc pc = .ok (.getfield 133, 3)) (kk : W p l e R s m args below meth c H locs cs sl Q (F0 m (pc + 3) ls (.int (S k 5) :: rest))) : W p l e R s m args below meth c H locs cs sl Q (F0 m pc ls (.ref (g k) :: rest)) :=
  g_getN C X (q := k) (k := k) (x_pos hk (by decide)) (x_c9 g cI cB cZ cQ S hk) (ci := 9) rfl x_in9 5 (by decide) (O.2 _ _ _ C.2.2.2.2.2 _ xl_X3_133) rfl hdg kk
theorem xp_X3_133 (C : gC p s m args meth c cc nL RX3 ret D (xtys cI cB cZ cQ) xord g Am) (O : xO g cI cB cZ cQ Am) (X : gX D (xcell g cI cB cZ cQ) xord g S s H locs) (hk : xk k = 9) {x : Int32} (hS : S' = sU S k 5 x) (hdg : decode cc pc = .ok (.putfield 133, 3)) (kk : ∀ (H1 : Heap) (locs1 : List Loc), gX D (xcell g cI cB cZ cQ) xord g S' s H1 locs1 → W p l e R s m args below meth c H1 locs1 cs sl Q (F0 m (pc + 3) ls rest)) : W p l e R s m args below meth c H locs cs sl Q (F0 m pc ls (.int x :: .ref (g k) :: rest)) := by
  subst hS
  exact g_putN C O.1 X (q := k) (k := k) (x_pos hk (by decide)) (x_c9 g cI cB cZ cQ S hk) (ci := 9) rfl x_in9 tyX9 tyX9_ok nmX9 5 (by decide) (O.2 _ _ _ C.2.2.2.2.2 _ xl_X3_133) rfl rfl rfl (Nat.le_of_ble_eq_true rfl) (fun i h => sU_ne h) (by rw [x_c9 g cI cB cZ cQ _ hk, sU_eq]; rfl) hdg kk
theorem xl_X9_32 : Cond.fieldLink RX9 32 "GrottoHours$Town" "greed" "[I" ∈ gT := gT_c1 128 rfl rfl
theorem xg_X9_32 (C : gC p s m args meth c cc nL RX9 ret D (xtys cI cB cZ cQ) xord g Am) (O : xO g cI cB cZ cQ Am) (X : gX D (xcell g cI cB cZ cQ) xord g S s H locs) (hk : xk k = 9) {j : Nat} (hj : k + 5 = j) (hdg : decode cc pc = .ok (.getfield 32, 3)) (kk : W p l e R s m args below meth c H locs cs sl Q (F0 m (pc + 3) ls (.ref (g j) :: rest))) : W p l e R s m args below meth c H locs cs sl Q (F0 m pc ls (.ref (g k) :: rest)) := by
  subst hj
  exact g_get C X (q := k) (k := k) (x_pos hk (by decide)) (x_c9 g cI cB cZ cQ S hk) (ci := 9) rfl x_in9 6 (by decide) xl_X9_32 rfl hdg kk
theorem xl_X10_42 : Cond.fieldLinkNest RX10 42 "GrottoHours$Town" "greed" "[I" "GrottoHours" ∈ xNest := List.mem_of_getElem? (i := 28) rfl
theorem xg_X10_42 (C : gC p s m args meth c cc nL RX10 ret D (xtys cI cB cZ cQ) xord g Am) (O : xO g cI cB cZ cQ Am) (X : gX D (xcell g cI cB cZ cQ) xord g S s H locs) (hk : xk k = 9) {j : Nat} (hj : k + 5 = j) (hdg : decode cc pc = .ok (.getfield 42, 3)) (kk : W p l e R s m args below meth c H locs cs sl Q (F0 m (pc + 3) ls (.ref (g j) :: rest))) : W p l e R s m args below meth c H locs cs sl Q (F0 m pc ls (.ref (g k) :: rest)) := by
  subst hj
  exact g_getN C X (q := k) (k := k) (x_pos hk (by decide)) (x_c9 g cI cB cZ cQ S hk) (ci := 9) rfl x_in9 6 (by decide) (O.2 _ _ _ C.2.2.2.2.2 _ xl_X10_42) rfl hdg kk
theorem xl_X2_76 : Cond.fieldLinkNest RX2 76 "GrottoHours$Town" "greed" "[I" "GrottoHours" ∈ xNest := List.mem_of_getElem? (i := 29) rfl
theorem xg_X2_76 (C : gC p s m args meth c cc nL RX2 ret D (xtys cI cB cZ cQ) xord g Am) (O : xO g cI cB cZ cQ Am) (X : gX D (xcell g cI cB cZ cQ) xord g S s H locs) (hk : xk k = 9) {j : Nat} (hj : k + 5 = j) (hdg : decode cc pc = .ok (.getfield 76, 3)) (kk : W p l e R s m args below meth c H locs cs sl Q (F0 m (pc + 3) ls (.ref (g j) :: rest))) : W p l e R s m args below meth c H locs cs sl Q (F0 m pc ls (.ref (g k) :: rest)) := by
  subst hj
  exact g_getN C X (q := k) (k := k) (x_pos hk (by decide)) (x_c9 g cI cB cZ cQ S hk) (ci := 9) rfl x_in9 6 (by decide) (O.2 _ _ _ C.2.2.2.2.2 _ xl_X2_76) rfl hdg kk
theorem xl_X11_194 : Cond.fieldLinkNest RX11 194 "GrottoHours$Town" "greed" "[I" "GrottoHours" ∈ xNest := List.mem_of_getElem? (i := 30) rfl
theorem xg_X11_194 (C : gC p s m args meth c cc nL RX11 ret D (xtys cI cB cZ cQ) xord g Am) (O : xO g cI cB cZ cQ Am) (X : gX D (xcell g cI cB cZ cQ) xord g S s H locs) (hk : xk k = 9) {j : Nat} (hj : k + 5 = j) (hdg : decode cc pc = .ok (.getfield 194, 3)) (kk : W p l e R s m args below meth c H locs cs sl Q (F0 m (pc + 3) ls (.ref (g j) :: rest))) : W p l e R s m args below meth c H locs cs sl Q (F0 m pc ls (.ref (g k) :: rest)) := by
  subst hj
  exact g_getN C X (q := k) (k := k) (x_pos hk (by decide)) (x_c9 g cI cB cZ cQ S hk) (ci := 9) rfl x_in9 6 (by decide) (O.2 _ _ _ C.2.2.2.2.2 _ xl_X11_194) rfl hdg kk
theorem xl_X3_136 : Cond.fieldLinkNest RX3 136 "GrottoHours$Town" "greed" "[I" "GrottoHours" ∈ xNest := List.mem_of_getElem? (i := 31) rfl
theorem xg_X3_136 (C : gC p s m args meth c cc nL RX3 ret D (xtys cI cB cZ cQ) xord g Am) (O : xO g cI cB cZ cQ Am) (X : gX D (xcell g cI cB cZ cQ) xord g S s H locs) (hk : xk k = 9) {j : Nat} (hj : k + 5 = j) (hdg : decode cc pc = .ok (.getfield 136, 3)) (kk : W p l e R s m args below meth c H locs cs sl Q (F0 m (pc + 3) ls (.ref (g j) :: rest))) : W p l e R s m args below meth c H locs cs sl Q (F0 m pc ls (.ref (g k) :: rest)) := by
  subst hj
  exact g_getN C X (q := k) (k := k) (x_pos hk (by decide)) (x_c9 g cI cB cZ cQ S hk) (ci := 9) rfl x_in9 6 (by decide) (O.2 _ _ _ C.2.2.2.2.2 _ xl_X3_136) rfl hdg kk
theorem xl_X9_35 : Cond.fieldLink RX9 35 "GrottoHours$Town" "sin" "[I" ∈ gT := gT_c1 133 rfl rfl
theorem xg_X9_35 (C : gC p s m args meth c cc nL RX9 ret D (xtys cI cB cZ cQ) xord g Am) (O : xO g cI cB cZ cQ Am) (X : gX D (xcell g cI cB cZ cQ) xord g S s H locs) (hk : xk k = 9) {j : Nat} (hj : k + 6 = j) (hdg : decode cc pc = .ok (.getfield 35, 3)) (kk : W p l e R s m args below meth c H locs cs sl Q (F0 m (pc + 3) ls (.ref (g j) :: rest))) : W p l e R s m args below meth c H locs cs sl Q (F0 m pc ls (.ref (g k) :: rest)) := by
  subst hj
  exact g_get C X (q := k) (k := k) (x_pos hk (by decide)) (x_c9 g cI cB cZ cQ S hk) (ci := 9) rfl x_in9 7 (by decide) xl_X9_35 rfl hdg kk
theorem xl_X7_36 : Cond.fieldLinkNest RX7 36 "GrottoHours$Town" "sin" "[I" "GrottoHours" ∈ xNest := List.mem_of_getElem? (i := 32) rfl
theorem xg_X7_36 (C : gC p s m args meth c cc nL RX7 ret D (xtys cI cB cZ cQ) xord g Am) (O : xO g cI cB cZ cQ Am) (X : gX D (xcell g cI cB cZ cQ) xord g S s H locs) (hk : xk k = 9) {j : Nat} (hj : k + 6 = j) (hdg : decode cc pc = .ok (.getfield 36, 3)) (kk : W p l e R s m args below meth c H locs cs sl Q (F0 m (pc + 3) ls (.ref (g j) :: rest))) : W p l e R s m args below meth c H locs cs sl Q (F0 m pc ls (.ref (g k) :: rest)) := by
  subst hj
  exact g_getN C X (q := k) (k := k) (x_pos hk (by decide)) (x_c9 g cI cB cZ cQ S hk) (ci := 9) rfl x_in9 7 (by decide) (O.2 _ _ _ C.2.2.2.2.2 _ xl_X7_36) rfl hdg kk
theorem xl_X3_139 : Cond.fieldLinkNest RX3 139 "GrottoHours$Town" "sin" "[I" "GrottoHours" ∈ xNest := List.mem_of_getElem? (i := 33) rfl
theorem xg_X3_139 (C : gC p s m args meth c cc nL RX3 ret D (xtys cI cB cZ cQ) xord g Am) (O : xO g cI cB cZ cQ Am) (X : gX D (xcell g cI cB cZ cQ) xord g S s H locs) (hk : xk k = 9) {j : Nat} (hj : k + 6 = j) (hdg : decode cc pc = .ok (.getfield 139, 3)) (kk : W p l e R s m args below meth c H locs cs sl Q (F0 m (pc + 3) ls (.ref (g j) :: rest))) : W p l e R s m args below meth c H locs cs sl Q (F0 m pc ls (.ref (g k) :: rest)) := by
  subst hj
  exact g_getN C X (q := k) (k := k) (x_pos hk (by decide)) (x_c9 g cI cB cZ cQ S hk) (ci := 9) rfl x_in9 7 (by decide) (O.2 _ _ _ C.2.2.2.2.2 _ xl_X3_139) rfl hdg kk
theorem xl_X9_38 : Cond.fieldLink RX9 38 "GrottoHours$Town" "purse" "[I" ∈ gT := gT_c1 136 rfl rfl
theorem xg_X9_38 (C : gC p s m args meth c cc nL RX9 ret D (xtys cI cB cZ cQ) xord g Am) (O : xO g cI cB cZ cQ Am) (X : gX D (xcell g cI cB cZ cQ) xord g S s H locs) (hk : xk k = 9) {j : Nat} (hj : k + 7 = j) (hdg : decode cc pc = .ok (.getfield 38, 3)) (kk : W p l e R s m args below meth c H locs cs sl Q (F0 m (pc + 3) ls (.ref (g j) :: rest))) : W p l e R s m args below meth c H locs cs sl Q (F0 m pc ls (.ref (g k) :: rest)) := by
  subst hj
  exact g_get C X (q := k) (k := k) (x_pos hk (by decide)) (x_c9 g cI cB cZ cQ S hk) (ci := 9) rfl x_in9 8 (by decide) xl_X9_38 rfl hdg kk
theorem xl_X7_37 : Cond.fieldLinkNest RX7 37 "GrottoHours$Town" "purse" "[I" "GrottoHours" ∈ xNest := List.mem_of_getElem? (i := 34) rfl
theorem xg_X7_37 (C : gC p s m args meth c cc nL RX7 ret D (xtys cI cB cZ cQ) xord g Am) (O : xO g cI cB cZ cQ Am) (X : gX D (xcell g cI cB cZ cQ) xord g S s H locs) (hk : xk k = 9) {j : Nat} (hj : k + 7 = j) (hdg : decode cc pc = .ok (.getfield 37, 3)) (kk : W p l e R s m args below meth c H locs cs sl Q (F0 m (pc + 3) ls (.ref (g j) :: rest))) : W p l e R s m args below meth c H locs cs sl Q (F0 m pc ls (.ref (g k) :: rest)) := by
  subst hj
  exact g_getN C X (q := k) (k := k) (x_pos hk (by decide)) (x_c9 g cI cB cZ cQ S hk) (ci := 9) rfl x_in9 8 (by decide) (O.2 _ _ _ C.2.2.2.2.2 _ xl_X7_37) rfl hdg kk
theorem xl_X3_142 : Cond.fieldLinkNest RX3 142 "GrottoHours$Town" "purse" "[I" "GrottoHours" ∈ xNest := List.mem_of_getElem? (i := 35) rfl
theorem xg_X3_142 (C : gC p s m args meth c cc nL RX3 ret D (xtys cI cB cZ cQ) xord g Am) (O : xO g cI cB cZ cQ Am) (X : gX D (xcell g cI cB cZ cQ) xord g S s H locs) (hk : xk k = 9) {j : Nat} (hj : k + 7 = j) (hdg : decode cc pc = .ok (.getfield 142, 3)) (kk : W p l e R s m args below meth c H locs cs sl Q (F0 m (pc + 3) ls (.ref (g j) :: rest))) : W p l e R s m args below meth c H locs cs sl Q (F0 m pc ls (.ref (g k) :: rest)) := by
  subst hj
  exact g_getN C X (q := k) (k := k) (x_pos hk (by decide)) (x_c9 g cI cB cZ cQ S hk) (ci := 9) rfl x_in9 8 (by decide) (O.2 _ _ _ C.2.2.2.2.2 _ xl_X3_142) rfl hdg kk
theorem xl_X9_41 : Cond.fieldLink RX9 41 "GrottoHours$Town" "hired" "[I" ∈ gT := gT_c1 139 rfl rfl
theorem xg_X9_41 (C : gC p s m args meth c cc nL RX9 ret D (xtys cI cB cZ cQ) xord g Am) (O : xO g cI cB cZ cQ Am) (X : gX D (xcell g cI cB cZ cQ) xord g S s H locs) (hk : xk k = 9) {j : Nat} (hj : k + 8 = j) (hdg : decode cc pc = .ok (.getfield 41, 3)) (kk : W p l e R s m args below meth c H locs cs sl Q (F0 m (pc + 3) ls (.ref (g j) :: rest))) : W p l e R s m args below meth c H locs cs sl Q (F0 m pc ls (.ref (g k) :: rest)) := by
  subst hj
  exact g_get C X (q := k) (k := k) (x_pos hk (by decide)) (x_c9 g cI cB cZ cQ S hk) (ci := 9) rfl x_in9 9 (by decide) xl_X9_41 rfl hdg kk
theorem xl_X7_38 : Cond.fieldLinkNest RX7 38 "GrottoHours$Town" "hired" "[I" "GrottoHours" ∈ xNest := List.mem_of_getElem? (i := 36) rfl
theorem xg_X7_38 (C : gC p s m args meth c cc nL RX7 ret D (xtys cI cB cZ cQ) xord g Am) (O : xO g cI cB cZ cQ Am) (X : gX D (xcell g cI cB cZ cQ) xord g S s H locs) (hk : xk k = 9) {j : Nat} (hj : k + 8 = j) (hdg : decode cc pc = .ok (.getfield 38, 3)) (kk : W p l e R s m args below meth c H locs cs sl Q (F0 m (pc + 3) ls (.ref (g j) :: rest))) : W p l e R s m args below meth c H locs cs sl Q (F0 m pc ls (.ref (g k) :: rest)) := by
  subst hj
  exact g_getN C X (q := k) (k := k) (x_pos hk (by decide)) (x_c9 g cI cB cZ cQ S hk) (ci := 9) rfl x_in9 9 (by decide) (O.2 _ _ _ C.2.2.2.2.2 _ xl_X7_38) rfl hdg kk
theorem xl_X3_145 : Cond.fieldLinkNest RX3 145 "GrottoHours$Town" "hired" "[I" "GrottoHours" ∈ xNest := List.mem_of_getElem? (i := 37) rfl
theorem xg_X3_145 (C : gC p s m args meth c cc nL RX3 ret D (xtys cI cB cZ cQ) xord g Am) (O : xO g cI cB cZ cQ Am) (X : gX D (xcell g cI cB cZ cQ) xord g S s H locs) (hk : xk k = 9) {j : Nat} (hj : k + 8 = j) (hdg : decode cc pc = .ok (.getfield 145, 3)) (kk : W p l e R s m args below meth c H locs cs sl Q (F0 m (pc + 3) ls (.ref (g j) :: rest))) : W p l e R s m args below meth c H locs cs sl Q (F0 m pc ls (.ref (g k) :: rest)) := by
  subst hj
  exact g_getN C X (q := k) (k := k) (x_pos hk (by decide)) (x_c9 g cI cB cZ cQ S hk) (ci := 9) rfl x_in9 9 (by decide) (O.2 _ _ _ C.2.2.2.2.2 _ xl_X3_145) rfl hdg kk
theorem xl_X9_44 : Cond.fieldLink RX9 44 "GrottoHours$Town" "wets" "I" ∈ gT := gT_c1 142 rfl rfl
theorem xg_X9_44 (C : gC p s m args meth c cc nL RX9 ret D (xtys cI cB cZ cQ) xord g Am) (O : xO g cI cB cZ cQ Am) (X : gX D (xcell g cI cB cZ cQ) xord g S s H locs) (hk : xk k = 9) (hdg : decode cc pc = .ok (.getfield 44, 3)) (kk : W p l e R s m args below meth c H locs cs sl Q (F0 m (pc + 3) ls (.int (S k 10) :: rest))) : W p l e R s m args below meth c H locs cs sl Q (F0 m pc ls (.ref (g k) :: rest)) :=
  g_get C X (q := k) (k := k) (x_pos hk (by decide)) (x_c9 g cI cB cZ cQ S hk) (ci := 9) rfl x_in9 10 (by decide) xl_X9_44 rfl hdg kk
theorem xp_X9_44 (C : gC p s m args meth c cc nL RX9 ret D (xtys cI cB cZ cQ) xord g Am) (O : xO g cI cB cZ cQ Am) (X : gX D (xcell g cI cB cZ cQ) xord g S s H locs) (hk : xk k = 9) {x : Int32} (hS : S' = sU S k 10 x) (hdg : decode cc pc = .ok (.putfield 44, 3)) (kk : ∀ (H1 : Heap) (locs1 : List Loc), gX D (xcell g cI cB cZ cQ) xord g S' s H1 locs1 → W p l e R s m args below meth c H1 locs1 cs sl Q (F0 m (pc + 3) ls rest)) : W p l e R s m args below meth c H locs cs sl Q (F0 m pc ls (.int x :: .ref (g k) :: rest)) := by
  subst hS
  exact g_put C O.1 X (q := k) (k := k) (x_pos hk (by decide)) (x_c9 g cI cB cZ cQ S hk) (ci := 9) rfl x_in9 tyX9 tyX9_ok nmX9 10 (by decide) xl_X9_44 rfl rfl rfl (Nat.le_of_ble_eq_true rfl) (fun i h => sU_ne h) (by rw [x_c9 g cI cB cZ cQ _ hk, sU_eq]; rfl) hdg kk
theorem xl_X3_161 : Cond.fieldLinkNest RX3 161 "GrottoHours$Town" "wets" "I" "GrottoHours" ∈ xNest := List.mem_of_getElem? (i := 38) rfl
theorem xg_X3_161 (C : gC p s m args meth c cc nL RX3 ret D (xtys cI cB cZ cQ) xord g Am) (O : xO g cI cB cZ cQ Am) (X : gX D (xcell g cI cB cZ cQ) xord g S s H locs) (hk : xk k = 9) (hdg : decode cc pc = .ok (.getfield 161, 3)) (kk : W p l e R s m args below meth c H locs cs sl Q (F0 m (pc + 3) ls (.int (S k 10) :: rest))) : W p l e R s m args below meth c H locs cs sl Q (F0 m pc ls (.ref (g k) :: rest)) :=
  g_getN C X (q := k) (k := k) (x_pos hk (by decide)) (x_c9 g cI cB cZ cQ S hk) (ci := 9) rfl x_in9 10 (by decide) (O.2 _ _ _ C.2.2.2.2.2 _ xl_X3_161) rfl hdg kk
theorem xp_X3_161 (C : gC p s m args meth c cc nL RX3 ret D (xtys cI cB cZ cQ) xord g Am) (O : xO g cI cB cZ cQ Am) (X : gX D (xcell g cI cB cZ cQ) xord g S s H locs) (hk : xk k = 9) {x : Int32} (hS : S' = sU S k 10 x) (hdg : decode cc pc = .ok (.putfield 161, 3)) (kk : ∀ (H1 : Heap) (locs1 : List Loc), gX D (xcell g cI cB cZ cQ) xord g S' s H1 locs1 → W p l e R s m args below meth c H1 locs1 cs sl Q (F0 m (pc + 3) ls rest)) : W p l e R s m args below meth c H locs cs sl Q (F0 m pc ls (.int x :: .ref (g k) :: rest)) := by
  subst hS
  exact g_putN C O.1 X (q := k) (k := k) (x_pos hk (by decide)) (x_c9 g cI cB cZ cQ S hk) (ci := 9) rfl x_in9 tyX9 tyX9_ok nmX9 10 (by decide) (O.2 _ _ _ C.2.2.2.2.2 _ xl_X3_161) rfl rfl rfl (Nat.le_of_ble_eq_true rfl) (fun i h => sU_ne h) (by rw [x_c9 g cI cB cZ cQ _ hk, sU_eq]; rfl) hdg kk
theorem xl_X9_47 : Cond.fieldLink RX9 47 "GrottoHours$Town" "wet" "[I" ∈ gT := gT_c1 144 rfl rfl
theorem xg_X9_47 (C : gC p s m args meth c cc nL RX9 ret D (xtys cI cB cZ cQ) xord g Am) (O : xO g cI cB cZ cQ Am) (X : gX D (xcell g cI cB cZ cQ) xord g S s H locs) (hk : xk k = 9) {j : Nat} (hj : k + 9 = j) (hdg : decode cc pc = .ok (.getfield 47, 3)) (kk : W p l e R s m args below meth c H locs cs sl Q (F0 m (pc + 3) ls (.ref (g j) :: rest))) : W p l e R s m args below meth c H locs cs sl Q (F0 m pc ls (.ref (g k) :: rest)) := by
  subst hj
  exact g_get C X (q := k) (k := k) (x_pos hk (by decide)) (x_c9 g cI cB cZ cQ S hk) (ci := 9) rfl x_in9 11 (by decide) xl_X9_47 rfl hdg kk
theorem xl_X3_164 : Cond.fieldLinkNest RX3 164 "GrottoHours$Town" "wet" "[I" "GrottoHours" ∈ xNest := List.mem_of_getElem? (i := 39) rfl
theorem xg_X3_164 (C : gC p s m args meth c cc nL RX3 ret D (xtys cI cB cZ cQ) xord g Am) (O : xO g cI cB cZ cQ Am) (X : gX D (xcell g cI cB cZ cQ) xord g S s H locs) (hk : xk k = 9) {j : Nat} (hj : k + 9 = j) (hdg : decode cc pc = .ok (.getfield 164, 3)) (kk : W p l e R s m args below meth c H locs cs sl Q (F0 m (pc + 3) ls (.ref (g j) :: rest))) : W p l e R s m args below meth c H locs cs sl Q (F0 m pc ls (.ref (g k) :: rest)) := by
  subst hj
  exact g_getN C X (q := k) (k := k) (x_pos hk (by decide)) (x_c9 g cI cB cZ cQ S hk) (ci := 9) rfl x_in9 11 (by decide) (O.2 _ _ _ C.2.2.2.2.2 _ xl_X3_164) rfl hdg kk
theorem xl_X9_50 : Cond.fieldLink RX9 50 "GrottoHours$Town" "bound" "I" ∈ gT := gT_c1 146 rfl rfl
theorem xg_X9_50 (C : gC p s m args meth c cc nL RX9 ret D (xtys cI cB cZ cQ) xord g Am) (O : xO g cI cB cZ cQ Am) (X : gX D (xcell g cI cB cZ cQ) xord g S s H locs) (hk : xk k = 9) (hdg : decode cc pc = .ok (.getfield 50, 3)) (kk : W p l e R s m args below meth c H locs cs sl Q (F0 m (pc + 3) ls (.int (S k 12) :: rest))) : W p l e R s m args below meth c H locs cs sl Q (F0 m pc ls (.ref (g k) :: rest)) :=
  g_get C X (q := k) (k := k) (x_pos hk (by decide)) (x_c9 g cI cB cZ cQ S hk) (ci := 9) rfl x_in9 12 (by decide) xl_X9_50 rfl hdg kk
theorem xp_X9_50 (C : gC p s m args meth c cc nL RX9 ret D (xtys cI cB cZ cQ) xord g Am) (O : xO g cI cB cZ cQ Am) (X : gX D (xcell g cI cB cZ cQ) xord g S s H locs) (hk : xk k = 9) {x : Int32} (hS : S' = sU S k 12 x) (hdg : decode cc pc = .ok (.putfield 50, 3)) (kk : ∀ (H1 : Heap) (locs1 : List Loc), gX D (xcell g cI cB cZ cQ) xord g S' s H1 locs1 → W p l e R s m args below meth c H1 locs1 cs sl Q (F0 m (pc + 3) ls rest)) : W p l e R s m args below meth c H locs cs sl Q (F0 m pc ls (.int x :: .ref (g k) :: rest)) := by
  subst hS
  exact g_put C O.1 X (q := k) (k := k) (x_pos hk (by decide)) (x_c9 g cI cB cZ cQ S hk) (ci := 9) rfl x_in9 tyX9 tyX9_ok nmX9 12 (by decide) xl_X9_50 rfl rfl rfl (Nat.le_of_ble_eq_true rfl) (fun i h => sU_ne h) (by rw [x_c9 g cI cB cZ cQ _ hk, sU_eq]; rfl) hdg kk
theorem xl_X3_169 : Cond.fieldLinkNest RX3 169 "GrottoHours$Town" "bound" "I" "GrottoHours" ∈ xNest := List.mem_of_getElem? (i := 40) rfl
theorem xg_X3_169 (C : gC p s m args meth c cc nL RX3 ret D (xtys cI cB cZ cQ) xord g Am) (O : xO g cI cB cZ cQ Am) (X : gX D (xcell g cI cB cZ cQ) xord g S s H locs) (hk : xk k = 9) (hdg : decode cc pc = .ok (.getfield 169, 3)) (kk : W p l e R s m args below meth c H locs cs sl Q (F0 m (pc + 3) ls (.int (S k 12) :: rest))) : W p l e R s m args below meth c H locs cs sl Q (F0 m pc ls (.ref (g k) :: rest)) :=
  g_getN C X (q := k) (k := k) (x_pos hk (by decide)) (x_c9 g cI cB cZ cQ S hk) (ci := 9) rfl x_in9 12 (by decide) (O.2 _ _ _ C.2.2.2.2.2 _ xl_X3_169) rfl hdg kk
theorem xp_X3_169 (C : gC p s m args meth c cc nL RX3 ret D (xtys cI cB cZ cQ) xord g Am) (O : xO g cI cB cZ cQ Am) (X : gX D (xcell g cI cB cZ cQ) xord g S s H locs) (hk : xk k = 9) {x : Int32} (hS : S' = sU S k 12 x) (hdg : decode cc pc = .ok (.putfield 169, 3)) (kk : ∀ (H1 : Heap) (locs1 : List Loc), gX D (xcell g cI cB cZ cQ) xord g S' s H1 locs1 → W p l e R s m args below meth c H1 locs1 cs sl Q (F0 m (pc + 3) ls rest)) : W p l e R s m args below meth c H locs cs sl Q (F0 m pc ls (.int x :: .ref (g k) :: rest)) := by
  subst hS
  exact g_putN C O.1 X (q := k) (k := k) (x_pos hk (by decide)) (x_c9 g cI cB cZ cQ S hk) (ci := 9) rfl x_in9 tyX9 tyX9_ok nmX9 12 (by decide) (O.2 _ _ _ C.2.2.2.2.2 _ xl_X3_169) rfl rfl rfl (Nat.le_of_ble_eq_true rfl) (fun i h => sU_ne h) (by rw [x_c9 g cI cB cZ cQ _ hk, sU_eq]; rfl) hdg kk
theorem xl_X9_58 : Cond.fieldLink RX9 58 "GrottoHours$Town" "prays" "LGrottoHours$Rule;" ∈ gT := gT_c1 148 rfl rfl
theorem xg_X9_58 (C : gC p s m args meth c cc nL RX9 ret D (xtys cI cB cZ cQ) xord g Am) (O : xO g cI cB cZ cQ Am) (X : gX D (xcell g cI cB cZ cQ) xord g S s H locs) (hk : xk k = 9) {j : Nat} (hj : k + 10 = j) (hdg : decode cc pc = .ok (.getfield 58, 3)) (kk : W p l e R s m args below meth c H locs cs sl Q (F0 m (pc + 3) ls (.ref (g j) :: rest))) : W p l e R s m args below meth c H locs cs sl Q (F0 m pc ls (.ref (g k) :: rest)) := by
  subst hj
  exact g_get C X (q := k) (k := k) (x_pos hk (by decide)) (x_c9 g cI cB cZ cQ S hk) (ci := 9) rfl x_in9 13 (by decide) xl_X9_58 rfl hdg kk
theorem xl_X3_102 : Cond.fieldLinkNest RX3 102 "GrottoHours$Town" "prays" "LGrottoHours$Rule;" "GrottoHours" ∈ xNest := List.mem_of_getElem? (i := 41) rfl
theorem xg_X3_102 (C : gC p s m args meth c cc nL RX3 ret D (xtys cI cB cZ cQ) xord g Am) (O : xO g cI cB cZ cQ Am) (X : gX D (xcell g cI cB cZ cQ) xord g S s H locs) (hk : xk k = 9) {j : Nat} (hj : k + 10 = j) (hdg : decode cc pc = .ok (.getfield 102, 3)) (kk : W p l e R s m args below meth c H locs cs sl Q (F0 m (pc + 3) ls (.ref (g j) :: rest))) : W p l e R s m args below meth c H locs cs sl Q (F0 m pc ls (.ref (g k) :: rest)) := by
  subst hj
  exact g_getN C X (q := k) (k := k) (x_pos hk (by decide)) (x_c9 g cI cB cZ cQ S hk) (ci := 9) rfl x_in9 13 (by decide) (O.2 _ _ _ C.2.2.2.2.2 _ xl_X3_102) rfl hdg kk
theorem xl_X10_117 : Cond.fieldLinkNest RX10 117 "GrottoHours$Town" "prays" "LGrottoHours$Rule;" "GrottoHours" ∈ xNest := List.mem_of_getElem? (i := 42) rfl
theorem xg_X10_117 (C : gC p s m args meth c cc nL RX10 ret D (xtys cI cB cZ cQ) xord g Am) (O : xO g cI cB cZ cQ Am) (X : gX D (xcell g cI cB cZ cQ) xord g S s H locs) (hk : xk k = 9) {j : Nat} (hj : k + 10 = j) (hdg : decode cc pc = .ok (.getfield 117, 3)) (kk : W p l e R s m args below meth c H locs cs sl Q (F0 m (pc + 3) ls (.ref (g j) :: rest))) : W p l e R s m args below meth c H locs cs sl Q (F0 m pc ls (.ref (g k) :: rest)) := by
  subst hj
  exact g_getN C X (q := k) (k := k) (x_pos hk (by decide)) (x_c9 g cI cB cZ cQ S hk) (ci := 9) rfl x_in9 13 (by decide) (O.2 _ _ _ C.2.2.2.2.2 _ xl_X10_117) rfl hdg kk
theorem xl_X11_304 : Cond.fieldLinkNest RX11 304 "GrottoHours$Town" "prays" "LGrottoHours$Rule;" "GrottoHours" ∈ xNest := List.mem_of_getElem? (i := 43) rfl
theorem xg_X11_304 (C : gC p s m args meth c cc nL RX11 ret D (xtys cI cB cZ cQ) xord g Am) (O : xO g cI cB cZ cQ Am) (X : gX D (xcell g cI cB cZ cQ) xord g S s H locs) (hk : xk k = 9) {j : Nat} (hj : k + 10 = j) (hdg : decode cc pc = .ok (.getfield 304, 3)) (kk : W p l e R s m args below meth c H locs cs sl Q (F0 m (pc + 3) ls (.ref (g j) :: rest))) : W p l e R s m args below meth c H locs cs sl Q (F0 m pc ls (.ref (g k) :: rest)) := by
  subst hj
  exact g_getN C X (q := k) (k := k) (x_pos hk (by decide)) (x_c9 g cI cB cZ cQ S hk) (ci := 9) rfl x_in9 13 (by decide) (O.2 _ _ _ C.2.2.2.2.2 _ xl_X11_304) rfl hdg kk
theorem xl_X9_62 : Cond.fieldLink RX9 62 "GrottoHours$Town" "costs" "LGrottoHours$Rule;" ∈ gT := gT_c1 152 rfl rfl
theorem xg_X9_62 (C : gC p s m args meth c cc nL RX9 ret D (xtys cI cB cZ cQ) xord g Am) (O : xO g cI cB cZ cQ Am) (X : gX D (xcell g cI cB cZ cQ) xord g S s H locs) (hk : xk k = 9) {j : Nat} (hj : k + 13 = j) (hdg : decode cc pc = .ok (.getfield 62, 3)) (kk : W p l e R s m args below meth c H locs cs sl Q (F0 m (pc + 3) ls (.ref (g j) :: rest))) : W p l e R s m args below meth c H locs cs sl Q (F0 m pc ls (.ref (g k) :: rest)) := by
  subst hj
  exact g_get C X (q := k) (k := k) (x_pos hk (by decide)) (x_c9 g cI cB cZ cQ S hk) (ci := 9) rfl x_in9 14 (by decide) xl_X9_62 rfl hdg kk
theorem xl_X10_94 : Cond.fieldLinkNest RX10 94 "GrottoHours$Town" "costs" "LGrottoHours$Rule;" "GrottoHours" ∈ xNest := List.mem_of_getElem? (i := 44) rfl
theorem xg_X10_94 (C : gC p s m args meth c cc nL RX10 ret D (xtys cI cB cZ cQ) xord g Am) (O : xO g cI cB cZ cQ Am) (X : gX D (xcell g cI cB cZ cQ) xord g S s H locs) (hk : xk k = 9) {j : Nat} (hj : k + 13 = j) (hdg : decode cc pc = .ok (.getfield 94, 3)) (kk : W p l e R s m args below meth c H locs cs sl Q (F0 m (pc + 3) ls (.ref (g j) :: rest))) : W p l e R s m args below meth c H locs cs sl Q (F0 m pc ls (.ref (g k) :: rest)) := by
  subst hj
  exact g_getN C X (q := k) (k := k) (x_pos hk (by decide)) (x_c9 g cI cB cZ cQ S hk) (ci := 9) rfl x_in9 14 (by decide) (O.2 _ _ _ C.2.2.2.2.2 _ xl_X10_94) rfl hdg kk
theorem xl_X3_111 : Cond.fieldLinkNest RX3 111 "GrottoHours$Town" "costs" "LGrottoHours$Rule;" "GrottoHours" ∈ xNest := List.mem_of_getElem? (i := 45) rfl
theorem xg_X3_111 (C : gC p s m args meth c cc nL RX3 ret D (xtys cI cB cZ cQ) xord g Am) (O : xO g cI cB cZ cQ Am) (X : gX D (xcell g cI cB cZ cQ) xord g S s H locs) (hk : xk k = 9) {j : Nat} (hj : k + 13 = j) (hdg : decode cc pc = .ok (.getfield 111, 3)) (kk : W p l e R s m args below meth c H locs cs sl Q (F0 m (pc + 3) ls (.ref (g j) :: rest))) : W p l e R s m args below meth c H locs cs sl Q (F0 m pc ls (.ref (g k) :: rest)) := by
  subst hj
  exact g_getN C X (q := k) (k := k) (x_pos hk (by decide)) (x_c9 g cI cB cZ cQ S hk) (ci := 9) rfl x_in9 14 (by decide) (O.2 _ _ _ C.2.2.2.2.2 _ xl_X3_111) rfl hdg kk
theorem xl_X11_313 : Cond.fieldLinkNest RX11 313 "GrottoHours$Town" "costs" "LGrottoHours$Rule;" "GrottoHours" ∈ xNest := List.mem_of_getElem? (i := 46) rfl
theorem xg_X11_313 (C : gC p s m args meth c cc nL RX11 ret D (xtys cI cB cZ cQ) xord g Am) (O : xO g cI cB cZ cQ Am) (X : gX D (xcell g cI cB cZ cQ) xord g S s H locs) (hk : xk k = 9) {j : Nat} (hj : k + 13 = j) (hdg : decode cc pc = .ok (.getfield 313, 3)) (kk : W p l e R s m args below meth c H locs cs sl Q (F0 m (pc + 3) ls (.ref (g j) :: rest))) : W p l e R s m args below meth c H locs cs sl Q (F0 m pc ls (.ref (g k) :: rest)) := by
  subst hj
  exact g_getN C X (q := k) (k := k) (x_pos hk (by decide)) (x_c9 g cI cB cZ cQ S hk) (ci := 9) rfl x_in9 14 (by decide) (O.2 _ _ _ C.2.2.2.2.2 _ xl_X11_313) rfl hdg kk
theorem xl_X3_12 : Cond.fieldLink RX3 12 "GrottoHours$Reader" "tape" "LGrottoHours$Tape;" ∈ gT := gT_c1 187 rfl rfl
theorem xg_X3_12 (C : gC p s m args meth c cc nL RX3 ret D (xtys cI cB cZ cQ) xord g Am) (O : xO g cI cB cZ cQ Am) (X : gX D (xcell g cI cB cZ cQ) xord g S s H locs) (hk : xk k = 3) {j : Nat} (hj : k + 1 = j) (hdg : decode cc pc = .ok (.getfield 12, 3)) (kk : W p l e R s m args below meth c H locs cs sl Q (F0 m (pc + 3) ls (.ref (g j) :: rest))) : W p l e R s m args below meth c H locs cs sl Q (F0 m pc ls (.ref (g k) :: rest)) := by
  subst hj
  exact g_get C X (q := k) (k := k) (x_pos hk (by decide)) (x_c3 g cI cB cZ cQ S hk) (ci := 3) rfl x_in3 0 (by decide) xl_X3_12 rfl hdg kk
theorem xl_X11_69 : Cond.fieldLinkNest RX11 69 "GrottoHours$Reader" "tape" "LGrottoHours$Tape;" "GrottoHours" ∈ xNest := List.mem_of_getElem? (i := 47) rfl
theorem xg_X11_69 (C : gC p s m args meth c cc nL RX11 ret D (xtys cI cB cZ cQ) xord g Am) (O : xO g cI cB cZ cQ Am) (X : gX D (xcell g cI cB cZ cQ) xord g S s H locs) (hk : xk k = 3) {j : Nat} (hj : k + 1 = j) (hdg : decode cc pc = .ok (.getfield 69, 3)) (kk : W p l e R s m args below meth c H locs cs sl Q (F0 m (pc + 3) ls (.ref (g j) :: rest))) : W p l e R s m args below meth c H locs cs sl Q (F0 m pc ls (.ref (g k) :: rest)) := by
  subst hj
  exact g_getN C X (q := k) (k := k) (x_pos hk (by decide)) (x_c3 g cI cB cZ cQ S hk) (ci := 3) rfl x_in3 0 (by decide) (O.2 _ _ _ C.2.2.2.2.2 _ xl_X11_69) rfl hdg kk
theorem xl_X3_21 : Cond.fieldLink RX3 21 "GrottoHours$Reader" "draft" "LGrottoHours$Town;" ∈ gT := gT_c1 189 rfl rfl
theorem xg_X3_21 (C : gC p s m args meth c cc nL RX3 ret D (xtys cI cB cZ cQ) xord g Am) (O : xO g cI cB cZ cQ Am) (X : gX D (xcell g cI cB cZ cQ) xord g S s H locs) {T : Nat} (hT : T = xdr S) (hk : xk k = 3) (hdg : decode cc pc = .ok (.getfield 21, 3)) (kk : W p l e R s m args below meth c H locs cs sl Q (F0 m (pc + 3) ls (.ref (g T) :: rest))) : W p l e R s m args below meth c H locs cs sl Q (F0 m pc ls (.ref (g k) :: rest)) := by
  have hk0 : k = 1 := x_all (P := fun k => k = 1) (by decide) (by decide) hk
  subst hk0
  subst hT
  exact g_get C X (q := 1) (k := 1) rfl (x_c3 g cI cB cZ cQ S (k := 1) rfl) (ci := 3) rfl x_in3 1 (by decide) xl_X3_21 rfl hdg kk
theorem xp_X3_21 (C : gC p s m args meth c cc nL RX3 ret D (xtys cI cB cZ cQ) xord g Am) (O : xO g cI cB cZ cQ Am) (X : gX D (xcell g cI cB cZ cQ) xord g S s H locs) {T : Nat} (hT : xk T = 9) (hk : xk k = 3) (hS : S' = sU S 1 1 (if T = 4 then 0 else 1)) (hdg : decode cc pc = .ok (.putfield 21, 3)) (kk : ∀ (H1 : Heap) (locs1 : List Loc), gX D (xcell g cI cB cZ cQ) xord g S' s H1 locs1 → W p l e R s m args below meth c H1 locs1 cs sl Q (F0 m (pc + 3) ls rest)) : W p l e R s m args below meth c H locs cs sl Q (F0 m pc ls (.ref (g T) :: .ref (g k) :: rest)) := by
  have hk0 : k = 1 := x_all (P := fun k => k = 1) (by decide) (by decide) hk
  subst hk0
  subst hS
  have hT2 : T = 4 ∨ T = 72 := x_all (P := fun k => k = 4 ∨ k = 72) (by decide) (by decide) hT
  rcases hT2 with rfl | rfl
  · exact g_put C O.1 X (q := 1) (k := 1) rfl (x_c3 g cI cB cZ cQ S (k := 1) rfl) (ci := 3) rfl x_in3 tyX3 tyX3_ok nmX3 1 (by decide) xl_X3_21 rfl rfl rfl (Nat.le_of_ble_eq_true rfl) (fun i h => sU_ne h) rfl hdg kk
  · exact g_put C O.1 X (q := 1) (k := 1) rfl (x_c3 g cI cB cZ cQ S (k := 1) rfl) (ci := 3) rfl x_in3 tyX3 tyX3_ok nmX3 1 (by decide) xl_X3_21 rfl rfl rfl (Nat.le_of_ble_eq_true rfl) (fun i h => sU_ne h) rfl hdg kk
theorem xl_X11_96 : Cond.fieldLinkNest RX11 96 "GrottoHours$Reader" "draft" "LGrottoHours$Town;" "GrottoHours" ∈ xNest := List.mem_of_getElem? (i := 48) rfl
theorem xg_X11_96 (C : gC p s m args meth c cc nL RX11 ret D (xtys cI cB cZ cQ) xord g Am) (O : xO g cI cB cZ cQ Am) (X : gX D (xcell g cI cB cZ cQ) xord g S s H locs) {T : Nat} (hT : T = xdr S) (hk : xk k = 3) (hdg : decode cc pc = .ok (.getfield 96, 3)) (kk : W p l e R s m args below meth c H locs cs sl Q (F0 m (pc + 3) ls (.ref (g T) :: rest))) : W p l e R s m args below meth c H locs cs sl Q (F0 m pc ls (.ref (g k) :: rest)) := by
  have hk0 : k = 1 := x_all (P := fun k => k = 1) (by decide) (by decide) hk
  subst hk0
  subst hT
  exact g_getN C X (q := 1) (k := 1) rfl (x_c3 g cI cB cZ cQ S (k := 1) rfl) (ci := 3) rfl x_in3 1 (by decide) (O.2 _ _ _ C.2.2.2.2.2 _ xl_X11_96) rfl hdg kk
theorem xp_X11_96 (C : gC p s m args meth c cc nL RX11 ret D (xtys cI cB cZ cQ) xord g Am) (O : xO g cI cB cZ cQ Am) (X : gX D (xcell g cI cB cZ cQ) xord g S s H locs) {T : Nat} (hT : xk T = 9) (hk : xk k = 3) (hS : S' = sU S 1 1 (if T = 4 then 0 else 1)) (hdg : decode cc pc = .ok (.putfield 96, 3)) (kk : ∀ (H1 : Heap) (locs1 : List Loc), gX D (xcell g cI cB cZ cQ) xord g S' s H1 locs1 → W p l e R s m args below meth c H1 locs1 cs sl Q (F0 m (pc + 3) ls rest)) : W p l e R s m args below meth c H locs cs sl Q (F0 m pc ls (.ref (g T) :: .ref (g k) :: rest)) := by
  have hk0 : k = 1 := x_all (P := fun k => k = 1) (by decide) (by decide) hk
  subst hk0
  subst hS
  have hT2 : T = 4 ∨ T = 72 := x_all (P := fun k => k = 4 ∨ k = 72) (by decide) (by decide) hT
  rcases hT2 with rfl | rfl
  · exact g_putN C O.1 X (q := 1) (k := 1) rfl (x_c3 g cI cB cZ cQ S (k := 1) rfl) (ci := 3) rfl x_in3 tyX3 tyX3_ok nmX3 1 (by decide) (O.2 _ _ _ C.2.2.2.2.2 _ xl_X11_96) rfl rfl rfl (Nat.le_of_ble_eq_true rfl) (fun i h => sU_ne h) rfl hdg kk
  · exact g_putN C O.1 X (q := 1) (k := 1) rfl (x_c3 g cI cB cZ cQ S (k := 1) rfl) (ci := 3) rfl x_in3 tyX3 tyX3_ok nmX3 1 (by decide) (O.2 _ _ _ C.2.2.2.2.2 _ xl_X11_96) rfl rfl rfl (Nat.le_of_ble_eq_true rfl) (fun i h => sU_ne h) rfl hdg kk
theorem xl_X3_25 : Cond.fieldLink RX3 25 "GrottoHours$Reader" "faultKind" "I" ∈ gT := gT_c1 191 rfl rfl
theorem xg_X3_25 (C : gC p s m args meth c cc nL RX3 ret D (xtys cI cB cZ cQ) xord g Am) (O : xO g cI cB cZ cQ Am) (X : gX D (xcell g cI cB cZ cQ) xord g S s H locs) (hk : xk k = 3) (hdg : decode cc pc = .ok (.getfield 25, 3)) (kk : W p l e R s m args below meth c H locs cs sl Q (F0 m (pc + 3) ls (.int (S k 2) :: rest))) : W p l e R s m args below meth c H locs cs sl Q (F0 m pc ls (.ref (g k) :: rest)) :=
  g_get C X (q := k) (k := k) (x_pos hk (by decide)) (x_c3 g cI cB cZ cQ S hk) (ci := 3) rfl x_in3 2 (by decide) xl_X3_25 rfl hdg kk
theorem xp_X3_25 (C : gC p s m args meth c cc nL RX3 ret D (xtys cI cB cZ cQ) xord g Am) (O : xO g cI cB cZ cQ Am) (X : gX D (xcell g cI cB cZ cQ) xord g S s H locs) (hk : xk k = 3) {x : Int32} (hS : S' = sU S k 2 x) (hdg : decode cc pc = .ok (.putfield 25, 3)) (kk : ∀ (H1 : Heap) (locs1 : List Loc), gX D (xcell g cI cB cZ cQ) xord g S' s H1 locs1 → W p l e R s m args below meth c H1 locs1 cs sl Q (F0 m (pc + 3) ls rest)) : W p l e R s m args below meth c H locs cs sl Q (F0 m pc ls (.int x :: .ref (g k) :: rest)) := by
  subst hS
  exact g_put C O.1 X (q := k) (k := k) (x_pos hk (by decide)) (x_c3 g cI cB cZ cQ S hk) (ci := 3) rfl x_in3 tyX3 tyX3_ok nmX3 2 (by decide) xl_X3_25 rfl rfl rfl (Nat.le_of_ble_eq_true rfl) (fun i h => sU_ne h) (by rw [x_c3 g cI cB cZ cQ _ hk, sU_eq]; rfl) hdg kk
theorem xl_X3_29 : Cond.fieldLink RX3 29 "GrottoHours$Reader" "faultPlace" "I" ∈ gT := gT_c1 192 rfl rfl
theorem xg_X3_29 (C : gC p s m args meth c cc nL RX3 ret D (xtys cI cB cZ cQ) xord g Am) (O : xO g cI cB cZ cQ Am) (X : gX D (xcell g cI cB cZ cQ) xord g S s H locs) (hk : xk k = 3) (hdg : decode cc pc = .ok (.getfield 29, 3)) (kk : W p l e R s m args below meth c H locs cs sl Q (F0 m (pc + 3) ls (.int (S k 3) :: rest))) : W p l e R s m args below meth c H locs cs sl Q (F0 m pc ls (.ref (g k) :: rest)) :=
  g_get C X (q := k) (k := k) (x_pos hk (by decide)) (x_c3 g cI cB cZ cQ S hk) (ci := 3) rfl x_in3 3 (by decide) xl_X3_29 rfl hdg kk
theorem xp_X3_29 (C : gC p s m args meth c cc nL RX3 ret D (xtys cI cB cZ cQ) xord g Am) (O : xO g cI cB cZ cQ Am) (X : gX D (xcell g cI cB cZ cQ) xord g S s H locs) (hk : xk k = 3) {x : Int32} (hS : S' = sU S k 3 x) (hdg : decode cc pc = .ok (.putfield 29, 3)) (kk : ∀ (H1 : Heap) (locs1 : List Loc), gX D (xcell g cI cB cZ cQ) xord g S' s H1 locs1 → W p l e R s m args below meth c H1 locs1 cs sl Q (F0 m (pc + 3) ls rest)) : W p l e R s m args below meth c H locs cs sl Q (F0 m pc ls (.int x :: .ref (g k) :: rest)) := by
  subst hS
  exact g_put C O.1 X (q := k) (k := k) (x_pos hk (by decide)) (x_c3 g cI cB cZ cQ S hk) (ci := 3) rfl x_in3 tyX3 tyX3_ok nmX3 3 (by decide) xl_X3_29 rfl rfl rfl (Nat.le_of_ble_eq_true rfl) (fun i h => sU_ne h) (by rw [x_c3 g cI cB cZ cQ _ hk, sU_eq]; rfl) hdg kk
theorem xl_X11_102 : Cond.fieldLinkNest RX11 102 "GrottoHours$Reader" "faultPlace" "I" "GrottoHours" ∈ xNest := List.mem_of_getElem? (i := 49) rfl
theorem xg_X11_102 (C : gC p s m args meth c cc nL RX11 ret D (xtys cI cB cZ cQ) xord g Am) (O : xO g cI cB cZ cQ Am) (X : gX D (xcell g cI cB cZ cQ) xord g S s H locs) (hk : xk k = 3) (hdg : decode cc pc = .ok (.getfield 102, 3)) (kk : W p l e R s m args below meth c H locs cs sl Q (F0 m (pc + 3) ls (.int (S k 3) :: rest))) : W p l e R s m args below meth c H locs cs sl Q (F0 m pc ls (.ref (g k) :: rest)) :=
  g_getN C X (q := k) (k := k) (x_pos hk (by decide)) (x_c3 g cI cB cZ cQ S hk) (ci := 3) rfl x_in3 3 (by decide) (O.2 _ _ _ C.2.2.2.2.2 _ xl_X11_102) rfl hdg kk
theorem xp_X11_102 (C : gC p s m args meth c cc nL RX11 ret D (xtys cI cB cZ cQ) xord g Am) (O : xO g cI cB cZ cQ Am) (X : gX D (xcell g cI cB cZ cQ) xord g S s H locs) (hk : xk k = 3) {x : Int32} (hS : S' = sU S k 3 x) (hdg : decode cc pc = .ok (.putfield 102, 3)) (kk : ∀ (H1 : Heap) (locs1 : List Loc), gX D (xcell g cI cB cZ cQ) xord g S' s H1 locs1 → W p l e R s m args below meth c H1 locs1 cs sl Q (F0 m (pc + 3) ls rest)) : W p l e R s m args below meth c H locs cs sl Q (F0 m pc ls (.int x :: .ref (g k) :: rest)) := by
  subst hS
  exact g_putN C O.1 X (q := k) (k := k) (x_pos hk (by decide)) (x_c3 g cI cB cZ cQ S hk) (ci := 3) rfl x_in3 tyX3 tyX3_ok nmX3 3 (by decide) (O.2 _ _ _ C.2.2.2.2.2 _ xl_X11_102) rfl rfl rfl (Nat.le_of_ble_eq_true rfl) (fun i h => sU_ne h) (by rw [x_c3 g cI cB cZ cQ _ hk, sU_eq]; rfl) hdg kk
theorem xl_X7_9 : Cond.fieldLink RX7 9 "GrottoHours$State" "hour" "I" ∈ gT := gT_c1 215 rfl rfl
theorem xg_X7_9 (C : gC p s m args meth c cc nL RX7 ret D (xtys cI cB cZ cQ) xord g Am) (O : xO g cI cB cZ cQ Am) (X : gX D (xcell g cI cB cZ cQ) xord g S s H locs) (hk : xk k = 7) (hdg : decode cc pc = .ok (.getfield 9, 3)) (kk : W p l e R s m args below meth c H locs cs sl Q (F0 m (pc + 3) ls (.int (S k 0) :: rest))) : W p l e R s m args below meth c H locs cs sl Q (F0 m pc ls (.ref (g k) :: rest)) :=
  g_get C X (q := k) (k := k) (x_pos hk (by decide)) (x_c7 g cI cB cZ cQ S hk) (ci := 7) rfl x_in7 0 (by decide) xl_X7_9 rfl hdg kk
theorem xp_X7_9 (C : gC p s m args meth c cc nL RX7 ret D (xtys cI cB cZ cQ) xord g Am) (O : xO g cI cB cZ cQ Am) (X : gX D (xcell g cI cB cZ cQ) xord g S s H locs) (hk : xk k = 7) {x : Int32} (hS : S' = sU S k 0 x) (hdg : decode cc pc = .ok (.putfield 9, 3)) (kk : ∀ (H1 : Heap) (locs1 : List Loc), gX D (xcell g cI cB cZ cQ) xord g S' s H1 locs1 → W p l e R s m args below meth c H1 locs1 cs sl Q (F0 m (pc + 3) ls rest)) : W p l e R s m args below meth c H locs cs sl Q (F0 m pc ls (.int x :: .ref (g k) :: rest)) := by
  subst hS
  exact g_put C O.1 X (q := k) (k := k) (x_pos hk (by decide)) (x_c7 g cI cB cZ cQ S hk) (ci := 7) rfl x_in7 tyX7 tyX7_ok nmX7 0 (by decide) xl_X7_9 rfl rfl rfl (Nat.le_of_ble_eq_true rfl) (fun i h => sU_ne h) (by rw [x_c7 g cI cB cZ cQ _ hk, sU_eq]; rfl) hdg kk
theorem xl_X10_55 : Cond.fieldLinkNest RX10 55 "GrottoHours$State" "hour" "I" "GrottoHours" ∈ xNest := List.mem_of_getElem? (i := 52) rfl
theorem xg_X10_55 (C : gC p s m args meth c cc nL RX10 ret D (xtys cI cB cZ cQ) xord g Am) (O : xO g cI cB cZ cQ Am) (X : gX D (xcell g cI cB cZ cQ) xord g S s H locs) (hk : xk k = 7) (hdg : decode cc pc = .ok (.getfield 55, 3)) (kk : W p l e R s m args below meth c H locs cs sl Q (F0 m (pc + 3) ls (.int (S k 0) :: rest))) : W p l e R s m args below meth c H locs cs sl Q (F0 m pc ls (.ref (g k) :: rest)) :=
  g_getN C X (q := k) (k := k) (x_pos hk (by decide)) (x_c7 g cI cB cZ cQ S hk) (ci := 7) rfl x_in7 0 (by decide) (O.2 _ _ _ C.2.2.2.2.2 _ xl_X10_55) rfl hdg kk
theorem xp_X10_55 (C : gC p s m args meth c cc nL RX10 ret D (xtys cI cB cZ cQ) xord g Am) (O : xO g cI cB cZ cQ Am) (X : gX D (xcell g cI cB cZ cQ) xord g S s H locs) (hk : xk k = 7) {x : Int32} (hS : S' = sU S k 0 x) (hdg : decode cc pc = .ok (.putfield 55, 3)) (kk : ∀ (H1 : Heap) (locs1 : List Loc), gX D (xcell g cI cB cZ cQ) xord g S' s H1 locs1 → W p l e R s m args below meth c H1 locs1 cs sl Q (F0 m (pc + 3) ls rest)) : W p l e R s m args below meth c H locs cs sl Q (F0 m pc ls (.int x :: .ref (g k) :: rest)) := by
  subst hS
  exact g_putN C O.1 X (q := k) (k := k) (x_pos hk (by decide)) (x_c7 g cI cB cZ cQ S hk) (ci := 7) rfl x_in7 tyX7 tyX7_ok nmX7 0 (by decide) (O.2 _ _ _ C.2.2.2.2.2 _ xl_X10_55) rfl rfl rfl (Nat.le_of_ble_eq_true rfl) (fun i h => sU_ne h) (by rw [x_c7 g cI cB cZ cQ _ hk, sU_eq]; rfl) hdg kk
theorem xl_X11_114 : Cond.fieldLinkNest RX11 114 "GrottoHours$State" "hour" "I" "GrottoHours" ∈ xNest := List.mem_of_getElem? (i := 53) rfl
theorem xg_X11_114 (C : gC p s m args meth c cc nL RX11 ret D (xtys cI cB cZ cQ) xord g Am) (O : xO g cI cB cZ cQ Am) (X : gX D (xcell g cI cB cZ cQ) xord g S s H locs) (hk : xk k = 7) (hdg : decode cc pc = .ok (.getfield 114, 3)) (kk : W p l e R s m args below meth c H locs cs sl Q (F0 m (pc + 3) ls (.int (S k 0) :: rest))) : W p l e R s m args below meth c H locs cs sl Q (F0 m pc ls (.ref (g k) :: rest)) :=
  g_getN C X (q := k) (k := k) (x_pos hk (by decide)) (x_c7 g cI cB cZ cQ S hk) (ci := 7) rfl x_in7 0 (by decide) (O.2 _ _ _ C.2.2.2.2.2 _ xl_X11_114) rfl hdg kk
theorem xp_X11_114 (C : gC p s m args meth c cc nL RX11 ret D (xtys cI cB cZ cQ) xord g Am) (O : xO g cI cB cZ cQ Am) (X : gX D (xcell g cI cB cZ cQ) xord g S s H locs) (hk : xk k = 7) {x : Int32} (hS : S' = sU S k 0 x) (hdg : decode cc pc = .ok (.putfield 114, 3)) (kk : ∀ (H1 : Heap) (locs1 : List Loc), gX D (xcell g cI cB cZ cQ) xord g S' s H1 locs1 → W p l e R s m args below meth c H1 locs1 cs sl Q (F0 m (pc + 3) ls rest)) : W p l e R s m args below meth c H locs cs sl Q (F0 m pc ls (.int x :: .ref (g k) :: rest)) := by
  subst hS
  exact g_putN C O.1 X (q := k) (k := k) (x_pos hk (by decide)) (x_c7 g cI cB cZ cQ S hk) (ci := 7) rfl x_in7 tyX7 tyX7_ok nmX7 0 (by decide) (O.2 _ _ _ C.2.2.2.2.2 _ xl_X11_114) rfl rfl rfl (Nat.le_of_ble_eq_true rfl) (fun i h => sU_ne h) (by rw [x_c7 g cI cB cZ cQ _ hk, sU_eq]; rfl) hdg kk
theorem xl_X7_15 : Cond.fieldLink RX7 15 "GrottoHours$State" "drained" "I" ∈ gT := gT_c1 218 rfl rfl
theorem xg_X7_15 (C : gC p s m args meth c cc nL RX7 ret D (xtys cI cB cZ cQ) xord g Am) (O : xO g cI cB cZ cQ Am) (X : gX D (xcell g cI cB cZ cQ) xord g S s H locs) (hk : xk k = 7) (hdg : decode cc pc = .ok (.getfield 15, 3)) (kk : W p l e R s m args below meth c H locs cs sl Q (F0 m (pc + 3) ls (.int (S k 1) :: rest))) : W p l e R s m args below meth c H locs cs sl Q (F0 m pc ls (.ref (g k) :: rest)) :=
  g_get C X (q := k) (k := k) (x_pos hk (by decide)) (x_c7 g cI cB cZ cQ S hk) (ci := 7) rfl x_in7 1 (by decide) xl_X7_15 rfl hdg kk
theorem xp_X7_15 (C : gC p s m args meth c cc nL RX7 ret D (xtys cI cB cZ cQ) xord g Am) (O : xO g cI cB cZ cQ Am) (X : gX D (xcell g cI cB cZ cQ) xord g S s H locs) (hk : xk k = 7) {x : Int32} (hS : S' = sU S k 1 x) (hdg : decode cc pc = .ok (.putfield 15, 3)) (kk : ∀ (H1 : Heap) (locs1 : List Loc), gX D (xcell g cI cB cZ cQ) xord g S' s H1 locs1 → W p l e R s m args below meth c H1 locs1 cs sl Q (F0 m (pc + 3) ls rest)) : W p l e R s m args below meth c H locs cs sl Q (F0 m pc ls (.int x :: .ref (g k) :: rest)) := by
  subst hS
  exact g_put C O.1 X (q := k) (k := k) (x_pos hk (by decide)) (x_c7 g cI cB cZ cQ S hk) (ci := 7) rfl x_in7 tyX7 tyX7_ok nmX7 1 (by decide) xl_X7_15 rfl rfl rfl (Nat.le_of_ble_eq_true rfl) (fun i h => sU_ne h) (by rw [x_c7 g cI cB cZ cQ _ hk, sU_eq]; rfl) hdg kk
theorem xl_X10_60 : Cond.fieldLinkNest RX10 60 "GrottoHours$State" "drained" "I" "GrottoHours" ∈ xNest := List.mem_of_getElem? (i := 54) rfl
theorem xg_X10_60 (C : gC p s m args meth c cc nL RX10 ret D (xtys cI cB cZ cQ) xord g Am) (O : xO g cI cB cZ cQ Am) (X : gX D (xcell g cI cB cZ cQ) xord g S s H locs) (hk : xk k = 7) (hdg : decode cc pc = .ok (.getfield 60, 3)) (kk : W p l e R s m args below meth c H locs cs sl Q (F0 m (pc + 3) ls (.int (S k 1) :: rest))) : W p l e R s m args below meth c H locs cs sl Q (F0 m pc ls (.ref (g k) :: rest)) :=
  g_getN C X (q := k) (k := k) (x_pos hk (by decide)) (x_c7 g cI cB cZ cQ S hk) (ci := 7) rfl x_in7 1 (by decide) (O.2 _ _ _ C.2.2.2.2.2 _ xl_X10_60) rfl hdg kk
theorem xp_X10_60 (C : gC p s m args meth c cc nL RX10 ret D (xtys cI cB cZ cQ) xord g Am) (O : xO g cI cB cZ cQ Am) (X : gX D (xcell g cI cB cZ cQ) xord g S s H locs) (hk : xk k = 7) {x : Int32} (hS : S' = sU S k 1 x) (hdg : decode cc pc = .ok (.putfield 60, 3)) (kk : ∀ (H1 : Heap) (locs1 : List Loc), gX D (xcell g cI cB cZ cQ) xord g S' s H1 locs1 → W p l e R s m args below meth c H1 locs1 cs sl Q (F0 m (pc + 3) ls rest)) : W p l e R s m args below meth c H locs cs sl Q (F0 m pc ls (.int x :: .ref (g k) :: rest)) := by
  subst hS
  exact g_putN C O.1 X (q := k) (k := k) (x_pos hk (by decide)) (x_c7 g cI cB cZ cQ S hk) (ci := 7) rfl x_in7 tyX7 tyX7_ok nmX7 1 (by decide) (O.2 _ _ _ C.2.2.2.2.2 _ xl_X10_60) rfl rfl rfl (Nat.le_of_ble_eq_true rfl) (fun i h => sU_ne h) (by rw [x_c7 g cI cB cZ cQ _ hk, sU_eq]; rfl) hdg kk
theorem xl_X11_128 : Cond.fieldLinkNest RX11 128 "GrottoHours$State" "drained" "I" "GrottoHours" ∈ xNest := List.mem_of_getElem? (i := 55) rfl
theorem xg_X11_128 (C : gC p s m args meth c cc nL RX11 ret D (xtys cI cB cZ cQ) xord g Am) (O : xO g cI cB cZ cQ Am) (X : gX D (xcell g cI cB cZ cQ) xord g S s H locs) (hk : xk k = 7) (hdg : decode cc pc = .ok (.getfield 128, 3)) (kk : W p l e R s m args below meth c H locs cs sl Q (F0 m (pc + 3) ls (.int (S k 1) :: rest))) : W p l e R s m args below meth c H locs cs sl Q (F0 m pc ls (.ref (g k) :: rest)) :=
  g_getN C X (q := k) (k := k) (x_pos hk (by decide)) (x_c7 g cI cB cZ cQ S hk) (ci := 7) rfl x_in7 1 (by decide) (O.2 _ _ _ C.2.2.2.2.2 _ xl_X11_128) rfl hdg kk
theorem xp_X11_128 (C : gC p s m args meth c cc nL RX11 ret D (xtys cI cB cZ cQ) xord g Am) (O : xO g cI cB cZ cQ Am) (X : gX D (xcell g cI cB cZ cQ) xord g S s H locs) (hk : xk k = 7) {x : Int32} (hS : S' = sU S k 1 x) (hdg : decode cc pc = .ok (.putfield 128, 3)) (kk : ∀ (H1 : Heap) (locs1 : List Loc), gX D (xcell g cI cB cZ cQ) xord g S' s H1 locs1 → W p l e R s m args below meth c H1 locs1 cs sl Q (F0 m (pc + 3) ls rest)) : W p l e R s m args below meth c H locs cs sl Q (F0 m pc ls (.int x :: .ref (g k) :: rest)) := by
  subst hS
  exact g_putN C O.1 X (q := k) (k := k) (x_pos hk (by decide)) (x_c7 g cI cB cZ cQ S hk) (ci := 7) rfl x_in7 tyX7 tyX7_ok nmX7 1 (by decide) (O.2 _ _ _ C.2.2.2.2.2 _ xl_X11_128) rfl rfl rfl (Nat.le_of_ble_eq_true rfl) (fun i h => sU_ne h) (by rw [x_c7 g cI cB cZ cQ _ hk, sU_eq]; rfl) hdg kk
theorem xl_X7_18 : Cond.fieldLink RX7 18 "GrottoHours$State" "sin" "[I" ∈ gT := gT_c1 221 rfl rfl
theorem xg_X7_18 (C : gC p s m args meth c cc nL RX7 ret D (xtys cI cB cZ cQ) xord g Am) (O : xO g cI cB cZ cQ Am) (X : gX D (xcell g cI cB cZ cQ) xord g S s H locs) (hk : xk k = 7) {j : Nat} (hj : k + 1 = j) (hdg : decode cc pc = .ok (.getfield 18, 3)) (kk : W p l e R s m args below meth c H locs cs sl Q (F0 m (pc + 3) ls (.ref (g j) :: rest))) : W p l e R s m args below meth c H locs cs sl Q (F0 m pc ls (.ref (g k) :: rest)) := by
  subst hj
  exact g_get C X (q := k) (k := k) (x_pos hk (by decide)) (x_c7 g cI cB cZ cQ S hk) (ci := 7) rfl x_in7 2 (by decide) xl_X7_18 rfl hdg kk
theorem xl_X10_45 : Cond.fieldLinkNest RX10 45 "GrottoHours$State" "sin" "[I" "GrottoHours" ∈ xNest := List.mem_of_getElem? (i := 56) rfl
theorem xg_X10_45 (C : gC p s m args meth c cc nL RX10 ret D (xtys cI cB cZ cQ) xord g Am) (O : xO g cI cB cZ cQ Am) (X : gX D (xcell g cI cB cZ cQ) xord g S s H locs) (hk : xk k = 7) {j : Nat} (hj : k + 1 = j) (hdg : decode cc pc = .ok (.getfield 45, 3)) (kk : W p l e R s m args below meth c H locs cs sl Q (F0 m (pc + 3) ls (.ref (g j) :: rest))) : W p l e R s m args below meth c H locs cs sl Q (F0 m pc ls (.ref (g k) :: rest)) := by
  subst hj
  exact g_getN C X (q := k) (k := k) (x_pos hk (by decide)) (x_c7 g cI cB cZ cQ S hk) (ci := 7) rfl x_in7 2 (by decide) (O.2 _ _ _ C.2.2.2.2.2 _ xl_X10_45) rfl hdg kk
theorem xl_X11_197 : Cond.fieldLinkNest RX11 197 "GrottoHours$State" "sin" "[I" "GrottoHours" ∈ xNest := List.mem_of_getElem? (i := 57) rfl
theorem xg_X11_197 (C : gC p s m args meth c cc nL RX11 ret D (xtys cI cB cZ cQ) xord g Am) (O : xO g cI cB cZ cQ Am) (X : gX D (xcell g cI cB cZ cQ) xord g S s H locs) (hk : xk k = 7) {j : Nat} (hj : k + 1 = j) (hdg : decode cc pc = .ok (.getfield 197, 3)) (kk : W p l e R s m args below meth c H locs cs sl Q (F0 m (pc + 3) ls (.ref (g j) :: rest))) : W p l e R s m args below meth c H locs cs sl Q (F0 m pc ls (.ref (g k) :: rest)) := by
  subst hj
  exact g_getN C X (q := k) (k := k) (x_pos hk (by decide)) (x_c7 g cI cB cZ cQ S hk) (ci := 7) rfl x_in7 2 (by decide) (O.2 _ _ _ C.2.2.2.2.2 _ xl_X11_197) rfl hdg kk
theorem xl_X7_22 : Cond.fieldLink RX7 22 "GrottoHours$State" "purse" "[I" ∈ gT := gT_c1 224 rfl rfl
theorem xg_X7_22 (C : gC p s m args meth c cc nL RX7 ret D (xtys cI cB cZ cQ) xord g Am) (O : xO g cI cB cZ cQ Am) (X : gX D (xcell g cI cB cZ cQ) xord g S s H locs) (hk : xk k = 7) {j : Nat} (hj : k + 2 = j) (hdg : decode cc pc = .ok (.getfield 22, 3)) (kk : W p l e R s m args below meth c H locs cs sl Q (F0 m (pc + 3) ls (.ref (g j) :: rest))) : W p l e R s m args below meth c H locs cs sl Q (F0 m pc ls (.ref (g k) :: rest)) := by
  subst hj
  exact g_get C X (q := k) (k := k) (x_pos hk (by decide)) (x_c7 g cI cB cZ cQ S hk) (ci := 7) rfl x_in7 3 (by decide) xl_X7_22 rfl hdg kk
theorem xl_X10_49 : Cond.fieldLinkNest RX10 49 "GrottoHours$State" "purse" "[I" "GrottoHours" ∈ xNest := List.mem_of_getElem? (i := 58) rfl
theorem xg_X10_49 (C : gC p s m args meth c cc nL RX10 ret D (xtys cI cB cZ cQ) xord g Am) (O : xO g cI cB cZ cQ Am) (X : gX D (xcell g cI cB cZ cQ) xord g S s H locs) (hk : xk k = 7) {j : Nat} (hj : k + 2 = j) (hdg : decode cc pc = .ok (.getfield 49, 3)) (kk : W p l e R s m args below meth c H locs cs sl Q (F0 m (pc + 3) ls (.ref (g j) :: rest))) : W p l e R s m args below meth c H locs cs sl Q (F0 m pc ls (.ref (g k) :: rest)) := by
  subst hj
  exact g_getN C X (q := k) (k := k) (x_pos hk (by decide)) (x_c7 g cI cB cZ cQ S hk) (ci := 7) rfl x_in7 3 (by decide) (O.2 _ _ _ C.2.2.2.2.2 _ xl_X10_49) rfl hdg kk
theorem xl_X6_77 : Cond.fieldLinkNest RX6 77 "GrottoHours$State" "purse" "[I" "GrottoHours" ∈ xNest := List.mem_of_getElem? (i := 59) rfl
theorem xg_X6_77 (C : gC p s m args meth c cc nL RX6 ret D (xtys cI cB cZ cQ) xord g Am) (O : xO g cI cB cZ cQ Am) (X : gX D (xcell g cI cB cZ cQ) xord g S s H locs) (hk : xk k = 7) {j : Nat} (hj : k + 2 = j) (hdg : decode cc pc = .ok (.getfield 77, 3)) (kk : W p l e R s m args below meth c H locs cs sl Q (F0 m (pc + 3) ls (.ref (g j) :: rest))) : W p l e R s m args below meth c H locs cs sl Q (F0 m pc ls (.ref (g k) :: rest)) := by
  subst hj
  exact g_getN C X (q := k) (k := k) (x_pos hk (by decide)) (x_c7 g cI cB cZ cQ S hk) (ci := 7) rfl x_in7 3 (by decide) (O.2 _ _ _ C.2.2.2.2.2 _ xl_X6_77) rfl hdg kk
theorem xl_X11_200 : Cond.fieldLinkNest RX11 200 "GrottoHours$State" "purse" "[I" "GrottoHours" ∈ xNest := List.mem_of_getElem? (i := 60) rfl
theorem xg_X11_200 (C : gC p s m args meth c cc nL RX11 ret D (xtys cI cB cZ cQ) xord g Am) (O : xO g cI cB cZ cQ Am) (X : gX D (xcell g cI cB cZ cQ) xord g S s H locs) (hk : xk k = 7) {j : Nat} (hj : k + 2 = j) (hdg : decode cc pc = .ok (.getfield 200, 3)) (kk : W p l e R s m args below meth c H locs cs sl Q (F0 m (pc + 3) ls (.ref (g j) :: rest))) : W p l e R s m args below meth c H locs cs sl Q (F0 m pc ls (.ref (g k) :: rest)) := by
  subst hj
  exact g_getN C X (q := k) (k := k) (x_pos hk (by decide)) (x_c7 g cI cB cZ cQ S hk) (ci := 7) rfl x_in7 3 (by decide) (O.2 _ _ _ C.2.2.2.2.2 _ xl_X11_200) rfl hdg kk
theorem xl_X7_25 : Cond.fieldLink RX7 25 "GrottoHours$State" "silences" "[I" ∈ gT := gT_c1 228 rfl rfl
theorem xg_X7_25 (C : gC p s m args meth c cc nL RX7 ret D (xtys cI cB cZ cQ) xord g Am) (O : xO g cI cB cZ cQ Am) (X : gX D (xcell g cI cB cZ cQ) xord g S s H locs) (hk : xk k = 7) {j : Nat} (hj : k + 3 = j) (hdg : decode cc pc = .ok (.getfield 25, 3)) (kk : W p l e R s m args below meth c H locs cs sl Q (F0 m (pc + 3) ls (.ref (g j) :: rest))) : W p l e R s m args below meth c H locs cs sl Q (F0 m pc ls (.ref (g k) :: rest)) := by
  subst hj
  exact g_get C X (q := k) (k := k) (x_pos hk (by decide)) (x_c7 g cI cB cZ cQ S hk) (ci := 7) rfl x_in7 4 (by decide) xl_X7_25 rfl hdg kk
theorem xl_X10_51 : Cond.fieldLinkNest RX10 51 "GrottoHours$State" "silences" "[I" "GrottoHours" ∈ xNest := List.mem_of_getElem? (i := 61) rfl
theorem xg_X10_51 (C : gC p s m args meth c cc nL RX10 ret D (xtys cI cB cZ cQ) xord g Am) (O : xO g cI cB cZ cQ Am) (X : gX D (xcell g cI cB cZ cQ) xord g S s H locs) (hk : xk k = 7) {j : Nat} (hj : k + 3 = j) (hdg : decode cc pc = .ok (.getfield 51, 3)) (kk : W p l e R s m args below meth c H locs cs sl Q (F0 m (pc + 3) ls (.ref (g j) :: rest))) : W p l e R s m args below meth c H locs cs sl Q (F0 m pc ls (.ref (g k) :: rest)) := by
  subst hj
  exact g_getN C X (q := k) (k := k) (x_pos hk (by decide)) (x_c7 g cI cB cZ cQ S hk) (ci := 7) rfl x_in7 4 (by decide) (O.2 _ _ _ C.2.2.2.2.2 _ xl_X10_51) rfl hdg kk
theorem xl_X11_203 : Cond.fieldLinkNest RX11 203 "GrottoHours$State" "silences" "[I" "GrottoHours" ∈ xNest := List.mem_of_getElem? (i := 62) rfl
theorem xg_X11_203 (C : gC p s m args meth c cc nL RX11 ret D (xtys cI cB cZ cQ) xord g Am) (O : xO g cI cB cZ cQ Am) (X : gX D (xcell g cI cB cZ cQ) xord g S s H locs) (hk : xk k = 7) {j : Nat} (hj : k + 3 = j) (hdg : decode cc pc = .ok (.getfield 203, 3)) (kk : W p l e R s m args below meth c H locs cs sl Q (F0 m (pc + 3) ls (.ref (g j) :: rest))) : W p l e R s m args below meth c H locs cs sl Q (F0 m pc ls (.ref (g k) :: rest)) := by
  subst hj
  exact g_getN C X (q := k) (k := k) (x_pos hk (by decide)) (x_c7 g cI cB cZ cQ S hk) (ci := 7) rfl x_in7 4 (by decide) (O.2 _ _ _ C.2.2.2.2.2 _ xl_X11_203) rfl hdg kk
theorem xl_X7_28 : Cond.fieldLink RX7 28 "GrottoHours$State" "hired" "[I" ∈ gT := gT_c1 231 rfl rfl
theorem xg_X7_28 (C : gC p s m args meth c cc nL RX7 ret D (xtys cI cB cZ cQ) xord g Am) (O : xO g cI cB cZ cQ Am) (X : gX D (xcell g cI cB cZ cQ) xord g S s H locs) (hk : xk k = 7) {j : Nat} (hj : k + 4 = j) (hdg : decode cc pc = .ok (.getfield 28, 3)) (kk : W p l e R s m args below meth c H locs cs sl Q (F0 m (pc + 3) ls (.ref (g j) :: rest))) : W p l e R s m args below meth c H locs cs sl Q (F0 m pc ls (.ref (g k) :: rest)) := by
  subst hj
  exact g_get C X (q := k) (k := k) (x_pos hk (by decide)) (x_c7 g cI cB cZ cQ S hk) (ci := 7) rfl x_in7 5 (by decide) xl_X7_28 rfl hdg kk
theorem xl_X10_53 : Cond.fieldLinkNest RX10 53 "GrottoHours$State" "hired" "[I" "GrottoHours" ∈ xNest := List.mem_of_getElem? (i := 63) rfl
theorem xg_X10_53 (C : gC p s m args meth c cc nL RX10 ret D (xtys cI cB cZ cQ) xord g Am) (O : xO g cI cB cZ cQ Am) (X : gX D (xcell g cI cB cZ cQ) xord g S s H locs) (hk : xk k = 7) {j : Nat} (hj : k + 4 = j) (hdg : decode cc pc = .ok (.getfield 53, 3)) (kk : W p l e R s m args below meth c H locs cs sl Q (F0 m (pc + 3) ls (.ref (g j) :: rest))) : W p l e R s m args below meth c H locs cs sl Q (F0 m pc ls (.ref (g k) :: rest)) := by
  subst hj
  exact g_getN C X (q := k) (k := k) (x_pos hk (by decide)) (x_c7 g cI cB cZ cQ S hk) (ci := 7) rfl x_in7 5 (by decide) (O.2 _ _ _ C.2.2.2.2.2 _ xl_X10_53) rfl hdg kk
theorem xl_X11_206 : Cond.fieldLinkNest RX11 206 "GrottoHours$State" "hired" "[I" "GrottoHours" ∈ xNest := List.mem_of_getElem? (i := 64) rfl
theorem xg_X11_206 (C : gC p s m args meth c cc nL RX11 ret D (xtys cI cB cZ cQ) xord g Am) (O : xO g cI cB cZ cQ Am) (X : gX D (xcell g cI cB cZ cQ) xord g S s H locs) (hk : xk k = 7) {j : Nat} (hj : k + 4 = j) (hdg : decode cc pc = .ok (.getfield 206, 3)) (kk : W p l e R s m args below meth c H locs cs sl Q (F0 m (pc + 3) ls (.ref (g j) :: rest))) : W p l e R s m args below meth c H locs cs sl Q (F0 m pc ls (.ref (g k) :: rest)) := by
  subst hj
  exact g_getN C X (q := k) (k := k) (x_pos hk (by decide)) (x_c7 g cI cB cZ cQ S hk) (ci := 7) rfl x_in7 5 (by decide) (O.2 _ _ _ C.2.2.2.2.2 _ xl_X11_206) rfl hdg kk
theorem xl_X0_11 : Cond.fieldLink RX0 11 "GrottoHours$Acts" "cells" "[I" ∈ gT := gT_c2 13 rfl rfl
theorem xg_X0_11 (C : gC p s m args meth c cc nL RX0 ret D (xtys cI cB cZ cQ) xord g Am) (O : xO g cI cB cZ cQ Am) (X : gX D (xcell g cI cB cZ cQ) xord g S s H locs) (hk : xk k = 0) {j : Nat} (hj : k + 1 = j) (hdg : decode cc pc = .ok (.getfield 11, 3)) (kk : W p l e R s m args below meth c H locs cs sl Q (F0 m (pc + 3) ls (.ref (g j) :: rest))) : W p l e R s m args below meth c H locs cs sl Q (F0 m pc ls (.ref (g k) :: rest)) := by
  subst hj
  exact g_get C X (q := k) (k := k) (x_pos hk (by decide)) (x_c0 g cI cB cZ cQ S hk) (ci := 0) rfl x_in0 0 (by decide) xl_X0_11 rfl hdg kk
theorem xl_X0_17 : Cond.fieldLink RX0 17 "GrottoHours$Acts" "many" "I" ∈ gT := gT_c2 14 rfl rfl
theorem xg_X0_17 (C : gC p s m args meth c cc nL RX0 ret D (xtys cI cB cZ cQ) xord g Am) (O : xO g cI cB cZ cQ Am) (X : gX D (xcell g cI cB cZ cQ) xord g S s H locs) (hk : xk k = 0) (hdg : decode cc pc = .ok (.getfield 17, 3)) (kk : W p l e R s m args below meth c H locs cs sl Q (F0 m (pc + 3) ls (.int (S k 1) :: rest))) : W p l e R s m args below meth c H locs cs sl Q (F0 m pc ls (.ref (g k) :: rest)) :=
  g_get C X (q := k) (k := k) (x_pos hk (by decide)) (x_c0 g cI cB cZ cQ S hk) (ci := 0) rfl x_in0 1 (by decide) xl_X0_17 rfl hdg kk
theorem xp_X0_17 (C : gC p s m args meth c cc nL RX0 ret D (xtys cI cB cZ cQ) xord g Am) (O : xO g cI cB cZ cQ Am) (X : gX D (xcell g cI cB cZ cQ) xord g S s H locs) (hk : xk k = 0) {x : Int32} (hS : S' = sU S k 1 x) (hdg : decode cc pc = .ok (.putfield 17, 3)) (kk : ∀ (H1 : Heap) (locs1 : List Loc), gX D (xcell g cI cB cZ cQ) xord g S' s H1 locs1 → W p l e R s m args below meth c H1 locs1 cs sl Q (F0 m (pc + 3) ls rest)) : W p l e R s m args below meth c H locs cs sl Q (F0 m pc ls (.int x :: .ref (g k) :: rest)) := by
  subst hS
  exact g_put C O.1 X (q := k) (k := k) (x_pos hk (by decide)) (x_c0 g cI cB cZ cQ S hk) (ci := 0) rfl x_in0 tyX0 tyX0_ok nmX0 1 (by decide) xl_X0_17 rfl rfl rfl (Nat.le_of_ble_eq_true rfl) (fun i h => sU_ne h) (by rw [x_c0 g cI cB cZ cQ _ hk, sU_eq]; rfl) hdg kk
theorem xl_X1_40 : Cond.fieldLinkNest RX1 40 "GrottoHours$Acts" "many" "I" "GrottoHours" ∈ xNest := List.mem_of_getElem? (i := 66) rfl
theorem xg_X1_40 (C : gC p s m args meth c cc nL RX1 ret D (xtys cI cB cZ cQ) xord g Am) (O : xO g cI cB cZ cQ Am) (X : gX D (xcell g cI cB cZ cQ) xord g S s H locs) (hk : xk k = 0) (hdg : decode cc pc = .ok (.getfield 40, 3)) (kk : W p l e R s m args below meth c H locs cs sl Q (F0 m (pc + 3) ls (.int (S k 1) :: rest))) : W p l e R s m args below meth c H locs cs sl Q (F0 m pc ls (.ref (g k) :: rest)) :=
  g_getN C X (q := k) (k := k) (x_pos hk (by decide)) (x_c0 g cI cB cZ cQ S hk) (ci := 0) rfl x_in0 1 (by decide) (O.2 _ _ _ C.2.2.2.2.2 _ xl_X1_40) rfl hdg kk
theorem xp_X1_40 (C : gC p s m args meth c cc nL RX1 ret D (xtys cI cB cZ cQ) xord g Am) (O : xO g cI cB cZ cQ Am) (X : gX D (xcell g cI cB cZ cQ) xord g S s H locs) (hk : xk k = 0) {x : Int32} (hS : S' = sU S k 1 x) (hdg : decode cc pc = .ok (.putfield 40, 3)) (kk : ∀ (H1 : Heap) (locs1 : List Loc), gX D (xcell g cI cB cZ cQ) xord g S' s H1 locs1 → W p l e R s m args below meth c H1 locs1 cs sl Q (F0 m (pc + 3) ls rest)) : W p l e R s m args below meth c H locs cs sl Q (F0 m pc ls (.int x :: .ref (g k) :: rest)) := by
  subst hS
  exact g_putN C O.1 X (q := k) (k := k) (x_pos hk (by decide)) (x_c0 g cI cB cZ cQ S hk) (ci := 0) rfl x_in0 tyX0 tyX0_ok nmX0 1 (by decide) (O.2 _ _ _ C.2.2.2.2.2 _ xl_X1_40) rfl rfl rfl (Nat.le_of_ble_eq_true rfl) (fun i h => sU_ne h) (by rw [x_c0 g cI cB cZ cQ _ hk, sU_eq]; rfl) hdg kk
theorem xl_X11_141 : Cond.fieldLinkNest RX11 141 "GrottoHours$Acts" "many" "I" "GrottoHours" ∈ xNest := List.mem_of_getElem? (i := 67) rfl
theorem xg_X11_141 (C : gC p s m args meth c cc nL RX11 ret D (xtys cI cB cZ cQ) xord g Am) (O : xO g cI cB cZ cQ Am) (X : gX D (xcell g cI cB cZ cQ) xord g S s H locs) (hk : xk k = 0) (hdg : decode cc pc = .ok (.getfield 141, 3)) (kk : W p l e R s m args below meth c H locs cs sl Q (F0 m (pc + 3) ls (.int (S k 1) :: rest))) : W p l e R s m args below meth c H locs cs sl Q (F0 m pc ls (.ref (g k) :: rest)) :=
  g_getN C X (q := k) (k := k) (x_pos hk (by decide)) (x_c0 g cI cB cZ cQ S hk) (ci := 0) rfl x_in0 1 (by decide) (O.2 _ _ _ C.2.2.2.2.2 _ xl_X11_141) rfl hdg kk
theorem xp_X11_141 (C : gC p s m args meth c cc nL RX11 ret D (xtys cI cB cZ cQ) xord g Am) (O : xO g cI cB cZ cQ Am) (X : gX D (xcell g cI cB cZ cQ) xord g S s H locs) (hk : xk k = 0) {x : Int32} (hS : S' = sU S k 1 x) (hdg : decode cc pc = .ok (.putfield 141, 3)) (kk : ∀ (H1 : Heap) (locs1 : List Loc), gX D (xcell g cI cB cZ cQ) xord g S' s H1 locs1 → W p l e R s m args below meth c H1 locs1 cs sl Q (F0 m (pc + 3) ls rest)) : W p l e R s m args below meth c H locs cs sl Q (F0 m pc ls (.int x :: .ref (g k) :: rest)) := by
  subst hS
  exact g_putN C O.1 X (q := k) (k := k) (x_pos hk (by decide)) (x_c0 g cI cB cZ cQ S hk) (ci := 0) rfl x_in0 tyX0 tyX0_ok nmX0 1 (by decide) (O.2 _ _ _ C.2.2.2.2.2 _ xl_X11_141) rfl rfl rfl (Nat.le_of_ble_eq_true rfl) (fun i h => sU_ne h) (by rw [x_c0 g cI cB cZ cQ _ hk, sU_eq]; rfl) hdg kk
theorem xl_X5_9 : Cond.fieldLink RX5 9 "GrottoHours$Seen" "guilds" "[I" ∈ gT := gT_c2 28 rfl rfl
theorem xg_X5_9 (C : gC p s m args meth c cc nL RX5 ret D (xtys cI cB cZ cQ) xord g Am) (O : xO g cI cB cZ cQ Am) (X : gX D (xcell g cI cB cZ cQ) xord g S s H locs) (hk : xk k = 5) {j : Nat} (hj : k + 1 = j) (hdg : decode cc pc = .ok (.getfield 9, 3)) (kk : W p l e R s m args below meth c H locs cs sl Q (F0 m (pc + 3) ls (.ref (g j) :: rest))) : W p l e R s m args below meth c H locs cs sl Q (F0 m pc ls (.ref (g k) :: rest)) := by
  subst hj
  exact g_get C X (q := k) (k := k) (x_pos hk (by decide)) (x_c5 g cI cB cZ cQ S hk) (ci := 5) rfl x_in5 0 (by decide) xl_X5_9 rfl hdg kk
theorem xl_X5_15 : Cond.fieldLink RX5 15 "GrottoHours$Seen" "behind" "[I" ∈ gT := gT_c2 29 rfl rfl
theorem xg_X5_15 (C : gC p s m args meth c cc nL RX5 ret D (xtys cI cB cZ cQ) xord g Am) (O : xO g cI cB cZ cQ Am) (X : gX D (xcell g cI cB cZ cQ) xord g S s H locs) (hk : xk k = 5) {j : Nat} (hj : k + 2 = j) (hdg : decode cc pc = .ok (.getfield 15, 3)) (kk : W p l e R s m args below meth c H locs cs sl Q (F0 m (pc + 3) ls (.ref (g j) :: rest))) : W p l e R s m args below meth c H locs cs sl Q (F0 m pc ls (.ref (g k) :: rest)) := by
  subst hj
  exact g_get C X (q := k) (k := k) (x_pos hk (by decide)) (x_c5 g cI cB cZ cQ S hk) (ci := 5) rfl x_in5 1 (by decide) xl_X5_15 rfl hdg kk
theorem xl_X5_18 : Cond.fieldLink RX5 18 "GrottoHours$Seen" "sins" "[I" ∈ gT := gT_c2 30 rfl rfl
theorem xg_X5_18 (C : gC p s m args meth c cc nL RX5 ret D (xtys cI cB cZ cQ) xord g Am) (O : xO g cI cB cZ cQ Am) (X : gX D (xcell g cI cB cZ cQ) xord g S s H locs) (hk : xk k = 5) {j : Nat} (hj : k + 3 = j) (hdg : decode cc pc = .ok (.getfield 18, 3)) (kk : W p l e R s m args below meth c H locs cs sl Q (F0 m (pc + 3) ls (.ref (g j) :: rest))) : W p l e R s m args below meth c H locs cs sl Q (F0 m pc ls (.ref (g k) :: rest)) := by
  subst hj
  exact g_get C X (q := k) (k := k) (x_pos hk (by decide)) (x_c5 g cI cB cZ cQ S hk) (ci := 5) rfl x_in5 2 (by decide) xl_X5_18 rfl hdg kk
theorem xl_X5_21 : Cond.fieldLink RX5 21 "GrottoHours$Seen" "many" "I" ∈ gT := gT_c2 31 rfl rfl
theorem xg_X5_21 (C : gC p s m args meth c cc nL RX5 ret D (xtys cI cB cZ cQ) xord g Am) (O : xO g cI cB cZ cQ Am) (X : gX D (xcell g cI cB cZ cQ) xord g S s H locs) (hk : xk k = 5) (hdg : decode cc pc = .ok (.getfield 21, 3)) (kk : W p l e R s m args below meth c H locs cs sl Q (F0 m (pc + 3) ls (.int (S k 3) :: rest))) : W p l e R s m args below meth c H locs cs sl Q (F0 m pc ls (.ref (g k) :: rest)) :=
  g_get C X (q := k) (k := k) (x_pos hk (by decide)) (x_c5 g cI cB cZ cQ S hk) (ci := 5) rfl x_in5 3 (by decide) xl_X5_21 rfl hdg kk
theorem xp_X5_21 (C : gC p s m args meth c cc nL RX5 ret D (xtys cI cB cZ cQ) xord g Am) (O : xO g cI cB cZ cQ Am) (X : gX D (xcell g cI cB cZ cQ) xord g S s H locs) (hk : xk k = 5) {x : Int32} (hS : S' = sU S k 3 x) (hdg : decode cc pc = .ok (.putfield 21, 3)) (kk : ∀ (H1 : Heap) (locs1 : List Loc), gX D (xcell g cI cB cZ cQ) xord g S' s H1 locs1 → W p l e R s m args below meth c H1 locs1 cs sl Q (F0 m (pc + 3) ls rest)) : W p l e R s m args below meth c H locs cs sl Q (F0 m pc ls (.int x :: .ref (g k) :: rest)) := by
  subst hS
  exact g_put C O.1 X (q := k) (k := k) (x_pos hk (by decide)) (x_c5 g cI cB cZ cQ S hk) (ci := 5) rfl x_in5 tyX5 tyX5_ok nmX5 3 (by decide) xl_X5_21 rfl rfl rfl (Nat.le_of_ble_eq_true rfl) (fun i h => sU_ne h) (by rw [x_c5 g cI cB cZ cQ _ hk, sU_eq]; rfl) hdg kk
theorem xl_X1_44 : Cond.fieldLinkNest RX1 44 "GrottoHours$Seen" "many" "I" "GrottoHours" ∈ xNest := List.mem_of_getElem? (i := 69) rfl
theorem xg_X1_44 (C : gC p s m args meth c cc nL RX1 ret D (xtys cI cB cZ cQ) xord g Am) (O : xO g cI cB cZ cQ Am) (X : gX D (xcell g cI cB cZ cQ) xord g S s H locs) (hk : xk k = 5) (hdg : decode cc pc = .ok (.getfield 44, 3)) (kk : W p l e R s m args below meth c H locs cs sl Q (F0 m (pc + 3) ls (.int (S k 3) :: rest))) : W p l e R s m args below meth c H locs cs sl Q (F0 m pc ls (.ref (g k) :: rest)) :=
  g_getN C X (q := k) (k := k) (x_pos hk (by decide)) (x_c5 g cI cB cZ cQ S hk) (ci := 5) rfl x_in5 3 (by decide) (O.2 _ _ _ C.2.2.2.2.2 _ xl_X1_44) rfl hdg kk
theorem xp_X1_44 (C : gC p s m args meth c cc nL RX1 ret D (xtys cI cB cZ cQ) xord g Am) (O : xO g cI cB cZ cQ Am) (X : gX D (xcell g cI cB cZ cQ) xord g S s H locs) (hk : xk k = 5) {x : Int32} (hS : S' = sU S k 3 x) (hdg : decode cc pc = .ok (.putfield 44, 3)) (kk : ∀ (H1 : Heap) (locs1 : List Loc), gX D (xcell g cI cB cZ cQ) xord g S' s H1 locs1 → W p l e R s m args below meth c H1 locs1 cs sl Q (F0 m (pc + 3) ls rest)) : W p l e R s m args below meth c H locs cs sl Q (F0 m pc ls (.int x :: .ref (g k) :: rest)) := by
  subst hS
  exact g_putN C O.1 X (q := k) (k := k) (x_pos hk (by decide)) (x_c5 g cI cB cZ cQ S hk) (ci := 5) rfl x_in5 tyX5 tyX5_ok nmX5 3 (by decide) (O.2 _ _ _ C.2.2.2.2.2 _ xl_X1_44) rfl rfl rfl (Nat.le_of_ble_eq_true rfl) (fun i h => sU_ne h) (by rw [x_c5 g cI cB cZ cQ _ hk, sU_eq]; rfl) hdg kk
theorem xl_X11_150 : Cond.fieldLinkNest RX11 150 "GrottoHours$Seen" "many" "I" "GrottoHours" ∈ xNest := List.mem_of_getElem? (i := 70) rfl
theorem xg_X11_150 (C : gC p s m args meth c cc nL RX11 ret D (xtys cI cB cZ cQ) xord g Am) (O : xO g cI cB cZ cQ Am) (X : gX D (xcell g cI cB cZ cQ) xord g S s H locs) (hk : xk k = 5) (hdg : decode cc pc = .ok (.getfield 150, 3)) (kk : W p l e R s m args below meth c H locs cs sl Q (F0 m (pc + 3) ls (.int (S k 3) :: rest))) : W p l e R s m args below meth c H locs cs sl Q (F0 m pc ls (.ref (g k) :: rest)) :=
  g_getN C X (q := k) (k := k) (x_pos hk (by decide)) (x_c5 g cI cB cZ cQ S hk) (ci := 5) rfl x_in5 3 (by decide) (O.2 _ _ _ C.2.2.2.2.2 _ xl_X11_150) rfl hdg kk
theorem xp_X11_150 (C : gC p s m args meth c cc nL RX11 ret D (xtys cI cB cZ cQ) xord g Am) (O : xO g cI cB cZ cQ Am) (X : gX D (xcell g cI cB cZ cQ) xord g S s H locs) (hk : xk k = 5) {x : Int32} (hS : S' = sU S k 3 x) (hdg : decode cc pc = .ok (.putfield 150, 3)) (kk : ∀ (H1 : Heap) (locs1 : List Loc), gX D (xcell g cI cB cZ cQ) xord g S' s H1 locs1 → W p l e R s m args below meth c H1 locs1 cs sl Q (F0 m (pc + 3) ls rest)) : W p l e R s m args below meth c H locs cs sl Q (F0 m pc ls (.int x :: .ref (g k) :: rest)) := by
  subst hS
  exact g_putN C O.1 X (q := k) (k := k) (x_pos hk (by decide)) (x_c5 g cI cB cZ cQ S hk) (ci := 5) rfl x_in5 tyX5 tyX5_ok nmX5 3 (by decide) (O.2 _ _ _ C.2.2.2.2.2 _ xl_X11_150) rfl rfl rfl (Nat.le_of_ble_eq_true rfl) (fun i h => sU_ne h) (by rw [x_c5 g cI cB cZ cQ _ hk, sU_eq]; rfl) hdg kk
theorem xl_X1_12 : Cond.fieldLink RX1 12 "GrottoHours$Book" "state" "LGrottoHours$State;" ∈ gT := gT_c2 43 rfl rfl
theorem xg_X1_12 (C : gC p s m args meth c cc nL RX1 ret D (xtys cI cB cZ cQ) xord g Am) (O : xO g cI cB cZ cQ Am) (X : gX D (xcell g cI cB cZ cQ) xord g S s H locs) (hk : xk k = 1) {j : Nat} (hj : k + 1 = j) (hdg : decode cc pc = .ok (.getfield 12, 3)) (kk : W p l e R s m args below meth c H locs cs sl Q (F0 m (pc + 3) ls (.ref (g j) :: rest))) : W p l e R s m args below meth c H locs cs sl Q (F0 m pc ls (.ref (g k) :: rest)) := by
  subst hj
  exact g_get C X (q := k) (k := k) (x_pos hk (by decide)) (x_c1 g cI cB cZ cQ S hk) (ci := 1) rfl x_in1 0 (by decide) xl_X1_12 rfl hdg kk
theorem xl_X2_39 : Cond.fieldLinkNest RX2 39 "GrottoHours$Book" "state" "LGrottoHours$State;" "GrottoHours" ∈ xNest := List.mem_of_getElem? (i := 71) rfl
theorem xg_X2_39 (C : gC p s m args meth c cc nL RX2 ret D (xtys cI cB cZ cQ) xord g Am) (O : xO g cI cB cZ cQ Am) (X : gX D (xcell g cI cB cZ cQ) xord g S s H locs) (hk : xk k = 1) {j : Nat} (hj : k + 1 = j) (hdg : decode cc pc = .ok (.getfield 39, 3)) (kk : W p l e R s m args below meth c H locs cs sl Q (F0 m (pc + 3) ls (.ref (g j) :: rest))) : W p l e R s m args below meth c H locs cs sl Q (F0 m pc ls (.ref (g k) :: rest)) := by
  subst hj
  exact g_getN C X (q := k) (k := k) (x_pos hk (by decide)) (x_c1 g cI cB cZ cQ S hk) (ci := 1) rfl x_in1 0 (by decide) (O.2 _ _ _ C.2.2.2.2.2 _ xl_X2_39) rfl hdg kk
theorem xl_X11_105 : Cond.fieldLinkNest RX11 105 "GrottoHours$Book" "state" "LGrottoHours$State;" "GrottoHours" ∈ xNest := List.mem_of_getElem? (i := 72) rfl
theorem xg_X11_105 (C : gC p s m args meth c cc nL RX11 ret D (xtys cI cB cZ cQ) xord g Am) (O : xO g cI cB cZ cQ Am) (X : gX D (xcell g cI cB cZ cQ) xord g S s H locs) (hk : xk k = 1) {j : Nat} (hj : k + 1 = j) (hdg : decode cc pc = .ok (.getfield 105, 3)) (kk : W p l e R s m args below meth c H locs cs sl Q (F0 m (pc + 3) ls (.ref (g j) :: rest))) : W p l e R s m args below meth c H locs cs sl Q (F0 m pc ls (.ref (g k) :: rest)) := by
  subst hj
  exact g_getN C X (q := k) (k := k) (x_pos hk (by decide)) (x_c1 g cI cB cZ cQ S hk) (ci := 1) rfl x_in1 0 (by decide) (O.2 _ _ _ C.2.2.2.2.2 _ xl_X11_105) rfl hdg kk
theorem xl_X1_21 : Cond.fieldLink RX1 21 "GrottoHours$Book" "acts" "LGrottoHours$Acts;" ∈ gT := gT_c2 46 rfl rfl
theorem xg_X1_21 (C : gC p s m args meth c cc nL RX1 ret D (xtys cI cB cZ cQ) xord g Am) (O : xO g cI cB cZ cQ Am) (X : gX D (xcell g cI cB cZ cQ) xord g S s H locs) (hk : xk k = 1) {j : Nat} (hj : k + 6 = j) (hdg : decode cc pc = .ok (.getfield 21, 3)) (kk : W p l e R s m args below meth c H locs cs sl Q (F0 m (pc + 3) ls (.ref (g j) :: rest))) : W p l e R s m args below meth c H locs cs sl Q (F0 m pc ls (.ref (g k) :: rest)) := by
  subst hj
  exact g_get C X (q := k) (k := k) (x_pos hk (by decide)) (x_c1 g cI cB cZ cQ S hk) (ci := 1) rfl x_in1 1 (by decide) xl_X1_21 rfl hdg kk
theorem xl_X11_137 : Cond.fieldLinkNest RX11 137 "GrottoHours$Book" "acts" "LGrottoHours$Acts;" "GrottoHours" ∈ xNest := List.mem_of_getElem? (i := 73) rfl
theorem xg_X11_137 (C : gC p s m args meth c cc nL RX11 ret D (xtys cI cB cZ cQ) xord g Am) (O : xO g cI cB cZ cQ Am) (X : gX D (xcell g cI cB cZ cQ) xord g S s H locs) (hk : xk k = 1) {j : Nat} (hj : k + 6 = j) (hdg : decode cc pc = .ok (.getfield 137, 3)) (kk : W p l e R s m args below meth c H locs cs sl Q (F0 m (pc + 3) ls (.ref (g j) :: rest))) : W p l e R s m args below meth c H locs cs sl Q (F0 m pc ls (.ref (g k) :: rest)) := by
  subst hj
  exact g_getN C X (q := k) (k := k) (x_pos hk (by decide)) (x_c1 g cI cB cZ cQ S hk) (ci := 1) rfl x_in1 1 (by decide) (O.2 _ _ _ C.2.2.2.2.2 _ xl_X11_137) rfl hdg kk
theorem xl_X1_28 : Cond.fieldLink RX1 28 "GrottoHours$Book" "seen" "LGrottoHours$Seen;" ∈ gT := gT_c2 48 rfl rfl
theorem xg_X1_28 (C : gC p s m args meth c cc nL RX1 ret D (xtys cI cB cZ cQ) xord g Am) (O : xO g cI cB cZ cQ Am) (X : gX D (xcell g cI cB cZ cQ) xord g S s H locs) (hk : xk k = 1) {j : Nat} (hj : k + 8 = j) (hdg : decode cc pc = .ok (.getfield 28, 3)) (kk : W p l e R s m args below meth c H locs cs sl Q (F0 m (pc + 3) ls (.ref (g j) :: rest))) : W p l e R s m args below meth c H locs cs sl Q (F0 m pc ls (.ref (g k) :: rest)) := by
  subst hj
  exact g_get C X (q := k) (k := k) (x_pos hk (by decide)) (x_c1 g cI cB cZ cQ S hk) (ci := 1) rfl x_in1 2 (by decide) xl_X1_28 rfl hdg kk
theorem xl_X2_55 : Cond.fieldLinkNest RX2 55 "GrottoHours$Book" "seen" "LGrottoHours$Seen;" "GrottoHours" ∈ xNest := List.mem_of_getElem? (i := 74) rfl
theorem xg_X2_55 (C : gC p s m args meth c cc nL RX2 ret D (xtys cI cB cZ cQ) xord g Am) (O : xO g cI cB cZ cQ Am) (X : gX D (xcell g cI cB cZ cQ) xord g S s H locs) (hk : xk k = 1) {j : Nat} (hj : k + 8 = j) (hdg : decode cc pc = .ok (.getfield 55, 3)) (kk : W p l e R s m args below meth c H locs cs sl Q (F0 m (pc + 3) ls (.ref (g j) :: rest))) : W p l e R s m args below meth c H locs cs sl Q (F0 m pc ls (.ref (g k) :: rest)) := by
  subst hj
  exact g_getN C X (q := k) (k := k) (x_pos hk (by decide)) (x_c1 g cI cB cZ cQ S hk) (ci := 1) rfl x_in1 2 (by decide) (O.2 _ _ _ C.2.2.2.2.2 _ xl_X2_55) rfl hdg kk
theorem xl_X11_146 : Cond.fieldLinkNest RX11 146 "GrottoHours$Book" "seen" "LGrottoHours$Seen;" "GrottoHours" ∈ xNest := List.mem_of_getElem? (i := 75) rfl
theorem xg_X11_146 (C : gC p s m args meth c cc nL RX11 ret D (xtys cI cB cZ cQ) xord g Am) (O : xO g cI cB cZ cQ Am) (X : gX D (xcell g cI cB cZ cQ) xord g S s H locs) (hk : xk k = 1) {j : Nat} (hj : k + 8 = j) (hdg : decode cc pc = .ok (.getfield 146, 3)) (kk : W p l e R s m args below meth c H locs cs sl Q (F0 m (pc + 3) ls (.ref (g j) :: rest))) : W p l e R s m args below meth c H locs cs sl Q (F0 m pc ls (.ref (g k) :: rest)) := by
  subst hj
  exact g_getN C X (q := k) (k := k) (x_pos hk (by decide)) (x_c1 g cI cB cZ cQ S hk) (ci := 1) rfl x_in1 2 (by decide) (O.2 _ _ _ C.2.2.2.2.2 _ xl_X11_146) rfl hdg kk
theorem xl_X1_32 : Cond.fieldLink RX1 32 "GrottoHours$Book" "refused" "[I" ∈ gT := gT_c2 51 rfl rfl
theorem xg_X1_32 (C : gC p s m args meth c cc nL RX1 ret D (xtys cI cB cZ cQ) xord g Am) (O : xO g cI cB cZ cQ Am) (X : gX D (xcell g cI cB cZ cQ) xord g S s H locs) (hk : xk k = 1) {j : Nat} (hj : k + 12 = j) (hdg : decode cc pc = .ok (.getfield 32, 3)) (kk : W p l e R s m args below meth c H locs cs sl Q (F0 m (pc + 3) ls (.ref (g j) :: rest))) : W p l e R s m args below meth c H locs cs sl Q (F0 m pc ls (.ref (g k) :: rest)) := by
  subst hj
  exact g_get C X (q := k) (k := k) (x_pos hk (by decide)) (x_c1 g cI cB cZ cQ S hk) (ci := 1) rfl x_in1 3 (by decide) xl_X1_32 rfl hdg kk
theorem xl_X11_153 : Cond.fieldLinkNest RX11 153 "GrottoHours$Book" "refused" "[I" "GrottoHours" ∈ xNest := List.mem_of_getElem? (i := 76) rfl
theorem xg_X11_153 (C : gC p s m args meth c cc nL RX11 ret D (xtys cI cB cZ cQ) xord g Am) (O : xO g cI cB cZ cQ Am) (X : gX D (xcell g cI cB cZ cQ) xord g S s H locs) (hk : xk k = 1) {j : Nat} (hj : k + 12 = j) (hdg : decode cc pc = .ok (.getfield 153, 3)) (kk : W p l e R s m args below meth c H locs cs sl Q (F0 m (pc + 3) ls (.ref (g j) :: rest))) : W p l e R s m args below meth c H locs cs sl Q (F0 m pc ls (.ref (g k) :: rest)) := by
  subst hj
  exact g_getN C X (q := k) (k := k) (x_pos hk (by decide)) (x_c1 g cI cB cZ cQ S hk) (ci := 1) rfl x_in1 3 (by decide) (O.2 _ _ _ C.2.2.2.2.2 _ xl_X11_153) rfl hdg kk
theorem xl_X10_9 : Cond.fieldLink RX10 9 "GrottoHours$Walk" "greed" "I" ∈ gT := gT_c2 70 rfl rfl
theorem xg_X10_9 (C : gC p s m args meth c cc nL RX10 ret D (xtys cI cB cZ cQ) xord g Am) (O : xO g cI cB cZ cQ Am) (X : gX D (xcell g cI cB cZ cQ) xord g S s H locs) (hk : xk k = 10) (hdg : decode cc pc = .ok (.getfield 9, 3)) (kk : W p l e R s m args below meth c H locs cs sl Q (F0 m (pc + 3) ls (.int (S k 0) :: rest))) : W p l e R s m args below meth c H locs cs sl Q (F0 m pc ls (.ref (g k) :: rest)) :=
  g_get C X (q := k) (k := k) (x_pos hk (by decide)) (x_c10 g cI cB cZ cQ S hk) (ci := 10) rfl x_in10 0 (by decide) xl_X10_9 rfl hdg kk
theorem xp_X10_9 (C : gC p s m args meth c cc nL RX10 ret D (xtys cI cB cZ cQ) xord g Am) (O : xO g cI cB cZ cQ Am) (X : gX D (xcell g cI cB cZ cQ) xord g S s H locs) (hk : xk k = 10) {x : Int32} (hS : S' = sU S k 0 x) (hdg : decode cc pc = .ok (.putfield 9, 3)) (kk : ∀ (H1 : Heap) (locs1 : List Loc), gX D (xcell g cI cB cZ cQ) xord g S' s H1 locs1 → W p l e R s m args below meth c H1 locs1 cs sl Q (F0 m (pc + 3) ls rest)) : W p l e R s m args below meth c H locs cs sl Q (F0 m pc ls (.int x :: .ref (g k) :: rest)) := by
  subst hS
  exact g_put C O.1 X (q := k) (k := k) (x_pos hk (by decide)) (x_c10 g cI cB cZ cQ S hk) (ci := 10) rfl x_in10 tyX10 tyX10_ok nmX10 0 (by decide) xl_X10_9 rfl rfl rfl (Nat.le_of_ble_eq_true rfl) (fun i h => sU_ne h) (by rw [x_c10 g cI cB cZ cQ _ hk, sU_eq]; rfl) hdg kk
theorem xl_X2_79 : Cond.fieldLinkNest RX2 79 "GrottoHours$Walk" "greed" "I" "GrottoHours" ∈ xNest := List.mem_of_getElem? (i := 79) rfl
theorem xg_X2_79 (C : gC p s m args meth c cc nL RX2 ret D (xtys cI cB cZ cQ) xord g Am) (O : xO g cI cB cZ cQ Am) (X : gX D (xcell g cI cB cZ cQ) xord g S s H locs) (hk : xk k = 10) (hdg : decode cc pc = .ok (.getfield 79, 3)) (kk : W p l e R s m args below meth c H locs cs sl Q (F0 m (pc + 3) ls (.int (S k 0) :: rest))) : W p l e R s m args below meth c H locs cs sl Q (F0 m pc ls (.ref (g k) :: rest)) :=
  g_getN C X (q := k) (k := k) (x_pos hk (by decide)) (x_c10 g cI cB cZ cQ S hk) (ci := 10) rfl x_in10 0 (by decide) (O.2 _ _ _ C.2.2.2.2.2 _ xl_X2_79) rfl hdg kk
theorem xp_X2_79 (C : gC p s m args meth c cc nL RX2 ret D (xtys cI cB cZ cQ) xord g Am) (O : xO g cI cB cZ cQ Am) (X : gX D (xcell g cI cB cZ cQ) xord g S s H locs) (hk : xk k = 10) {x : Int32} (hS : S' = sU S k 0 x) (hdg : decode cc pc = .ok (.putfield 79, 3)) (kk : ∀ (H1 : Heap) (locs1 : List Loc), gX D (xcell g cI cB cZ cQ) xord g S' s H1 locs1 → W p l e R s m args below meth c H1 locs1 cs sl Q (F0 m (pc + 3) ls rest)) : W p l e R s m args below meth c H locs cs sl Q (F0 m pc ls (.int x :: .ref (g k) :: rest)) := by
  subst hS
  exact g_putN C O.1 X (q := k) (k := k) (x_pos hk (by decide)) (x_c10 g cI cB cZ cQ S hk) (ci := 10) rfl x_in10 tyX10 tyX10_ok nmX10 0 (by decide) (O.2 _ _ _ C.2.2.2.2.2 _ xl_X2_79) rfl rfl rfl (Nat.le_of_ble_eq_true rfl) (fun i h => sU_ne h) (by rw [x_c10 g cI cB cZ cQ _ hk, sU_eq]; rfl) hdg kk
theorem xl_X10_15 : Cond.fieldLink RX10 15 "GrottoHours$Walk" "sin" "I" ∈ gT := gT_c2 72 rfl rfl
theorem xg_X10_15 (C : gC p s m args meth c cc nL RX10 ret D (xtys cI cB cZ cQ) xord g Am) (O : xO g cI cB cZ cQ Am) (X : gX D (xcell g cI cB cZ cQ) xord g S s H locs) (hk : xk k = 10) (hdg : decode cc pc = .ok (.getfield 15, 3)) (kk : W p l e R s m args below meth c H locs cs sl Q (F0 m (pc + 3) ls (.int (S k 1) :: rest))) : W p l e R s m args below meth c H locs cs sl Q (F0 m pc ls (.ref (g k) :: rest)) :=
  g_get C X (q := k) (k := k) (x_pos hk (by decide)) (x_c10 g cI cB cZ cQ S hk) (ci := 10) rfl x_in10 1 (by decide) xl_X10_15 rfl hdg kk
theorem xp_X10_15 (C : gC p s m args meth c cc nL RX10 ret D (xtys cI cB cZ cQ) xord g Am) (O : xO g cI cB cZ cQ Am) (X : gX D (xcell g cI cB cZ cQ) xord g S s H locs) (hk : xk k = 10) {x : Int32} (hS : S' = sU S k 1 x) (hdg : decode cc pc = .ok (.putfield 15, 3)) (kk : ∀ (H1 : Heap) (locs1 : List Loc), gX D (xcell g cI cB cZ cQ) xord g S' s H1 locs1 → W p l e R s m args below meth c H1 locs1 cs sl Q (F0 m (pc + 3) ls rest)) : W p l e R s m args below meth c H locs cs sl Q (F0 m pc ls (.int x :: .ref (g k) :: rest)) := by
  subst hS
  exact g_put C O.1 X (q := k) (k := k) (x_pos hk (by decide)) (x_c10 g cI cB cZ cQ S hk) (ci := 10) rfl x_in10 tyX10 tyX10_ok nmX10 1 (by decide) xl_X10_15 rfl rfl rfl (Nat.le_of_ble_eq_true rfl) (fun i h => sU_ne h) (by rw [x_c10 g cI cB cZ cQ _ hk, sU_eq]; rfl) hdg kk
theorem xl_X2_91 : Cond.fieldLinkNest RX2 91 "GrottoHours$Walk" "sin" "I" "GrottoHours" ∈ xNest := List.mem_of_getElem? (i := 80) rfl
theorem xg_X2_91 (C : gC p s m args meth c cc nL RX2 ret D (xtys cI cB cZ cQ) xord g Am) (O : xO g cI cB cZ cQ Am) (X : gX D (xcell g cI cB cZ cQ) xord g S s H locs) (hk : xk k = 10) (hdg : decode cc pc = .ok (.getfield 91, 3)) (kk : W p l e R s m args below meth c H locs cs sl Q (F0 m (pc + 3) ls (.int (S k 1) :: rest))) : W p l e R s m args below meth c H locs cs sl Q (F0 m pc ls (.ref (g k) :: rest)) :=
  g_getN C X (q := k) (k := k) (x_pos hk (by decide)) (x_c10 g cI cB cZ cQ S hk) (ci := 10) rfl x_in10 1 (by decide) (O.2 _ _ _ C.2.2.2.2.2 _ xl_X2_91) rfl hdg kk
theorem xp_X2_91 (C : gC p s m args meth c cc nL RX2 ret D (xtys cI cB cZ cQ) xord g Am) (O : xO g cI cB cZ cQ Am) (X : gX D (xcell g cI cB cZ cQ) xord g S s H locs) (hk : xk k = 10) {x : Int32} (hS : S' = sU S k 1 x) (hdg : decode cc pc = .ok (.putfield 91, 3)) (kk : ∀ (H1 : Heap) (locs1 : List Loc), gX D (xcell g cI cB cZ cQ) xord g S' s H1 locs1 → W p l e R s m args below meth c H1 locs1 cs sl Q (F0 m (pc + 3) ls rest)) : W p l e R s m args below meth c H locs cs sl Q (F0 m pc ls (.int x :: .ref (g k) :: rest)) := by
  subst hS
  exact g_putN C O.1 X (q := k) (k := k) (x_pos hk (by decide)) (x_c10 g cI cB cZ cQ S hk) (ci := 10) rfl x_in10 tyX10 tyX10_ok nmX10 1 (by decide) (O.2 _ _ _ C.2.2.2.2.2 _ xl_X2_91) rfl rfl rfl (Nat.le_of_ble_eq_true rfl) (fun i h => sU_ne h) (by rw [x_c10 g cI cB cZ cQ _ hk, sU_eq]; rfl) hdg kk
theorem xl_X11_250 : Cond.fieldLinkNest RX11 250 "GrottoHours$Walk" "sin" "I" "GrottoHours" ∈ xNest := List.mem_of_getElem? (i := 81) rfl
theorem xg_X11_250 (C : gC p s m args meth c cc nL RX11 ret D (xtys cI cB cZ cQ) xord g Am) (O : xO g cI cB cZ cQ Am) (X : gX D (xcell g cI cB cZ cQ) xord g S s H locs) (hk : xk k = 10) (hdg : decode cc pc = .ok (.getfield 250, 3)) (kk : W p l e R s m args below meth c H locs cs sl Q (F0 m (pc + 3) ls (.int (S k 1) :: rest))) : W p l e R s m args below meth c H locs cs sl Q (F0 m pc ls (.ref (g k) :: rest)) :=
  g_getN C X (q := k) (k := k) (x_pos hk (by decide)) (x_c10 g cI cB cZ cQ S hk) (ci := 10) rfl x_in10 1 (by decide) (O.2 _ _ _ C.2.2.2.2.2 _ xl_X11_250) rfl hdg kk
theorem xp_X11_250 (C : gC p s m args meth c cc nL RX11 ret D (xtys cI cB cZ cQ) xord g Am) (O : xO g cI cB cZ cQ Am) (X : gX D (xcell g cI cB cZ cQ) xord g S s H locs) (hk : xk k = 10) {x : Int32} (hS : S' = sU S k 1 x) (hdg : decode cc pc = .ok (.putfield 250, 3)) (kk : ∀ (H1 : Heap) (locs1 : List Loc), gX D (xcell g cI cB cZ cQ) xord g S' s H1 locs1 → W p l e R s m args below meth c H1 locs1 cs sl Q (F0 m (pc + 3) ls rest)) : W p l e R s m args below meth c H locs cs sl Q (F0 m pc ls (.int x :: .ref (g k) :: rest)) := by
  subst hS
  exact g_putN C O.1 X (q := k) (k := k) (x_pos hk (by decide)) (x_c10 g cI cB cZ cQ S hk) (ci := 10) rfl x_in10 tyX10 tyX10_ok nmX10 1 (by decide) (O.2 _ _ _ C.2.2.2.2.2 _ xl_X11_250) rfl rfl rfl (Nat.le_of_ble_eq_true rfl) (fun i h => sU_ne h) (by rw [x_c10 g cI cB cZ cQ _ hk, sU_eq]; rfl) hdg kk
theorem xl_X10_18 : Cond.fieldLink RX10 18 "GrottoHours$Walk" "purse" "I" ∈ gT := gT_c2 75 rfl rfl
theorem xg_X10_18 (C : gC p s m args meth c cc nL RX10 ret D (xtys cI cB cZ cQ) xord g Am) (O : xO g cI cB cZ cQ Am) (X : gX D (xcell g cI cB cZ cQ) xord g S s H locs) (hk : xk k = 10) (hdg : decode cc pc = .ok (.getfield 18, 3)) (kk : W p l e R s m args below meth c H locs cs sl Q (F0 m (pc + 3) ls (.int (S k 2) :: rest))) : W p l e R s m args below meth c H locs cs sl Q (F0 m pc ls (.ref (g k) :: rest)) :=
  g_get C X (q := k) (k := k) (x_pos hk (by decide)) (x_c10 g cI cB cZ cQ S hk) (ci := 10) rfl x_in10 2 (by decide) xl_X10_18 rfl hdg kk
theorem xp_X10_18 (C : gC p s m args meth c cc nL RX10 ret D (xtys cI cB cZ cQ) xord g Am) (O : xO g cI cB cZ cQ Am) (X : gX D (xcell g cI cB cZ cQ) xord g S s H locs) (hk : xk k = 10) {x : Int32} (hS : S' = sU S k 2 x) (hdg : decode cc pc = .ok (.putfield 18, 3)) (kk : ∀ (H1 : Heap) (locs1 : List Loc), gX D (xcell g cI cB cZ cQ) xord g S' s H1 locs1 → W p l e R s m args below meth c H1 locs1 cs sl Q (F0 m (pc + 3) ls rest)) : W p l e R s m args below meth c H locs cs sl Q (F0 m pc ls (.int x :: .ref (g k) :: rest)) := by
  subst hS
  exact g_put C O.1 X (q := k) (k := k) (x_pos hk (by decide)) (x_c10 g cI cB cZ cQ S hk) (ci := 10) rfl x_in10 tyX10 tyX10_ok nmX10 2 (by decide) xl_X10_18 rfl rfl rfl (Nat.le_of_ble_eq_true rfl) (fun i h => sU_ne h) (by rw [x_c10 g cI cB cZ cQ _ hk, sU_eq]; rfl) hdg kk
theorem xl_X11_252 : Cond.fieldLinkNest RX11 252 "GrottoHours$Walk" "purse" "I" "GrottoHours" ∈ xNest := List.mem_of_getElem? (i := 82) rfl
theorem xg_X11_252 (C : gC p s m args meth c cc nL RX11 ret D (xtys cI cB cZ cQ) xord g Am) (O : xO g cI cB cZ cQ Am) (X : gX D (xcell g cI cB cZ cQ) xord g S s H locs) (hk : xk k = 10) (hdg : decode cc pc = .ok (.getfield 252, 3)) (kk : W p l e R s m args below meth c H locs cs sl Q (F0 m (pc + 3) ls (.int (S k 2) :: rest))) : W p l e R s m args below meth c H locs cs sl Q (F0 m pc ls (.ref (g k) :: rest)) :=
  g_getN C X (q := k) (k := k) (x_pos hk (by decide)) (x_c10 g cI cB cZ cQ S hk) (ci := 10) rfl x_in10 2 (by decide) (O.2 _ _ _ C.2.2.2.2.2 _ xl_X11_252) rfl hdg kk
theorem xp_X11_252 (C : gC p s m args meth c cc nL RX11 ret D (xtys cI cB cZ cQ) xord g Am) (O : xO g cI cB cZ cQ Am) (X : gX D (xcell g cI cB cZ cQ) xord g S s H locs) (hk : xk k = 10) {x : Int32} (hS : S' = sU S k 2 x) (hdg : decode cc pc = .ok (.putfield 252, 3)) (kk : ∀ (H1 : Heap) (locs1 : List Loc), gX D (xcell g cI cB cZ cQ) xord g S' s H1 locs1 → W p l e R s m args below meth c H1 locs1 cs sl Q (F0 m (pc + 3) ls rest)) : W p l e R s m args below meth c H locs cs sl Q (F0 m pc ls (.int x :: .ref (g k) :: rest)) := by
  subst hS
  exact g_putN C O.1 X (q := k) (k := k) (x_pos hk (by decide)) (x_c10 g cI cB cZ cQ S hk) (ci := 10) rfl x_in10 tyX10 tyX10_ok nmX10 2 (by decide) (O.2 _ _ _ C.2.2.2.2.2 _ xl_X11_252) rfl rfl rfl (Nat.le_of_ble_eq_true rfl) (fun i h => sU_ne h) (by rw [x_c10 g cI cB cZ cQ _ hk, sU_eq]; rfl) hdg kk
theorem xl_X10_21 : Cond.fieldLink RX10 21 "GrottoHours$Walk" "silences" "I" ∈ gT := gT_c2 77 rfl rfl
theorem xg_X10_21 (C : gC p s m args meth c cc nL RX10 ret D (xtys cI cB cZ cQ) xord g Am) (O : xO g cI cB cZ cQ Am) (X : gX D (xcell g cI cB cZ cQ) xord g S s H locs) (hk : xk k = 10) (hdg : decode cc pc = .ok (.getfield 21, 3)) (kk : W p l e R s m args below meth c H locs cs sl Q (F0 m (pc + 3) ls (.int (S k 3) :: rest))) : W p l e R s m args below meth c H locs cs sl Q (F0 m pc ls (.ref (g k) :: rest)) :=
  g_get C X (q := k) (k := k) (x_pos hk (by decide)) (x_c10 g cI cB cZ cQ S hk) (ci := 10) rfl x_in10 3 (by decide) xl_X10_21 rfl hdg kk
theorem xp_X10_21 (C : gC p s m args meth c cc nL RX10 ret D (xtys cI cB cZ cQ) xord g Am) (O : xO g cI cB cZ cQ Am) (X : gX D (xcell g cI cB cZ cQ) xord g S s H locs) (hk : xk k = 10) {x : Int32} (hS : S' = sU S k 3 x) (hdg : decode cc pc = .ok (.putfield 21, 3)) (kk : ∀ (H1 : Heap) (locs1 : List Loc), gX D (xcell g cI cB cZ cQ) xord g S' s H1 locs1 → W p l e R s m args below meth c H1 locs1 cs sl Q (F0 m (pc + 3) ls rest)) : W p l e R s m args below meth c H locs cs sl Q (F0 m pc ls (.int x :: .ref (g k) :: rest)) := by
  subst hS
  exact g_put C O.1 X (q := k) (k := k) (x_pos hk (by decide)) (x_c10 g cI cB cZ cQ S hk) (ci := 10) rfl x_in10 tyX10 tyX10_ok nmX10 3 (by decide) xl_X10_21 rfl rfl rfl (Nat.le_of_ble_eq_true rfl) (fun i h => sU_ne h) (by rw [x_c10 g cI cB cZ cQ _ hk, sU_eq]; rfl) hdg kk
theorem xl_X11_254 : Cond.fieldLinkNest RX11 254 "GrottoHours$Walk" "silences" "I" "GrottoHours" ∈ xNest := List.mem_of_getElem? (i := 83) rfl
theorem xg_X11_254 (C : gC p s m args meth c cc nL RX11 ret D (xtys cI cB cZ cQ) xord g Am) (O : xO g cI cB cZ cQ Am) (X : gX D (xcell g cI cB cZ cQ) xord g S s H locs) (hk : xk k = 10) (hdg : decode cc pc = .ok (.getfield 254, 3)) (kk : W p l e R s m args below meth c H locs cs sl Q (F0 m (pc + 3) ls (.int (S k 3) :: rest))) : W p l e R s m args below meth c H locs cs sl Q (F0 m pc ls (.ref (g k) :: rest)) :=
  g_getN C X (q := k) (k := k) (x_pos hk (by decide)) (x_c10 g cI cB cZ cQ S hk) (ci := 10) rfl x_in10 3 (by decide) (O.2 _ _ _ C.2.2.2.2.2 _ xl_X11_254) rfl hdg kk
theorem xp_X11_254 (C : gC p s m args meth c cc nL RX11 ret D (xtys cI cB cZ cQ) xord g Am) (O : xO g cI cB cZ cQ Am) (X : gX D (xcell g cI cB cZ cQ) xord g S s H locs) (hk : xk k = 10) {x : Int32} (hS : S' = sU S k 3 x) (hdg : decode cc pc = .ok (.putfield 254, 3)) (kk : ∀ (H1 : Heap) (locs1 : List Loc), gX D (xcell g cI cB cZ cQ) xord g S' s H1 locs1 → W p l e R s m args below meth c H1 locs1 cs sl Q (F0 m (pc + 3) ls rest)) : W p l e R s m args below meth c H locs cs sl Q (F0 m pc ls (.int x :: .ref (g k) :: rest)) := by
  subst hS
  exact g_putN C O.1 X (q := k) (k := k) (x_pos hk (by decide)) (x_c10 g cI cB cZ cQ S hk) (ci := 10) rfl x_in10 tyX10 tyX10_ok nmX10 3 (by decide) (O.2 _ _ _ C.2.2.2.2.2 _ xl_X11_254) rfl rfl rfl (Nat.le_of_ble_eq_true rfl) (fun i h => sU_ne h) (by rw [x_c10 g cI cB cZ cQ _ hk, sU_eq]; rfl) hdg kk
theorem xl_X10_24 : Cond.fieldLink RX10 24 "GrottoHours$Walk" "hired" "I" ∈ gT := gT_c2 79 rfl rfl
theorem xg_X10_24 (C : gC p s m args meth c cc nL RX10 ret D (xtys cI cB cZ cQ) xord g Am) (O : xO g cI cB cZ cQ Am) (X : gX D (xcell g cI cB cZ cQ) xord g S s H locs) (hk : xk k = 10) (hdg : decode cc pc = .ok (.getfield 24, 3)) (kk : W p l e R s m args below meth c H locs cs sl Q (F0 m (pc + 3) ls (.int (S k 4) :: rest))) : W p l e R s m args below meth c H locs cs sl Q (F0 m pc ls (.ref (g k) :: rest)) :=
  g_get C X (q := k) (k := k) (x_pos hk (by decide)) (x_c10 g cI cB cZ cQ S hk) (ci := 10) rfl x_in10 4 (by decide) xl_X10_24 rfl hdg kk
theorem xp_X10_24 (C : gC p s m args meth c cc nL RX10 ret D (xtys cI cB cZ cQ) xord g Am) (O : xO g cI cB cZ cQ Am) (X : gX D (xcell g cI cB cZ cQ) xord g S s H locs) (hk : xk k = 10) {x : Int32} (hS : S' = sU S k 4 x) (hdg : decode cc pc = .ok (.putfield 24, 3)) (kk : ∀ (H1 : Heap) (locs1 : List Loc), gX D (xcell g cI cB cZ cQ) xord g S' s H1 locs1 → W p l e R s m args below meth c H1 locs1 cs sl Q (F0 m (pc + 3) ls rest)) : W p l e R s m args below meth c H locs cs sl Q (F0 m pc ls (.int x :: .ref (g k) :: rest)) := by
  subst hS
  exact g_put C O.1 X (q := k) (k := k) (x_pos hk (by decide)) (x_c10 g cI cB cZ cQ S hk) (ci := 10) rfl x_in10 tyX10 tyX10_ok nmX10 4 (by decide) xl_X10_24 rfl rfl rfl (Nat.le_of_ble_eq_true rfl) (fun i h => sU_ne h) (by rw [x_c10 g cI cB cZ cQ _ hk, sU_eq]; rfl) hdg kk
theorem xl_X11_256 : Cond.fieldLinkNest RX11 256 "GrottoHours$Walk" "hired" "I" "GrottoHours" ∈ xNest := List.mem_of_getElem? (i := 84) rfl
theorem xg_X11_256 (C : gC p s m args meth c cc nL RX11 ret D (xtys cI cB cZ cQ) xord g Am) (O : xO g cI cB cZ cQ Am) (X : gX D (xcell g cI cB cZ cQ) xord g S s H locs) (hk : xk k = 10) (hdg : decode cc pc = .ok (.getfield 256, 3)) (kk : W p l e R s m args below meth c H locs cs sl Q (F0 m (pc + 3) ls (.int (S k 4) :: rest))) : W p l e R s m args below meth c H locs cs sl Q (F0 m pc ls (.ref (g k) :: rest)) :=
  g_getN C X (q := k) (k := k) (x_pos hk (by decide)) (x_c10 g cI cB cZ cQ S hk) (ci := 10) rfl x_in10 4 (by decide) (O.2 _ _ _ C.2.2.2.2.2 _ xl_X11_256) rfl hdg kk
theorem xp_X11_256 (C : gC p s m args meth c cc nL RX11 ret D (xtys cI cB cZ cQ) xord g Am) (O : xO g cI cB cZ cQ Am) (X : gX D (xcell g cI cB cZ cQ) xord g S s H locs) (hk : xk k = 10) {x : Int32} (hS : S' = sU S k 4 x) (hdg : decode cc pc = .ok (.putfield 256, 3)) (kk : ∀ (H1 : Heap) (locs1 : List Loc), gX D (xcell g cI cB cZ cQ) xord g S' s H1 locs1 → W p l e R s m args below meth c H1 locs1 cs sl Q (F0 m (pc + 3) ls rest)) : W p l e R s m args below meth c H locs cs sl Q (F0 m pc ls (.int x :: .ref (g k) :: rest)) := by
  subst hS
  exact g_putN C O.1 X (q := k) (k := k) (x_pos hk (by decide)) (x_c10 g cI cB cZ cQ S hk) (ci := 10) rfl x_in10 tyX10 tyX10_ok nmX10 4 (by decide) (O.2 _ _ _ C.2.2.2.2.2 _ xl_X11_256) rfl rfl rfl (Nat.le_of_ble_eq_true rfl) (fun i h => sU_ne h) (by rw [x_c10 g cI cB cZ cQ _ hk, sU_eq]; rfl) hdg kk
theorem xl_X10_27 : Cond.fieldLink RX10 27 "GrottoHours$Walk" "hour" "I" ∈ gT := gT_c2 81 rfl rfl
theorem xg_X10_27 (C : gC p s m args meth c cc nL RX10 ret D (xtys cI cB cZ cQ) xord g Am) (O : xO g cI cB cZ cQ Am) (X : gX D (xcell g cI cB cZ cQ) xord g S s H locs) (hk : xk k = 10) (hdg : decode cc pc = .ok (.getfield 27, 3)) (kk : W p l e R s m args below meth c H locs cs sl Q (F0 m (pc + 3) ls (.int (S k 5) :: rest))) : W p l e R s m args below meth c H locs cs sl Q (F0 m pc ls (.ref (g k) :: rest)) :=
  g_get C X (q := k) (k := k) (x_pos hk (by decide)) (x_c10 g cI cB cZ cQ S hk) (ci := 10) rfl x_in10 5 (by decide) xl_X10_27 rfl hdg kk
theorem xp_X10_27 (C : gC p s m args meth c cc nL RX10 ret D (xtys cI cB cZ cQ) xord g Am) (O : xO g cI cB cZ cQ Am) (X : gX D (xcell g cI cB cZ cQ) xord g S s H locs) (hk : xk k = 10) {x : Int32} (hS : S' = sU S k 5 x) (hdg : decode cc pc = .ok (.putfield 27, 3)) (kk : ∀ (H1 : Heap) (locs1 : List Loc), gX D (xcell g cI cB cZ cQ) xord g S' s H1 locs1 → W p l e R s m args below meth c H1 locs1 cs sl Q (F0 m (pc + 3) ls rest)) : W p l e R s m args below meth c H locs cs sl Q (F0 m pc ls (.int x :: .ref (g k) :: rest)) := by
  subst hS
  exact g_put C O.1 X (q := k) (k := k) (x_pos hk (by decide)) (x_c10 g cI cB cZ cQ S hk) (ci := 10) rfl x_in10 tyX10 tyX10_ok nmX10 5 (by decide) xl_X10_27 rfl rfl rfl (Nat.le_of_ble_eq_true rfl) (fun i h => sU_ne h) (by rw [x_c10 g cI cB cZ cQ _ hk, sU_eq]; rfl) hdg kk
theorem xl_X2_94 : Cond.fieldLinkNest RX2 94 "GrottoHours$Walk" "hour" "I" "GrottoHours" ∈ xNest := List.mem_of_getElem? (i := 85) rfl
theorem xg_X2_94 (C : gC p s m args meth c cc nL RX2 ret D (xtys cI cB cZ cQ) xord g Am) (O : xO g cI cB cZ cQ Am) (X : gX D (xcell g cI cB cZ cQ) xord g S s H locs) (hk : xk k = 10) (hdg : decode cc pc = .ok (.getfield 94, 3)) (kk : W p l e R s m args below meth c H locs cs sl Q (F0 m (pc + 3) ls (.int (S k 5) :: rest))) : W p l e R s m args below meth c H locs cs sl Q (F0 m pc ls (.ref (g k) :: rest)) :=
  g_getN C X (q := k) (k := k) (x_pos hk (by decide)) (x_c10 g cI cB cZ cQ S hk) (ci := 10) rfl x_in10 5 (by decide) (O.2 _ _ _ C.2.2.2.2.2 _ xl_X2_94) rfl hdg kk
theorem xp_X2_94 (C : gC p s m args meth c cc nL RX2 ret D (xtys cI cB cZ cQ) xord g Am) (O : xO g cI cB cZ cQ Am) (X : gX D (xcell g cI cB cZ cQ) xord g S s H locs) (hk : xk k = 10) {x : Int32} (hS : S' = sU S k 5 x) (hdg : decode cc pc = .ok (.putfield 94, 3)) (kk : ∀ (H1 : Heap) (locs1 : List Loc), gX D (xcell g cI cB cZ cQ) xord g S' s H1 locs1 → W p l e R s m args below meth c H1 locs1 cs sl Q (F0 m (pc + 3) ls rest)) : W p l e R s m args below meth c H locs cs sl Q (F0 m pc ls (.int x :: .ref (g k) :: rest)) := by
  subst hS
  exact g_putN C O.1 X (q := k) (k := k) (x_pos hk (by decide)) (x_c10 g cI cB cZ cQ S hk) (ci := 10) rfl x_in10 tyX10 tyX10_ok nmX10 5 (by decide) (O.2 _ _ _ C.2.2.2.2.2 _ xl_X2_94) rfl rfl rfl (Nat.le_of_ble_eq_true rfl) (fun i h => sU_ne h) (by rw [x_c10 g cI cB cZ cQ _ hk, sU_eq]; rfl) hdg kk
theorem xl_X11_261 : Cond.fieldLinkNest RX11 261 "GrottoHours$Walk" "hour" "I" "GrottoHours" ∈ xNest := List.mem_of_getElem? (i := 86) rfl
theorem xg_X11_261 (C : gC p s m args meth c cc nL RX11 ret D (xtys cI cB cZ cQ) xord g Am) (O : xO g cI cB cZ cQ Am) (X : gX D (xcell g cI cB cZ cQ) xord g S s H locs) (hk : xk k = 10) (hdg : decode cc pc = .ok (.getfield 261, 3)) (kk : W p l e R s m args below meth c H locs cs sl Q (F0 m (pc + 3) ls (.int (S k 5) :: rest))) : W p l e R s m args below meth c H locs cs sl Q (F0 m pc ls (.ref (g k) :: rest)) :=
  g_getN C X (q := k) (k := k) (x_pos hk (by decide)) (x_c10 g cI cB cZ cQ S hk) (ci := 10) rfl x_in10 5 (by decide) (O.2 _ _ _ C.2.2.2.2.2 _ xl_X11_261) rfl hdg kk
theorem xp_X11_261 (C : gC p s m args meth c cc nL RX11 ret D (xtys cI cB cZ cQ) xord g Am) (O : xO g cI cB cZ cQ Am) (X : gX D (xcell g cI cB cZ cQ) xord g S s H locs) (hk : xk k = 10) {x : Int32} (hS : S' = sU S k 5 x) (hdg : decode cc pc = .ok (.putfield 261, 3)) (kk : ∀ (H1 : Heap) (locs1 : List Loc), gX D (xcell g cI cB cZ cQ) xord g S' s H1 locs1 → W p l e R s m args below meth c H1 locs1 cs sl Q (F0 m (pc + 3) ls rest)) : W p l e R s m args below meth c H locs cs sl Q (F0 m pc ls (.int x :: .ref (g k) :: rest)) := by
  subst hS
  exact g_putN C O.1 X (q := k) (k := k) (x_pos hk (by decide)) (x_c10 g cI cB cZ cQ S hk) (ci := 10) rfl x_in10 tyX10 tyX10_ok nmX10 5 (by decide) (O.2 _ _ _ C.2.2.2.2.2 _ xl_X11_261) rfl rfl rfl (Nat.le_of_ble_eq_true rfl) (fun i h => sU_ne h) (by rw [x_c10 g cI cB cZ cQ _ hk, sU_eq]; rfl) hdg kk
theorem xl_X10_30 : Cond.fieldLink RX10 30 "GrottoHours$Walk" "wet" "I" ∈ gT := gT_c2 84 rfl rfl
theorem xg_X10_30 (C : gC p s m args meth c cc nL RX10 ret D (xtys cI cB cZ cQ) xord g Am) (O : xO g cI cB cZ cQ Am) (X : gX D (xcell g cI cB cZ cQ) xord g S s H locs) (hk : xk k = 10) (hdg : decode cc pc = .ok (.getfield 30, 3)) (kk : W p l e R s m args below meth c H locs cs sl Q (F0 m (pc + 3) ls (.int (S k 6) :: rest))) : W p l e R s m args below meth c H locs cs sl Q (F0 m pc ls (.ref (g k) :: rest)) :=
  g_get C X (q := k) (k := k) (x_pos hk (by decide)) (x_c10 g cI cB cZ cQ S hk) (ci := 10) rfl x_in10 6 (by decide) xl_X10_30 rfl hdg kk
theorem xp_X10_30 (C : gC p s m args meth c cc nL RX10 ret D (xtys cI cB cZ cQ) xord g Am) (O : xO g cI cB cZ cQ Am) (X : gX D (xcell g cI cB cZ cQ) xord g S s H locs) (hk : xk k = 10) {x : Int32} (hS : S' = sU S k 6 x) (hdg : decode cc pc = .ok (.putfield 30, 3)) (kk : ∀ (H1 : Heap) (locs1 : List Loc), gX D (xcell g cI cB cZ cQ) xord g S' s H1 locs1 → W p l e R s m args below meth c H1 locs1 cs sl Q (F0 m (pc + 3) ls rest)) : W p l e R s m args below meth c H locs cs sl Q (F0 m pc ls (.int x :: .ref (g k) :: rest)) := by
  subst hS
  exact g_put C O.1 X (q := k) (k := k) (x_pos hk (by decide)) (x_c10 g cI cB cZ cQ S hk) (ci := 10) rfl x_in10 tyX10 tyX10_ok nmX10 6 (by decide) xl_X10_30 rfl rfl rfl (Nat.le_of_ble_eq_true rfl) (fun i h => sU_ne h) (by rw [x_c10 g cI cB cZ cQ _ hk, sU_eq]; rfl) hdg kk
theorem xl_X10_33 : Cond.fieldLink RX10 33 "GrottoHours$Walk" "drained" "I" ∈ gT := gT_c2 85 rfl rfl
theorem xg_X10_33 (C : gC p s m args meth c cc nL RX10 ret D (xtys cI cB cZ cQ) xord g Am) (O : xO g cI cB cZ cQ Am) (X : gX D (xcell g cI cB cZ cQ) xord g S s H locs) (hk : xk k = 10) (hdg : decode cc pc = .ok (.getfield 33, 3)) (kk : W p l e R s m args below meth c H locs cs sl Q (F0 m (pc + 3) ls (.int (S k 7) :: rest))) : W p l e R s m args below meth c H locs cs sl Q (F0 m pc ls (.ref (g k) :: rest)) :=
  g_get C X (q := k) (k := k) (x_pos hk (by decide)) (x_c10 g cI cB cZ cQ S hk) (ci := 10) rfl x_in10 7 (by decide) xl_X10_33 rfl hdg kk
theorem xp_X10_33 (C : gC p s m args meth c cc nL RX10 ret D (xtys cI cB cZ cQ) xord g Am) (O : xO g cI cB cZ cQ Am) (X : gX D (xcell g cI cB cZ cQ) xord g S s H locs) (hk : xk k = 10) {x : Int32} (hS : S' = sU S k 7 x) (hdg : decode cc pc = .ok (.putfield 33, 3)) (kk : ∀ (H1 : Heap) (locs1 : List Loc), gX D (xcell g cI cB cZ cQ) xord g S' s H1 locs1 → W p l e R s m args below meth c H1 locs1 cs sl Q (F0 m (pc + 3) ls rest)) : W p l e R s m args below meth c H locs cs sl Q (F0 m pc ls (.int x :: .ref (g k) :: rest)) := by
  subst hS
  exact g_put C O.1 X (q := k) (k := k) (x_pos hk (by decide)) (x_c10 g cI cB cZ cQ S hk) (ci := 10) rfl x_in10 tyX10 tyX10_ok nmX10 7 (by decide) xl_X10_33 rfl rfl rfl (Nat.le_of_ble_eq_true rfl) (fun i h => sU_ne h) (by rw [x_c10 g cI cB cZ cQ _ hk, sU_eq]; rfl) hdg kk
theorem xl_X6_13 : Cond.fieldLink RX6 13 "GrottoHours$Sharing" "best" "[[I" ∈ gT := gT_c2 111 rfl rfl
theorem xg_X6_13 (C : gC p s m args meth c cc nL RX6 ret D (xtys cI cB cZ cQ) xord g Am) (O : xO g cI cB cZ cQ Am) (X : gX D (xcell g cI cB cZ cQ) xord g S s H locs) (hk : xk k = 6) {j : Nat} (hj : k + 1 = j) (hdg : decode cc pc = .ok (.getfield 13, 3)) (kk : W p l e R s m args below meth c H locs cs sl Q (F0 m (pc + 3) ls (.ref (g j) :: rest))) : W p l e R s m args below meth c H locs cs sl Q (F0 m pc ls (.ref (g k) :: rest)) := by
  subst hj
  exact g_get C X (q := k) (k := k) (x_pos hk (by decide)) (x_c6 g cI cB cZ cQ S hk) (ci := 6) rfl x_in6 0 (by decide) xl_X6_13 rfl hdg kk
theorem xl_X6_16 : Cond.fieldLink RX6 16 "GrottoHours$Sharing" "row" "[I" ∈ gT := gT_c2 112 rfl rfl
theorem xg_X6_16 (C : gC p s m args meth c cc nL RX6 ret D (xtys cI cB cZ cQ) xord g Am) (O : xO g cI cB cZ cQ Am) (X : gX D (xcell g cI cB cZ cQ) xord g S s H locs) (hk : xk k = 6) {j : Nat} (hj : k + 9 = j) (hdg : decode cc pc = .ok (.getfield 16, 3)) (kk : W p l e R s m args below meth c H locs cs sl Q (F0 m (pc + 3) ls (.ref (g j) :: rest))) : W p l e R s m args below meth c H locs cs sl Q (F0 m pc ls (.ref (g k) :: rest)) := by
  subst hj
  exact g_get C X (q := k) (k := k) (x_pos hk (by decide)) (x_c6 g cI cB cZ cQ S hk) (ci := 6) rfl x_in6 1 (by decide) xl_X6_16 rfl hdg kk
theorem xl_X11_301 : Cond.fieldLinkNest RX11 301 "GrottoHours$Sharing" "row" "[I" "GrottoHours" ∈ xNest := List.mem_of_getElem? (i := 88) rfl
theorem xg_X11_301 (C : gC p s m args meth c cc nL RX11 ret D (xtys cI cB cZ cQ) xord g Am) (O : xO g cI cB cZ cQ Am) (X : gX D (xcell g cI cB cZ cQ) xord g S s H locs) (hk : xk k = 6) {j : Nat} (hj : k + 9 = j) (hdg : decode cc pc = .ok (.getfield 301, 3)) (kk : W p l e R s m args below meth c H locs cs sl Q (F0 m (pc + 3) ls (.ref (g j) :: rest))) : W p l e R s m args below meth c H locs cs sl Q (F0 m pc ls (.ref (g k) :: rest)) := by
  subst hj
  exact g_getN C X (q := k) (k := k) (x_pos hk (by decide)) (x_c6 g cI cB cZ cQ S hk) (ci := 6) rfl x_in6 1 (by decide) (O.2 _ _ _ C.2.2.2.2.2 _ xl_X11_301) rfl hdg kk
theorem xl_X6_20 : Cond.fieldLink RX6 20 "GrottoHours$Sharing" "many" "I" ∈ gT := gT_c2 114 rfl rfl
theorem xg_X6_20 (C : gC p s m args meth c cc nL RX6 ret D (xtys cI cB cZ cQ) xord g Am) (O : xO g cI cB cZ cQ Am) (X : gX D (xcell g cI cB cZ cQ) xord g S s H locs) (hk : xk k = 6) (hdg : decode cc pc = .ok (.getfield 20, 3)) (kk : W p l e R s m args below meth c H locs cs sl Q (F0 m (pc + 3) ls (.int (S k 2) :: rest))) : W p l e R s m args below meth c H locs cs sl Q (F0 m pc ls (.ref (g k) :: rest)) :=
  g_get C X (q := k) (k := k) (x_pos hk (by decide)) (x_c6 g cI cB cZ cQ S hk) (ci := 6) rfl x_in6 2 (by decide) xl_X6_20 rfl hdg kk
theorem xp_X6_20 (C : gC p s m args meth c cc nL RX6 ret D (xtys cI cB cZ cQ) xord g Am) (O : xO g cI cB cZ cQ Am) (X : gX D (xcell g cI cB cZ cQ) xord g S s H locs) (hk : xk k = 6) {x : Int32} (hS : S' = sU S k 2 x) (hdg : decode cc pc = .ok (.putfield 20, 3)) (kk : ∀ (H1 : Heap) (locs1 : List Loc), gX D (xcell g cI cB cZ cQ) xord g S' s H1 locs1 → W p l e R s m args below meth c H1 locs1 cs sl Q (F0 m (pc + 3) ls rest)) : W p l e R s m args below meth c H locs cs sl Q (F0 m pc ls (.int x :: .ref (g k) :: rest)) := by
  subst hS
  exact g_put C O.1 X (q := k) (k := k) (x_pos hk (by decide)) (x_c6 g cI cB cZ cQ S hk) (ci := 6) rfl x_in6 tyX6 tyX6_ok nmX6 2 (by decide) xl_X6_20 rfl rfl rfl (Nat.le_of_ble_eq_true rfl) (fun i h => sU_ne h) (by rw [x_c6 g cI cB cZ cQ _ hk, sU_eq]; rfl) hdg kk
theorem xl_X11_297 : Cond.fieldLinkNest RX11 297 "GrottoHours$Sharing" "many" "I" "GrottoHours" ∈ xNest := List.mem_of_getElem? (i := 89) rfl
theorem xg_X11_297 (C : gC p s m args meth c cc nL RX11 ret D (xtys cI cB cZ cQ) xord g Am) (O : xO g cI cB cZ cQ Am) (X : gX D (xcell g cI cB cZ cQ) xord g S s H locs) (hk : xk k = 6) (hdg : decode cc pc = .ok (.getfield 297, 3)) (kk : W p l e R s m args below meth c H locs cs sl Q (F0 m (pc + 3) ls (.int (S k 2) :: rest))) : W p l e R s m args below meth c H locs cs sl Q (F0 m pc ls (.ref (g k) :: rest)) :=
  g_getN C X (q := k) (k := k) (x_pos hk (by decide)) (x_c6 g cI cB cZ cQ S hk) (ci := 6) rfl x_in6 2 (by decide) (O.2 _ _ _ C.2.2.2.2.2 _ xl_X11_297) rfl hdg kk
theorem xp_X11_297 (C : gC p s m args meth c cc nL RX11 ret D (xtys cI cB cZ cQ) xord g Am) (O : xO g cI cB cZ cQ Am) (X : gX D (xcell g cI cB cZ cQ) xord g S s H locs) (hk : xk k = 6) {x : Int32} (hS : S' = sU S k 2 x) (hdg : decode cc pc = .ok (.putfield 297, 3)) (kk : ∀ (H1 : Heap) (locs1 : List Loc), gX D (xcell g cI cB cZ cQ) xord g S' s H1 locs1 → W p l e R s m args below meth c H1 locs1 cs sl Q (F0 m (pc + 3) ls rest)) : W p l e R s m args below meth c H locs cs sl Q (F0 m pc ls (.int x :: .ref (g k) :: rest)) := by
  subst hS
  exact g_putN C O.1 X (q := k) (k := k) (x_pos hk (by decide)) (x_c6 g cI cB cZ cQ S hk) (ci := 6) rfl x_in6 tyX6 tyX6_ok nmX6 2 (by decide) (O.2 _ _ _ C.2.2.2.2.2 _ xl_X11_297) rfl rfl rfl (Nat.le_of_ble_eq_true rfl) (fun i h => sU_ne h) (by rw [x_c6 g cI cB cZ cQ _ hk, sU_eq]; rfl) hdg kk
theorem xl_X6_24 : Cond.fieldLink RX6 24 "GrottoHours$Sharing" "much" "I" ∈ gT := gT_c2 116 rfl rfl
theorem xg_X6_24 (C : gC p s m args meth c cc nL RX6 ret D (xtys cI cB cZ cQ) xord g Am) (O : xO g cI cB cZ cQ Am) (X : gX D (xcell g cI cB cZ cQ) xord g S s H locs) (hk : xk k = 6) (hdg : decode cc pc = .ok (.getfield 24, 3)) (kk : W p l e R s m args below meth c H locs cs sl Q (F0 m (pc + 3) ls (.int (S k 3) :: rest))) : W p l e R s m args below meth c H locs cs sl Q (F0 m pc ls (.ref (g k) :: rest)) :=
  g_get C X (q := k) (k := k) (x_pos hk (by decide)) (x_c6 g cI cB cZ cQ S hk) (ci := 6) rfl x_in6 3 (by decide) xl_X6_24 rfl hdg kk
theorem xp_X6_24 (C : gC p s m args meth c cc nL RX6 ret D (xtys cI cB cZ cQ) xord g Am) (O : xO g cI cB cZ cQ Am) (X : gX D (xcell g cI cB cZ cQ) xord g S s H locs) (hk : xk k = 6) {x : Int32} (hS : S' = sU S k 3 x) (hdg : decode cc pc = .ok (.putfield 24, 3)) (kk : ∀ (H1 : Heap) (locs1 : List Loc), gX D (xcell g cI cB cZ cQ) xord g S' s H1 locs1 → W p l e R s m args below meth c H1 locs1 cs sl Q (F0 m (pc + 3) ls rest)) : W p l e R s m args below meth c H locs cs sl Q (F0 m pc ls (.int x :: .ref (g k) :: rest)) := by
  subst hS
  exact g_put C O.1 X (q := k) (k := k) (x_pos hk (by decide)) (x_c6 g cI cB cZ cQ S hk) (ci := 6) rfl x_in6 tyX6 tyX6_ok nmX6 3 (by decide) xl_X6_24 rfl rfl rfl (Nat.le_of_ble_eq_true rfl) (fun i h => sU_ne h) (by rw [x_c6 g cI cB cZ cQ _ hk, sU_eq]; rfl) hdg kk
theorem xl_X11_298 : Cond.fieldLinkNest RX11 298 "GrottoHours$Sharing" "much" "I" "GrottoHours" ∈ xNest := List.mem_of_getElem? (i := 90) rfl
theorem xg_X11_298 (C : gC p s m args meth c cc nL RX11 ret D (xtys cI cB cZ cQ) xord g Am) (O : xO g cI cB cZ cQ Am) (X : gX D (xcell g cI cB cZ cQ) xord g S s H locs) (hk : xk k = 6) (hdg : decode cc pc = .ok (.getfield 298, 3)) (kk : W p l e R s m args below meth c H locs cs sl Q (F0 m (pc + 3) ls (.int (S k 3) :: rest))) : W p l e R s m args below meth c H locs cs sl Q (F0 m pc ls (.ref (g k) :: rest)) :=
  g_getN C X (q := k) (k := k) (x_pos hk (by decide)) (x_c6 g cI cB cZ cQ S hk) (ci := 6) rfl x_in6 3 (by decide) (O.2 _ _ _ C.2.2.2.2.2 _ xl_X11_298) rfl hdg kk
theorem xp_X11_298 (C : gC p s m args meth c cc nL RX11 ret D (xtys cI cB cZ cQ) xord g Am) (O : xO g cI cB cZ cQ Am) (X : gX D (xcell g cI cB cZ cQ) xord g S s H locs) (hk : xk k = 6) {x : Int32} (hS : S' = sU S k 3 x) (hdg : decode cc pc = .ok (.putfield 298, 3)) (kk : ∀ (H1 : Heap) (locs1 : List Loc), gX D (xcell g cI cB cZ cQ) xord g S' s H1 locs1 → W p l e R s m args below meth c H1 locs1 cs sl Q (F0 m (pc + 3) ls rest)) : W p l e R s m args below meth c H locs cs sl Q (F0 m pc ls (.int x :: .ref (g k) :: rest)) := by
  subst hS
  exact g_putN C O.1 X (q := k) (k := k) (x_pos hk (by decide)) (x_c6 g cI cB cZ cQ S hk) (ci := 6) rfl x_in6 tyX6 tyX6_ok nmX6 3 (by decide) (O.2 _ _ _ C.2.2.2.2.2 _ xl_X11_298) rfl rfl rfl (Nat.le_of_ble_eq_true rfl) (fun i h => sU_ne h) (by rw [x_c6 g cI cB cZ cQ _ hk, sU_eq]; rfl) hdg kk
theorem xl_X2_11 : Cond.fieldLink RX2 11 "GrottoHours$Guess" "sins" "[[I" ∈ gT := gT_c2 134 rfl rfl
theorem xg_X2_11 (C : gC p s m args meth c cc nL RX2 ret D (xtys cI cB cZ cQ) xord g Am) (O : xO g cI cB cZ cQ Am) (X : gX D (xcell g cI cB cZ cQ) xord g S s H locs) (hk : xk k = 2) {j : Nat} (hj : k + 1 = j) (hdg : decode cc pc = .ok (.getfield 11, 3)) (kk : W p l e R s m args below meth c H locs cs sl Q (F0 m (pc + 3) ls (.ref (g j) :: rest))) : W p l e R s m args below meth c H locs cs sl Q (F0 m pc ls (.ref (g k) :: rest)) := by
  subst hj
  exact g_get C X (q := k) (k := k) (x_pos hk (by decide)) (x_c2 g cI cB cZ cQ S hk) (ci := 2) rfl x_in2 0 (by decide) xl_X2_11 rfl hdg kk
theorem xl_X2_16 : Cond.fieldLink RX2 16 "GrottoHours$Guess" "course" "[I" ∈ gT := gT_c2 135 rfl rfl
theorem xg_X2_16 (C : gC p s m args meth c cc nL RX2 ret D (xtys cI cB cZ cQ) xord g Am) (O : xO g cI cB cZ cQ Am) (X : gX D (xcell g cI cB cZ cQ) xord g S s H locs) (hk : xk k = 2) {j : Nat} (hj : k + 8 = j) (hdg : decode cc pc = .ok (.getfield 16, 3)) (kk : W p l e R s m args below meth c H locs cs sl Q (F0 m (pc + 3) ls (.ref (g j) :: rest))) : W p l e R s m args below meth c H locs cs sl Q (F0 m pc ls (.ref (g k) :: rest)) := by
  subst hj
  exact g_get C X (q := k) (k := k) (x_pos hk (by decide)) (x_c2 g cI cB cZ cQ S hk) (ci := 2) rfl x_in2 1 (by decide) xl_X2_16 rfl hdg kk
theorem xl_X2_20 : Cond.fieldLink RX2 20 "GrottoHours$Guess" "worstBits" "[I" ∈ gT := gT_c2 136 rfl rfl
theorem xg_X2_20 (C : gC p s m args meth c cc nL RX2 ret D (xtys cI cB cZ cQ) xord g Am) (O : xO g cI cB cZ cQ Am) (X : gX D (xcell g cI cB cZ cQ) xord g S s H locs) (hk : xk k = 2) {j : Nat} (hj : k + 9 = j) (hdg : decode cc pc = .ok (.getfield 20, 3)) (kk : W p l e R s m args below meth c H locs cs sl Q (F0 m (pc + 3) ls (.ref (g j) :: rest))) : W p l e R s m args below meth c H locs cs sl Q (F0 m pc ls (.ref (g k) :: rest)) := by
  subst hj
  exact g_get C X (q := k) (k := k) (x_pos hk (by decide)) (x_c2 g cI cB cZ cQ S hk) (ci := 2) rfl x_in2 2 (by decide) xl_X2_20 rfl hdg kk
theorem xl_X2_23 : Cond.fieldLink RX2 23 "GrottoHours$Guess" "many" "I" ∈ gT := gT_c2 137 rfl rfl
theorem xg_X2_23 (C : gC p s m args meth c cc nL RX2 ret D (xtys cI cB cZ cQ) xord g Am) (O : xO g cI cB cZ cQ Am) (X : gX D (xcell g cI cB cZ cQ) xord g S s H locs) (hk : xk k = 2) (hdg : decode cc pc = .ok (.getfield 23, 3)) (kk : W p l e R s m args below meth c H locs cs sl Q (F0 m (pc + 3) ls (.int (S k 3) :: rest))) : W p l e R s m args below meth c H locs cs sl Q (F0 m pc ls (.ref (g k) :: rest)) :=
  g_get C X (q := k) (k := k) (x_pos hk (by decide)) (x_c2 g cI cB cZ cQ S hk) (ci := 2) rfl x_in2 3 (by decide) xl_X2_23 rfl hdg kk
theorem xp_X2_23 (C : gC p s m args meth c cc nL RX2 ret D (xtys cI cB cZ cQ) xord g Am) (O : xO g cI cB cZ cQ Am) (X : gX D (xcell g cI cB cZ cQ) xord g S s H locs) (hk : xk k = 2) {x : Int32} (hS : S' = sU S k 3 x) (hdg : decode cc pc = .ok (.putfield 23, 3)) (kk : ∀ (H1 : Heap) (locs1 : List Loc), gX D (xcell g cI cB cZ cQ) xord g S' s H1 locs1 → W p l e R s m args below meth c H1 locs1 cs sl Q (F0 m (pc + 3) ls rest)) : W p l e R s m args below meth c H locs cs sl Q (F0 m pc ls (.int x :: .ref (g k) :: rest)) := by
  subst hS
  exact g_put C O.1 X (q := k) (k := k) (x_pos hk (by decide)) (x_c2 g cI cB cZ cQ S hk) (ci := 2) rfl x_in2 tyX2 tyX2_ok nmX2 3 (by decide) xl_X2_23 rfl rfl rfl (Nat.le_of_ble_eq_true rfl) (fun i h => sU_ne h) (by rw [x_c2 g cI cB cZ cQ _ hk, sU_eq]; rfl) hdg kk
theorem xl_X11_331 : Cond.fieldLinkNest RX11 331 "GrottoHours$Guess" "many" "I" "GrottoHours" ∈ xNest := List.mem_of_getElem? (i := 92) rfl
theorem xg_X11_331 (C : gC p s m args meth c cc nL RX11 ret D (xtys cI cB cZ cQ) xord g Am) (O : xO g cI cB cZ cQ Am) (X : gX D (xcell g cI cB cZ cQ) xord g S s H locs) (hk : xk k = 2) (hdg : decode cc pc = .ok (.getfield 331, 3)) (kk : W p l e R s m args below meth c H locs cs sl Q (F0 m (pc + 3) ls (.int (S k 3) :: rest))) : W p l e R s m args below meth c H locs cs sl Q (F0 m pc ls (.ref (g k) :: rest)) :=
  g_getN C X (q := k) (k := k) (x_pos hk (by decide)) (x_c2 g cI cB cZ cQ S hk) (ci := 2) rfl x_in2 3 (by decide) (O.2 _ _ _ C.2.2.2.2.2 _ xl_X11_331) rfl hdg kk
theorem xp_X11_331 (C : gC p s m args meth c cc nL RX11 ret D (xtys cI cB cZ cQ) xord g Am) (O : xO g cI cB cZ cQ Am) (X : gX D (xcell g cI cB cZ cQ) xord g S s H locs) (hk : xk k = 2) {x : Int32} (hS : S' = sU S k 3 x) (hdg : decode cc pc = .ok (.putfield 331, 3)) (kk : ∀ (H1 : Heap) (locs1 : List Loc), gX D (xcell g cI cB cZ cQ) xord g S' s H1 locs1 → W p l e R s m args below meth c H1 locs1 cs sl Q (F0 m (pc + 3) ls rest)) : W p l e R s m args below meth c H locs cs sl Q (F0 m pc ls (.int x :: .ref (g k) :: rest)) := by
  subst hS
  exact g_putN C O.1 X (q := k) (k := k) (x_pos hk (by decide)) (x_c2 g cI cB cZ cQ S hk) (ci := 2) rfl x_in2 tyX2 tyX2_ok nmX2 3 (by decide) (O.2 _ _ _ C.2.2.2.2.2 _ xl_X11_331) rfl rfl rfl (Nat.le_of_ble_eq_true rfl) (fun i h => sU_ne h) (by rw [x_c2 g cI cB cZ cQ _ hk, sU_eq]; rfl) hdg kk
theorem xl_X2_27 : Cond.fieldLink RX2 27 "GrottoHours$Guess" "earliest" "I" ∈ gT := gT_c2 139 rfl rfl
theorem xg_X2_27 (C : gC p s m args meth c cc nL RX2 ret D (xtys cI cB cZ cQ) xord g Am) (O : xO g cI cB cZ cQ Am) (X : gX D (xcell g cI cB cZ cQ) xord g S s H locs) (hk : xk k = 2) (hdg : decode cc pc = .ok (.getfield 27, 3)) (kk : W p l e R s m args below meth c H locs cs sl Q (F0 m (pc + 3) ls (.int (S k 4) :: rest))) : W p l e R s m args below meth c H locs cs sl Q (F0 m pc ls (.ref (g k) :: rest)) :=
  g_get C X (q := k) (k := k) (x_pos hk (by decide)) (x_c2 g cI cB cZ cQ S hk) (ci := 2) rfl x_in2 4 (by decide) xl_X2_27 rfl hdg kk
theorem xp_X2_27 (C : gC p s m args meth c cc nL RX2 ret D (xtys cI cB cZ cQ) xord g Am) (O : xO g cI cB cZ cQ Am) (X : gX D (xcell g cI cB cZ cQ) xord g S s H locs) (hk : xk k = 2) {x : Int32} (hS : S' = sU S k 4 x) (hdg : decode cc pc = .ok (.putfield 27, 3)) (kk : ∀ (H1 : Heap) (locs1 : List Loc), gX D (xcell g cI cB cZ cQ) xord g S' s H1 locs1 → W p l e R s m args below meth c H1 locs1 cs sl Q (F0 m (pc + 3) ls rest)) : W p l e R s m args below meth c H locs cs sl Q (F0 m pc ls (.int x :: .ref (g k) :: rest)) := by
  subst hS
  exact g_put C O.1 X (q := k) (k := k) (x_pos hk (by decide)) (x_c2 g cI cB cZ cQ S hk) (ci := 2) rfl x_in2 tyX2 tyX2_ok nmX2 4 (by decide) xl_X2_27 rfl rfl rfl (Nat.le_of_ble_eq_true rfl) (fun i h => sU_ne h) (by rw [x_c2 g cI cB cZ cQ _ hk, sU_eq]; rfl) hdg kk
theorem xl_X11_332 : Cond.fieldLinkNest RX11 332 "GrottoHours$Guess" "earliest" "I" "GrottoHours" ∈ xNest := List.mem_of_getElem? (i := 93) rfl
theorem xg_X11_332 (C : gC p s m args meth c cc nL RX11 ret D (xtys cI cB cZ cQ) xord g Am) (O : xO g cI cB cZ cQ Am) (X : gX D (xcell g cI cB cZ cQ) xord g S s H locs) (hk : xk k = 2) (hdg : decode cc pc = .ok (.getfield 332, 3)) (kk : W p l e R s m args below meth c H locs cs sl Q (F0 m (pc + 3) ls (.int (S k 4) :: rest))) : W p l e R s m args below meth c H locs cs sl Q (F0 m pc ls (.ref (g k) :: rest)) :=
  g_getN C X (q := k) (k := k) (x_pos hk (by decide)) (x_c2 g cI cB cZ cQ S hk) (ci := 2) rfl x_in2 4 (by decide) (O.2 _ _ _ C.2.2.2.2.2 _ xl_X11_332) rfl hdg kk
theorem xp_X11_332 (C : gC p s m args meth c cc nL RX11 ret D (xtys cI cB cZ cQ) xord g Am) (O : xO g cI cB cZ cQ Am) (X : gX D (xcell g cI cB cZ cQ) xord g S s H locs) (hk : xk k = 2) {x : Int32} (hS : S' = sU S k 4 x) (hdg : decode cc pc = .ok (.putfield 332, 3)) (kk : ∀ (H1 : Heap) (locs1 : List Loc), gX D (xcell g cI cB cZ cQ) xord g S' s H1 locs1 → W p l e R s m args below meth c H1 locs1 cs sl Q (F0 m (pc + 3) ls rest)) : W p l e R s m args below meth c H locs cs sl Q (F0 m pc ls (.int x :: .ref (g k) :: rest)) := by
  subst hS
  exact g_putN C O.1 X (q := k) (k := k) (x_pos hk (by decide)) (x_c2 g cI cB cZ cQ S hk) (ci := 2) rfl x_in2 tyX2 tyX2_ok nmX2 4 (by decide) (O.2 _ _ _ C.2.2.2.2.2 _ xl_X11_332) rfl rfl rfl (Nat.le_of_ble_eq_true rfl) (fun i h => sU_ne h) (by rw [x_c2 g cI cB cZ cQ _ hk, sU_eq]; rfl) hdg kk
theorem xl_X2_30 : Cond.fieldLink RX2 30 "GrottoHours$Guess" "isSoWithout" "Z" ∈ gT := gT_c2 141 rfl rfl
theorem xg_X2_30 (C : gC p s m args meth c cc nL RX2 ret D (xtys cI cB cZ cQ) xord g Am) (O : xO g cI cB cZ cQ Am) (X : gX D (xcell g cI cB cZ cQ) xord g S s H locs) (hk : xk k = 2) (hdg : decode cc pc = .ok (.getfield 30, 3)) (kk : W p l e R s m args below meth c H locs cs sl Q (F0 m (pc + 3) ls (.int (S k 5) :: rest))) : W p l e R s m args below meth c H locs cs sl Q (F0 m pc ls (.ref (g k) :: rest)) :=
  g_get C X (q := k) (k := k) (x_pos hk (by decide)) (x_c2 g cI cB cZ cQ S hk) (ci := 2) rfl x_in2 5 (by decide) xl_X2_30 rfl hdg kk
theorem xp_X2_30 (C : gC p s m args meth c cc nL RX2 ret D (xtys cI cB cZ cQ) xord g Am) (O : xO g cI cB cZ cQ Am) (X : gX D (xcell g cI cB cZ cQ) xord g S s H locs) (hk : xk k = 2) {x : Int32} (hz : zb x = true) (hS : S' = sU S k 5 x) (hdg : decode cc pc = .ok (.putfield 30, 3)) (kk : ∀ (H1 : Heap) (locs1 : List Loc), gX D (xcell g cI cB cZ cQ) xord g S' s H1 locs1 → W p l e R s m args below meth c H1 locs1 cs sl Q (F0 m (pc + 3) ls rest)) : W p l e R s m args below meth c H locs cs sl Q (F0 m pc ls (.int x :: .ref (g k) :: rest)) := by
  subst hS
  exact g_put C O.1 X (q := k) (k := k) (x_pos hk (by decide)) (x_c2 g cI cB cZ cQ S hk) (ci := 2) rfl x_in2 tyX2 tyX2_ok nmX2 5 (by decide) xl_X2_30 rfl (zb_narrow hz) (zb_fits hz) (Nat.le_of_ble_eq_true rfl) (fun i h => sU_ne h) (by rw [x_c2 g cI cB cZ cQ _ hk, sU_eq]; rfl) hdg kk
theorem xl_X11_335 : Cond.fieldLinkNest RX11 335 "GrottoHours$Guess" "isSoWithout" "Z" "GrottoHours" ∈ xNest := List.mem_of_getElem? (i := 94) rfl
theorem xg_X11_335 (C : gC p s m args meth c cc nL RX11 ret D (xtys cI cB cZ cQ) xord g Am) (O : xO g cI cB cZ cQ Am) (X : gX D (xcell g cI cB cZ cQ) xord g S s H locs) (hk : xk k = 2) (hdg : decode cc pc = .ok (.getfield 335, 3)) (kk : W p l e R s m args below meth c H locs cs sl Q (F0 m (pc + 3) ls (.int (S k 5) :: rest))) : W p l e R s m args below meth c H locs cs sl Q (F0 m pc ls (.ref (g k) :: rest)) :=
  g_getN C X (q := k) (k := k) (x_pos hk (by decide)) (x_c2 g cI cB cZ cQ S hk) (ci := 2) rfl x_in2 5 (by decide) (O.2 _ _ _ C.2.2.2.2.2 _ xl_X11_335) rfl hdg kk
theorem xp_X11_335 (C : gC p s m args meth c cc nL RX11 ret D (xtys cI cB cZ cQ) xord g Am) (O : xO g cI cB cZ cQ Am) (X : gX D (xcell g cI cB cZ cQ) xord g S s H locs) (hk : xk k = 2) {x : Int32} (hz : zb x = true) (hS : S' = sU S k 5 x) (hdg : decode cc pc = .ok (.putfield 335, 3)) (kk : ∀ (H1 : Heap) (locs1 : List Loc), gX D (xcell g cI cB cZ cQ) xord g S' s H1 locs1 → W p l e R s m args below meth c H1 locs1 cs sl Q (F0 m (pc + 3) ls rest)) : W p l e R s m args below meth c H locs cs sl Q (F0 m pc ls (.int x :: .ref (g k) :: rest)) := by
  subst hS
  exact g_putN C O.1 X (q := k) (k := k) (x_pos hk (by decide)) (x_c2 g cI cB cZ cQ S hk) (ci := 2) rfl x_in2 tyX2 tyX2_ok nmX2 5 (by decide) (O.2 _ _ _ C.2.2.2.2.2 _ xl_X11_335) rfl (zb_narrow hz) (zb_fits hz) (Nat.le_of_ble_eq_true rfl) (fun i h => sU_ne h) (by rw [x_c2 g cI cB cZ cQ _ hk, sU_eq]; rfl) hdg kk
theorem xl_X11_12 : Cond.fieldLink RX11 12 "GrottoHours" "reader" "LGrottoHours$Reader;" ∈ gT := gT_c2 158 rfl rfl
theorem xg_X11_12 (C : gC p s m args meth c cc nL RX11 ret D (xtys cI cB cZ cQ) xord g Am) (O : xO g cI cB cZ cQ Am) (X : gX D (xcell g cI cB cZ cQ) xord g S s H locs) (hk : xk k = 11) {j : Nat} (hj : k + 1 = j) (hdg : decode cc pc = .ok (.getfield 12, 3)) (kk : W p l e R s m args below meth c H locs cs sl Q (F0 m (pc + 3) ls (.ref (g j) :: rest))) : W p l e R s m args below meth c H locs cs sl Q (F0 m pc ls (.ref (g k) :: rest)) := by
  subst hj
  exact g_get C X (q := k) (k := k) (x_pos hk (by decide)) (x_c11 g cI cB cZ cQ S hk) (ci := 11) rfl x_in11 0 (by decide) xl_X11_12 rfl hdg kk
theorem xl_X11_19 : Cond.fieldLink RX11 19 "GrottoHours" "book" "LGrottoHours$Book;" ∈ gT := gT_c2 159 rfl rfl
theorem xg_X11_19 (C : gC p s m args meth c cc nL RX11 ret D (xtys cI cB cZ cQ) xord g Am) (O : xO g cI cB cZ cQ Am) (X : gX D (xcell g cI cB cZ cQ) xord g S s H locs) (hk : xk k = 11) {j : Nat} (hj : k + 20 = j) (hdg : decode cc pc = .ok (.getfield 19, 3)) (kk : W p l e R s m args below meth c H locs cs sl Q (F0 m (pc + 3) ls (.ref (g j) :: rest))) : W p l e R s m args below meth c H locs cs sl Q (F0 m pc ls (.ref (g k) :: rest)) := by
  subst hj
  exact g_get C X (q := k) (k := k) (x_pos hk (by decide)) (x_c11 g cI cB cZ cQ S hk) (ci := 11) rfl x_in11 1 (by decide) xl_X11_19 rfl hdg kk
theorem xl_X11_23 : Cond.fieldLink RX11 23 "GrottoHours" "kept" "LGrottoHours$Book;" ∈ gT := gT_c2 160 rfl rfl
theorem xg_X11_23 (C : gC p s m args meth c cc nL RX11 ret D (xtys cI cB cZ cQ) xord g Am) (O : xO g cI cB cZ cQ Am) (X : gX D (xcell g cI cB cZ cQ) xord g S s H locs) (hk : xk k = 11) {j : Nat} (hj : k + 33 = j) (hdg : decode cc pc = .ok (.getfield 23, 3)) (kk : W p l e R s m args below meth c H locs cs sl Q (F0 m (pc + 3) ls (.ref (g j) :: rest))) : W p l e R s m args below meth c H locs cs sl Q (F0 m pc ls (.ref (g k) :: rest)) := by
  subst hj
  exact g_get C X (q := k) (k := k) (x_pos hk (by decide)) (x_c11 g cI cB cZ cQ S hk) (ci := 11) rfl x_in11 2 (by decide) xl_X11_23 rfl hdg kk
theorem xl_X11_29 : Cond.fieldLink RX11 29 "GrottoHours" "draft" "LGrottoHours$State;" ∈ gT := gT_c2 161 rfl rfl
theorem xg_X11_29 (C : gC p s m args meth c cc nL RX11 ret D (xtys cI cB cZ cQ) xord g Am) (O : xO g cI cB cZ cQ Am) (X : gX D (xcell g cI cB cZ cQ) xord g S s H locs) (hk : xk k = 11) {j : Nat} (hj : k + 46 = j) (hdg : decode cc pc = .ok (.getfield 29, 3)) (kk : W p l e R s m args below meth c H locs cs sl Q (F0 m (pc + 3) ls (.ref (g j) :: rest))) : W p l e R s m args below meth c H locs cs sl Q (F0 m pc ls (.ref (g k) :: rest)) := by
  subst hj
  exact g_get C X (q := k) (k := k) (x_pos hk (by decide)) (x_c11 g cI cB cZ cQ S hk) (ci := 11) rfl x_in11 3 (by decide) xl_X11_29 rfl hdg kk
theorem xl_X11_36 : Cond.fieldLink RX11 36 "GrottoHours" "walk" "LGrottoHours$Walk;" ∈ gT := gT_c2 162 rfl rfl
theorem xg_X11_36 (C : gC p s m args meth c cc nL RX11 ret D (xtys cI cB cZ cQ) xord g Am) (O : xO g cI cB cZ cQ Am) (X : gX D (xcell g cI cB cZ cQ) xord g S s H locs) (hk : xk k = 11) {j : Nat} (hj : k + 51 = j) (hdg : decode cc pc = .ok (.getfield 36, 3)) (kk : W p l e R s m args below meth c H locs cs sl Q (F0 m (pc + 3) ls (.ref (g j) :: rest))) : W p l e R s m args below meth c H locs cs sl Q (F0 m pc ls (.ref (g k) :: rest)) := by
  subst hj
  exact g_get C X (q := k) (k := k) (x_pos hk (by decide)) (x_c11 g cI cB cZ cQ S hk) (ci := 11) rfl x_in11 4 (by decide) xl_X11_36 rfl hdg kk
theorem xl_X11_43 : Cond.fieldLink RX11 43 "GrottoHours" "sharing" "LGrottoHours$Sharing;" ∈ gT := gT_c2 163 rfl rfl
theorem xg_X11_43 (C : gC p s m args meth c cc nL RX11 ret D (xtys cI cB cZ cQ) xord g Am) (O : xO g cI cB cZ cQ Am) (X : gX D (xcell g cI cB cZ cQ) xord g S s H locs) (hk : xk k = 11) {j : Nat} (hj : k + 52 = j) (hdg : decode cc pc = .ok (.getfield 43, 3)) (kk : W p l e R s m args below meth c H locs cs sl Q (F0 m (pc + 3) ls (.ref (g j) :: rest))) : W p l e R s m args below meth c H locs cs sl Q (F0 m pc ls (.ref (g k) :: rest)) := by
  subst hj
  exact g_get C X (q := k) (k := k) (x_pos hk (by decide)) (x_c11 g cI cB cZ cQ S hk) (ci := 11) rfl x_in11 5 (by decide) xl_X11_43 rfl hdg kk
theorem xl_X11_50 : Cond.fieldLink RX11 50 "GrottoHours" "guess" "LGrottoHours$Guess;" ∈ gT := gT_c2 164 rfl rfl
theorem xg_X11_50 (C : gC p s m args meth c cc nL RX11 ret D (xtys cI cB cZ cQ) xord g Am) (O : xO g cI cB cZ cQ Am) (X : gX D (xcell g cI cB cZ cQ) xord g S s H locs) (hk : xk k = 11) {j : Nat} (hj : k + 62 = j) (hdg : decode cc pc = .ok (.getfield 50, 3)) (kk : W p l e R s m args below meth c H locs cs sl Q (F0 m (pc + 3) ls (.ref (g j) :: rest))) : W p l e R s m args below meth c H locs cs sl Q (F0 m pc ls (.ref (g k) :: rest)) := by
  subst hj
  exact g_get C X (q := k) (k := k) (x_pos hk (by decide)) (x_c11 g cI cB cZ cQ S hk) (ci := 11) rfl x_in11 6 (by decide) xl_X11_50 rfl hdg kk
theorem xl_X11_57 : Cond.fieldLink RX11 57 "GrottoHours" "town" "LGrottoHours$Town;" ∈ gT := gT_c2 165 rfl rfl
theorem xg_X11_57 (C : gC p s m args meth c cc nL RX11 ret D (xtys cI cB cZ cQ) xord g Am) (O : xO g cI cB cZ cQ Am) (X : gX D (xcell g cI cB cZ cQ) xord g S s H locs) {T : Nat} (hT : T = xtw S) (hk : xk k = 11) (hdg : decode cc pc = .ok (.getfield 57, 3)) (kk : W p l e R s m args below meth c H locs cs sl Q (F0 m (pc + 3) ls (.ref (g T) :: rest))) : W p l e R s m args below meth c H locs cs sl Q (F0 m pc ls (.ref (g k) :: rest)) := by
  have hk0 : k = 0 := x_all (P := fun k => k = 0) (by decide) (by decide) hk
  subst hk0
  subst hT
  exact g_get C X (q := 0) (k := 0) rfl (x_c11 g cI cB cZ cQ S (k := 0) rfl) (ci := 11) rfl x_in11 7 (by decide) xl_X11_57 rfl hdg kk
theorem xp_X11_57 (C : gC p s m args meth c cc nL RX11 ret D (xtys cI cB cZ cQ) xord g Am) (O : xO g cI cB cZ cQ Am) (X : gX D (xcell g cI cB cZ cQ) xord g S s H locs) {T : Nat} (hT : xk T = 9) (hk : xk k = 11) (hS : S' = sU S 0 7 (if T = 72 then 0 else 1)) (hdg : decode cc pc = .ok (.putfield 57, 3)) (kk : ∀ (H1 : Heap) (locs1 : List Loc), gX D (xcell g cI cB cZ cQ) xord g S' s H1 locs1 → W p l e R s m args below meth c H1 locs1 cs sl Q (F0 m (pc + 3) ls rest)) : W p l e R s m args below meth c H locs cs sl Q (F0 m pc ls (.ref (g T) :: .ref (g k) :: rest)) := by
  have hk0 : k = 0 := x_all (P := fun k => k = 0) (by decide) (by decide) hk
  subst hk0
  subst hS
  have hT2 : T = 4 ∨ T = 72 := x_all (P := fun k => k = 4 ∨ k = 72) (by decide) (by decide) hT
  rcases hT2 with rfl | rfl
  · exact g_put C O.1 X (q := 0) (k := 0) rfl (x_c11 g cI cB cZ cQ S (k := 0) rfl) (ci := 11) rfl x_in11 tyX11 tyX11_ok nmX11 7 (by decide) xl_X11_57 rfl rfl rfl (Nat.le_of_ble_eq_true rfl) (fun i h => sU_ne h) rfl hdg kk
  · exact g_put C O.1 X (q := 0) (k := 0) rfl (x_c11 g cI cB cZ cQ S (k := 0) rfl) (ci := 11) rfl x_in11 tyX11 tyX11_ok nmX11 7 (by decide) xl_X11_57 rfl rfl rfl (Nat.le_of_ble_eq_true rfl) (fun i h => sU_ne h) rfl hdg kk
theorem xl_X11_61 : Cond.fieldLink RX11 61 "GrottoHours" "isKept" "Z" ∈ gT := gT_c2 166 rfl rfl
theorem xg_X11_61 (C : gC p s m args meth c cc nL RX11 ret D (xtys cI cB cZ cQ) xord g Am) (O : xO g cI cB cZ cQ Am) (X : gX D (xcell g cI cB cZ cQ) xord g S s H locs) (hk : xk k = 11) (hdg : decode cc pc = .ok (.getfield 61, 3)) (kk : W p l e R s m args below meth c H locs cs sl Q (F0 m (pc + 3) ls (.int (S k 8) :: rest))) : W p l e R s m args below meth c H locs cs sl Q (F0 m pc ls (.ref (g k) :: rest)) :=
  g_get C X (q := k) (k := k) (x_pos hk (by decide)) (x_c11 g cI cB cZ cQ S hk) (ci := 11) rfl x_in11 8 (by decide) xl_X11_61 rfl hdg kk
theorem xp_X11_61 (C : gC p s m args meth c cc nL RX11 ret D (xtys cI cB cZ cQ) xord g Am) (O : xO g cI cB cZ cQ Am) (X : gX D (xcell g cI cB cZ cQ) xord g S s H locs) (hk : xk k = 11) {x : Int32} (hz : zb x = true) (hS : S' = sU S k 8 x) (hdg : decode cc pc = .ok (.putfield 61, 3)) (kk : ∀ (H1 : Heap) (locs1 : List Loc), gX D (xcell g cI cB cZ cQ) xord g S' s H1 locs1 → W p l e R s m args below meth c H1 locs1 cs sl Q (F0 m (pc + 3) ls rest)) : W p l e R s m args below meth c H locs cs sl Q (F0 m pc ls (.int x :: .ref (g k) :: rest)) := by
  subst hS
  exact g_put C O.1 X (q := k) (k := k) (x_pos hk (by decide)) (x_c11 g cI cB cZ cQ S hk) (ci := 11) rfl x_in11 tyX11 tyX11_ok nmX11 8 (by decide) xl_X11_61 rfl (zb_narrow hz) (zb_fits hz) (Nat.le_of_ble_eq_true rfl) (fun i h => sU_ne h) (by rw [x_c11 g cI cB cZ cQ _ hk, sU_eq]; rfl) hdg kk
theorem xl_X11_65 : Cond.fieldLink RX11 65 "GrottoHours" "seedNow" "I" ∈ gT := gT_c2 167 rfl rfl
theorem xg_X11_65 (C : gC p s m args meth c cc nL RX11 ret D (xtys cI cB cZ cQ) xord g Am) (O : xO g cI cB cZ cQ Am) (X : gX D (xcell g cI cB cZ cQ) xord g S s H locs) (hk : xk k = 11) (hdg : decode cc pc = .ok (.getfield 65, 3)) (kk : W p l e R s m args below meth c H locs cs sl Q (F0 m (pc + 3) ls (.int (S k 9) :: rest))) : W p l e R s m args below meth c H locs cs sl Q (F0 m pc ls (.ref (g k) :: rest)) :=
  g_get C X (q := k) (k := k) (x_pos hk (by decide)) (x_c11 g cI cB cZ cQ S hk) (ci := 11) rfl x_in11 9 (by decide) xl_X11_65 rfl hdg kk
theorem xp_X11_65 (C : gC p s m args meth c cc nL RX11 ret D (xtys cI cB cZ cQ) xord g Am) (O : xO g cI cB cZ cQ Am) (X : gX D (xcell g cI cB cZ cQ) xord g S s H locs) (hk : xk k = 11) {x : Int32} (hS : S' = sU S k 9 x) (hdg : decode cc pc = .ok (.putfield 65, 3)) (kk : ∀ (H1 : Heap) (locs1 : List Loc), gX D (xcell g cI cB cZ cQ) xord g S' s H1 locs1 → W p l e R s m args below meth c H1 locs1 cs sl Q (F0 m (pc + 3) ls rest)) : W p l e R s m args below meth c H locs cs sl Q (F0 m pc ls (.int x :: .ref (g k) :: rest)) := by
  subst hS
  exact g_put C O.1 X (q := k) (k := k) (x_pos hk (by decide)) (x_c11 g cI cB cZ cQ S hk) (ci := 11) rfl x_in11 tyX11 tyX11_ok nmX11 9 (by decide) xl_X11_65 rfl rfl rfl (Nat.le_of_ble_eq_true rfl) (fun i h => sU_ne h) (by rw [x_c11 g cI cB cZ cQ _ hk, sU_eq]; rfl) hdg kk
theorem x_rI (C : gC p s m args meth c cc nL own ret D (xtys cI cB cZ cQ) xord g Am) (X : gX D (xcell g cI cB cZ cQ) xord g S s H locs) (hk : xk k = 20) {n : Nat} (hn : xN k = n) {i : Int32} {j : Nat} (hin : vp_in i n) (hj : i.toNatClampNeg = j) (hdg : decode cc pc = .ok (.iaload, 1)) (kk : W p l e R s m args below meth c H locs cs sl Q (F0 m (pc + 1) ls (.int (S k j) :: rest))) : W p l e R s m args below meth c H locs cs sl Q (F0 m pc ls (.int i :: .ref (g k) :: rest)) := by
  subst hn
  exact g_iald C X (x_pos hk (by decide)) (x_cI g cI cB cZ cQ S hk) (t0 := 0) rfl hin hj hdg kk
theorem x_wI (C : gC p s m args meth c cc nL own ret D (xtys cI cB cZ cQ) xord g Am) (O : xO g cI cB cZ cQ Am) (X : gX D (xcell g cI cB cZ cQ) xord g S s H locs) (hk : xk k = 20) {n : Nat} (hn : xN k = n) {i x : Int32} {j : Nat} (hin : vp_in i n) (hj : i.toNatClampNeg = j) (hS : S' = sU S k j x) (hdg : decode cc pc = .ok (.iastore, 1)) (kk : ∀ (H1 : Heap) (locs1 : List Loc), gX D (xcell g cI cB cZ cQ) xord g S' s H1 locs1 → W p l e R s m args below meth c H1 locs1 cs sl Q (F0 m (pc + 1) ls rest)) : W p l e R s m args below meth c H locs cs sl Q (F0 m pc ls (.int x :: .int i :: .ref (g k) :: rest)) := by
  subst hn
  subst hS
  exact g_iast C O.1 X (x_pos hk (by decide)) (x_cI g cI cB cZ cQ S hk) (t0 := 0) rfl hin hj (fun i h => sU_ne h) (by rw [x_cI g cI cB cZ cQ _ hk, sU_eq]) hdg kk
theorem x_lI (C : gC p s m args meth c cc nL own ret D (xtys cI cB cZ cQ) xord g Am) (X : gX D (xcell g cI cB cZ cQ) xord g S s H locs) (hk : xk k = 20) {n : Nat} (hn : xN k = n) {x : Int32} (hx : Int32.ofNat n = x) (hdg : decode cc pc = .ok (.arraylength, 1)) (kk : W p l e R s m args below meth c H locs cs sl Q (F0 m (pc + 1) ls (.int x :: rest))) : W p l e R s m args below meth c H locs cs sl Q (F0 m pc ls (.ref (g k) :: rest)) := by
  subst hn
  exact g_alen C X (x_pos hk (by decide)) (x_cI g cI cB cZ cQ S hk) (t0 := 0) rfl hx hdg kk
theorem x_rB (C : gC p s m args meth c cc nL own ret D (xtys cI cB cZ cQ) xord g Am) (X : gX D (xcell g cI cB cZ cQ) xord g S s H locs) (hk : xk k = 21) {n : Nat} (hn : xN k = n) {i : Int32} {j : Nat} (hin : vp_in i n) (hj : i.toNatClampNeg = j) (hdg : decode cc pc = .ok (.baload, 1)) (kk : W p l e R s m args below meth c H locs cs sl Q (F0 m (pc + 1) ls (.int (S k j) :: rest))) : W p l e R s m args below meth c H locs cs sl Q (F0 m pc ls (.int i :: .ref (g k) :: rest)) := by
  subst hn
  exact g_bald C X (x_pos hk (by decide)) (x_cB g cI cB cZ cQ S hk) (t0 := 1) rfl hin hj hdg kk
theorem x_wB (C : gC p s m args meth c cc nL own ret D (xtys cI cB cZ cQ) xord g Am) (O : xO g cI cB cZ cQ Am) (X : gX D (xcell g cI cB cZ cQ) xord g S s H locs) (hk : xk k = 21) {n : Nat} (hn : xN k = n) {i x : Int32} {j : Nat} (hin : vp_in i n) (hj : i.toNatClampNeg = j) (hS : S' = sU S k j (vp_nar .byte x)) (hdg : decode cc pc = .ok (.bastore, 1)) (kk : ∀ (H1 : Heap) (locs1 : List Loc), gX D (xcell g cI cB cZ cQ) xord g S' s H1 locs1 → W p l e R s m args below meth c H1 locs1 cs sl Q (F0 m (pc + 1) ls rest)) : W p l e R s m args below meth c H locs cs sl Q (F0 m pc ls (.int x :: .int i :: .ref (g k) :: rest)) := by
  subst hn
  subst hS
  exact g_bast C O.1 X (x_pos hk (by decide)) (x_cB g cI cB cZ cQ S hk) (t0 := 1) rfl hin hj (fun i h => sU_ne h) (by rw [x_cB g cI cB cZ cQ _ hk, sU_eq]) hdg kk
theorem x_lB (C : gC p s m args meth c cc nL own ret D (xtys cI cB cZ cQ) xord g Am) (X : gX D (xcell g cI cB cZ cQ) xord g S s H locs) (hk : xk k = 21) {n : Nat} (hn : xN k = n) {x : Int32} (hx : Int32.ofNat n = x) (hdg : decode cc pc = .ok (.arraylength, 1)) (kk : W p l e R s m args below meth c H locs cs sl Q (F0 m (pc + 1) ls (.int x :: rest))) : W p l e R s m args below meth c H locs cs sl Q (F0 m pc ls (.ref (g k) :: rest)) := by
  subst hn
  exact g_alen C X (x_pos hk (by decide)) (x_cB g cI cB cZ cQ S hk) (t0 := 1) rfl hx hdg kk
theorem x_rZ (C : gC p s m args meth c cc nL own ret D (xtys cI cB cZ cQ) xord g Am) (X : gX D (xcell g cI cB cZ cQ) xord g S s H locs) (hk : xk k = 22) {n : Nat} (hn : xN k = n) {i : Int32} {j : Nat} (hin : vp_in i n) (hj : i.toNatClampNeg = j) (hdg : decode cc pc = .ok (.baload, 1)) (kk : W p l e R s m args below meth c H locs cs sl Q (F0 m (pc + 1) ls (.int (S k j) :: rest))) : W p l e R s m args below meth c H locs cs sl Q (F0 m pc ls (.int i :: .ref (g k) :: rest)) := by
  subst hn
  exact g_zald C X (x_pos hk (by decide)) (x_cZ g cI cB cZ cQ S hk) (t0 := 2) rfl hin hj hdg kk
theorem x_wZ (C : gC p s m args meth c cc nL own ret D (xtys cI cB cZ cQ) xord g Am) (O : xO g cI cB cZ cQ Am) (X : gX D (xcell g cI cB cZ cQ) xord g S s H locs) (hk : xk k = 22) {n : Nat} (hn : xN k = n) {i x : Int32} {j : Nat} (hin : vp_in i n) (hj : i.toNatClampNeg = j) (hS : S' = sU S k j (vp_nar .boolean x)) (hdg : decode cc pc = .ok (.bastore, 1)) (kk : ∀ (H1 : Heap) (locs1 : List Loc), gX D (xcell g cI cB cZ cQ) xord g S' s H1 locs1 → W p l e R s m args below meth c H1 locs1 cs sl Q (F0 m (pc + 1) ls rest)) : W p l e R s m args below meth c H locs cs sl Q (F0 m pc ls (.int x :: .int i :: .ref (g k) :: rest)) := by
  subst hn
  subst hS
  exact g_zast C O.1 X (x_pos hk (by decide)) (x_cZ g cI cB cZ cQ S hk) (t0 := 2) rfl hin hj (fun i h => sU_ne h) (by rw [x_cZ g cI cB cZ cQ _ hk, sU_eq]) hdg kk
theorem x_lZ (C : gC p s m args meth c cc nL own ret D (xtys cI cB cZ cQ) xord g Am) (X : gX D (xcell g cI cB cZ cQ) xord g S s H locs) (hk : xk k = 22) {n : Nat} (hn : xN k = n) {x : Int32} (hx : Int32.ofNat n = x) (hdg : decode cc pc = .ok (.arraylength, 1)) (kk : W p l e R s m args below meth c H locs cs sl Q (F0 m (pc + 1) ls (.int x :: rest))) : W p l e R s m args below meth c H locs cs sl Q (F0 m pc ls (.ref (g k) :: rest)) := by
  subst hn
  exact g_alen C X (x_pos hk (by decide)) (x_cZ g cI cB cZ cQ S hk) (t0 := 2) rfl hx hdg kk
theorem x_rQ (C : gC p s m args meth c cc nL own ret D (xtys cI cB cZ cQ) xord g Am) (X : gX D (xcell g cI cB cZ cQ) xord g S s H locs) (hk : xk k = 23) {n : Nat} (hn : xN k = n) {i : Int32} {j : Nat} (hin : vp_in i n) (hj : k + 1 + i.toNatClampNeg = j) (hdg : decode cc pc = .ok (.aaload, 1)) (kk : W p l e R s m args below meth c H locs cs sl Q (F0 m (pc + 1) ls (.ref (g j) :: rest))) : W p l e R s m args below meth c H locs cs sl Q (F0 m pc ls (.int i :: .ref (g k) :: rest)) := by
  subst hn
  subst hj
  have hlt : i.toNatClampNeg < xN k := Nat.not_le.mp fun q => hin (Or.inr q)
  exact g_aald C X (x_pos hk (by decide)) (x_cQ g cI cB cZ cQ S hk) (t0 := 3) rfl hin (if_pos hlt) hdg kk
theorem x_callV (C : gC p s m args meth c cc nL own ret D (xtys cI cB cZ cQ) xord g Am) (X : gX D (xcell g cI cB cZ cQ) xord g S s H locs) {y : MethodName} {cy : ByteArray} {mL n index d ci : Nat} {rt : Option FieldType} {As : List Value} {qc : vw_C} (w : gWV own index y cy mL rt n) (hk : xk k = ci) (hc : vwCl[ci]? = some qc) (hy : qc.1 = y.cls) (hc9 : ci < 12) (hM : gM l y cy mL rt d D (xtys cI cB cZ cQ) (xcell g cI cB cZ cQ) xord g Am (.ref (g k) :: As) S none S') (hR : d + 1 ≤ R.frames) (hR2 : 8 + (mL + 11) + (40 * d + 13) ≤ R.locals) (hcs : cs ≤ R.cells) (hsl : sl ≤ R.slots) (hn : As.length = n) (hls : ls.size = nL) {st : List Value} (hst : st = As.reverse ++ .ref (g k) :: rest) (hrest : (rest.map fun v => v.category).sum ≤ 8) (hdg : decode cc pc = .ok (.invokevirtual index, 3))
    (kk : ∀ (H1 : Heap) (locs1 : List Loc), gX D (xcell g cI cB cZ cQ) xord g S' s H1 locs1 → W p l e R s m args below meth c H1 locs1 cs sl Q (F0 m (pc + 3) ls rest)) : W p l e R s m args below meth c H locs cs sl Q (F0 m pc ls st) := by
  have he : ∃ fs, xcell g cI cB cZ cQ S k = (g k, .inr (ci, fs)) := by
    refine ⟨xfl g (xk k) k (S k), ?_⟩
    unfold xcell xE
    rw [if_neg (by omega), if_neg (by omega), if_neg (by omega), if_neg (by omega), hk]
  obtain ⟨fs, he⟩ := he
  exact g_callV C X w hc hy (gw_get (x_pos hk (by omega)) he) hM hR hR2 hcs hsl hn hls hst hrest hdg kk
theorem x_callVi (C : gC p s m args meth c cc nL own ret D (xtys cI cB cZ cQ) xord g Am) (X : gX D (xcell g cI cB cZ cQ) xord g S s H locs) {y : MethodName} {cy : ByteArray} {mL n index d ci : Nat} {rt : Option FieldType} {As : List Value} {qc : vw_C} {x : Int32} (w : gWV own index y cy mL rt n) (hk : xk k = ci) (hc : vwCl[ci]? = some qc) (hy : qc.1 = y.cls) (hc9 : ci < 12) (hM : gM l y cy mL rt d D (xtys cI cB cZ cQ) (xcell g cI cB cZ cQ) xord g Am (.ref (g k) :: As) S (some (.int x)) S') (hR : d + 1 ≤ R.frames) (hR2 : 8 + (mL + 11) + (40 * d + 13) ≤ R.locals) (hcs : cs ≤ R.cells) (hsl : sl ≤ R.slots) (hn : As.length = n) (hls : ls.size = nL) {st : List Value} (hst : st = As.reverse ++ .ref (g k) :: rest) (hrest : (rest.map fun v => v.category).sum ≤ 8) (hdg : decode cc pc = .ok (.invokevirtual index, 3))
    (kk : ∀ (H1 : Heap) (locs1 : List Loc), gX D (xcell g cI cB cZ cQ) xord g S' s H1 locs1 → W p l e R s m args below meth c H1 locs1 cs sl Q (F0 m (pc + 3) ls (.int x :: rest))) : W p l e R s m args below meth c H locs cs sl Q (F0 m pc ls st) := by
  have he : ∃ fs, xcell g cI cB cZ cQ S k = (g k, .inr (ci, fs)) := by
    refine ⟨xfl g (xk k) k (S k), ?_⟩
    unfold xcell xE
    rw [if_neg (by omega), if_neg (by omega), if_neg (by omega), if_neg (by omega), hk]
  obtain ⟨fs, he⟩ := he
  exact g_callVi C X w hc hy (gw_get (x_pos hk (by omega)) he) hM hR hR2 hcs hsl hn hls hst hrest hdg kk
end XROWS
end

/-! part 08.m05 -/
section
/-! the reference's methods as maps of states, and their walks (printed by wip/whole/mkm.py) -/
section
variable {p : Program} {l : Launch} {e : Env} {s : State} {m : MethodId} {args : Array Value} {below : List Frame} {meth : Method} {c : Code} {D : va_G} {g : Nat → Nat} {cI cS : ClassId} {sa : Nat → Nat → Option Nat} {Am : (Nat → Prop) → State → Heap → Prop}
-- chorus
noncomputable def fX12_chorus_b86 (N : Nat) (x2 : Int32) (S : gS) : Option (Int32 × gS) := bnd (fX12_unpack N 46 0 S) fun q1 => (some (x2, q1.2))
theorem bX12_chorus_86 {N : Nat} {x2 : Int32} {S : gS} {H : Heap} {locs : List Loc} {ls : Array Slot} {o : Int32 × gS} (C : gC p s m args meth c cX12_chorus 6 RX12 ((some .int)) D (mtys cI cS) mord g Am) (O : gO (mcell g cI cS sa) mord g) (X : gX D (mcell g cI cS sa) mord g S s H locs) (hl : lv_has ls 6 [(0, .ref (g 99)), (2, .int x2)]) (hF : fX12_chorus_b86 N x2 S = some o) : W p l e (rmd 2) s m args below meth c H locs 0 0 (gE below args s D (mtys cI cS) (mcell g cI cS sa) mord g (some (.int o.1)) o.2) (F0 m 86 ls []) := by
  unfold fX12_chorus_b86 at hF
  refine lv_aload_n C.1.1 C.1.2.1 dX12_chorus_86 rfl (lv_at hl 0 rfl) ?_
  refine lv_aload_n C.1.1 C.1.2.1 dX12_chorus_87 rfl (lv_at hl 0 rfl) ?_
  refine m_g46 C X dX12_chorus_88 ?_
  refine lv_iconst (v := 0) C.1.1 C.1.2.1 dX12_chorus_91 (by decide) ?_
  obtain ⟨q1, hq1, hF⟩ := bnd_some hF
  refine m_callV C X vX12_unpack rfl (kX12_unpack O C.2.2.2.2.1 N 46 0 (rfl : mI 46 = true) S q1 hq1) (Nat.le_of_ble_eq_true rfl) (Nat.le_of_ble_eq_true rfl) (Nat.le_of_ble_eq_true rfl) (Nat.le_of_ble_eq_true rfl) rfl hl.1 rfl (Nat.le_of_ble_eq_true rfl) dX12_chorus_92 (fun H locs X => ?_)
  refine lv_iload_n C.1.1 C.1.2.1 dX12_chorus_95 rfl (lv_at hl 1 rfl) ?_
  cases hF
  exact g_iret C X dX12_chorus_96
noncomputable def fX12_chorus_b63 (N : Nat) (r39 : Int32 → Int32 → Int32 → Int32 → gS → Option (Int32 × gS)) (x1 : Int32) (x2 : Int32) (x3 : Int32) (x4 : Int32) (x5 : Int32) (S : gS) : Option (Int32 × gS) := lt (sU S 99 37 (((S 99 37) + 1 : Int32))) fun S1 => (r39 x1 x2 (if x3 < x5 then x5 else x3) ((x4 + 1 : Int32)) S1)
theorem bX12_chorus_63 {N : Nat} {r39 : Int32 → Int32 → Int32 → Int32 → gS → Option (Int32 × gS)} {x1 : Int32} {x2 : Int32} {x3 : Int32} {x4 : Int32} {x5 : Int32} {S : gS} {H : Heap} {locs : List Loc} {ls : Array Slot} {o : Int32 × gS} (C : gC p s m args meth c cX12_chorus 6 RX12 ((some .int)) D (mtys cI cS) mord g Am) (O : gO (mcell g cI cS sa) mord g) (K39 : ∀ (x1 : Int32) (x2 : Int32) (x3 : Int32) (x4 : Int32) (S : gS) (H : Heap) (locs : List Loc) (ls : Array Slot), gX D (mcell g cI cS sa) mord g S s H locs → lv_has ls 6 [(0, .ref (g 99)), (1, .int x1), (2, .int x2), (3, .int x3), (4, .int x4)] → r39 x1 x2 x3 x4 S = some o → W p l e (rmd 2) s m args below meth c H locs 0 0 (gE below args s D (mtys cI cS) (mcell g cI cS sa) mord g (some (.int o.1)) o.2) (F0 m 39 ls [])) (X : gX D (mcell g cI cS sa) mord g S s H locs) (hl : lv_has ls 6 [(0, .ref (g 99)), (1, .int x1), (2, .int x2), (3, .int x3), (4, .int x4), (5, .int x5)]) (hF : fX12_chorus_b63 N r39 x1 x2 x3 x4 x5 S = some o) : W p l e (rmd 2) s m args below meth c H locs 0 0 (gE below args s D (mtys cI cS) (mcell g cI cS sa) mord g (some (.int o.1)) o.2) (F0 m 63 ls []) := by
  unfold fX12_chorus_b63 at hF
  refine lv_iload_n C.1.1 C.1.2.1 dX12_chorus_63 rfl (lv_at hl 3 rfl) ?_
  refine lv_iload C.1.1 C.1.2.1 dX12_chorus_64 (lv_at hl 5 rfl) ?_
  refine g_max C hl.1 mMmax354 ⟨Nat.le_of_ble_eq_true rfl, Nat.le_of_ble_eq_true rfl⟩ (Nat.le_of_ble_eq_true rfl) (Nat.le_of_ble_eq_true rfl) dX12_chorus_66 ?_
  refine lv_istore_n (lv' := [(3, .int (if x3 < x5 then x5 else x3)), (0, .ref (g 99)), (1, .int x1), (2, .int x2), (4, .int x4), (5, .int x5)]) C.1.1 C.1.2.1 dX12_chorus_69 rfl hl (by decide) rfl (fun ls hl => ?_)
  refine lv_aload_n C.1.1 C.1.2.1 dX12_chorus_70 rfl (lv_at hl 1 rfl) ?_
  refine lv_dup C.1.1 C.1.2.1 dX12_chorus_71 rfl ?_
  refine m_g37 C X dX12_chorus_72 ?_
  refine lv_iconst (v := 1) C.1.1 C.1.2.1 dX12_chorus_75 (by decide) ?_
  refine lv_iadd C.1.1 C.1.2.1 dX12_chorus_76 ?_
  obtain ⟨S1, eS1, hF⟩ := lt_some hF
  refine m_p37 C O X eS1 dX12_chorus_77 (fun H locs X => ?_)
  refine lv_iinc (v := (x4 + 1 : Int32)) (lv' := [(4, .int ((x4 + 1 : Int32))), (3, .int (if x3 < x5 then x5 else x3)), (0, .ref (g 99)), (1, .int x1), (2, .int x2), (5, .int x5)]) C.1.1 C.1.2.1 dX12_chorus_80 hl (k := 4) rfl rfl (by decide) rfl (fun ls hl => ?_)
  refine lv_goto (tgt := 39) C.1.1 C.1.2.1 dX12_chorus_83 (by decide) ?_
  exact K39 _ _ _ _ _ _ _ _ X (lv_sub hl [2, 3, 4, 1, 0] rfl) hF
noncomputable def fX12_chorus_b60 (N : Nat) (r39 : Int32 → Int32 → Int32 → Int32 → gS → Option (Int32 × gS)) (x1 : Int32) (x3 : Int32) (x4 : Int32) (x5 : Int32) (S : gS) : Option (Int32 × gS) := fX12_chorus_b63 N r39 x1 x4 x3 x4 x5 S
theorem bX12_chorus_60 {N : Nat} {r39 : Int32 → Int32 → Int32 → Int32 → gS → Option (Int32 × gS)} {x1 : Int32} {x3 : Int32} {x4 : Int32} {x5 : Int32} {S : gS} {H : Heap} {locs : List Loc} {ls : Array Slot} {o : Int32 × gS} (C : gC p s m args meth c cX12_chorus 6 RX12 ((some .int)) D (mtys cI cS) mord g Am) (O : gO (mcell g cI cS sa) mord g) (K39 : ∀ (x1 : Int32) (x2 : Int32) (x3 : Int32) (x4 : Int32) (S : gS) (H : Heap) (locs : List Loc) (ls : Array Slot), gX D (mcell g cI cS sa) mord g S s H locs → lv_has ls 6 [(0, .ref (g 99)), (1, .int x1), (2, .int x2), (3, .int x3), (4, .int x4)] → r39 x1 x2 x3 x4 S = some o → W p l e (rmd 2) s m args below meth c H locs 0 0 (gE below args s D (mtys cI cS) (mcell g cI cS sa) mord g (some (.int o.1)) o.2) (F0 m 39 ls [])) (X : gX D (mcell g cI cS sa) mord g S s H locs) (hl : lv_has ls 6 [(0, .ref (g 99)), (1, .int x1), (3, .int x3), (4, .int x4), (5, .int x5)]) (hF : fX12_chorus_b60 N r39 x1 x3 x4 x5 S = some o) : W p l e (rmd 2) s m args below meth c H locs 0 0 (gE below args s D (mtys cI cS) (mcell g cI cS sa) mord g (some (.int o.1)) o.2) (F0 m 60 ls []) := by
  unfold fX12_chorus_b60 at hF
  refine lv_iload C.1.1 C.1.2.1 dX12_chorus_60 (lv_at hl 3 rfl) ?_
  refine lv_istore_n (lv' := [(2, .int x4), (0, .ref (g 99)), (1, .int x1), (3, .int x3), (4, .int x4), (5, .int x5)]) C.1.1 C.1.2.1 dX12_chorus_62 rfl hl (by decide) rfl (fun ls hl => ?_)
  exact bX12_chorus_63 C O K39 X (lv_sub hl [1, 2, 0, 3, 4, 5] rfl) hF
noncomputable def fX12_chorus_b45 (N : Nat) (r39 : Int32 → Int32 → Int32 → Int32 → gS → Option (Int32 × gS)) (x1 : Int32) (x2 : Int32) (x3 : Int32) (x4 : Int32) (S : gS) : Option (Int32 × gS) := bnd (fX12_drippingNow N  S) fun q1 => (bnd (fX12_bitsOf N q1.1 q1.2) fun q2 => (if q2.1 ≤ x3 then fX12_chorus_b63 N r39 x1 x2 x3 x4 q2.1 q2.2 else fX12_chorus_b60 N r39 x1 x3 x4 q2.1 q2.2))
theorem bX12_chorus_45 {N : Nat} {r39 : Int32 → Int32 → Int32 → Int32 → gS → Option (Int32 × gS)} {x1 : Int32} {x2 : Int32} {x3 : Int32} {x4 : Int32} {S : gS} {H : Heap} {locs : List Loc} {ls : Array Slot} {o : Int32 × gS} (C : gC p s m args meth c cX12_chorus 6 RX12 ((some .int)) D (mtys cI cS) mord g Am) (O : gO (mcell g cI cS sa) mord g) (K39 : ∀ (x1 : Int32) (x2 : Int32) (x3 : Int32) (x4 : Int32) (S : gS) (H : Heap) (locs : List Loc) (ls : Array Slot), gX D (mcell g cI cS sa) mord g S s H locs → lv_has ls 6 [(0, .ref (g 99)), (1, .int x1), (2, .int x2), (3, .int x3), (4, .int x4)] → r39 x1 x2 x3 x4 S = some o → W p l e (rmd 2) s m args below meth c H locs 0 0 (gE below args s D (mtys cI cS) (mcell g cI cS sa) mord g (some (.int o.1)) o.2) (F0 m 39 ls [])) (X : gX D (mcell g cI cS sa) mord g S s H locs) (hl : lv_has ls 6 [(0, .ref (g 99)), (1, .int x1), (2, .int x2), (3, .int x3), (4, .int x4)]) (hF : fX12_chorus_b45 N r39 x1 x2 x3 x4 S = some o) : W p l e (rmd 2) s m args below meth c H locs 0 0 (gE below args s D (mtys cI cS) (mcell g cI cS sa) mord g (some (.int o.1)) o.2) (F0 m 45 ls []) := by
  unfold fX12_chorus_b45 at hF
  refine lv_aload_n C.1.1 C.1.2.1 dX12_chorus_45 rfl (lv_at hl 0 rfl) ?_
  obtain ⟨q1, hq1, hF⟩ := bnd_some hF
  refine m_callVi C X vX12_drippingNow rfl (kX12_drippingNow O C.2.2.2.2.1 N   S q1 hq1) (Nat.le_of_ble_eq_true rfl) (Nat.le_of_ble_eq_true rfl) (Nat.le_of_ble_eq_true rfl) (Nat.le_of_ble_eq_true rfl) rfl hl.1 rfl (Nat.le_of_ble_eq_true rfl) dX12_chorus_46 (fun H locs X => ?_)
  obtain ⟨q2, hq2, hF⟩ := bnd_some hF
  refine g_callSi C X vX12_bitsOf (kX12_bitsOf O C.2.2.2.2.1 N q1.1  q1.2 q2 hq2) (Nat.le_of_ble_eq_true rfl) (Nat.le_of_ble_eq_true rfl) (Nat.le_of_ble_eq_true rfl) (Nat.le_of_ble_eq_true rfl) rfl hl.1 rfl (Nat.le_of_ble_eq_true rfl) dX12_chorus_49 (fun H locs X => ?_)
  refine lv_istore (lv' := [(5, .int q2.1), (0, .ref (g 99)), (1, .int x1), (2, .int x2), (3, .int x3), (4, .int x4)]) C.1.1 C.1.2.1 dX12_chorus_52 hl (by decide) rfl (fun ls hl => ?_)
  refine lv_iload C.1.1 C.1.2.1 dX12_chorus_54 (lv_at hl 0 rfl) ?_
  refine lv_iload_n C.1.1 C.1.2.1 dX12_chorus_56 rfl (lv_at hl 4 rfl) ?_
  refine lv_icmp_le (tgt := 63) C.1.1 C.1.2.1 dX12_chorus_57 (by decide) (fun h_z => ?_) (fun h_z => ?_)
  · rw [if_pos h_z] at hF
    exact bX12_chorus_63 C O K39 X (lv_sub hl [1, 2, 3, 4, 5, 0] rfl) hF
  · rw [if_neg h_z] at hF
    exact bX12_chorus_60 C O K39 X (lv_sub hl [1, 2, 4, 5, 0] rfl) hF
noncomputable def fX12_chorus_b39 (N : Nat) (r39 : Int32 → Int32 → Int32 → Int32 → gS → Option (Int32 × gS)) (x1 : Int32) (x2 : Int32) (x3 : Int32) (x4 : Int32) (S : gS) : Option (Int32 × gS) := if x1 < x4 then fX12_chorus_b86 N x2 S else fX12_chorus_b45 N r39 x1 x2 x3 x4 S
theorem bX12_chorus_39 {N : Nat} {r39 : Int32 → Int32 → Int32 → Int32 → gS → Option (Int32 × gS)} {x1 : Int32} {x2 : Int32} {x3 : Int32} {x4 : Int32} {S : gS} {H : Heap} {locs : List Loc} {ls : Array Slot} {o : Int32 × gS} (C : gC p s m args meth c cX12_chorus 6 RX12 ((some .int)) D (mtys cI cS) mord g Am) (O : gO (mcell g cI cS sa) mord g) (K39 : ∀ (x1 : Int32) (x2 : Int32) (x3 : Int32) (x4 : Int32) (S : gS) (H : Heap) (locs : List Loc) (ls : Array Slot), gX D (mcell g cI cS sa) mord g S s H locs → lv_has ls 6 [(0, .ref (g 99)), (1, .int x1), (2, .int x2), (3, .int x3), (4, .int x4)] → r39 x1 x2 x3 x4 S = some o → W p l e (rmd 2) s m args below meth c H locs 0 0 (gE below args s D (mtys cI cS) (mcell g cI cS sa) mord g (some (.int o.1)) o.2) (F0 m 39 ls [])) (X : gX D (mcell g cI cS sa) mord g S s H locs) (hl : lv_has ls 6 [(0, .ref (g 99)), (1, .int x1), (2, .int x2), (3, .int x3), (4, .int x4)]) (hF : fX12_chorus_b39 N r39 x1 x2 x3 x4 S = some o) : W p l e (rmd 2) s m args below meth c H locs 0 0 (gE below args s D (mtys cI cS) (mcell g cI cS sa) mord g (some (.int o.1)) o.2) (F0 m 39 ls []) := by
  unfold fX12_chorus_b39 at hF
  refine lv_iload C.1.1 C.1.2.1 dX12_chorus_39 (lv_at hl 4 rfl) ?_
  refine lv_iload_n C.1.1 C.1.2.1 dX12_chorus_41 rfl (lv_at hl 1 rfl) ?_
  refine lv_icmp_gt (tgt := 86) C.1.1 C.1.2.1 dX12_chorus_42 (by decide) (fun h_z => ?_) (fun h_z => ?_)
  · rw [if_pos h_z] at hF
    exact bX12_chorus_86 C O X (lv_sub hl [0, 2] rfl) hF
  · rw [if_neg h_z] at hF
    exact bX12_chorus_45 C O K39 X (lv_sub hl [0, 1, 2, 3, 4] rfl) hF
noncomputable def fX12_chorus_h39 (N : Nat) : Nat → Int32 → Int32 → Int32 → Int32 → gS → Option (Int32 × gS)
  | 0, _, _, _, _, _ => none
  | n + 1, x1, x2, x3, x4, S => fX12_chorus_b39 N (fX12_chorus_h39 N n) x1 x2 x3 x4 S
theorem hX12_chorus_39 {N : Nat} {o : Int32 × gS} (C : gC p s m args meth c cX12_chorus 6 RX12 ((some .int)) D (mtys cI cS) mord g Am) (O : gO (mcell g cI cS sa) mord g) : ∀ (n : Nat) (x1 : Int32) (x2 : Int32) (x3 : Int32) (x4 : Int32) (S : gS) (H : Heap) (locs : List Loc) (ls : Array Slot), gX D (mcell g cI cS sa) mord g S s H locs → lv_has ls 6 [(0, .ref (g 99)), (1, .int x1), (2, .int x2), (3, .int x3), (4, .int x4)] → fX12_chorus_h39 N n x1 x2 x3 x4 S = some o → W p l e (rmd 2) s m args below meth c H locs 0 0 (gE below args s D (mtys cI cS) (mcell g cI cS sa) mord g (some (.int o.1)) o.2) (F0 m 39 ls []) := by
  intro n
  induction n with
  | zero =>
    intro x1 x2 x3 x4 S H locs ls X hl hF
    exact absurd (show (none : Option (Int32 × gS)) = some o from hF) (by simp)
  | succ n ih =>
    intro x1 x2 x3 x4 S H locs ls X hl hF
    have hF : fX12_chorus_b39 N (fX12_chorus_h39 N n) x1 x2 x3 x4 S = some o := hF
    exact bX12_chorus_39 C O ih X hl hF
noncomputable def fX12_chorus_b23 (N : Nat) (x1 : Int32) (S : gS) : Option (Int32 × gS) := bnd (fX12_pack N 46 0 S) fun q1 => (fX12_chorus_h39 N N x1 ((-1)) ((-1)) 1 q1.2)
theorem bX12_chorus_23 {N : Nat} {x1 : Int32} {S : gS} {H : Heap} {locs : List Loc} {ls : Array Slot} {o : Int32 × gS} (C : gC p s m args meth c cX12_chorus 6 RX12 ((some .int)) D (mtys cI cS) mord g Am) (O : gO (mcell g cI cS sa) mord g) (X : gX D (mcell g cI cS sa) mord g S s H locs) (hl : lv_has ls 6 [(0, .ref (g 99)), (1, .int x1)]) (hF : fX12_chorus_b23 N x1 S = some o) : W p l e (rmd 2) s m args below meth c H locs 0 0 (gE below args s D (mtys cI cS) (mcell g cI cS sa) mord g (some (.int o.1)) o.2) (F0 m 23 ls []) := by
  unfold fX12_chorus_b23 at hF
  refine lv_aload_n C.1.1 C.1.2.1 dX12_chorus_23 rfl (lv_at hl 0 rfl) ?_
  refine lv_aload_n C.1.1 C.1.2.1 dX12_chorus_24 rfl (lv_at hl 0 rfl) ?_
  refine m_g46 C X dX12_chorus_25 ?_
  refine lv_iconst (v := 0) C.1.1 C.1.2.1 dX12_chorus_28 (by decide) ?_
  obtain ⟨q1, hq1, hF⟩ := bnd_some hF
  refine m_callV C X vX12_pack rfl (kX12_pack O C.2.2.2.2.1 N 46 0 (rfl : mI 46 = true) S q1 hq1) (Nat.le_of_ble_eq_true rfl) (Nat.le_of_ble_eq_true rfl) (Nat.le_of_ble_eq_true rfl) (Nat.le_of_ble_eq_true rfl) rfl hl.1 rfl (Nat.le_of_ble_eq_true rfl) dX12_chorus_29 (fun H locs X => ?_)
  refine lv_iconst (v := (-1)) C.1.1 C.1.2.1 dX12_chorus_32 (by decide) ?_
  refine lv_istore_n (lv' := [(2, .int ((-1))), (0, .ref (g 99)), (1, .int x1)]) C.1.1 C.1.2.1 dX12_chorus_33 rfl hl (by decide) rfl (fun ls hl => ?_)
  refine lv_iconst (v := (-1)) C.1.1 C.1.2.1 dX12_chorus_34 (by decide) ?_
  refine lv_istore_n (lv' := [(3, .int ((-1))), (2, .int ((-1))), (0, .ref (g 99)), (1, .int x1)]) C.1.1 C.1.2.1 dX12_chorus_35 rfl hl (by decide) rfl (fun ls hl => ?_)
  refine lv_iconst (v := 1) C.1.1 C.1.2.1 dX12_chorus_36 (by decide) ?_
  refine lv_istore (lv' := [(4, .int 1), (3, .int ((-1))), (2, .int ((-1))), (0, .ref (g 99)), (1, .int x1)]) C.1.1 C.1.2.1 dX12_chorus_37 hl (by decide) rfl (fun ls hl => ?_)
  exact hX12_chorus_39 C O N _ _ _ _ _ _ _ _ X (lv_sub hl [3, 4, 2, 1, 0] rfl) hF
noncomputable def fX12_chorus_b17 (N : Nat) (S : gS) : Option (Int32 × gS) := bnd (fX12_fail N 1 S) fun q1 => (some (q1.1, q1.2))
theorem bX12_chorus_17 {N : Nat} {S : gS} {H : Heap} {locs : List Loc} {ls : Array Slot} {o : Int32 × gS} (C : gC p s m args meth c cX12_chorus 6 RX12 ((some .int)) D (mtys cI cS) mord g Am) (O : gO (mcell g cI cS sa) mord g) (X : gX D (mcell g cI cS sa) mord g S s H locs) (hl : lv_has ls 6 [(0, .ref (g 99))]) (hF : fX12_chorus_b17 N S = some o) : W p l e (rmd 2) s m args below meth c H locs 0 0 (gE below args s D (mtys cI cS) (mcell g cI cS sa) mord g (some (.int o.1)) o.2) (F0 m 17 ls []) := by
  unfold fX12_chorus_b17 at hF
  refine lv_aload_n C.1.1 C.1.2.1 dX12_chorus_17 rfl (lv_at hl 0 rfl) ?_
  refine lv_iconst (v := 1) C.1.1 C.1.2.1 dX12_chorus_18 (by decide) ?_
  obtain ⟨q1, hq1, hF⟩ := bnd_some hF
  refine m_callVi C X vX12_fail rfl (kX12_fail O C.2.2.2.2.1 N 1  S q1 hq1) (Nat.le_of_ble_eq_true rfl) (Nat.le_of_ble_eq_true rfl) (Nat.le_of_ble_eq_true rfl) (Nat.le_of_ble_eq_true rfl) rfl hl.1 rfl (Nat.le_of_ble_eq_true rfl) dX12_chorus_19 (fun H locs X => ?_)
  cases hF
  exact g_iret C X dX12_chorus_22
noncomputable def fX12_chorus_b0 (N : Nat) (x1 : Int32) (S : gS) : Option (Int32 × gS) := lt (sU S 99 4 0) fun S1 => (bnd (fX12_isIn N (Int32.toInt64 x1) 1 60 S1) fun q1 => (if q1.1 = 0 then fX12_chorus_b17 N q1.2 else fX12_chorus_b23 N x1 q1.2))
theorem bX12_chorus_0 {N : Nat} {x1 : Int32} {S : gS} {H : Heap} {locs : List Loc} {ls : Array Slot} {o : Int32 × gS} (C : gC p s m args meth c cX12_chorus 6 RX12 ((some .int)) D (mtys cI cS) mord g Am) (O : gO (mcell g cI cS sa) mord g) (X : gX D (mcell g cI cS sa) mord g S s H locs) (hl : lv_has ls 6 [(0, .ref (g 99)), (1, .int x1)]) (hF : fX12_chorus_b0 N x1 S = some o) : W p l e (rmd 2) s m args below meth c H locs 0 0 (gE below args s D (mtys cI cS) (mcell g cI cS sa) mord g (some (.int o.1)) o.2) (F0 m 0 ls []) := by
  unfold fX12_chorus_b0 at hF
  refine lv_aload_n C.1.1 C.1.2.1 dX12_chorus_0 rfl (lv_at hl 0 rfl) ?_
  refine lv_iconst (v := 0) C.1.1 C.1.2.1 dX12_chorus_1 (by decide) ?_
  obtain ⟨S1, eS1, hF⟩ := lt_some hF
  refine m_p4 C O X eS1 dX12_chorus_2 (fun H locs X => ?_)
  refine lv_iload_n C.1.1 C.1.2.1 dX12_chorus_5 rfl (lv_at hl 1 rfl) ?_
  refine lv_i2l (v := Int32.toInt64 x1) C.1.1 C.1.2.1 dX12_chorus_6 rfl ?_
  refine lv_lconst (v := 1) C.1.1 C.1.2.1 dX12_chorus_7 (by decide) ?_
  refine lv_ldc2 C.1.1 C.1.2.1 C.1.2.2.2.1 (C.1.2.2.2.2 _ mKL432) dX12_chorus_8 ?_
  obtain ⟨q1, hq1, hF⟩ := bnd_some hF
  refine g_callSi C X vX12_isIn (kX12_isIn O C.2.2.2.2.1 N (Int32.toInt64 x1) 1 60  S1 q1 hq1) (Nat.le_of_ble_eq_true rfl) (Nat.le_of_ble_eq_true rfl) (Nat.le_of_ble_eq_true rfl) (Nat.le_of_ble_eq_true rfl) rfl hl.1 rfl (Nat.le_of_ble_eq_true rfl) dX12_chorus_11 (fun H locs X => ?_)
  refine lv_if_ne (tgt := 23) C.1.1 C.1.2.1 dX12_chorus_14 (by decide) (fun h_z => ?_) (fun h_z => ?_)
  · rw [if_neg h_z] at hF
    exact bX12_chorus_23 C O X (lv_sub hl [0, 1] rfl) hF
  · rw [if_pos h_z] at hF
    exact bX12_chorus_17 C O X (lv_sub hl [0] rfl) hF
noncomputable def fX12_chorus (N : Nat) (x1 : Int32) (S : gS) : Option (Int32 × gS) := fX12_chorus_b0 N x1 S
theorem kX12_chorus {l : Launch} {D : va_G} {g : Nat → Nat} {cI cS : ClassId} {sa : Nat → Nat → Option Nat} {Am : (Nat → Prop) → State → Heap → Prop} (O : gO (mcell g cI cS sa) mord g) (P : gAm Am) (N : Nat) (x1 : Int32) (S : gS) (o : Int32 × gS) (hF : fX12_chorus N x1 S = some o) : gM l yX12_chorus cX12_chorus 6 ((some .int)) 2 D (mtys cI cS) (mcell g cI cS sa) mord g Am [.ref (g 99), .int x1] S (some (.int o.1)) o.2 :=
  gM_of O P (by decide) (Nat.le_of_ble_eq_true rfl) (fun p e s m args below meth c ls C X hl => bX12_chorus_0 C O X (lv_sub hl [0, 1] rfl) hF)
-- often
noncomputable def fX12_often_b84 (N : Nat) (x3 : Int32) (S : gS) : Option (Int32 × gS) := bnd (fX12_unpack N 46 0 S) fun q1 => (some (x3, q1.2))
theorem bX12_often_84 {N : Nat} {x3 : Int32} {S : gS} {H : Heap} {locs : List Loc} {ls : Array Slot} {o : Int32 × gS} (C : gC p s m args meth c cX12_often 5 RX12 ((some .int)) D (mtys cI cS) mord g Am) (O : gO (mcell g cI cS sa) mord g) (X : gX D (mcell g cI cS sa) mord g S s H locs) (hl : lv_has ls 5 [(0, .ref (g 99)), (3, .int x3)]) (hF : fX12_often_b84 N x3 S = some o) : W p l e (rmd 2) s m args below meth c H locs 0 0 (gE below args s D (mtys cI cS) (mcell g cI cS sa) mord g (some (.int o.1)) o.2) (F0 m 84 ls []) := by
  unfold fX12_often_b84 at hF
  refine lv_aload_n C.1.1 C.1.2.1 dX12_often_84 rfl (lv_at hl 0 rfl) ?_
  refine lv_aload_n C.1.1 C.1.2.1 dX12_often_85 rfl (lv_at hl 0 rfl) ?_
  refine m_g46 C X dX12_often_86 ?_
  refine lv_iconst (v := 0) C.1.1 C.1.2.1 dX12_often_89 (by decide) ?_
  obtain ⟨q1, hq1, hF⟩ := bnd_some hF
  refine m_callV C X vX12_unpack rfl (kX12_unpack O C.2.2.2.2.1 N 46 0 (rfl : mI 46 = true) S q1 hq1) (Nat.le_of_ble_eq_true rfl) (Nat.le_of_ble_eq_true rfl) (Nat.le_of_ble_eq_true rfl) (Nat.le_of_ble_eq_true rfl) rfl hl.1 rfl (Nat.le_of_ble_eq_true rfl) dX12_often_90 (fun H locs X => ?_)
  refine lv_iload_n C.1.1 C.1.2.1 dX12_often_93 rfl (lv_at hl 1 rfl) ?_
  cases hF
  exact g_iret C X dX12_often_94
noncomputable def fX12_often_b57 (N : Nat) (r51 : Int32 → Int32 → Int32 → Int32 → gS → Option (Int32 × gS)) (x1 : Int32) (x2 : Int32) (x3 : Int32) (x4 : Int32) (S : gS) : Option (Int32 × gS) := bnd (fX12_drippingNow N  S) fun q1 => (lt (sU q1.2 99 37 (((q1.2 99 37) + 1 : Int32))) fun S2 => (r51 x1 x2 ((x3 + ((((q1.1 >>> (x1 &&& 31) : Int32)) &&& 1 : Int32)) : Int32)) ((x4 + 1 : Int32)) S2))
theorem bX12_often_57 {N : Nat} {r51 : Int32 → Int32 → Int32 → Int32 → gS → Option (Int32 × gS)} {x1 : Int32} {x2 : Int32} {x3 : Int32} {x4 : Int32} {S : gS} {H : Heap} {locs : List Loc} {ls : Array Slot} {o : Int32 × gS} (C : gC p s m args meth c cX12_often 5 RX12 ((some .int)) D (mtys cI cS) mord g Am) (O : gO (mcell g cI cS sa) mord g) (K51 : ∀ (x1 : Int32) (x2 : Int32) (x3 : Int32) (x4 : Int32) (S : gS) (H : Heap) (locs : List Loc) (ls : Array Slot), gX D (mcell g cI cS sa) mord g S s H locs → lv_has ls 5 [(0, .ref (g 99)), (1, .int x1), (2, .int x2), (3, .int x3), (4, .int x4)] → r51 x1 x2 x3 x4 S = some o → W p l e (rmd 2) s m args below meth c H locs 0 0 (gE below args s D (mtys cI cS) (mcell g cI cS sa) mord g (some (.int o.1)) o.2) (F0 m 51 ls [])) (X : gX D (mcell g cI cS sa) mord g S s H locs) (hl : lv_has ls 5 [(0, .ref (g 99)), (1, .int x1), (2, .int x2), (3, .int x3), (4, .int x4)]) (hF : fX12_often_b57 N r51 x1 x2 x3 x4 S = some o) : W p l e (rmd 2) s m args below meth c H locs 0 0 (gE below args s D (mtys cI cS) (mcell g cI cS sa) mord g (some (.int o.1)) o.2) (F0 m 57 ls []) := by
  unfold fX12_often_b57 at hF
  refine lv_iload_n C.1.1 C.1.2.1 dX12_often_57 rfl (lv_at hl 3 rfl) ?_
  refine lv_aload_n C.1.1 C.1.2.1 dX12_often_58 rfl (lv_at hl 0 rfl) ?_
  obtain ⟨q1, hq1, hF⟩ := bnd_some hF
  refine m_callVi C X vX12_drippingNow rfl (kX12_drippingNow O C.2.2.2.2.1 N   S q1 hq1) (Nat.le_of_ble_eq_true rfl) (Nat.le_of_ble_eq_true rfl) (Nat.le_of_ble_eq_true rfl) (Nat.le_of_ble_eq_true rfl) rfl hl.1 rfl (Nat.le_of_ble_eq_true rfl) dX12_often_59 (fun H locs X => ?_)
  refine lv_iload_n C.1.1 C.1.2.1 dX12_often_62 rfl (lv_at hl 1 rfl) ?_
  refine lv_ishr C.1.1 C.1.2.1 dX12_often_63 ?_
  refine lv_iconst (v := 1) C.1.1 C.1.2.1 dX12_often_64 (by decide) ?_
  refine lv_iand C.1.1 C.1.2.1 dX12_often_65 ?_
  refine lv_iadd C.1.1 C.1.2.1 dX12_often_66 ?_
  refine lv_istore_n (lv' := [(3, .int ((x3 + ((((q1.1 >>> (x1 &&& 31) : Int32)) &&& 1 : Int32)) : Int32))), (0, .ref (g 99)), (1, .int x1), (2, .int x2), (4, .int x4)]) C.1.1 C.1.2.1 dX12_often_67 rfl hl (by decide) rfl (fun ls hl => ?_)
  refine lv_aload_n C.1.1 C.1.2.1 dX12_often_68 rfl (lv_at hl 1 rfl) ?_
  refine lv_dup C.1.1 C.1.2.1 dX12_often_69 rfl ?_
  refine m_g37 C X dX12_often_70 ?_
  refine lv_iconst (v := 1) C.1.1 C.1.2.1 dX12_often_73 (by decide) ?_
  refine lv_iadd C.1.1 C.1.2.1 dX12_often_74 ?_
  obtain ⟨S2, eS2, hF⟩ := lt_some hF
  refine m_p37 C O X eS2 dX12_often_75 (fun H locs X => ?_)
  refine lv_iinc (v := (x4 + 1 : Int32)) (lv' := [(4, .int ((x4 + 1 : Int32))), (3, .int ((x3 + ((((q1.1 >>> (x1 &&& 31) : Int32)) &&& 1 : Int32)) : Int32))), (0, .ref (g 99)), (1, .int x1), (2, .int x2)]) C.1.1 C.1.2.1 dX12_often_78 hl (k := 4) rfl rfl (by decide) rfl (fun ls hl => ?_)
  refine lv_goto (tgt := 51) C.1.1 C.1.2.1 dX12_often_81 (by decide) ?_
  exact K51 _ _ _ _ _ _ _ _ X (lv_sub hl [2, 3, 4, 1, 0] rfl) hF
noncomputable def fX12_often_b51 (N : Nat) (r51 : Int32 → Int32 → Int32 → Int32 → gS → Option (Int32 × gS)) (x1 : Int32) (x2 : Int32) (x3 : Int32) (x4 : Int32) (S : gS) : Option (Int32 × gS) := if x2 ≤ x4 then fX12_often_b84 N x3 S else fX12_often_b57 N r51 x1 x2 x3 x4 S
theorem bX12_often_51 {N : Nat} {r51 : Int32 → Int32 → Int32 → Int32 → gS → Option (Int32 × gS)} {x1 : Int32} {x2 : Int32} {x3 : Int32} {x4 : Int32} {S : gS} {H : Heap} {locs : List Loc} {ls : Array Slot} {o : Int32 × gS} (C : gC p s m args meth c cX12_often 5 RX12 ((some .int)) D (mtys cI cS) mord g Am) (O : gO (mcell g cI cS sa) mord g) (K51 : ∀ (x1 : Int32) (x2 : Int32) (x3 : Int32) (x4 : Int32) (S : gS) (H : Heap) (locs : List Loc) (ls : Array Slot), gX D (mcell g cI cS sa) mord g S s H locs → lv_has ls 5 [(0, .ref (g 99)), (1, .int x1), (2, .int x2), (3, .int x3), (4, .int x4)] → r51 x1 x2 x3 x4 S = some o → W p l e (rmd 2) s m args below meth c H locs 0 0 (gE below args s D (mtys cI cS) (mcell g cI cS sa) mord g (some (.int o.1)) o.2) (F0 m 51 ls [])) (X : gX D (mcell g cI cS sa) mord g S s H locs) (hl : lv_has ls 5 [(0, .ref (g 99)), (1, .int x1), (2, .int x2), (3, .int x3), (4, .int x4)]) (hF : fX12_often_b51 N r51 x1 x2 x3 x4 S = some o) : W p l e (rmd 2) s m args below meth c H locs 0 0 (gE below args s D (mtys cI cS) (mcell g cI cS sa) mord g (some (.int o.1)) o.2) (F0 m 51 ls []) := by
  unfold fX12_often_b51 at hF
  refine lv_iload C.1.1 C.1.2.1 dX12_often_51 (lv_at hl 4 rfl) ?_
  refine lv_iload_n C.1.1 C.1.2.1 dX12_often_53 rfl (lv_at hl 2 rfl) ?_
  refine lv_icmp_ge (tgt := 84) C.1.1 C.1.2.1 dX12_often_54 (by decide) (fun h_z => ?_) (fun h_z => ?_)
  · rw [if_pos h_z] at hF
    exact bX12_often_84 C O X (lv_sub hl [0, 3] rfl) hF
  · rw [if_neg h_z] at hF
    exact bX12_often_57 C O K51 X (lv_sub hl [0, 1, 2, 3, 4] rfl) hF
noncomputable def fX12_often_h51 (N : Nat) : Nat → Int32 → Int32 → Int32 → Int32 → gS → Option (Int32 × gS)
  | 0, _, _, _, _, _ => none
  | n + 1, x1, x2, x3, x4, S => fX12_often_b51 N (fX12_often_h51 N n) x1 x2 x3 x4 S
theorem hX12_often_51 {N : Nat} {o : Int32 × gS} (C : gC p s m args meth c cX12_often 5 RX12 ((some .int)) D (mtys cI cS) mord g Am) (O : gO (mcell g cI cS sa) mord g) : ∀ (n : Nat) (x1 : Int32) (x2 : Int32) (x3 : Int32) (x4 : Int32) (S : gS) (H : Heap) (locs : List Loc) (ls : Array Slot), gX D (mcell g cI cS sa) mord g S s H locs → lv_has ls 5 [(0, .ref (g 99)), (1, .int x1), (2, .int x2), (3, .int x3), (4, .int x4)] → fX12_often_h51 N n x1 x2 x3 x4 S = some o → W p l e (rmd 2) s m args below meth c H locs 0 0 (gE below args s D (mtys cI cS) (mcell g cI cS sa) mord g (some (.int o.1)) o.2) (F0 m 51 ls []) := by
  intro n
  induction n with
  | zero =>
    intro x1 x2 x3 x4 S H locs ls X hl hF
    exact absurd (show (none : Option (Int32 × gS)) = some o from hF) (by simp)
  | succ n ih =>
    intro x1 x2 x3 x4 S H locs ls X hl hF
    have hF : fX12_often_b51 N (fX12_often_h51 N n) x1 x2 x3 x4 S = some o := hF
    exact bX12_often_51 C O ih X hl hF
noncomputable def fX12_often_b37 (N : Nat) (x1 : Int32) (x2 : Int32) (S : gS) : Option (Int32 × gS) := bnd (fX12_pack N 46 0 S) fun q1 => (fX12_often_h51 N N x1 x2 0 0 q1.2)
theorem bX12_often_37 {N : Nat} {x1 : Int32} {x2 : Int32} {S : gS} {H : Heap} {locs : List Loc} {ls : Array Slot} {o : Int32 × gS} (C : gC p s m args meth c cX12_often 5 RX12 ((some .int)) D (mtys cI cS) mord g Am) (O : gO (mcell g cI cS sa) mord g) (X : gX D (mcell g cI cS sa) mord g S s H locs) (hl : lv_has ls 5 [(0, .ref (g 99)), (1, .int x1), (2, .int x2)]) (hF : fX12_often_b37 N x1 x2 S = some o) : W p l e (rmd 2) s m args below meth c H locs 0 0 (gE below args s D (mtys cI cS) (mcell g cI cS sa) mord g (some (.int o.1)) o.2) (F0 m 37 ls []) := by
  unfold fX12_often_b37 at hF
  refine lv_aload_n C.1.1 C.1.2.1 dX12_often_37 rfl (lv_at hl 0 rfl) ?_
  refine lv_aload_n C.1.1 C.1.2.1 dX12_often_38 rfl (lv_at hl 0 rfl) ?_
  refine m_g46 C X dX12_often_39 ?_
  refine lv_iconst (v := 0) C.1.1 C.1.2.1 dX12_often_42 (by decide) ?_
  obtain ⟨q1, hq1, hF⟩ := bnd_some hF
  refine m_callV C X vX12_pack rfl (kX12_pack O C.2.2.2.2.1 N 46 0 (rfl : mI 46 = true) S q1 hq1) (Nat.le_of_ble_eq_true rfl) (Nat.le_of_ble_eq_true rfl) (Nat.le_of_ble_eq_true rfl) (Nat.le_of_ble_eq_true rfl) rfl hl.1 rfl (Nat.le_of_ble_eq_true rfl) dX12_often_43 (fun H locs X => ?_)
  refine lv_iconst (v := 0) C.1.1 C.1.2.1 dX12_often_46 (by decide) ?_
  refine lv_istore_n (lv' := [(3, .int 0), (0, .ref (g 99)), (1, .int x1), (2, .int x2)]) C.1.1 C.1.2.1 dX12_often_47 rfl hl (by decide) rfl (fun ls hl => ?_)
  refine lv_iconst (v := 0) C.1.1 C.1.2.1 dX12_often_48 (by decide) ?_
  refine lv_istore (lv' := [(4, .int 0), (3, .int 0), (0, .ref (g 99)), (1, .int x1), (2, .int x2)]) C.1.1 C.1.2.1 dX12_often_49 hl (by decide) rfl (fun ls hl => ?_)
  exact hX12_often_51 C O N _ _ _ _ _ _ _ _ X (lv_sub hl [2, 3, 4, 1, 0] rfl) hF
noncomputable def fX12_often_b31 (N : Nat) (S : gS) : Option (Int32 × gS) := bnd (fX12_fail N 2 S) fun q1 => (some (q1.1, q1.2))
theorem bX12_often_31 {N : Nat} {S : gS} {H : Heap} {locs : List Loc} {ls : Array Slot} {o : Int32 × gS} (C : gC p s m args meth c cX12_often 5 RX12 ((some .int)) D (mtys cI cS) mord g Am) (O : gO (mcell g cI cS sa) mord g) (X : gX D (mcell g cI cS sa) mord g S s H locs) (hl : lv_has ls 5 [(0, .ref (g 99))]) (hF : fX12_often_b31 N S = some o) : W p l e (rmd 2) s m args below meth c H locs 0 0 (gE below args s D (mtys cI cS) (mcell g cI cS sa) mord g (some (.int o.1)) o.2) (F0 m 31 ls []) := by
  unfold fX12_often_b31 at hF
  refine lv_aload_n C.1.1 C.1.2.1 dX12_often_31 rfl (lv_at hl 0 rfl) ?_
  refine lv_iconst (v := 2) C.1.1 C.1.2.1 dX12_often_32 (by decide) ?_
  obtain ⟨q1, hq1, hF⟩ := bnd_some hF
  refine m_callVi C X vX12_fail rfl (kX12_fail O C.2.2.2.2.1 N 2  S q1 hq1) (Nat.le_of_ble_eq_true rfl) (Nat.le_of_ble_eq_true rfl) (Nat.le_of_ble_eq_true rfl) (Nat.le_of_ble_eq_true rfl) rfl hl.1 rfl (Nat.le_of_ble_eq_true rfl) dX12_often_33 (fun H locs X => ?_)
  cases hF
  exact g_iret C X dX12_often_36
noncomputable def fX12_often_b19 (N : Nat) (x1 : Int32) (x2 : Int32) (S : gS) : Option (Int32 × gS) := bnd (fX12_isIn N (Int32.toInt64 x2) 0 60 S) fun q1 => (if q1.1 = 0 then fX12_often_b31 N q1.2 else fX12_often_b37 N x1 x2 q1.2)
theorem bX12_often_19 {N : Nat} {x1 : Int32} {x2 : Int32} {S : gS} {H : Heap} {locs : List Loc} {ls : Array Slot} {o : Int32 × gS} (C : gC p s m args meth c cX12_often 5 RX12 ((some .int)) D (mtys cI cS) mord g Am) (O : gO (mcell g cI cS sa) mord g) (X : gX D (mcell g cI cS sa) mord g S s H locs) (hl : lv_has ls 5 [(0, .ref (g 99)), (1, .int x1), (2, .int x2)]) (hF : fX12_often_b19 N x1 x2 S = some o) : W p l e (rmd 2) s m args below meth c H locs 0 0 (gE below args s D (mtys cI cS) (mcell g cI cS sa) mord g (some (.int o.1)) o.2) (F0 m 19 ls []) := by
  unfold fX12_often_b19 at hF
  refine lv_iload_n C.1.1 C.1.2.1 dX12_often_19 rfl (lv_at hl 2 rfl) ?_
  refine lv_i2l (v := Int32.toInt64 x2) C.1.1 C.1.2.1 dX12_often_20 rfl ?_
  refine lv_lconst (v := 0) C.1.1 C.1.2.1 dX12_often_21 (by decide) ?_
  refine lv_ldc2 C.1.1 C.1.2.1 C.1.2.2.2.1 (C.1.2.2.2.2 _ mKL432) dX12_often_22 ?_
  obtain ⟨q1, hq1, hF⟩ := bnd_some hF
  refine g_callSi C X vX12_isIn (kX12_isIn O C.2.2.2.2.1 N (Int32.toInt64 x2) 0 60  S q1 hq1) (Nat.le_of_ble_eq_true rfl) (Nat.le_of_ble_eq_true rfl) (Nat.le_of_ble_eq_true rfl) (Nat.le_of_ble_eq_true rfl) rfl hl.1 rfl (Nat.le_of_ble_eq_true rfl) dX12_often_25 (fun H locs X => ?_)
  refine lv_if_ne (tgt := 37) C.1.1 C.1.2.1 dX12_often_28 (by decide) (fun h_z => ?_) (fun h_z => ?_)
  · rw [if_neg h_z] at hF
    exact bX12_often_37 C O X (lv_sub hl [0, 1, 2] rfl) hF
  · rw [if_pos h_z] at hF
    exact bX12_often_31 C O X (lv_sub hl [0] rfl) hF
noncomputable def fX12_often_b13 (N : Nat) (S : gS) : Option (Int32 × gS) := bnd (fX12_fail N 1 S) fun q1 => (some (q1.1, q1.2))
theorem bX12_often_13 {N : Nat} {S : gS} {H : Heap} {locs : List Loc} {ls : Array Slot} {o : Int32 × gS} (C : gC p s m args meth c cX12_often 5 RX12 ((some .int)) D (mtys cI cS) mord g Am) (O : gO (mcell g cI cS sa) mord g) (X : gX D (mcell g cI cS sa) mord g S s H locs) (hl : lv_has ls 5 [(0, .ref (g 99))]) (hF : fX12_often_b13 N S = some o) : W p l e (rmd 2) s m args below meth c H locs 0 0 (gE below args s D (mtys cI cS) (mcell g cI cS sa) mord g (some (.int o.1)) o.2) (F0 m 13 ls []) := by
  unfold fX12_often_b13 at hF
  refine lv_aload_n C.1.1 C.1.2.1 dX12_often_13 rfl (lv_at hl 0 rfl) ?_
  refine lv_iconst (v := 1) C.1.1 C.1.2.1 dX12_often_14 (by decide) ?_
  obtain ⟨q1, hq1, hF⟩ := bnd_some hF
  refine m_callVi C X vX12_fail rfl (kX12_fail O C.2.2.2.2.1 N 1  S q1 hq1) (Nat.le_of_ble_eq_true rfl) (Nat.le_of_ble_eq_true rfl) (Nat.le_of_ble_eq_true rfl) (Nat.le_of_ble_eq_true rfl) rfl hl.1 rfl (Nat.le_of_ble_eq_true rfl) dX12_often_15 (fun H locs X => ?_)
  cases hF
  exact g_iret C X dX12_often_18
noncomputable def fX12_often_b0 (N : Nat) (x1 : Int32) (x2 : Int32) (S : gS) : Option (Int32 × gS) := lt (sU S 99 4 0) fun S1 => (bnd (fX12_isGrotto N x1 S1) fun q1 => (if q1.1 = 0 then fX12_often_b13 N q1.2 else fX12_often_b19 N x1 x2 q1.2))
theorem bX12_often_0 {N : Nat} {x1 : Int32} {x2 : Int32} {S : gS} {H : Heap} {locs : List Loc} {ls : Array Slot} {o : Int32 × gS} (C : gC p s m args meth c cX12_often 5 RX12 ((some .int)) D (mtys cI cS) mord g Am) (O : gO (mcell g cI cS sa) mord g) (X : gX D (mcell g cI cS sa) mord g S s H locs) (hl : lv_has ls 5 [(0, .ref (g 99)), (1, .int x1), (2, .int x2)]) (hF : fX12_often_b0 N x1 x2 S = some o) : W p l e (rmd 2) s m args below meth c H locs 0 0 (gE below args s D (mtys cI cS) (mcell g cI cS sa) mord g (some (.int o.1)) o.2) (F0 m 0 ls []) := by
  unfold fX12_often_b0 at hF
  refine lv_aload_n C.1.1 C.1.2.1 dX12_often_0 rfl (lv_at hl 0 rfl) ?_
  refine lv_iconst (v := 0) C.1.1 C.1.2.1 dX12_often_1 (by decide) ?_
  obtain ⟨S1, eS1, hF⟩ := lt_some hF
  refine m_p4 C O X eS1 dX12_often_2 (fun H locs X => ?_)
  refine lv_aload_n C.1.1 C.1.2.1 dX12_often_5 rfl (lv_at hl 0 rfl) ?_
  refine lv_iload_n C.1.1 C.1.2.1 dX12_often_6 rfl (lv_at hl 1 rfl) ?_
  obtain ⟨q1, hq1, hF⟩ := bnd_some hF
  refine m_callVi C X vX12_isGrotto rfl (kX12_isGrotto O C.2.2.2.2.1 N x1  S1 q1 hq1) (Nat.le_of_ble_eq_true rfl) (Nat.le_of_ble_eq_true rfl) (Nat.le_of_ble_eq_true rfl) (Nat.le_of_ble_eq_true rfl) rfl hl.1 rfl (Nat.le_of_ble_eq_true rfl) dX12_often_7 (fun H locs X => ?_)
  refine lv_if_ne (tgt := 19) C.1.1 C.1.2.1 dX12_often_10 (by decide) (fun h_z => ?_) (fun h_z => ?_)
  · rw [if_neg h_z] at hF
    exact bX12_often_19 C O X (lv_sub hl [0, 1, 2] rfl) hF
  · rw [if_pos h_z] at hF
    exact bX12_often_13 C O X (lv_sub hl [0] rfl) hF
noncomputable def fX12_often (N : Nat) (x1 : Int32) (x2 : Int32) (S : gS) : Option (Int32 × gS) := fX12_often_b0 N x1 x2 S
theorem kX12_often {l : Launch} {D : va_G} {g : Nat → Nat} {cI cS : ClassId} {sa : Nat → Nat → Option Nat} {Am : (Nat → Prop) → State → Heap → Prop} (O : gO (mcell g cI cS sa) mord g) (P : gAm Am) (N : Nat) (x1 : Int32) (x2 : Int32) (S : gS) (o : Int32 × gS) (hF : fX12_often N x1 x2 S = some o) : gM l yX12_often cX12_often 5 ((some .int)) 2 D (mtys cI cS) (mcell g cI cS sa) mord g Am [.ref (g 99), .int x1, .int x2] S (some (.int o.1)) o.2 :=
  gM_of O P (by decide) (Nat.le_of_ble_eq_true rfl) (fun p e s m args below meth c ls C X hl => bX12_often_0 C O X (lv_sub hl [0, 1, 2] rfl) hF)
-- isSome
noncomputable def fX12_isSome_b0 (N : Nat) (x1 : Int32) (S : gS) : Option (Int32 × gS) := bnd (fX12_isIn N (Int32.toInt64 x1) 0 (Int32.toInt64 (((((1 : Int32) <<< ((S 5 0) &&& 31) : Int32)) - 1 : Int32))) S) fun q1 => (chk (zb q1.1) (some (q1.1, q1.2)))
theorem bX12_isSome_0 {N : Nat} {x1 : Int32} {S : gS} {H : Heap} {locs : List Loc} {ls : Array Slot} {o : Int32 × gS} (C : gC p s m args meth c cX12_isSome 2 RX12 ((some .boolean)) D (mtys cI cS) mord g Am) (O : gO (mcell g cI cS sa) mord g) (X : gX D (mcell g cI cS sa) mord g S s H locs) (hl : lv_has ls 2 [(0, .ref (g 99)), (1, .int x1)]) (hF : fX12_isSome_b0 N x1 S = some o) : W p l e (rmd 1) s m args below meth c H locs 0 0 (gE below args s D (mtys cI cS) (mcell g cI cS sa) mord g (some (.int o.1)) o.2) (F0 m 0 ls []) := by
  unfold fX12_isSome_b0 at hF
  refine lv_iload_n C.1.1 C.1.2.1 dX12_isSome_0 rfl (lv_at hl 1 rfl) ?_
  refine lv_i2l (v := Int32.toInt64 x1) C.1.1 C.1.2.1 dX12_isSome_1 rfl ?_
  refine lv_lconst (v := 0) C.1.1 C.1.2.1 dX12_isSome_2 (by decide) ?_
  refine lv_iconst (v := 1) C.1.1 C.1.2.1 dX12_isSome_3 (by decide) ?_
  refine lv_aload_n C.1.1 C.1.2.1 dX12_isSome_4 rfl (lv_at hl 0 rfl) ?_
  refine m_g5 C X dX12_isSome_5 ?_
  refine lv_iconst (v := 0) C.1.1 C.1.2.1 dX12_isSome_8 (by decide) ?_
  refine m_r5 C X (j := 0) (inb_vp (by decide)) (by decide) dX12_isSome_9 ?_
  refine lv_ishl C.1.1 C.1.2.1 dX12_isSome_10 ?_
  refine lv_iconst (v := 1) C.1.1 C.1.2.1 dX12_isSome_11 (by decide) ?_
  refine lv_isub C.1.1 C.1.2.1 dX12_isSome_12 ?_
  refine lv_i2l (v := Int32.toInt64 (((((1 : Int32) <<< ((S 5 0) &&& 31) : Int32)) - 1 : Int32))) C.1.1 C.1.2.1 dX12_isSome_13 rfl ?_
  obtain ⟨q1, hq1, hF⟩ := bnd_some hF
  refine g_callSi C X vX12_isIn (kX12_isIn O C.2.2.2.2.1 N (Int32.toInt64 x1) 0 (Int32.toInt64 (((((1 : Int32) <<< ((S 5 0) &&& 31) : Int32)) - 1 : Int32)))  S q1 hq1) (Nat.le_of_ble_eq_true rfl) (Nat.le_of_ble_eq_true rfl) (Nat.le_of_ble_eq_true rfl) (Nat.le_of_ble_eq_true rfl) rfl hl.1 rfl (Nat.le_of_ble_eq_true rfl) dX12_isSome_14 (fun H locs X => ?_)
  obtain ⟨h_1, hF⟩ := chk_some hF
  cases hF
  exact g_zret C X h_1 dX12_isSome_17
noncomputable def fX12_isSome (N : Nat) (x1 : Int32) (S : gS) : Option (Int32 × gS) := fX12_isSome_b0 N x1 S
theorem kX12_isSome {l : Launch} {D : va_G} {g : Nat → Nat} {cI cS : ClassId} {sa : Nat → Nat → Option Nat} {Am : (Nat → Prop) → State → Heap → Prop} (O : gO (mcell g cI cS sa) mord g) (P : gAm Am) (N : Nat) (x1 : Int32) (S : gS) (o : Int32 × gS) (hF : fX12_isSome N x1 S = some o) : gM l yX12_isSome cX12_isSome 2 ((some .boolean)) 1 D (mtys cI cS) (mcell g cI cS sa) mord g Am [.ref (g 99), .int x1] S (some (.int o.1)) o.2 :=
  gM_of O P (by decide) (Nat.le_of_ble_eq_true rfl) (fun p e s m args below meth c ls C X hl => bX12_isSome_0 C O X (lv_sub hl [0, 1] rfl) hF)
-- together
noncomputable def fX12_together_b98 (N : Nat) (S : gS) : Option (Int32 × gS) := some ((-1), S)
theorem bX12_together_98 {N : Nat} {S : gS} {H : Heap} {locs : List Loc} {ls : Array Slot} {o : Int32 × gS} (C : gC p s m args meth c cX12_together 5 RX12 ((some .int)) D (mtys cI cS) mord g Am) (O : gO (mcell g cI cS sa) mord g) (X : gX D (mcell g cI cS sa) mord g S s H locs) (hl : lv_has ls 5 []) (hF : fX12_together_b98 N S = some o) : W p l e (rmd 2) s m args below meth c H locs 0 0 (gE below args s D (mtys cI cS) (mcell g cI cS sa) mord g (some (.int o.1)) o.2) (F0 m 98 ls []) := by
  unfold fX12_together_b98 at hF
  refine lv_iconst (v := (-1)) C.1.1 C.1.2.1 dX12_together_98 (by decide) ?_
  cases hF
  exact g_iret C X dX12_together_99
noncomputable def fX12_together_b92 (N : Nat) (r21 : Int32 → Int32 → gS → Option (Int32 × gS)) (x1 : Int32) (x2 : Int32) (S : gS) : Option (Int32 × gS) := r21 x1 ((x2 + 1 : Int32)) S
theorem bX12_together_92 {N : Nat} {r21 : Int32 → Int32 → gS → Option (Int32 × gS)} {x1 : Int32} {x2 : Int32} {S : gS} {H : Heap} {locs : List Loc} {ls : Array Slot} {o : Int32 × gS} (C : gC p s m args meth c cX12_together 5 RX12 ((some .int)) D (mtys cI cS) mord g Am) (O : gO (mcell g cI cS sa) mord g) (K21 : ∀ (x1 : Int32) (x2 : Int32) (S : gS) (H : Heap) (locs : List Loc) (ls : Array Slot), gX D (mcell g cI cS sa) mord g S s H locs → lv_has ls 5 [(0, .ref (g 99)), (1, .int x1), (2, .int x2)] → r21 x1 x2 S = some o → W p l e (rmd 2) s m args below meth c H locs 0 0 (gE below args s D (mtys cI cS) (mcell g cI cS sa) mord g (some (.int o.1)) o.2) (F0 m 21 ls [])) (X : gX D (mcell g cI cS sa) mord g S s H locs) (hl : lv_has ls 5 [(0, .ref (g 99)), (1, .int x1), (2, .int x2)]) (hF : fX12_together_b92 N r21 x1 x2 S = some o) : W p l e (rmd 2) s m args below meth c H locs 0 0 (gE below args s D (mtys cI cS) (mcell g cI cS sa) mord g (some (.int o.1)) o.2) (F0 m 92 ls []) := by
  unfold fX12_together_b92 at hF
  refine lv_iinc (v := (x2 + 1 : Int32)) (lv' := [(2, .int ((x2 + 1 : Int32))), (0, .ref (g 99)), (1, .int x1)]) C.1.1 C.1.2.1 dX12_together_92 hl (k := 2) rfl rfl (by decide) rfl (fun ls hl => ?_)
  refine lv_goto (tgt := 21) C.1.1 C.1.2.1 dX12_together_95 (by decide) ?_
  exact K21 _ _ _ _ _ _ X (lv_sub hl [1, 2, 0] rfl) hF
noncomputable def fX12_together_b90 (N : Nat) (x2 : Int32) (S : gS) : Option (Int32 × gS) := some (x2, S)
theorem bX12_together_90 {N : Nat} {x2 : Int32} {S : gS} {H : Heap} {locs : List Loc} {ls : Array Slot} {o : Int32 × gS} (C : gC p s m args meth c cX12_together 5 RX12 ((some .int)) D (mtys cI cS) mord g Am) (O : gO (mcell g cI cS sa) mord g) (X : gX D (mcell g cI cS sa) mord g S s H locs) (hl : lv_has ls 5 [(2, .int x2)]) (hF : fX12_together_b90 N x2 S = some o) : W p l e (rmd 2) s m args below meth c H locs 0 0 (gE below args s D (mtys cI cS) (mcell g cI cS sa) mord g (some (.int o.1)) o.2) (F0 m 90 ls []) := by
  unfold fX12_together_b90 at hF
  refine lv_iload_n C.1.1 C.1.2.1 dX12_together_90 rfl (lv_at hl 0 rfl) ?_
  cases hF
  exact g_iret C X dX12_together_91
noncomputable def fX12_together_b86 (N : Nat) (r21 : Int32 → Int32 → gS → Option (Int32 × gS)) (x1 : Int32) (x2 : Int32) (x3 : Int32) (S : gS) : Option (Int32 × gS) := if x3 = 0 then fX12_together_b92 N r21 x1 x2 S else fX12_together_b90 N x2 S
theorem bX12_together_86 {N : Nat} {r21 : Int32 → Int32 → gS → Option (Int32 × gS)} {x1 : Int32} {x2 : Int32} {x3 : Int32} {S : gS} {H : Heap} {locs : List Loc} {ls : Array Slot} {o : Int32 × gS} (C : gC p s m args meth c cX12_together 5 RX12 ((some .int)) D (mtys cI cS) mord g Am) (O : gO (mcell g cI cS sa) mord g) (K21 : ∀ (x1 : Int32) (x2 : Int32) (S : gS) (H : Heap) (locs : List Loc) (ls : Array Slot), gX D (mcell g cI cS sa) mord g S s H locs → lv_has ls 5 [(0, .ref (g 99)), (1, .int x1), (2, .int x2)] → r21 x1 x2 S = some o → W p l e (rmd 2) s m args below meth c H locs 0 0 (gE below args s D (mtys cI cS) (mcell g cI cS sa) mord g (some (.int o.1)) o.2) (F0 m 21 ls [])) (X : gX D (mcell g cI cS sa) mord g S s H locs) (hl : lv_has ls 5 [(0, .ref (g 99)), (1, .int x1), (2, .int x2), (3, .int x3)]) (hF : fX12_together_b86 N r21 x1 x2 x3 S = some o) : W p l e (rmd 2) s m args below meth c H locs 0 0 (gE below args s D (mtys cI cS) (mcell g cI cS sa) mord g (some (.int o.1)) o.2) (F0 m 86 ls []) := by
  unfold fX12_together_b86 at hF
  refine lv_iload_n C.1.1 C.1.2.1 dX12_together_86 rfl (lv_at hl 3 rfl) ?_
  refine lv_if_eq (tgt := 92) C.1.1 C.1.2.1 dX12_together_87 (by decide) (fun h_z => ?_) (fun h_z => ?_)
  · rw [if_pos h_z] at hF
    exact bX12_together_92 C O K21 X (lv_sub hl [0, 1, 2] rfl) hF
  · rw [if_neg h_z] at hF
    exact bX12_together_90 C O X (lv_sub hl [2] rfl) hF
noncomputable def fX12_together_b79 (N : Nat) (r21 : Int32 → Int32 → gS → Option (Int32 × gS)) (r33 : Int32 → Int32 → Int32 → Int32 → gS → Option (Int32 × gS)) (x1 : Int32) (x2 : Int32) (x4 : Int32) (t0 : Int32) (S : gS) : Option (Int32 × gS) := r33 x1 x2 t0 ((x4 + 1 : Int32)) S
theorem bX12_together_79 {N : Nat} {r21 : Int32 → Int32 → gS → Option (Int32 × gS)} {r33 : Int32 → Int32 → Int32 → Int32 → gS → Option (Int32 × gS)} {x1 : Int32} {x2 : Int32} {x4 : Int32} {t0 : Int32} {S : gS} {H : Heap} {locs : List Loc} {ls : Array Slot} {o : Int32 × gS} (C : gC p s m args meth c cX12_together 5 RX12 ((some .int)) D (mtys cI cS) mord g Am) (O : gO (mcell g cI cS sa) mord g) (K21 : ∀ (x1 : Int32) (x2 : Int32) (S : gS) (H : Heap) (locs : List Loc) (ls : Array Slot), gX D (mcell g cI cS sa) mord g S s H locs → lv_has ls 5 [(0, .ref (g 99)), (1, .int x1), (2, .int x2)] → r21 x1 x2 S = some o → W p l e (rmd 2) s m args below meth c H locs 0 0 (gE below args s D (mtys cI cS) (mcell g cI cS sa) mord g (some (.int o.1)) o.2) (F0 m 21 ls [])) (K33 : ∀ (x1 : Int32) (x2 : Int32) (x3 : Int32) (x4 : Int32) (S : gS) (H : Heap) (locs : List Loc) (ls : Array Slot), gX D (mcell g cI cS sa) mord g S s H locs → lv_has ls 5 [(0, .ref (g 99)), (1, .int x1), (2, .int x2), (3, .int x3), (4, .int x4)] → r33 x1 x2 x3 x4 S = some o → W p l e (rmd 2) s m args below meth c H locs 0 0 (gE below args s D (mtys cI cS) (mcell g cI cS sa) mord g (some (.int o.1)) o.2) (F0 m 33 ls [])) (X : gX D (mcell g cI cS sa) mord g S s H locs) (hl : lv_has ls 5 [(0, .ref (g 99)), (1, .int x1), (2, .int x2), (4, .int x4)]) (hF : fX12_together_b79 N r21 r33 x1 x2 x4 t0 S = some o) : W p l e (rmd 2) s m args below meth c H locs 0 0 (gE below args s D (mtys cI cS) (mcell g cI cS sa) mord g (some (.int o.1)) o.2) (F0 m 79 ls [.int t0]) := by
  unfold fX12_together_b79 at hF
  refine lv_istore_n (lv' := [(3, .int t0), (0, .ref (g 99)), (1, .int x1), (2, .int x2), (4, .int x4)]) C.1.1 C.1.2.1 dX12_together_79 rfl hl (by decide) rfl (fun ls hl => ?_)
  refine lv_iinc (v := (x4 + 1 : Int32)) (lv' := [(4, .int ((x4 + 1 : Int32))), (3, .int t0), (0, .ref (g 99)), (1, .int x1), (2, .int x2)]) C.1.1 C.1.2.1 dX12_together_80 hl (k := 4) rfl rfl (by decide) rfl (fun ls hl => ?_)
  refine lv_goto (tgt := 33) C.1.1 C.1.2.1 dX12_together_83 (by decide) ?_
  exact K33 _ _ _ _ _ _ _ _ X (lv_sub hl [2, 3, 4, 1, 0] rfl) hF
noncomputable def fX12_together_b78 (N : Nat) (r21 : Int32 → Int32 → gS → Option (Int32 × gS)) (r33 : Int32 → Int32 → Int32 → Int32 → gS → Option (Int32 × gS)) (x1 : Int32) (x2 : Int32) (x4 : Int32) (S : gS) : Option (Int32 × gS) := fX12_together_b79 N r21 r33 x1 x2 x4 0 S
theorem bX12_together_78 {N : Nat} {r21 : Int32 → Int32 → gS → Option (Int32 × gS)} {r33 : Int32 → Int32 → Int32 → Int32 → gS → Option (Int32 × gS)} {x1 : Int32} {x2 : Int32} {x4 : Int32} {S : gS} {H : Heap} {locs : List Loc} {ls : Array Slot} {o : Int32 × gS} (C : gC p s m args meth c cX12_together 5 RX12 ((some .int)) D (mtys cI cS) mord g Am) (O : gO (mcell g cI cS sa) mord g) (K21 : ∀ (x1 : Int32) (x2 : Int32) (S : gS) (H : Heap) (locs : List Loc) (ls : Array Slot), gX D (mcell g cI cS sa) mord g S s H locs → lv_has ls 5 [(0, .ref (g 99)), (1, .int x1), (2, .int x2)] → r21 x1 x2 S = some o → W p l e (rmd 2) s m args below meth c H locs 0 0 (gE below args s D (mtys cI cS) (mcell g cI cS sa) mord g (some (.int o.1)) o.2) (F0 m 21 ls [])) (K33 : ∀ (x1 : Int32) (x2 : Int32) (x3 : Int32) (x4 : Int32) (S : gS) (H : Heap) (locs : List Loc) (ls : Array Slot), gX D (mcell g cI cS sa) mord g S s H locs → lv_has ls 5 [(0, .ref (g 99)), (1, .int x1), (2, .int x2), (3, .int x3), (4, .int x4)] → r33 x1 x2 x3 x4 S = some o → W p l e (rmd 2) s m args below meth c H locs 0 0 (gE below args s D (mtys cI cS) (mcell g cI cS sa) mord g (some (.int o.1)) o.2) (F0 m 33 ls [])) (X : gX D (mcell g cI cS sa) mord g S s H locs) (hl : lv_has ls 5 [(0, .ref (g 99)), (1, .int x1), (2, .int x2), (4, .int x4)]) (hF : fX12_together_b78 N r21 r33 x1 x2 x4 S = some o) : W p l e (rmd 2) s m args below meth c H locs 0 0 (gE below args s D (mtys cI cS) (mcell g cI cS sa) mord g (some (.int o.1)) o.2) (F0 m 78 ls []) := by
  unfold fX12_together_b78 at hF
  refine lv_iconst (v := 0) C.1.1 C.1.2.1 dX12_together_78 (by decide) ?_
  exact bX12_together_79 C O K21 K33 X (lv_sub hl [0, 1, 2, 3] rfl) hF
noncomputable def fX12_together_b74 (N : Nat) (r21 : Int32 → Int32 → gS → Option (Int32 × gS)) (r33 : Int32 → Int32 → Int32 → Int32 → gS → Option (Int32 × gS)) (x1 : Int32) (x2 : Int32) (x4 : Int32) (S : gS) : Option (Int32 × gS) := fX12_together_b79 N r21 r33 x1 x2 x4 1 S
theorem bX12_together_74 {N : Nat} {r21 : Int32 → Int32 → gS → Option (Int32 × gS)} {r33 : Int32 → Int32 → Int32 → Int32 → gS → Option (Int32 × gS)} {x1 : Int32} {x2 : Int32} {x4 : Int32} {S : gS} {H : Heap} {locs : List Loc} {ls : Array Slot} {o : Int32 × gS} (C : gC p s m args meth c cX12_together 5 RX12 ((some .int)) D (mtys cI cS) mord g Am) (O : gO (mcell g cI cS sa) mord g) (K21 : ∀ (x1 : Int32) (x2 : Int32) (S : gS) (H : Heap) (locs : List Loc) (ls : Array Slot), gX D (mcell g cI cS sa) mord g S s H locs → lv_has ls 5 [(0, .ref (g 99)), (1, .int x1), (2, .int x2)] → r21 x1 x2 S = some o → W p l e (rmd 2) s m args below meth c H locs 0 0 (gE below args s D (mtys cI cS) (mcell g cI cS sa) mord g (some (.int o.1)) o.2) (F0 m 21 ls [])) (K33 : ∀ (x1 : Int32) (x2 : Int32) (x3 : Int32) (x4 : Int32) (S : gS) (H : Heap) (locs : List Loc) (ls : Array Slot), gX D (mcell g cI cS sa) mord g S s H locs → lv_has ls 5 [(0, .ref (g 99)), (1, .int x1), (2, .int x2), (3, .int x3), (4, .int x4)] → r33 x1 x2 x3 x4 S = some o → W p l e (rmd 2) s m args below meth c H locs 0 0 (gE below args s D (mtys cI cS) (mcell g cI cS sa) mord g (some (.int o.1)) o.2) (F0 m 33 ls [])) (X : gX D (mcell g cI cS sa) mord g S s H locs) (hl : lv_has ls 5 [(0, .ref (g 99)), (1, .int x1), (2, .int x2), (4, .int x4)]) (hF : fX12_together_b74 N r21 r33 x1 x2 x4 S = some o) : W p l e (rmd 2) s m args below meth c H locs 0 0 (gE below args s D (mtys cI cS) (mcell g cI cS sa) mord g (some (.int o.1)) o.2) (F0 m 74 ls []) := by
  unfold fX12_together_b74 at hF
  refine lv_iconst (v := 1) C.1.1 C.1.2.1 dX12_together_74 (by decide) ?_
  refine lv_goto (tgt := 79) C.1.1 C.1.2.1 dX12_together_75 (by decide) ?_
  exact bX12_together_79 C O K21 K33 X (lv_sub hl [0, 1, 2, 3] rfl) hF
noncomputable def fX12_together_b57 (N : Nat) (r21 : Int32 → Int32 → gS → Option (Int32 × gS)) (r33 : Int32 → Int32 → Int32 → Int32 → gS → Option (Int32 × gS)) (x1 : Int32) (x2 : Int32) (x4 : Int32) (S : gS) : Option (Int32 × gS) := bnd (fX12_comesAt N x4 (((((S 99 37) + x2 : Int32)) - 1 : Int32)) S) fun q1 => (if q1.1 = 0 then fX12_together_b78 N r21 r33 x1 x2 x4 q1.2 else fX12_together_b74 N r21 r33 x1 x2 x4 q1.2)
theorem bX12_together_57 {N : Nat} {r21 : Int32 → Int32 → gS → Option (Int32 × gS)} {r33 : Int32 → Int32 → Int32 → Int32 → gS → Option (Int32 × gS)} {x1 : Int32} {x2 : Int32} {x4 : Int32} {S : gS} {H : Heap} {locs : List Loc} {ls : Array Slot} {o : Int32 × gS} (C : gC p s m args meth c cX12_together 5 RX12 ((some .int)) D (mtys cI cS) mord g Am) (O : gO (mcell g cI cS sa) mord g) (K21 : ∀ (x1 : Int32) (x2 : Int32) (S : gS) (H : Heap) (locs : List Loc) (ls : Array Slot), gX D (mcell g cI cS sa) mord g S s H locs → lv_has ls 5 [(0, .ref (g 99)), (1, .int x1), (2, .int x2)] → r21 x1 x2 S = some o → W p l e (rmd 2) s m args below meth c H locs 0 0 (gE below args s D (mtys cI cS) (mcell g cI cS sa) mord g (some (.int o.1)) o.2) (F0 m 21 ls [])) (K33 : ∀ (x1 : Int32) (x2 : Int32) (x3 : Int32) (x4 : Int32) (S : gS) (H : Heap) (locs : List Loc) (ls : Array Slot), gX D (mcell g cI cS sa) mord g S s H locs → lv_has ls 5 [(0, .ref (g 99)), (1, .int x1), (2, .int x2), (3, .int x3), (4, .int x4)] → r33 x1 x2 x3 x4 S = some o → W p l e (rmd 2) s m args below meth c H locs 0 0 (gE below args s D (mtys cI cS) (mcell g cI cS sa) mord g (some (.int o.1)) o.2) (F0 m 33 ls [])) (X : gX D (mcell g cI cS sa) mord g S s H locs) (hl : lv_has ls 5 [(0, .ref (g 99)), (1, .int x1), (2, .int x2), (4, .int x4)]) (hF : fX12_together_b57 N r21 r33 x1 x2 x4 S = some o) : W p l e (rmd 2) s m args below meth c H locs 0 0 (gE below args s D (mtys cI cS) (mcell g cI cS sa) mord g (some (.int o.1)) o.2) (F0 m 57 ls []) := by
  unfold fX12_together_b57 at hF
  refine lv_aload_n C.1.1 C.1.2.1 dX12_together_57 rfl (lv_at hl 0 rfl) ?_
  refine lv_iload C.1.1 C.1.2.1 dX12_together_58 (lv_at hl 3 rfl) ?_
  refine lv_aload_n C.1.1 C.1.2.1 dX12_together_60 rfl (lv_at hl 0 rfl) ?_
  refine m_g37 C X dX12_together_61 ?_
  refine lv_iload_n C.1.1 C.1.2.1 dX12_together_64 rfl (lv_at hl 2 rfl) ?_
  refine lv_iadd C.1.1 C.1.2.1 dX12_together_65 ?_
  refine lv_iconst (v := 1) C.1.1 C.1.2.1 dX12_together_66 (by decide) ?_
  refine lv_isub C.1.1 C.1.2.1 dX12_together_67 ?_
  obtain ⟨q1, hq1, hF⟩ := bnd_some hF
  refine m_callVi C X vX12_comesAt rfl (kX12_comesAt O C.2.2.2.2.1 N x4 (((((S 99 37) + x2 : Int32)) - 1 : Int32))  S q1 hq1) (Nat.le_of_ble_eq_true rfl) (Nat.le_of_ble_eq_true rfl) (Nat.le_of_ble_eq_true rfl) (Nat.le_of_ble_eq_true rfl) rfl hl.1 rfl (Nat.le_of_ble_eq_true rfl) dX12_together_68 (fun H locs X => ?_)
  refine lv_if_eq (tgt := 78) C.1.1 C.1.2.1 dX12_together_71 (by decide) (fun h_z => ?_) (fun h_z => ?_)
  · rw [if_pos h_z] at hF
    exact bX12_together_78 C O K21 K33 X (lv_sub hl [0, 1, 2, 3] rfl) hF
  · rw [if_neg h_z] at hF
    exact bX12_together_74 C O K21 K33 X (lv_sub hl [0, 1, 2, 3] rfl) hF
noncomputable def fX12_together_b48 (N : Nat) (r21 : Int32 → Int32 → gS → Option (Int32 × gS)) (r33 : Int32 → Int32 → Int32 → Int32 → gS → Option (Int32 × gS)) (x1 : Int32) (x2 : Int32) (x4 : Int32) (S : gS) : Option (Int32 × gS) := bnd (fX12_isOf N x1 x4 S) fun q1 => (if q1.1 = 0 then fX12_together_b74 N r21 r33 x1 x2 x4 q1.2 else fX12_together_b57 N r21 r33 x1 x2 x4 q1.2)
theorem bX12_together_48 {N : Nat} {r21 : Int32 → Int32 → gS → Option (Int32 × gS)} {r33 : Int32 → Int32 → Int32 → Int32 → gS → Option (Int32 × gS)} {x1 : Int32} {x2 : Int32} {x4 : Int32} {S : gS} {H : Heap} {locs : List Loc} {ls : Array Slot} {o : Int32 × gS} (C : gC p s m args meth c cX12_together 5 RX12 ((some .int)) D (mtys cI cS) mord g Am) (O : gO (mcell g cI cS sa) mord g) (K21 : ∀ (x1 : Int32) (x2 : Int32) (S : gS) (H : Heap) (locs : List Loc) (ls : Array Slot), gX D (mcell g cI cS sa) mord g S s H locs → lv_has ls 5 [(0, .ref (g 99)), (1, .int x1), (2, .int x2)] → r21 x1 x2 S = some o → W p l e (rmd 2) s m args below meth c H locs 0 0 (gE below args s D (mtys cI cS) (mcell g cI cS sa) mord g (some (.int o.1)) o.2) (F0 m 21 ls [])) (K33 : ∀ (x1 : Int32) (x2 : Int32) (x3 : Int32) (x4 : Int32) (S : gS) (H : Heap) (locs : List Loc) (ls : Array Slot), gX D (mcell g cI cS sa) mord g S s H locs → lv_has ls 5 [(0, .ref (g 99)), (1, .int x1), (2, .int x2), (3, .int x3), (4, .int x4)] → r33 x1 x2 x3 x4 S = some o → W p l e (rmd 2) s m args below meth c H locs 0 0 (gE below args s D (mtys cI cS) (mcell g cI cS sa) mord g (some (.int o.1)) o.2) (F0 m 33 ls [])) (X : gX D (mcell g cI cS sa) mord g S s H locs) (hl : lv_has ls 5 [(0, .ref (g 99)), (1, .int x1), (2, .int x2), (4, .int x4)]) (hF : fX12_together_b48 N r21 r33 x1 x2 x4 S = some o) : W p l e (rmd 2) s m args below meth c H locs 0 0 (gE below args s D (mtys cI cS) (mcell g cI cS sa) mord g (some (.int o.1)) o.2) (F0 m 48 ls []) := by
  unfold fX12_together_b48 at hF
  refine lv_iload_n C.1.1 C.1.2.1 dX12_together_48 rfl (lv_at hl 1 rfl) ?_
  refine lv_iload C.1.1 C.1.2.1 dX12_together_49 (lv_at hl 3 rfl) ?_
  obtain ⟨q1, hq1, hF⟩ := bnd_some hF
  refine g_callSi C X vX12_isOf (kX12_isOf O C.2.2.2.2.1 N x1 x4  S q1 hq1) (Nat.le_of_ble_eq_true rfl) (Nat.le_of_ble_eq_true rfl) (Nat.le_of_ble_eq_true rfl) (Nat.le_of_ble_eq_true rfl) rfl hl.1 rfl (Nat.le_of_ble_eq_true rfl) dX12_together_51 (fun H locs X => ?_)
  refine lv_if_eq (tgt := 74) C.1.1 C.1.2.1 dX12_together_54 (by decide) (fun h_z => ?_) (fun h_z => ?_)
  · rw [if_pos h_z] at hF
    exact bX12_together_74 C O K21 K33 X (lv_sub hl [0, 1, 2, 3] rfl) hF
  · rw [if_neg h_z] at hF
    exact bX12_together_57 C O K21 K33 X (lv_sub hl [0, 1, 2, 3] rfl) hF
noncomputable def fX12_together_b44 (N : Nat) (r21 : Int32 → Int32 → gS → Option (Int32 × gS)) (r33 : Int32 → Int32 → Int32 → Int32 → gS → Option (Int32 × gS)) (x1 : Int32) (x2 : Int32) (x3 : Int32) (x4 : Int32) (S : gS) : Option (Int32 × gS) := if x3 = 0 then fX12_together_b86 N r21 x1 x2 x3 S else fX12_together_b48 N r21 r33 x1 x2 x4 S
theorem bX12_together_44 {N : Nat} {r21 : Int32 → Int32 → gS → Option (Int32 × gS)} {r33 : Int32 → Int32 → Int32 → Int32 → gS → Option (Int32 × gS)} {x1 : Int32} {x2 : Int32} {x3 : Int32} {x4 : Int32} {S : gS} {H : Heap} {locs : List Loc} {ls : Array Slot} {o : Int32 × gS} (C : gC p s m args meth c cX12_together 5 RX12 ((some .int)) D (mtys cI cS) mord g Am) (O : gO (mcell g cI cS sa) mord g) (K21 : ∀ (x1 : Int32) (x2 : Int32) (S : gS) (H : Heap) (locs : List Loc) (ls : Array Slot), gX D (mcell g cI cS sa) mord g S s H locs → lv_has ls 5 [(0, .ref (g 99)), (1, .int x1), (2, .int x2)] → r21 x1 x2 S = some o → W p l e (rmd 2) s m args below meth c H locs 0 0 (gE below args s D (mtys cI cS) (mcell g cI cS sa) mord g (some (.int o.1)) o.2) (F0 m 21 ls [])) (K33 : ∀ (x1 : Int32) (x2 : Int32) (x3 : Int32) (x4 : Int32) (S : gS) (H : Heap) (locs : List Loc) (ls : Array Slot), gX D (mcell g cI cS sa) mord g S s H locs → lv_has ls 5 [(0, .ref (g 99)), (1, .int x1), (2, .int x2), (3, .int x3), (4, .int x4)] → r33 x1 x2 x3 x4 S = some o → W p l e (rmd 2) s m args below meth c H locs 0 0 (gE below args s D (mtys cI cS) (mcell g cI cS sa) mord g (some (.int o.1)) o.2) (F0 m 33 ls [])) (X : gX D (mcell g cI cS sa) mord g S s H locs) (hl : lv_has ls 5 [(0, .ref (g 99)), (1, .int x1), (2, .int x2), (3, .int x3), (4, .int x4)]) (hF : fX12_together_b44 N r21 r33 x1 x2 x3 x4 S = some o) : W p l e (rmd 2) s m args below meth c H locs 0 0 (gE below args s D (mtys cI cS) (mcell g cI cS sa) mord g (some (.int o.1)) o.2) (F0 m 44 ls []) := by
  unfold fX12_together_b44 at hF
  refine lv_iload_n C.1.1 C.1.2.1 dX12_together_44 rfl (lv_at hl 3 rfl) ?_
  refine lv_if_eq (tgt := 86) C.1.1 C.1.2.1 dX12_together_45 (by decide) (fun h_z => ?_) (fun h_z => ?_)
  · rw [if_pos h_z] at hF
    exact bX12_together_86 C O K21 X (lv_sub hl [0, 1, 2, 3] rfl) hF
  · rw [if_neg h_z] at hF
    exact bX12_together_48 C O K21 K33 X (lv_sub hl [0, 1, 2, 4] rfl) hF
noncomputable def fX12_together_b33 (N : Nat) (r21 : Int32 → Int32 → gS → Option (Int32 × gS)) (r33 : Int32 → Int32 → Int32 → Int32 → gS → Option (Int32 × gS)) (x1 : Int32) (x2 : Int32) (x3 : Int32) (x4 : Int32) (S : gS) : Option (Int32 × gS) := if (S 5 0) ≤ x4 then fX12_together_b86 N r21 x1 x2 x3 S else fX12_together_b44 N r21 r33 x1 x2 x3 x4 S
theorem bX12_together_33 {N : Nat} {r21 : Int32 → Int32 → gS → Option (Int32 × gS)} {r33 : Int32 → Int32 → Int32 → Int32 → gS → Option (Int32 × gS)} {x1 : Int32} {x2 : Int32} {x3 : Int32} {x4 : Int32} {S : gS} {H : Heap} {locs : List Loc} {ls : Array Slot} {o : Int32 × gS} (C : gC p s m args meth c cX12_together 5 RX12 ((some .int)) D (mtys cI cS) mord g Am) (O : gO (mcell g cI cS sa) mord g) (K21 : ∀ (x1 : Int32) (x2 : Int32) (S : gS) (H : Heap) (locs : List Loc) (ls : Array Slot), gX D (mcell g cI cS sa) mord g S s H locs → lv_has ls 5 [(0, .ref (g 99)), (1, .int x1), (2, .int x2)] → r21 x1 x2 S = some o → W p l e (rmd 2) s m args below meth c H locs 0 0 (gE below args s D (mtys cI cS) (mcell g cI cS sa) mord g (some (.int o.1)) o.2) (F0 m 21 ls [])) (K33 : ∀ (x1 : Int32) (x2 : Int32) (x3 : Int32) (x4 : Int32) (S : gS) (H : Heap) (locs : List Loc) (ls : Array Slot), gX D (mcell g cI cS sa) mord g S s H locs → lv_has ls 5 [(0, .ref (g 99)), (1, .int x1), (2, .int x2), (3, .int x3), (4, .int x4)] → r33 x1 x2 x3 x4 S = some o → W p l e (rmd 2) s m args below meth c H locs 0 0 (gE below args s D (mtys cI cS) (mcell g cI cS sa) mord g (some (.int o.1)) o.2) (F0 m 33 ls [])) (X : gX D (mcell g cI cS sa) mord g S s H locs) (hl : lv_has ls 5 [(0, .ref (g 99)), (1, .int x1), (2, .int x2), (3, .int x3), (4, .int x4)]) (hF : fX12_together_b33 N r21 r33 x1 x2 x3 x4 S = some o) : W p l e (rmd 2) s m args below meth c H locs 0 0 (gE below args s D (mtys cI cS) (mcell g cI cS sa) mord g (some (.int o.1)) o.2) (F0 m 33 ls []) := by
  unfold fX12_together_b33 at hF
  refine lv_iload C.1.1 C.1.2.1 dX12_together_33 (lv_at hl 4 rfl) ?_
  refine lv_aload_n C.1.1 C.1.2.1 dX12_together_35 rfl (lv_at hl 0 rfl) ?_
  refine m_g5 C X dX12_together_36 ?_
  refine lv_iconst (v := 0) C.1.1 C.1.2.1 dX12_together_39 (by decide) ?_
  refine m_r5 C X (j := 0) (inb_vp (by decide)) (by decide) dX12_together_40 ?_
  refine lv_icmp_ge (tgt := 86) C.1.1 C.1.2.1 dX12_together_41 (by decide) (fun h_z => ?_) (fun h_z => ?_)
  · rw [if_pos h_z] at hF
    exact bX12_together_86 C O K21 X (lv_sub hl [0, 1, 2, 3] rfl) hF
  · rw [if_neg h_z] at hF
    exact bX12_together_44 C O K21 K33 X (lv_sub hl [0, 1, 2, 3, 4] rfl) hF
noncomputable def fX12_together_h33 (N : Nat) (r21 : Int32 → Int32 → gS → Option (Int32 × gS)) : Nat → Int32 → Int32 → Int32 → Int32 → gS → Option (Int32 × gS)
  | 0, _, _, _, _, _ => none
  | n + 1, x1, x2, x3, x4, S => fX12_together_b33 N r21 (fX12_together_h33 N r21 n) x1 x2 x3 x4 S
theorem hX12_together_33 {N : Nat} {r21 : Int32 → Int32 → gS → Option (Int32 × gS)} {o : Int32 × gS} (C : gC p s m args meth c cX12_together 5 RX12 ((some .int)) D (mtys cI cS) mord g Am) (O : gO (mcell g cI cS sa) mord g) (K21 : ∀ (x1 : Int32) (x2 : Int32) (S : gS) (H : Heap) (locs : List Loc) (ls : Array Slot), gX D (mcell g cI cS sa) mord g S s H locs → lv_has ls 5 [(0, .ref (g 99)), (1, .int x1), (2, .int x2)] → r21 x1 x2 S = some o → W p l e (rmd 2) s m args below meth c H locs 0 0 (gE below args s D (mtys cI cS) (mcell g cI cS sa) mord g (some (.int o.1)) o.2) (F0 m 21 ls [])) : ∀ (n : Nat) (x1 : Int32) (x2 : Int32) (x3 : Int32) (x4 : Int32) (S : gS) (H : Heap) (locs : List Loc) (ls : Array Slot), gX D (mcell g cI cS sa) mord g S s H locs → lv_has ls 5 [(0, .ref (g 99)), (1, .int x1), (2, .int x2), (3, .int x3), (4, .int x4)] → fX12_together_h33 N r21 n x1 x2 x3 x4 S = some o → W p l e (rmd 2) s m args below meth c H locs 0 0 (gE below args s D (mtys cI cS) (mcell g cI cS sa) mord g (some (.int o.1)) o.2) (F0 m 33 ls []) := by
  intro n
  induction n with
  | zero =>
    intro x1 x2 x3 x4 S H locs ls X hl hF
    exact absurd (show (none : Option (Int32 × gS)) = some o from hF) (by simp)
  | succ n ih =>
    intro x1 x2 x3 x4 S H locs ls X hl hF
    have hF : fX12_together_b33 N r21 (fX12_together_h33 N r21 n) x1 x2 x3 x4 S = some o := hF
    exact bX12_together_33 C O K21 ih X hl hF
noncomputable def fX12_together_b28 (N : Nat) (r21 : Int32 → Int32 → gS → Option (Int32 × gS)) (x1 : Int32) (x2 : Int32) (S : gS) : Option (Int32 × gS) := fX12_together_h33 N r21 N x1 x2 1 0 S
theorem bX12_together_28 {N : Nat} {r21 : Int32 → Int32 → gS → Option (Int32 × gS)} {x1 : Int32} {x2 : Int32} {S : gS} {H : Heap} {locs : List Loc} {ls : Array Slot} {o : Int32 × gS} (C : gC p s m args meth c cX12_together 5 RX12 ((some .int)) D (mtys cI cS) mord g Am) (O : gO (mcell g cI cS sa) mord g) (K21 : ∀ (x1 : Int32) (x2 : Int32) (S : gS) (H : Heap) (locs : List Loc) (ls : Array Slot), gX D (mcell g cI cS sa) mord g S s H locs → lv_has ls 5 [(0, .ref (g 99)), (1, .int x1), (2, .int x2)] → r21 x1 x2 S = some o → W p l e (rmd 2) s m args below meth c H locs 0 0 (gE below args s D (mtys cI cS) (mcell g cI cS sa) mord g (some (.int o.1)) o.2) (F0 m 21 ls [])) (X : gX D (mcell g cI cS sa) mord g S s H locs) (hl : lv_has ls 5 [(0, .ref (g 99)), (1, .int x1), (2, .int x2)]) (hF : fX12_together_b28 N r21 x1 x2 S = some o) : W p l e (rmd 2) s m args below meth c H locs 0 0 (gE below args s D (mtys cI cS) (mcell g cI cS sa) mord g (some (.int o.1)) o.2) (F0 m 28 ls []) := by
  unfold fX12_together_b28 at hF
  refine lv_iconst (v := 1) C.1.1 C.1.2.1 dX12_together_28 (by decide) ?_
  refine lv_istore_n (lv' := [(3, .int 1), (0, .ref (g 99)), (1, .int x1), (2, .int x2)]) C.1.1 C.1.2.1 dX12_together_29 rfl hl (by decide) rfl (fun ls hl => ?_)
  refine lv_iconst (v := 0) C.1.1 C.1.2.1 dX12_together_30 (by decide) ?_
  refine lv_istore (lv' := [(4, .int 0), (3, .int 1), (0, .ref (g 99)), (1, .int x1), (2, .int x2)]) C.1.1 C.1.2.1 dX12_together_31 hl (by decide) rfl (fun ls hl => ?_)
  exact hX12_together_33 C O K21 N _ _ _ _ _ _ _ _ X (lv_sub hl [2, 3, 4, 1, 0] rfl) hF
noncomputable def fX12_together_b21 (N : Nat) (r21 : Int32 → Int32 → gS → Option (Int32 × gS)) (x1 : Int32) (x2 : Int32) (S : gS) : Option (Int32 × gS) := if 30000 < x2 then fX12_together_b98 N S else fX12_together_b28 N r21 x1 x2 S
theorem bX12_together_21 {N : Nat} {r21 : Int32 → Int32 → gS → Option (Int32 × gS)} {x1 : Int32} {x2 : Int32} {S : gS} {H : Heap} {locs : List Loc} {ls : Array Slot} {o : Int32 × gS} (C : gC p s m args meth c cX12_together 5 RX12 ((some .int)) D (mtys cI cS) mord g Am) (O : gO (mcell g cI cS sa) mord g) (K21 : ∀ (x1 : Int32) (x2 : Int32) (S : gS) (H : Heap) (locs : List Loc) (ls : Array Slot), gX D (mcell g cI cS sa) mord g S s H locs → lv_has ls 5 [(0, .ref (g 99)), (1, .int x1), (2, .int x2)] → r21 x1 x2 S = some o → W p l e (rmd 2) s m args below meth c H locs 0 0 (gE below args s D (mtys cI cS) (mcell g cI cS sa) mord g (some (.int o.1)) o.2) (F0 m 21 ls [])) (X : gX D (mcell g cI cS sa) mord g S s H locs) (hl : lv_has ls 5 [(0, .ref (g 99)), (1, .int x1), (2, .int x2)]) (hF : fX12_together_b21 N r21 x1 x2 S = some o) : W p l e (rmd 2) s m args below meth c H locs 0 0 (gE below args s D (mtys cI cS) (mcell g cI cS sa) mord g (some (.int o.1)) o.2) (F0 m 21 ls []) := by
  unfold fX12_together_b21 at hF
  refine lv_iload_n C.1.1 C.1.2.1 dX12_together_21 rfl (lv_at hl 2 rfl) ?_
  refine lv_sipush (v := 30000) C.1.1 C.1.2.1 dX12_together_22 (by decide) ?_
  refine lv_icmp_gt (tgt := 98) C.1.1 C.1.2.1 dX12_together_25 (by decide) (fun h_z => ?_) (fun h_z => ?_)
  · rw [if_pos h_z] at hF
    exact bX12_together_98 C O X (lv_sub hl [] rfl) hF
  · rw [if_neg h_z] at hF
    exact bX12_together_28 C O K21 X (lv_sub hl [0, 1, 2] rfl) hF
noncomputable def fX12_together_h21 (N : Nat) : Nat → Int32 → Int32 → gS → Option (Int32 × gS)
  | 0, _, _, _ => none
  | n + 1, x1, x2, S => fX12_together_b21 N (fX12_together_h21 N n) x1 x2 S
theorem hX12_together_21 {N : Nat} {o : Int32 × gS} (C : gC p s m args meth c cX12_together 5 RX12 ((some .int)) D (mtys cI cS) mord g Am) (O : gO (mcell g cI cS sa) mord g) : ∀ (n : Nat) (x1 : Int32) (x2 : Int32) (S : gS) (H : Heap) (locs : List Loc) (ls : Array Slot), gX D (mcell g cI cS sa) mord g S s H locs → lv_has ls 5 [(0, .ref (g 99)), (1, .int x1), (2, .int x2)] → fX12_together_h21 N n x1 x2 S = some o → W p l e (rmd 2) s m args below meth c H locs 0 0 (gE below args s D (mtys cI cS) (mcell g cI cS sa) mord g (some (.int o.1)) o.2) (F0 m 21 ls []) := by
  intro n
  induction n with
  | zero =>
    intro x1 x2 S H locs ls X hl hF
    exact absurd (show (none : Option (Int32 × gS)) = some o from hF) (by simp)
  | succ n ih =>
    intro x1 x2 S H locs ls X hl hF
    have hF : fX12_together_b21 N (fX12_together_h21 N n) x1 x2 S = some o := hF
    exact bX12_together_21 C O ih X hl hF
noncomputable def fX12_together_b19 (N : Nat) (x1 : Int32) (S : gS) : Option (Int32 × gS) := fX12_together_h21 N N x1 1 S
theorem bX12_together_19 {N : Nat} {x1 : Int32} {S : gS} {H : Heap} {locs : List Loc} {ls : Array Slot} {o : Int32 × gS} (C : gC p s m args meth c cX12_together 5 RX12 ((some .int)) D (mtys cI cS) mord g Am) (O : gO (mcell g cI cS sa) mord g) (X : gX D (mcell g cI cS sa) mord g S s H locs) (hl : lv_has ls 5 [(0, .ref (g 99)), (1, .int x1)]) (hF : fX12_together_b19 N x1 S = some o) : W p l e (rmd 2) s m args below meth c H locs 0 0 (gE below args s D (mtys cI cS) (mcell g cI cS sa) mord g (some (.int o.1)) o.2) (F0 m 19 ls []) := by
  unfold fX12_together_b19 at hF
  refine lv_iconst (v := 1) C.1.1 C.1.2.1 dX12_together_19 (by decide) ?_
  refine lv_istore_n (lv' := [(2, .int 1), (0, .ref (g 99)), (1, .int x1)]) C.1.1 C.1.2.1 dX12_together_20 rfl hl (by decide) rfl (fun ls hl => ?_)
  exact hX12_together_21 C O N _ _ _ _ _ _ X (lv_sub hl [1, 2, 0] rfl) hF
noncomputable def fX12_together_b13 (N : Nat) (S : gS) : Option (Int32 × gS) := bnd (fX12_fail N 1 S) fun q1 => (some (q1.1, q1.2))
theorem bX12_together_13 {N : Nat} {S : gS} {H : Heap} {locs : List Loc} {ls : Array Slot} {o : Int32 × gS} (C : gC p s m args meth c cX12_together 5 RX12 ((some .int)) D (mtys cI cS) mord g Am) (O : gO (mcell g cI cS sa) mord g) (X : gX D (mcell g cI cS sa) mord g S s H locs) (hl : lv_has ls 5 [(0, .ref (g 99))]) (hF : fX12_together_b13 N S = some o) : W p l e (rmd 2) s m args below meth c H locs 0 0 (gE below args s D (mtys cI cS) (mcell g cI cS sa) mord g (some (.int o.1)) o.2) (F0 m 13 ls []) := by
  unfold fX12_together_b13 at hF
  refine lv_aload_n C.1.1 C.1.2.1 dX12_together_13 rfl (lv_at hl 0 rfl) ?_
  refine lv_iconst (v := 1) C.1.1 C.1.2.1 dX12_together_14 (by decide) ?_
  obtain ⟨q1, hq1, hF⟩ := bnd_some hF
  refine m_callVi C X vX12_fail rfl (kX12_fail O C.2.2.2.2.1 N 1  S q1 hq1) (Nat.le_of_ble_eq_true rfl) (Nat.le_of_ble_eq_true rfl) (Nat.le_of_ble_eq_true rfl) (Nat.le_of_ble_eq_true rfl) rfl hl.1 rfl (Nat.le_of_ble_eq_true rfl) dX12_together_15 (fun H locs X => ?_)
  cases hF
  exact g_iret C X dX12_together_18
noncomputable def fX12_together_b0 (N : Nat) (x1 : Int32) (S : gS) : Option (Int32 × gS) := lt (sU S 99 4 0) fun S1 => (bnd (fX12_isSome N x1 S1) fun q1 => (if q1.1 = 0 then fX12_together_b13 N q1.2 else fX12_together_b19 N x1 q1.2))
theorem bX12_together_0 {N : Nat} {x1 : Int32} {S : gS} {H : Heap} {locs : List Loc} {ls : Array Slot} {o : Int32 × gS} (C : gC p s m args meth c cX12_together 5 RX12 ((some .int)) D (mtys cI cS) mord g Am) (O : gO (mcell g cI cS sa) mord g) (X : gX D (mcell g cI cS sa) mord g S s H locs) (hl : lv_has ls 5 [(0, .ref (g 99)), (1, .int x1)]) (hF : fX12_together_b0 N x1 S = some o) : W p l e (rmd 2) s m args below meth c H locs 0 0 (gE below args s D (mtys cI cS) (mcell g cI cS sa) mord g (some (.int o.1)) o.2) (F0 m 0 ls []) := by
  unfold fX12_together_b0 at hF
  refine lv_aload_n C.1.1 C.1.2.1 dX12_together_0 rfl (lv_at hl 0 rfl) ?_
  refine lv_iconst (v := 0) C.1.1 C.1.2.1 dX12_together_1 (by decide) ?_
  obtain ⟨S1, eS1, hF⟩ := lt_some hF
  refine m_p4 C O X eS1 dX12_together_2 (fun H locs X => ?_)
  refine lv_aload_n C.1.1 C.1.2.1 dX12_together_5 rfl (lv_at hl 0 rfl) ?_
  refine lv_iload_n C.1.1 C.1.2.1 dX12_together_6 rfl (lv_at hl 1 rfl) ?_
  obtain ⟨q1, hq1, hF⟩ := bnd_some hF
  refine m_callVi C X vX12_isSome rfl (kX12_isSome O C.2.2.2.2.1 N x1  S1 q1 hq1) (Nat.le_of_ble_eq_true rfl) (Nat.le_of_ble_eq_true rfl) (Nat.le_of_ble_eq_true rfl) (Nat.le_of_ble_eq_true rfl) rfl hl.1 rfl (Nat.le_of_ble_eq_true rfl) dX12_together_7 (fun H locs X => ?_)
  refine lv_if_ne (tgt := 19) C.1.1 C.1.2.1 dX12_together_10 (by decide) (fun h_z => ?_) (fun h_z => ?_)
  · rw [if_neg h_z] at hF
    exact bX12_together_19 C O X (lv_sub hl [0, 1] rfl) hF
  · rw [if_pos h_z] at hF
    exact bX12_together_13 C O X (lv_sub hl [0] rfl) hF
noncomputable def fX12_together (N : Nat) (x1 : Int32) (S : gS) : Option (Int32 × gS) := fX12_together_b0 N x1 S
theorem kX12_together {l : Launch} {D : va_G} {g : Nat → Nat} {cI cS : ClassId} {sa : Nat → Nat → Option Nat} {Am : (Nat → Prop) → State → Heap → Prop} (O : gO (mcell g cI cS sa) mord g) (P : gAm Am) (N : Nat) (x1 : Int32) (S : gS) (o : Int32 × gS) (hF : fX12_together N x1 S = some o) : gM l yX12_together cX12_together 5 ((some .int)) 2 D (mtys cI cS) (mcell g cI cS sa) mord g Am [.ref (g 99), .int x1] S (some (.int o.1)) o.2 :=
  gM_of O P (by decide) (Nat.le_of_ble_eq_true rfl) (fun p e s m args below meth c ls C X hl => bX12_together_0 C O X (lv_sub hl [0, 1] rfl) hF)
-- rhythm
noncomputable def fX12_rhythm_b69 (N : Nat) (x2 : Int32) (S : gS) : Option (Int32 × gS) := some (x2, S)
theorem bX12_rhythm_69 {N : Nat} {x2 : Int32} {S : gS} {H : Heap} {locs : List Loc} {ls : Array Slot} {o : Int32 × gS} (C : gC p s m args meth c cX12_rhythm 5 RX12 ((some .int)) D (mtys cI cS) mord g Am) (O : gO (mcell g cI cS sa) mord g) (X : gX D (mcell g cI cS sa) mord g S s H locs) (hl : lv_has ls 5 [(2, .int x2)]) (hF : fX12_rhythm_b69 N x2 S = some o) : W p l e (rmd 2) s m args below meth c H locs 0 0 (gE below args s D (mtys cI cS) (mcell g cI cS sa) mord g (some (.int o.1)) o.2) (F0 m 69 ls []) := by
  unfold fX12_rhythm_b69 at hF
  refine lv_iload_n C.1.1 C.1.2.1 dX12_rhythm_69 rfl (lv_at hl 0 rfl) ?_
  cases hF
  exact g_iret C X dX12_rhythm_70
noncomputable def fX12_rhythm_b63 (N : Nat) (r23 : Int32 → Int32 → Int32 → gS → Option (Int32 × gS)) (x1 : Int32) (x2 : Int32) (x3 : Int32) (S : gS) : Option (Int32 × gS) := r23 x1 x2 ((x3 + 1 : Int32)) S
theorem bX12_rhythm_63 {N : Nat} {r23 : Int32 → Int32 → Int32 → gS → Option (Int32 × gS)} {x1 : Int32} {x2 : Int32} {x3 : Int32} {S : gS} {H : Heap} {locs : List Loc} {ls : Array Slot} {o : Int32 × gS} (C : gC p s m args meth c cX12_rhythm 5 RX12 ((some .int)) D (mtys cI cS) mord g Am) (O : gO (mcell g cI cS sa) mord g) (K23 : ∀ (x1 : Int32) (x2 : Int32) (x3 : Int32) (S : gS) (H : Heap) (locs : List Loc) (ls : Array Slot), gX D (mcell g cI cS sa) mord g S s H locs → lv_has ls 5 [(0, .ref (g 99)), (1, .int x1), (2, .int x2), (3, .int x3)] → r23 x1 x2 x3 S = some o → W p l e (rmd 2) s m args below meth c H locs 0 0 (gE below args s D (mtys cI cS) (mcell g cI cS sa) mord g (some (.int o.1)) o.2) (F0 m 23 ls [])) (X : gX D (mcell g cI cS sa) mord g S s H locs) (hl : lv_has ls 5 [(0, .ref (g 99)), (1, .int x1), (2, .int x2), (3, .int x3)]) (hF : fX12_rhythm_b63 N r23 x1 x2 x3 S = some o) : W p l e (rmd 2) s m args below meth c H locs 0 0 (gE below args s D (mtys cI cS) (mcell g cI cS sa) mord g (some (.int o.1)) o.2) (F0 m 63 ls []) := by
  unfold fX12_rhythm_b63 at hF
  refine lv_iinc (v := (x3 + 1 : Int32)) (lv' := [(3, .int ((x3 + 1 : Int32))), (0, .ref (g 99)), (1, .int x1), (2, .int x2)]) C.1.1 C.1.2.1 dX12_rhythm_63 hl (k := 3) rfl rfl (by decide) rfl (fun ls hl => ?_)
  refine lv_goto (tgt := 23) C.1.1 C.1.2.1 dX12_rhythm_66 (by decide) ?_
  exact K23 _ _ _ _ _ _ _ X (lv_sub hl [1, 2, 3, 0] rfl) hF
noncomputable def fX12_rhythm_b55 (N : Nat) (r23 : Int32 → Int32 → Int32 → gS → Option (Int32 × gS)) (r36 : Int32 → Int32 → Int32 → Int32 → gS → Option (Int32 × gS)) (x1 : Int32) (x2 : Int32) (x3 : Int32) (x4 : Int32) (S : gS) : Option (Int32 × gS) := r36 x1 ((x2 + x4 : Int32)) x3 x4 S
theorem bX12_rhythm_55 {N : Nat} {r23 : Int32 → Int32 → Int32 → gS → Option (Int32 × gS)} {r36 : Int32 → Int32 → Int32 → Int32 → gS → Option (Int32 × gS)} {x1 : Int32} {x2 : Int32} {x3 : Int32} {x4 : Int32} {S : gS} {H : Heap} {locs : List Loc} {ls : Array Slot} {o : Int32 × gS} (C : gC p s m args meth c cX12_rhythm 5 RX12 ((some .int)) D (mtys cI cS) mord g Am) (O : gO (mcell g cI cS sa) mord g) (K23 : ∀ (x1 : Int32) (x2 : Int32) (x3 : Int32) (S : gS) (H : Heap) (locs : List Loc) (ls : Array Slot), gX D (mcell g cI cS sa) mord g S s H locs → lv_has ls 5 [(0, .ref (g 99)), (1, .int x1), (2, .int x2), (3, .int x3)] → r23 x1 x2 x3 S = some o → W p l e (rmd 2) s m args below meth c H locs 0 0 (gE below args s D (mtys cI cS) (mcell g cI cS sa) mord g (some (.int o.1)) o.2) (F0 m 23 ls [])) (K36 : ∀ (x1 : Int32) (x2 : Int32) (x3 : Int32) (x4 : Int32) (S : gS) (H : Heap) (locs : List Loc) (ls : Array Slot), gX D (mcell g cI cS sa) mord g S s H locs → lv_has ls 5 [(0, .ref (g 99)), (1, .int x1), (2, .int x2), (3, .int x3), (4, .int x4)] → r36 x1 x2 x3 x4 S = some o → W p l e (rmd 2) s m args below meth c H locs 0 0 (gE below args s D (mtys cI cS) (mcell g cI cS sa) mord g (some (.int o.1)) o.2) (F0 m 36 ls [])) (X : gX D (mcell g cI cS sa) mord g S s H locs) (hl : lv_has ls 5 [(0, .ref (g 99)), (1, .int x1), (2, .int x2), (3, .int x3), (4, .int x4)]) (hF : fX12_rhythm_b55 N r23 r36 x1 x2 x3 x4 S = some o) : W p l e (rmd 2) s m args below meth c H locs 0 0 (gE below args s D (mtys cI cS) (mcell g cI cS sa) mord g (some (.int o.1)) o.2) (F0 m 55 ls []) := by
  unfold fX12_rhythm_b55 at hF
  refine lv_iload_n C.1.1 C.1.2.1 dX12_rhythm_55 rfl (lv_at hl 2 rfl) ?_
  refine lv_iload C.1.1 C.1.2.1 dX12_rhythm_56 (lv_at hl 4 rfl) ?_
  refine lv_iadd C.1.1 C.1.2.1 dX12_rhythm_58 ?_
  refine lv_istore_n (lv' := [(2, .int ((x2 + x4 : Int32))), (0, .ref (g 99)), (1, .int x1), (3, .int x3), (4, .int x4)]) C.1.1 C.1.2.1 dX12_rhythm_59 rfl hl (by decide) rfl (fun ls hl => ?_)
  refine lv_goto (tgt := 36) C.1.1 C.1.2.1 dX12_rhythm_60 (by decide) ?_
  exact K36 _ _ _ _ _ _ _ _ X (lv_sub hl [1, 2, 0, 3, 4] rfl) hF
noncomputable def fX12_rhythm_b44 (N : Nat) (r23 : Int32 → Int32 → Int32 → gS → Option (Int32 × gS)) (r36 : Int32 → Int32 → Int32 → Int32 → gS → Option (Int32 × gS)) (x1 : Int32) (x2 : Int32) (x3 : Int32) (x4 : Int32) (S : gS) : Option (Int32 × gS) := chk (inb x3 (16)) (chk (nz (S 7 (Int32.toNatClampNeg x3))) (if ((x2 - x2 / (S 7 (Int32.toNatClampNeg x3)) * (S 7 (Int32.toNatClampNeg x3)) : Int32)) = 0 then fX12_rhythm_b63 N r23 x1 x2 x3 S else fX12_rhythm_b55 N r23 r36 x1 x2 x3 x4 S))
theorem bX12_rhythm_44 {N : Nat} {r23 : Int32 → Int32 → Int32 → gS → Option (Int32 × gS)} {r36 : Int32 → Int32 → Int32 → Int32 → gS → Option (Int32 × gS)} {x1 : Int32} {x2 : Int32} {x3 : Int32} {x4 : Int32} {S : gS} {H : Heap} {locs : List Loc} {ls : Array Slot} {o : Int32 × gS} (C : gC p s m args meth c cX12_rhythm 5 RX12 ((some .int)) D (mtys cI cS) mord g Am) (O : gO (mcell g cI cS sa) mord g) (K23 : ∀ (x1 : Int32) (x2 : Int32) (x3 : Int32) (S : gS) (H : Heap) (locs : List Loc) (ls : Array Slot), gX D (mcell g cI cS sa) mord g S s H locs → lv_has ls 5 [(0, .ref (g 99)), (1, .int x1), (2, .int x2), (3, .int x3)] → r23 x1 x2 x3 S = some o → W p l e (rmd 2) s m args below meth c H locs 0 0 (gE below args s D (mtys cI cS) (mcell g cI cS sa) mord g (some (.int o.1)) o.2) (F0 m 23 ls [])) (K36 : ∀ (x1 : Int32) (x2 : Int32) (x3 : Int32) (x4 : Int32) (S : gS) (H : Heap) (locs : List Loc) (ls : Array Slot), gX D (mcell g cI cS sa) mord g S s H locs → lv_has ls 5 [(0, .ref (g 99)), (1, .int x1), (2, .int x2), (3, .int x3), (4, .int x4)] → r36 x1 x2 x3 x4 S = some o → W p l e (rmd 2) s m args below meth c H locs 0 0 (gE below args s D (mtys cI cS) (mcell g cI cS sa) mord g (some (.int o.1)) o.2) (F0 m 36 ls [])) (X : gX D (mcell g cI cS sa) mord g S s H locs) (hl : lv_has ls 5 [(0, .ref (g 99)), (1, .int x1), (2, .int x2), (3, .int x3), (4, .int x4)]) (hF : fX12_rhythm_b44 N r23 r36 x1 x2 x3 x4 S = some o) : W p l e (rmd 2) s m args below meth c H locs 0 0 (gE below args s D (mtys cI cS) (mcell g cI cS sa) mord g (some (.int o.1)) o.2) (F0 m 44 ls []) := by
  unfold fX12_rhythm_b44 at hF
  refine lv_iload_n C.1.1 C.1.2.1 dX12_rhythm_44 rfl (lv_at hl 2 rfl) ?_
  refine lv_aload_n C.1.1 C.1.2.1 dX12_rhythm_45 rfl (lv_at hl 0 rfl) ?_
  refine m_g7 C X dX12_rhythm_46 ?_
  refine lv_iload_n C.1.1 C.1.2.1 dX12_rhythm_49 rfl (lv_at hl 3 rfl) ?_
  obtain ⟨h_1, hF⟩ := chk_some hF
  refine m_r7 C X  (inb_vp h_1) rfl dX12_rhythm_50 ?_
  obtain ⟨h_2, hF⟩ := chk_some hF
  refine lv_irem C.1.1 C.1.2.1 dX12_rhythm_51 (nz_ne h_2) ?_
  refine lv_if_eq (tgt := 63) C.1.1 C.1.2.1 dX12_rhythm_52 (by decide) (fun h_z => ?_) (fun h_z => ?_)
  · rw [if_pos h_z] at hF
    exact bX12_rhythm_63 C O K23 X (lv_sub hl [0, 1, 2, 3] rfl) hF
  · rw [if_neg h_z] at hF
    exact bX12_rhythm_55 C O K23 K36 X (lv_sub hl [0, 1, 2, 3, 4] rfl) hF
noncomputable def fX12_rhythm_b36 (N : Nat) (r23 : Int32 → Int32 → Int32 → gS → Option (Int32 × gS)) (r36 : Int32 → Int32 → Int32 → Int32 → gS → Option (Int32 × gS)) (x1 : Int32) (x2 : Int32) (x3 : Int32) (x4 : Int32) (S : gS) : Option (Int32 × gS) := bnd (fX12_isOf N x1 x3 S) fun q1 => (if q1.1 = 0 then fX12_rhythm_b63 N r23 x1 x2 x3 q1.2 else fX12_rhythm_b44 N r23 r36 x1 x2 x3 x4 q1.2)
theorem bX12_rhythm_36 {N : Nat} {r23 : Int32 → Int32 → Int32 → gS → Option (Int32 × gS)} {r36 : Int32 → Int32 → Int32 → Int32 → gS → Option (Int32 × gS)} {x1 : Int32} {x2 : Int32} {x3 : Int32} {x4 : Int32} {S : gS} {H : Heap} {locs : List Loc} {ls : Array Slot} {o : Int32 × gS} (C : gC p s m args meth c cX12_rhythm 5 RX12 ((some .int)) D (mtys cI cS) mord g Am) (O : gO (mcell g cI cS sa) mord g) (K23 : ∀ (x1 : Int32) (x2 : Int32) (x3 : Int32) (S : gS) (H : Heap) (locs : List Loc) (ls : Array Slot), gX D (mcell g cI cS sa) mord g S s H locs → lv_has ls 5 [(0, .ref (g 99)), (1, .int x1), (2, .int x2), (3, .int x3)] → r23 x1 x2 x3 S = some o → W p l e (rmd 2) s m args below meth c H locs 0 0 (gE below args s D (mtys cI cS) (mcell g cI cS sa) mord g (some (.int o.1)) o.2) (F0 m 23 ls [])) (K36 : ∀ (x1 : Int32) (x2 : Int32) (x3 : Int32) (x4 : Int32) (S : gS) (H : Heap) (locs : List Loc) (ls : Array Slot), gX D (mcell g cI cS sa) mord g S s H locs → lv_has ls 5 [(0, .ref (g 99)), (1, .int x1), (2, .int x2), (3, .int x3), (4, .int x4)] → r36 x1 x2 x3 x4 S = some o → W p l e (rmd 2) s m args below meth c H locs 0 0 (gE below args s D (mtys cI cS) (mcell g cI cS sa) mord g (some (.int o.1)) o.2) (F0 m 36 ls [])) (X : gX D (mcell g cI cS sa) mord g S s H locs) (hl : lv_has ls 5 [(0, .ref (g 99)), (1, .int x1), (2, .int x2), (3, .int x3), (4, .int x4)]) (hF : fX12_rhythm_b36 N r23 r36 x1 x2 x3 x4 S = some o) : W p l e (rmd 2) s m args below meth c H locs 0 0 (gE below args s D (mtys cI cS) (mcell g cI cS sa) mord g (some (.int o.1)) o.2) (F0 m 36 ls []) := by
  unfold fX12_rhythm_b36 at hF
  refine lv_iload_n C.1.1 C.1.2.1 dX12_rhythm_36 rfl (lv_at hl 1 rfl) ?_
  refine lv_iload_n C.1.1 C.1.2.1 dX12_rhythm_37 rfl (lv_at hl 3 rfl) ?_
  obtain ⟨q1, hq1, hF⟩ := bnd_some hF
  refine g_callSi C X vX12_isOf (kX12_isOf O C.2.2.2.2.1 N x1 x3  S q1 hq1) (Nat.le_of_ble_eq_true rfl) (Nat.le_of_ble_eq_true rfl) (Nat.le_of_ble_eq_true rfl) (Nat.le_of_ble_eq_true rfl) rfl hl.1 rfl (Nat.le_of_ble_eq_true rfl) dX12_rhythm_38 (fun H locs X => ?_)
  refine lv_if_eq (tgt := 63) C.1.1 C.1.2.1 dX12_rhythm_41 (by decide) (fun h_z => ?_) (fun h_z => ?_)
  · rw [if_pos h_z] at hF
    exact bX12_rhythm_63 C O K23 X (lv_sub hl [0, 1, 2, 3] rfl) hF
  · rw [if_neg h_z] at hF
    exact bX12_rhythm_44 C O K23 K36 X (lv_sub hl [0, 1, 2, 3, 4] rfl) hF
noncomputable def fX12_rhythm_h36 (N : Nat) (r23 : Int32 → Int32 → Int32 → gS → Option (Int32 × gS)) : Nat → Int32 → Int32 → Int32 → Int32 → gS → Option (Int32 × gS)
  | 0, _, _, _, _, _ => none
  | n + 1, x1, x2, x3, x4, S => fX12_rhythm_b36 N r23 (fX12_rhythm_h36 N r23 n) x1 x2 x3 x4 S
theorem hX12_rhythm_36 {N : Nat} {r23 : Int32 → Int32 → Int32 → gS → Option (Int32 × gS)} {o : Int32 × gS} (C : gC p s m args meth c cX12_rhythm 5 RX12 ((some .int)) D (mtys cI cS) mord g Am) (O : gO (mcell g cI cS sa) mord g) (K23 : ∀ (x1 : Int32) (x2 : Int32) (x3 : Int32) (S : gS) (H : Heap) (locs : List Loc) (ls : Array Slot), gX D (mcell g cI cS sa) mord g S s H locs → lv_has ls 5 [(0, .ref (g 99)), (1, .int x1), (2, .int x2), (3, .int x3)] → r23 x1 x2 x3 S = some o → W p l e (rmd 2) s m args below meth c H locs 0 0 (gE below args s D (mtys cI cS) (mcell g cI cS sa) mord g (some (.int o.1)) o.2) (F0 m 23 ls [])) : ∀ (n : Nat) (x1 : Int32) (x2 : Int32) (x3 : Int32) (x4 : Int32) (S : gS) (H : Heap) (locs : List Loc) (ls : Array Slot), gX D (mcell g cI cS sa) mord g S s H locs → lv_has ls 5 [(0, .ref (g 99)), (1, .int x1), (2, .int x2), (3, .int x3), (4, .int x4)] → fX12_rhythm_h36 N r23 n x1 x2 x3 x4 S = some o → W p l e (rmd 2) s m args below meth c H locs 0 0 (gE below args s D (mtys cI cS) (mcell g cI cS sa) mord g (some (.int o.1)) o.2) (F0 m 36 ls []) := by
  intro n
  induction n with
  | zero =>
    intro x1 x2 x3 x4 S H locs ls X hl hF
    exact absurd (show (none : Option (Int32 × gS)) = some o from hF) (by simp)
  | succ n ih =>
    intro x1 x2 x3 x4 S H locs ls X hl hF
    have hF : fX12_rhythm_b36 N r23 (fX12_rhythm_h36 N r23 n) x1 x2 x3 x4 S = some o := hF
    exact bX12_rhythm_36 C O K23 ih X hl hF
noncomputable def fX12_rhythm_b33 (N : Nat) (r23 : Int32 → Int32 → Int32 → gS → Option (Int32 × gS)) (x1 : Int32) (x2 : Int32) (x3 : Int32) (S : gS) : Option (Int32 × gS) := fX12_rhythm_h36 N r23 N x1 x2 x3 x2 S
theorem bX12_rhythm_33 {N : Nat} {r23 : Int32 → Int32 → Int32 → gS → Option (Int32 × gS)} {x1 : Int32} {x2 : Int32} {x3 : Int32} {S : gS} {H : Heap} {locs : List Loc} {ls : Array Slot} {o : Int32 × gS} (C : gC p s m args meth c cX12_rhythm 5 RX12 ((some .int)) D (mtys cI cS) mord g Am) (O : gO (mcell g cI cS sa) mord g) (K23 : ∀ (x1 : Int32) (x2 : Int32) (x3 : Int32) (S : gS) (H : Heap) (locs : List Loc) (ls : Array Slot), gX D (mcell g cI cS sa) mord g S s H locs → lv_has ls 5 [(0, .ref (g 99)), (1, .int x1), (2, .int x2), (3, .int x3)] → r23 x1 x2 x3 S = some o → W p l e (rmd 2) s m args below meth c H locs 0 0 (gE below args s D (mtys cI cS) (mcell g cI cS sa) mord g (some (.int o.1)) o.2) (F0 m 23 ls [])) (X : gX D (mcell g cI cS sa) mord g S s H locs) (hl : lv_has ls 5 [(0, .ref (g 99)), (1, .int x1), (2, .int x2), (3, .int x3)]) (hF : fX12_rhythm_b33 N r23 x1 x2 x3 S = some o) : W p l e (rmd 2) s m args below meth c H locs 0 0 (gE below args s D (mtys cI cS) (mcell g cI cS sa) mord g (some (.int o.1)) o.2) (F0 m 33 ls []) := by
  unfold fX12_rhythm_b33 at hF
  refine lv_iload_n C.1.1 C.1.2.1 dX12_rhythm_33 rfl (lv_at hl 2 rfl) ?_
  refine lv_istore (lv' := [(4, .int x2), (0, .ref (g 99)), (1, .int x1), (2, .int x2), (3, .int x3)]) C.1.1 C.1.2.1 dX12_rhythm_34 hl (by decide) rfl (fun ls hl => ?_)
  exact hX12_rhythm_36 C O K23 N _ _ _ _ _ _ _ _ X (lv_sub hl [1, 2, 3, 4, 0] rfl) hF
noncomputable def fX12_rhythm_b23 (N : Nat) (r23 : Int32 → Int32 → Int32 → gS → Option (Int32 × gS)) (x1 : Int32) (x2 : Int32) (x3 : Int32) (S : gS) : Option (Int32 × gS) := if (S 5 0) ≤ x3 then fX12_rhythm_b69 N x2 S else fX12_rhythm_b33 N r23 x1 x2 x3 S
theorem bX12_rhythm_23 {N : Nat} {r23 : Int32 → Int32 → Int32 → gS → Option (Int32 × gS)} {x1 : Int32} {x2 : Int32} {x3 : Int32} {S : gS} {H : Heap} {locs : List Loc} {ls : Array Slot} {o : Int32 × gS} (C : gC p s m args meth c cX12_rhythm 5 RX12 ((some .int)) D (mtys cI cS) mord g Am) (O : gO (mcell g cI cS sa) mord g) (K23 : ∀ (x1 : Int32) (x2 : Int32) (x3 : Int32) (S : gS) (H : Heap) (locs : List Loc) (ls : Array Slot), gX D (mcell g cI cS sa) mord g S s H locs → lv_has ls 5 [(0, .ref (g 99)), (1, .int x1), (2, .int x2), (3, .int x3)] → r23 x1 x2 x3 S = some o → W p l e (rmd 2) s m args below meth c H locs 0 0 (gE below args s D (mtys cI cS) (mcell g cI cS sa) mord g (some (.int o.1)) o.2) (F0 m 23 ls [])) (X : gX D (mcell g cI cS sa) mord g S s H locs) (hl : lv_has ls 5 [(0, .ref (g 99)), (1, .int x1), (2, .int x2), (3, .int x3)]) (hF : fX12_rhythm_b23 N r23 x1 x2 x3 S = some o) : W p l e (rmd 2) s m args below meth c H locs 0 0 (gE below args s D (mtys cI cS) (mcell g cI cS sa) mord g (some (.int o.1)) o.2) (F0 m 23 ls []) := by
  unfold fX12_rhythm_b23 at hF
  refine lv_iload_n C.1.1 C.1.2.1 dX12_rhythm_23 rfl (lv_at hl 3 rfl) ?_
  refine lv_aload_n C.1.1 C.1.2.1 dX12_rhythm_24 rfl (lv_at hl 0 rfl) ?_
  refine m_g5 C X dX12_rhythm_25 ?_
  refine lv_iconst (v := 0) C.1.1 C.1.2.1 dX12_rhythm_28 (by decide) ?_
  refine m_r5 C X (j := 0) (inb_vp (by decide)) (by decide) dX12_rhythm_29 ?_
  refine lv_icmp_ge (tgt := 69) C.1.1 C.1.2.1 dX12_rhythm_30 (by decide) (fun h_z => ?_) (fun h_z => ?_)
  · rw [if_pos h_z] at hF
    exact bX12_rhythm_69 C O X (lv_sub hl [2] rfl) hF
  · rw [if_neg h_z] at hF
    exact bX12_rhythm_33 C O K23 X (lv_sub hl [0, 1, 2, 3] rfl) hF
noncomputable def fX12_rhythm_h23 (N : Nat) : Nat → Int32 → Int32 → Int32 → gS → Option (Int32 × gS)
  | 0, _, _, _, _ => none
  | n + 1, x1, x2, x3, S => fX12_rhythm_b23 N (fX12_rhythm_h23 N n) x1 x2 x3 S
theorem hX12_rhythm_23 {N : Nat} {o : Int32 × gS} (C : gC p s m args meth c cX12_rhythm 5 RX12 ((some .int)) D (mtys cI cS) mord g Am) (O : gO (mcell g cI cS sa) mord g) : ∀ (n : Nat) (x1 : Int32) (x2 : Int32) (x3 : Int32) (S : gS) (H : Heap) (locs : List Loc) (ls : Array Slot), gX D (mcell g cI cS sa) mord g S s H locs → lv_has ls 5 [(0, .ref (g 99)), (1, .int x1), (2, .int x2), (3, .int x3)] → fX12_rhythm_h23 N n x1 x2 x3 S = some o → W p l e (rmd 2) s m args below meth c H locs 0 0 (gE below args s D (mtys cI cS) (mcell g cI cS sa) mord g (some (.int o.1)) o.2) (F0 m 23 ls []) := by
  intro n
  induction n with
  | zero =>
    intro x1 x2 x3 S H locs ls X hl hF
    exact absurd (show (none : Option (Int32 × gS)) = some o from hF) (by simp)
  | succ n ih =>
    intro x1 x2 x3 S H locs ls X hl hF
    have hF : fX12_rhythm_b23 N (fX12_rhythm_h23 N n) x1 x2 x3 S = some o := hF
    exact bX12_rhythm_23 C O ih X hl hF
noncomputable def fX12_rhythm_b19 (N : Nat) (x1 : Int32) (S : gS) : Option (Int32 × gS) := fX12_rhythm_h23 N N x1 1 0 S
theorem bX12_rhythm_19 {N : Nat} {x1 : Int32} {S : gS} {H : Heap} {locs : List Loc} {ls : Array Slot} {o : Int32 × gS} (C : gC p s m args meth c cX12_rhythm 5 RX12 ((some .int)) D (mtys cI cS) mord g Am) (O : gO (mcell g cI cS sa) mord g) (X : gX D (mcell g cI cS sa) mord g S s H locs) (hl : lv_has ls 5 [(0, .ref (g 99)), (1, .int x1)]) (hF : fX12_rhythm_b19 N x1 S = some o) : W p l e (rmd 2) s m args below meth c H locs 0 0 (gE below args s D (mtys cI cS) (mcell g cI cS sa) mord g (some (.int o.1)) o.2) (F0 m 19 ls []) := by
  unfold fX12_rhythm_b19 at hF
  refine lv_iconst (v := 1) C.1.1 C.1.2.1 dX12_rhythm_19 (by decide) ?_
  refine lv_istore_n (lv' := [(2, .int 1), (0, .ref (g 99)), (1, .int x1)]) C.1.1 C.1.2.1 dX12_rhythm_20 rfl hl (by decide) rfl (fun ls hl => ?_)
  refine lv_iconst (v := 0) C.1.1 C.1.2.1 dX12_rhythm_21 (by decide) ?_
  refine lv_istore_n (lv' := [(3, .int 0), (2, .int 1), (0, .ref (g 99)), (1, .int x1)]) C.1.1 C.1.2.1 dX12_rhythm_22 rfl hl (by decide) rfl (fun ls hl => ?_)
  exact hX12_rhythm_23 C O N _ _ _ _ _ _ _ X (lv_sub hl [2, 3, 1, 0] rfl) hF
noncomputable def fX12_rhythm_b13 (N : Nat) (S : gS) : Option (Int32 × gS) := bnd (fX12_fail N 1 S) fun q1 => (some (q1.1, q1.2))
theorem bX12_rhythm_13 {N : Nat} {S : gS} {H : Heap} {locs : List Loc} {ls : Array Slot} {o : Int32 × gS} (C : gC p s m args meth c cX12_rhythm 5 RX12 ((some .int)) D (mtys cI cS) mord g Am) (O : gO (mcell g cI cS sa) mord g) (X : gX D (mcell g cI cS sa) mord g S s H locs) (hl : lv_has ls 5 [(0, .ref (g 99))]) (hF : fX12_rhythm_b13 N S = some o) : W p l e (rmd 2) s m args below meth c H locs 0 0 (gE below args s D (mtys cI cS) (mcell g cI cS sa) mord g (some (.int o.1)) o.2) (F0 m 13 ls []) := by
  unfold fX12_rhythm_b13 at hF
  refine lv_aload_n C.1.1 C.1.2.1 dX12_rhythm_13 rfl (lv_at hl 0 rfl) ?_
  refine lv_iconst (v := 1) C.1.1 C.1.2.1 dX12_rhythm_14 (by decide) ?_
  obtain ⟨q1, hq1, hF⟩ := bnd_some hF
  refine m_callVi C X vX12_fail rfl (kX12_fail O C.2.2.2.2.1 N 1  S q1 hq1) (Nat.le_of_ble_eq_true rfl) (Nat.le_of_ble_eq_true rfl) (Nat.le_of_ble_eq_true rfl) (Nat.le_of_ble_eq_true rfl) rfl hl.1 rfl (Nat.le_of_ble_eq_true rfl) dX12_rhythm_15 (fun H locs X => ?_)
  cases hF
  exact g_iret C X dX12_rhythm_18
noncomputable def fX12_rhythm_b0 (N : Nat) (x1 : Int32) (S : gS) : Option (Int32 × gS) := lt (sU S 99 4 0) fun S1 => (bnd (fX12_isSome N x1 S1) fun q1 => (if q1.1 = 0 then fX12_rhythm_b13 N q1.2 else fX12_rhythm_b19 N x1 q1.2))
theorem bX12_rhythm_0 {N : Nat} {x1 : Int32} {S : gS} {H : Heap} {locs : List Loc} {ls : Array Slot} {o : Int32 × gS} (C : gC p s m args meth c cX12_rhythm 5 RX12 ((some .int)) D (mtys cI cS) mord g Am) (O : gO (mcell g cI cS sa) mord g) (X : gX D (mcell g cI cS sa) mord g S s H locs) (hl : lv_has ls 5 [(0, .ref (g 99)), (1, .int x1)]) (hF : fX12_rhythm_b0 N x1 S = some o) : W p l e (rmd 2) s m args below meth c H locs 0 0 (gE below args s D (mtys cI cS) (mcell g cI cS sa) mord g (some (.int o.1)) o.2) (F0 m 0 ls []) := by
  unfold fX12_rhythm_b0 at hF
  refine lv_aload_n C.1.1 C.1.2.1 dX12_rhythm_0 rfl (lv_at hl 0 rfl) ?_
  refine lv_iconst (v := 0) C.1.1 C.1.2.1 dX12_rhythm_1 (by decide) ?_
  obtain ⟨S1, eS1, hF⟩ := lt_some hF
  refine m_p4 C O X eS1 dX12_rhythm_2 (fun H locs X => ?_)
  refine lv_aload_n C.1.1 C.1.2.1 dX12_rhythm_5 rfl (lv_at hl 0 rfl) ?_
  refine lv_iload_n C.1.1 C.1.2.1 dX12_rhythm_6 rfl (lv_at hl 1 rfl) ?_
  obtain ⟨q1, hq1, hF⟩ := bnd_some hF
  refine m_callVi C X vX12_isSome rfl (kX12_isSome O C.2.2.2.2.1 N x1  S1 q1 hq1) (Nat.le_of_ble_eq_true rfl) (Nat.le_of_ble_eq_true rfl) (Nat.le_of_ble_eq_true rfl) (Nat.le_of_ble_eq_true rfl) rfl hl.1 rfl (Nat.le_of_ble_eq_true rfl) dX12_rhythm_7 (fun H locs X => ?_)
  refine lv_if_ne (tgt := 19) C.1.1 C.1.2.1 dX12_rhythm_10 (by decide) (fun h_z => ?_) (fun h_z => ?_)
  · rw [if_neg h_z] at hF
    exact bX12_rhythm_19 C O X (lv_sub hl [0, 1] rfl) hF
  · rw [if_pos h_z] at hF
    exact bX12_rhythm_13 C O X (lv_sub hl [0] rfl) hF
noncomputable def fX12_rhythm (N : Nat) (x1 : Int32) (S : gS) : Option (Int32 × gS) := fX12_rhythm_b0 N x1 S
theorem kX12_rhythm {l : Launch} {D : va_G} {g : Nat → Nat} {cI cS : ClassId} {sa : Nat → Nat → Option Nat} {Am : (Nat → Prop) → State → Heap → Prop} (O : gO (mcell g cI cS sa) mord g) (P : gAm Am) (N : Nat) (x1 : Int32) (S : gS) (o : Int32 × gS) (hF : fX12_rhythm N x1 S = some o) : gM l yX12_rhythm cX12_rhythm 5 ((some .int)) 2 D (mtys cI cS) (mcell g cI cS sa) mord g Am [.ref (g 99), .int x1] S (some (.int o.1)) o.2 :=
  gM_of O P (by decide) (Nat.le_of_ble_eq_true rfl) (fun p e s m args below meth c ls C X hl => bX12_rhythm_0 C O X (lv_sub hl [0, 1] rfl) hF)
-- toHire
noncomputable def fX12_toHire_b171 (N : Nat) (t0 : Int32) (S : gS) : Option (Int32 × gS) := some (t0, S)
theorem bX12_toHire_171 {N : Nat} {t0 : Int32} {S : gS} {H : Heap} {locs : List Loc} {ls : Array Slot} {o : Int32 × gS} (C : gC p s m args meth c cX12_toHire 9 RX12 ((some .int)) D (mtys cI cS) mord g Am) (O : gO (mcell g cI cS sa) mord g) (X : gX D (mcell g cI cS sa) mord g S s H locs) (hl : lv_has ls 9 []) (hF : fX12_toHire_b171 N t0 S = some o) : W p l e (rmd 7) s m args below meth c H locs 0 0 (gE below args s D (mtys cI cS) (mcell g cI cS sa) mord g (some (.int o.1)) o.2) (F0 m 171 ls [.int t0]) := by
  unfold fX12_toHire_b171 at hF
  cases hF
  exact g_iret C X dX12_toHire_171
noncomputable def fX12_toHire_b169 (N : Nat) (x5 : Int32) (S : gS) : Option (Int32 × gS) := fX12_toHire_b171 N x5 S
theorem bX12_toHire_169 {N : Nat} {x5 : Int32} {S : gS} {H : Heap} {locs : List Loc} {ls : Array Slot} {o : Int32 × gS} (C : gC p s m args meth c cX12_toHire 9 RX12 ((some .int)) D (mtys cI cS) mord g Am) (O : gO (mcell g cI cS sa) mord g) (X : gX D (mcell g cI cS sa) mord g S s H locs) (hl : lv_has ls 9 [(5, .int x5)]) (hF : fX12_toHire_b169 N x5 S = some o) : W p l e (rmd 7) s m args below meth c H locs 0 0 (gE below args s D (mtys cI cS) (mcell g cI cS sa) mord g (some (.int o.1)) o.2) (F0 m 169 ls []) := by
  unfold fX12_toHire_b169 at hF
  refine lv_iload C.1.1 C.1.2.1 dX12_toHire_169 (lv_at hl 0 rfl) ?_
  exact bX12_toHire_171 C O X (lv_sub hl [] rfl) hF
noncomputable def fX12_toHire_b164 (N : Nat) (x4 : Int32) (S : gS) : Option (Int32 × gS) := fX12_toHire_b171 N x4 S
theorem bX12_toHire_164 {N : Nat} {x4 : Int32} {S : gS} {H : Heap} {locs : List Loc} {ls : Array Slot} {o : Int32 × gS} (C : gC p s m args meth c cX12_toHire 9 RX12 ((some .int)) D (mtys cI cS) mord g Am) (O : gO (mcell g cI cS sa) mord g) (X : gX D (mcell g cI cS sa) mord g S s H locs) (hl : lv_has ls 9 [(4, .int x4)]) (hF : fX12_toHire_b164 N x4 S = some o) : W p l e (rmd 7) s m args below meth c H locs 0 0 (gE below args s D (mtys cI cS) (mcell g cI cS sa) mord g (some (.int o.1)) o.2) (F0 m 164 ls []) := by
  unfold fX12_toHire_b164 at hF
  refine lv_iload C.1.1 C.1.2.1 dX12_toHire_164 (lv_at hl 0 rfl) ?_
  refine lv_goto (tgt := 171) C.1.1 C.1.2.1 dX12_toHire_166 (by decide) ?_
  exact bX12_toHire_171 C O X (lv_sub hl [] rfl) hF
noncomputable def fX12_toHire_b158 (N : Nat) (x4 : Int32) (x5 : Int32) (S : gS) : Option (Int32 × gS) := if x4 = ((-1)) then fX12_toHire_b164 N x4 S else fX12_toHire_b169 N x5 S
theorem bX12_toHire_158 {N : Nat} {x4 : Int32} {x5 : Int32} {S : gS} {H : Heap} {locs : List Loc} {ls : Array Slot} {o : Int32 × gS} (C : gC p s m args meth c cX12_toHire 9 RX12 ((some .int)) D (mtys cI cS) mord g Am) (O : gO (mcell g cI cS sa) mord g) (X : gX D (mcell g cI cS sa) mord g S s H locs) (hl : lv_has ls 9 [(4, .int x4), (5, .int x5)]) (hF : fX12_toHire_b158 N x4 x5 S = some o) : W p l e (rmd 7) s m args below meth c H locs 0 0 (gE below args s D (mtys cI cS) (mcell g cI cS sa) mord g (some (.int o.1)) o.2) (F0 m 158 ls []) := by
  unfold fX12_toHire_b158 at hF
  refine lv_iload C.1.1 C.1.2.1 dX12_toHire_158 (lv_at hl 0 rfl) ?_
  refine lv_iconst (v := (-1)) C.1.1 C.1.2.1 dX12_toHire_160 (by decide) ?_
  refine lv_icmp_ne (tgt := 169) C.1.1 C.1.2.1 dX12_toHire_161 (by decide) (fun h_z => ?_) (fun h_z => ?_)
  · rw [if_neg h_z] at hF
    exact bX12_toHire_169 C O X (lv_sub hl [1] rfl) hF
  · rw [if_pos h_z] at hF
    exact bX12_toHire_164 C O X (lv_sub hl [0] rfl) hF
noncomputable def fX12_toHire_b154 (N : Nat) (x3 : Int32) (x4 : Int32) (x5 : Int32) (S : gS) : Option (Int32 × gS) := if x3 = 0 then fX12_toHire_b164 N x4 S else fX12_toHire_b158 N x4 x5 S
theorem bX12_toHire_154 {N : Nat} {x3 : Int32} {x4 : Int32} {x5 : Int32} {S : gS} {H : Heap} {locs : List Loc} {ls : Array Slot} {o : Int32 × gS} (C : gC p s m args meth c cX12_toHire 9 RX12 ((some .int)) D (mtys cI cS) mord g Am) (O : gO (mcell g cI cS sa) mord g) (X : gX D (mcell g cI cS sa) mord g S s H locs) (hl : lv_has ls 9 [(3, .int x3), (4, .int x4), (5, .int x5)]) (hF : fX12_toHire_b154 N x3 x4 x5 S = some o) : W p l e (rmd 7) s m args below meth c H locs 0 0 (gE below args s D (mtys cI cS) (mcell g cI cS sa) mord g (some (.int o.1)) o.2) (F0 m 154 ls []) := by
  unfold fX12_toHire_b154 at hF
  refine lv_iload_n C.1.1 C.1.2.1 dX12_toHire_154 rfl (lv_at hl 0 rfl) ?_
  refine lv_if_eq (tgt := 164) C.1.1 C.1.2.1 dX12_toHire_155 (by decide) (fun h_z => ?_) (fun h_z => ?_)
  · rw [if_pos h_z] at hF
    exact bX12_toHire_164 C O X (lv_sub hl [1] rfl) hF
  · rw [if_neg h_z] at hF
    exact bX12_toHire_158 C O X (lv_sub hl [1, 2] rfl) hF
noncomputable def fX12_toHire_b148 (N : Nat) (r66 : Int32 → Int32 → Int32 → Int32 → Int32 → Int32 → gS → Option (Int32 × gS)) (x1 : Int32) (x2 : Int32) (x3 : Int32) (x4 : Int32) (x5 : Int32) (x6 : Int32) (S : gS) : Option (Int32 × gS) := r66 x1 x2 x3 x4 x5 ((x6 + 1 : Int32)) S
theorem bX12_toHire_148 {N : Nat} {r66 : Int32 → Int32 → Int32 → Int32 → Int32 → Int32 → gS → Option (Int32 × gS)} {x1 : Int32} {x2 : Int32} {x3 : Int32} {x4 : Int32} {x5 : Int32} {x6 : Int32} {S : gS} {H : Heap} {locs : List Loc} {ls : Array Slot} {o : Int32 × gS} (C : gC p s m args meth c cX12_toHire 9 RX12 ((some .int)) D (mtys cI cS) mord g Am) (O : gO (mcell g cI cS sa) mord g) (K66 : ∀ (x1 : Int32) (x2 : Int32) (x3 : Int32) (x4 : Int32) (x5 : Int32) (x6 : Int32) (S : gS) (H : Heap) (locs : List Loc) (ls : Array Slot), gX D (mcell g cI cS sa) mord g S s H locs → lv_has ls 9 [(0, .ref (g 99)), (1, .int x1), (2, .int x2), (3, .int x3), (4, .int x4), (5, .int x5), (6, .int x6)] → r66 x1 x2 x3 x4 x5 x6 S = some o → W p l e (rmd 7) s m args below meth c H locs 0 0 (gE below args s D (mtys cI cS) (mcell g cI cS sa) mord g (some (.int o.1)) o.2) (F0 m 66 ls [])) (X : gX D (mcell g cI cS sa) mord g S s H locs) (hl : lv_has ls 9 [(0, .ref (g 99)), (1, .int x1), (2, .int x2), (3, .int x3), (4, .int x4), (5, .int x5), (6, .int x6)]) (hF : fX12_toHire_b148 N r66 x1 x2 x3 x4 x5 x6 S = some o) : W p l e (rmd 7) s m args below meth c H locs 0 0 (gE below args s D (mtys cI cS) (mcell g cI cS sa) mord g (some (.int o.1)) o.2) (F0 m 148 ls []) := by
  unfold fX12_toHire_b148 at hF
  refine lv_iinc (v := (x6 + 1 : Int32)) (lv' := [(6, .int ((x6 + 1 : Int32))), (0, .ref (g 99)), (1, .int x1), (2, .int x2), (3, .int x3), (4, .int x4), (5, .int x5)]) C.1.1 C.1.2.1 dX12_toHire_148 hl (k := 6) rfl rfl (by decide) rfl (fun ls hl => ?_)
  refine lv_goto (tgt := 66) C.1.1 C.1.2.1 dX12_toHire_151 (by decide) ?_
  exact K66 _ _ _ _ _ _ _ _ _ _ X (lv_sub hl [1, 2, 3, 4, 5, 6, 0] rfl) hF
noncomputable def fX12_toHire_b140 (N : Nat) (r66 : Int32 → Int32 → Int32 → Int32 → Int32 → Int32 → gS → Option (Int32 × gS)) (x1 : Int32) (x2 : Int32) (x3 : Int32) (x6 : Int32) (x8 : Int32) (S : gS) : Option (Int32 × gS) := fX12_toHire_b148 N r66 x1 x2 x3 x6 x8 x6 S
theorem bX12_toHire_140 {N : Nat} {r66 : Int32 → Int32 → Int32 → Int32 → Int32 → Int32 → gS → Option (Int32 × gS)} {x1 : Int32} {x2 : Int32} {x3 : Int32} {x6 : Int32} {x8 : Int32} {S : gS} {H : Heap} {locs : List Loc} {ls : Array Slot} {o : Int32 × gS} (C : gC p s m args meth c cX12_toHire 9 RX12 ((some .int)) D (mtys cI cS) mord g Am) (O : gO (mcell g cI cS sa) mord g) (K66 : ∀ (x1 : Int32) (x2 : Int32) (x3 : Int32) (x4 : Int32) (x5 : Int32) (x6 : Int32) (S : gS) (H : Heap) (locs : List Loc) (ls : Array Slot), gX D (mcell g cI cS sa) mord g S s H locs → lv_has ls 9 [(0, .ref (g 99)), (1, .int x1), (2, .int x2), (3, .int x3), (4, .int x4), (5, .int x5), (6, .int x6)] → r66 x1 x2 x3 x4 x5 x6 S = some o → W p l e (rmd 7) s m args below meth c H locs 0 0 (gE below args s D (mtys cI cS) (mcell g cI cS sa) mord g (some (.int o.1)) o.2) (F0 m 66 ls [])) (X : gX D (mcell g cI cS sa) mord g S s H locs) (hl : lv_has ls 9 [(0, .ref (g 99)), (1, .int x1), (2, .int x2), (3, .int x3), (6, .int x6), (8, .int x8)]) (hF : fX12_toHire_b140 N r66 x1 x2 x3 x6 x8 S = some o) : W p l e (rmd 7) s m args below meth c H locs 0 0 (gE below args s D (mtys cI cS) (mcell g cI cS sa) mord g (some (.int o.1)) o.2) (F0 m 140 ls []) := by
  unfold fX12_toHire_b140 at hF
  refine lv_iload C.1.1 C.1.2.1 dX12_toHire_140 (lv_at hl 4 rfl) ?_
  refine lv_istore (lv' := [(4, .int x6), (0, .ref (g 99)), (1, .int x1), (2, .int x2), (3, .int x3), (6, .int x6), (8, .int x8)]) C.1.1 C.1.2.1 dX12_toHire_142 hl (by decide) rfl (fun ls hl => ?_)
  refine lv_iload C.1.1 C.1.2.1 dX12_toHire_144 (lv_at hl 6 rfl) ?_
  refine lv_istore (lv' := [(5, .int x8), (4, .int x6), (0, .ref (g 99)), (1, .int x1), (2, .int x2), (3, .int x3), (6, .int x6), (8, .int x8)]) C.1.1 C.1.2.1 dX12_toHire_146 hl (by decide) rfl (fun ls hl => ?_)
  exact bX12_toHire_148 C O K66 X (lv_sub hl [2, 3, 4, 5, 1, 0, 6] rfl) hF
noncomputable def fX12_toHire_b137 (N : Nat) (r66 : Int32 → Int32 → Int32 → Int32 → Int32 → Int32 → gS → Option (Int32 × gS)) (x1 : Int32) (x2 : Int32) (x3 : Int32) (x4 : Int32) (x5 : Int32) (x6 : Int32) (S : gS) : Option (Int32 × gS) := fX12_toHire_b148 N r66 x1 x2 x3 x4 x5 x6 S
theorem bX12_toHire_137 {N : Nat} {r66 : Int32 → Int32 → Int32 → Int32 → Int32 → Int32 → gS → Option (Int32 × gS)} {x1 : Int32} {x2 : Int32} {x3 : Int32} {x4 : Int32} {x5 : Int32} {x6 : Int32} {S : gS} {H : Heap} {locs : List Loc} {ls : Array Slot} {o : Int32 × gS} (C : gC p s m args meth c cX12_toHire 9 RX12 ((some .int)) D (mtys cI cS) mord g Am) (O : gO (mcell g cI cS sa) mord g) (K66 : ∀ (x1 : Int32) (x2 : Int32) (x3 : Int32) (x4 : Int32) (x5 : Int32) (x6 : Int32) (S : gS) (H : Heap) (locs : List Loc) (ls : Array Slot), gX D (mcell g cI cS sa) mord g S s H locs → lv_has ls 9 [(0, .ref (g 99)), (1, .int x1), (2, .int x2), (3, .int x3), (4, .int x4), (5, .int x5), (6, .int x6)] → r66 x1 x2 x3 x4 x5 x6 S = some o → W p l e (rmd 7) s m args below meth c H locs 0 0 (gE below args s D (mtys cI cS) (mcell g cI cS sa) mord g (some (.int o.1)) o.2) (F0 m 66 ls [])) (X : gX D (mcell g cI cS sa) mord g S s H locs) (hl : lv_has ls 9 [(0, .ref (g 99)), (1, .int x1), (2, .int x2), (3, .int x3), (4, .int x4), (5, .int x5), (6, .int x6)]) (hF : fX12_toHire_b137 N r66 x1 x2 x3 x4 x5 x6 S = some o) : W p l e (rmd 7) s m args below meth c H locs 0 0 (gE below args s D (mtys cI cS) (mcell g cI cS sa) mord g (some (.int o.1)) o.2) (F0 m 137 ls []) := by
  unfold fX12_toHire_b137 at hF
  refine lv_goto (tgt := 148) C.1.1 C.1.2.1 dX12_toHire_137 (by decide) ?_
  exact bX12_toHire_148 C O K66 X (lv_sub hl [0, 1, 2, 3, 4, 5, 6] rfl) hF
noncomputable def fX12_toHire_b100 (N : Nat) (r66 : Int32 → Int32 → Int32 → Int32 → Int32 → Int32 → gS → Option (Int32 × gS)) (x1 : Int32) (x2 : Int32) (x3 : Int32) (x4 : Int32) (x5 : Int32) (x6 : Int32) (S : gS) : Option (Int32 × gS) := chk (inb x1 (6)) (lt (sU S 35 (Int32.toNatClampNeg x1) x6) fun S1 => (bnd (fX12_goOn N x2 S1) fun q1 => (chk (inb x1 (6)) (bnd (fX12_unpack N 46 0 q1.2) fun q2 => (if (q1.2 32 (Int32.toNatClampNeg x1)) < x5 then fX12_toHire_b140 N r66 x1 x2 x3 x6 (q1.2 32 (Int32.toNatClampNeg x1)) q2.2 else fX12_toHire_b137 N r66 x1 x2 x3 x4 x5 x6 q2.2)))))
theorem bX12_toHire_100 {N : Nat} {r66 : Int32 → Int32 → Int32 → Int32 → Int32 → Int32 → gS → Option (Int32 × gS)} {x1 : Int32} {x2 : Int32} {x3 : Int32} {x4 : Int32} {x5 : Int32} {x6 : Int32} {S : gS} {H : Heap} {locs : List Loc} {ls : Array Slot} {o : Int32 × gS} (C : gC p s m args meth c cX12_toHire 9 RX12 ((some .int)) D (mtys cI cS) mord g Am) (O : gO (mcell g cI cS sa) mord g) (K66 : ∀ (x1 : Int32) (x2 : Int32) (x3 : Int32) (x4 : Int32) (x5 : Int32) (x6 : Int32) (S : gS) (H : Heap) (locs : List Loc) (ls : Array Slot), gX D (mcell g cI cS sa) mord g S s H locs → lv_has ls 9 [(0, .ref (g 99)), (1, .int x1), (2, .int x2), (3, .int x3), (4, .int x4), (5, .int x5), (6, .int x6)] → r66 x1 x2 x3 x4 x5 x6 S = some o → W p l e (rmd 7) s m args below meth c H locs 0 0 (gE below args s D (mtys cI cS) (mcell g cI cS sa) mord g (some (.int o.1)) o.2) (F0 m 66 ls [])) (X : gX D (mcell g cI cS sa) mord g S s H locs) (hl : lv_has ls 9 [(0, .ref (g 99)), (1, .int x1), (2, .int x2), (3, .int x3), (4, .int x4), (5, .int x5), (6, .int x6)]) (hF : fX12_toHire_b100 N r66 x1 x2 x3 x4 x5 x6 S = some o) : W p l e (rmd 7) s m args below meth c H locs 0 0 (gE below args s D (mtys cI cS) (mcell g cI cS sa) mord g (some (.int o.1)) o.2) (F0 m 100 ls []) := by
  unfold fX12_toHire_b100 at hF
  refine lv_aload_n C.1.1 C.1.2.1 dX12_toHire_100 rfl (lv_at hl 0 rfl) ?_
  refine m_g35 C X dX12_toHire_101 ?_
  refine lv_iload_n C.1.1 C.1.2.1 dX12_toHire_104 rfl (lv_at hl 1 rfl) ?_
  refine lv_iload C.1.1 C.1.2.1 dX12_toHire_105 (lv_at hl 6 rfl) ?_
  obtain ⟨h_1, hF⟩ := chk_some hF
  obtain ⟨S1, eS1, hF⟩ := lt_some hF
  refine m_w35 C O X  (inb_vp h_1) rfl eS1 dX12_toHire_107 (fun H locs X => ?_)
  refine lv_aload_n C.1.1 C.1.2.1 dX12_toHire_108 rfl (lv_at hl 0 rfl) ?_
  refine lv_iload_n C.1.1 C.1.2.1 dX12_toHire_109 rfl (lv_at hl 2 rfl) ?_
  obtain ⟨q1, hq1, hF⟩ := bnd_some hF
  refine m_callV C X vX12_goOn rfl (kX12_goOn O C.2.2.2.2.1 N x2  S1 q1 hq1) (Nat.le_of_ble_eq_true rfl) (Nat.le_of_ble_eq_true rfl) (Nat.le_of_ble_eq_true rfl) (Nat.le_of_ble_eq_true rfl) rfl hl.1 rfl (Nat.le_of_ble_eq_true rfl) dX12_toHire_110 (fun H locs X => ?_)
  refine lv_aload_n C.1.1 C.1.2.1 dX12_toHire_113 rfl (lv_at hl 0 rfl) ?_
  refine m_g32 C X dX12_toHire_114 ?_
  refine lv_iload_n C.1.1 C.1.2.1 dX12_toHire_117 rfl (lv_at hl 1 rfl) ?_
  obtain ⟨h_2, hF⟩ := chk_some hF
  refine m_r32 C X  (inb_vp h_2) rfl dX12_toHire_118 ?_
  refine lv_istore (lv' := [(8, .int (q1.2 32 (Int32.toNatClampNeg x1))), (0, .ref (g 99)), (1, .int x1), (2, .int x2), (3, .int x3), (4, .int x4), (5, .int x5), (6, .int x6)]) C.1.1 C.1.2.1 dX12_toHire_119 hl (by decide) rfl (fun ls hl => ?_)
  refine lv_aload_n C.1.1 C.1.2.1 dX12_toHire_121 rfl (lv_at hl 1 rfl) ?_
  refine lv_aload_n C.1.1 C.1.2.1 dX12_toHire_122 rfl (lv_at hl 1 rfl) ?_
  refine m_g46 C X dX12_toHire_123 ?_
  refine lv_iconst (v := 0) C.1.1 C.1.2.1 dX12_toHire_126 (by decide) ?_
  obtain ⟨q2, hq2, hF⟩ := bnd_some hF
  refine m_callV C X vX12_unpack rfl (kX12_unpack O C.2.2.2.2.1 N 46 0 (rfl : mI 46 = true) q1.2 q2 hq2) (Nat.le_of_ble_eq_true rfl) (Nat.le_of_ble_eq_true rfl) (Nat.le_of_ble_eq_true rfl) (Nat.le_of_ble_eq_true rfl) rfl hl.1 rfl (Nat.le_of_ble_eq_true rfl) dX12_toHire_127 (fun H locs X => ?_)
  refine lv_iload C.1.1 C.1.2.1 dX12_toHire_130 (lv_at hl 0 rfl) ?_
  refine lv_iload C.1.1 C.1.2.1 dX12_toHire_132 (lv_at hl 6 rfl) ?_
  refine lv_icmp_lt (tgt := 140) C.1.1 C.1.2.1 dX12_toHire_134 (by decide) (fun h_z => ?_) (fun h_z => ?_)
  · rw [if_pos h_z] at hF
    exact bX12_toHire_140 C O K66 X (lv_sub hl [1, 2, 3, 4, 7, 0] rfl) hF
  · rw [if_neg h_z] at hF
    exact bX12_toHire_137 C O K66 X (lv_sub hl [1, 2, 3, 4, 5, 6, 7] rfl) hF
noncomputable def fX12_toHire_b97 (N : Nat) (r66 : Int32 → Int32 → Int32 → Int32 → Int32 → Int32 → gS → Option (Int32 × gS)) (x1 : Int32) (x2 : Int32) (x3 : Int32) (x4 : Int32) (x5 : Int32) (x6 : Int32) (S : gS) : Option (Int32 × gS) := fX12_toHire_b148 N r66 x1 x2 x3 x4 x5 x6 S
theorem bX12_toHire_97 {N : Nat} {r66 : Int32 → Int32 → Int32 → Int32 → Int32 → Int32 → gS → Option (Int32 × gS)} {x1 : Int32} {x2 : Int32} {x3 : Int32} {x4 : Int32} {x5 : Int32} {x6 : Int32} {S : gS} {H : Heap} {locs : List Loc} {ls : Array Slot} {o : Int32 × gS} (C : gC p s m args meth c cX12_toHire 9 RX12 ((some .int)) D (mtys cI cS) mord g Am) (O : gO (mcell g cI cS sa) mord g) (K66 : ∀ (x1 : Int32) (x2 : Int32) (x3 : Int32) (x4 : Int32) (x5 : Int32) (x6 : Int32) (S : gS) (H : Heap) (locs : List Loc) (ls : Array Slot), gX D (mcell g cI cS sa) mord g S s H locs → lv_has ls 9 [(0, .ref (g 99)), (1, .int x1), (2, .int x2), (3, .int x3), (4, .int x4), (5, .int x5), (6, .int x6)] → r66 x1 x2 x3 x4 x5 x6 S = some o → W p l e (rmd 7) s m args below meth c H locs 0 0 (gE below args s D (mtys cI cS) (mcell g cI cS sa) mord g (some (.int o.1)) o.2) (F0 m 66 ls [])) (X : gX D (mcell g cI cS sa) mord g S s H locs) (hl : lv_has ls 9 [(0, .ref (g 99)), (1, .int x1), (2, .int x2), (3, .int x3), (4, .int x4), (5, .int x5), (6, .int x6)]) (hF : fX12_toHire_b97 N r66 x1 x2 x3 x4 x5 x6 S = some o) : W p l e (rmd 7) s m args below meth c H locs 0 0 (gE below args s D (mtys cI cS) (mcell g cI cS sa) mord g (some (.int o.1)) o.2) (F0 m 97 ls []) := by
  unfold fX12_toHire_b97 at hF
  refine lv_goto (tgt := 148) C.1.1 C.1.2.1 dX12_toHire_97 (by decide) ?_
  exact bX12_toHire_148 C O K66 X (lv_sub hl [0, 1, 2, 3, 4, 5, 6] rfl) hF
noncomputable def fX12_toHire_b91 (N : Nat) (r66 : Int32 → Int32 → Int32 → Int32 → Int32 → Int32 → gS → Option (Int32 × gS)) (x1 : Int32) (x2 : Int32) (x3 : Int32) (x4 : Int32) (x5 : Int32) (x6 : Int32) (x7 : Int32) (S : gS) : Option (Int32 × gS) := if x7 = x1 then fX12_toHire_b100 N r66 x1 x2 x3 x4 x5 x6 S else fX12_toHire_b97 N r66 x1 x2 x3 x4 x5 x6 S
theorem bX12_toHire_91 {N : Nat} {r66 : Int32 → Int32 → Int32 → Int32 → Int32 → Int32 → gS → Option (Int32 × gS)} {x1 : Int32} {x2 : Int32} {x3 : Int32} {x4 : Int32} {x5 : Int32} {x6 : Int32} {x7 : Int32} {S : gS} {H : Heap} {locs : List Loc} {ls : Array Slot} {o : Int32 × gS} (C : gC p s m args meth c cX12_toHire 9 RX12 ((some .int)) D (mtys cI cS) mord g Am) (O : gO (mcell g cI cS sa) mord g) (K66 : ∀ (x1 : Int32) (x2 : Int32) (x3 : Int32) (x4 : Int32) (x5 : Int32) (x6 : Int32) (S : gS) (H : Heap) (locs : List Loc) (ls : Array Slot), gX D (mcell g cI cS sa) mord g S s H locs → lv_has ls 9 [(0, .ref (g 99)), (1, .int x1), (2, .int x2), (3, .int x3), (4, .int x4), (5, .int x5), (6, .int x6)] → r66 x1 x2 x3 x4 x5 x6 S = some o → W p l e (rmd 7) s m args below meth c H locs 0 0 (gE below args s D (mtys cI cS) (mcell g cI cS sa) mord g (some (.int o.1)) o.2) (F0 m 66 ls [])) (X : gX D (mcell g cI cS sa) mord g S s H locs) (hl : lv_has ls 9 [(0, .ref (g 99)), (1, .int x1), (2, .int x2), (3, .int x3), (4, .int x4), (5, .int x5), (6, .int x6), (7, .int x7)]) (hF : fX12_toHire_b91 N r66 x1 x2 x3 x4 x5 x6 x7 S = some o) : W p l e (rmd 7) s m args below meth c H locs 0 0 (gE below args s D (mtys cI cS) (mcell g cI cS sa) mord g (some (.int o.1)) o.2) (F0 m 91 ls []) := by
  unfold fX12_toHire_b91 at hF
  refine lv_iload C.1.1 C.1.2.1 dX12_toHire_91 (lv_at hl 7 rfl) ?_
  refine lv_iload_n C.1.1 C.1.2.1 dX12_toHire_93 rfl (lv_at hl 1 rfl) ?_
  refine lv_icmp_eq (tgt := 100) C.1.1 C.1.2.1 dX12_toHire_94 (by decide) (fun h_z => ?_) (fun h_z => ?_)
  · rw [if_pos h_z] at hF
    exact bX12_toHire_100 C O K66 X (lv_sub hl [0, 1, 2, 3, 4, 5, 6] rfl) hF
  · rw [if_neg h_z] at hF
    exact bX12_toHire_97 C O K66 X (lv_sub hl [0, 1, 2, 3, 4, 5, 6] rfl) hF
noncomputable def fX12_toHire_b77 (N : Nat) (r66 : Int32 → Int32 → Int32 → Int32 → Int32 → Int32 → gS → Option (Int32 × gS)) (x1 : Int32) (x2 : Int32) (x3 : Int32) (x4 : Int32) (x5 : Int32) (x6 : Int32) (S : gS) : Option (Int32 × gS) := bnd (fX12_hirerOf N x6 S) fun q1 => (if q1.1 = ((-1)) then fX12_toHire_b100 N r66 x1 x2 x3 x4 x5 x6 q1.2 else fX12_toHire_b91 N r66 x1 x2 x3 x4 x5 x6 q1.1 q1.2)
theorem bX12_toHire_77 {N : Nat} {r66 : Int32 → Int32 → Int32 → Int32 → Int32 → Int32 → gS → Option (Int32 × gS)} {x1 : Int32} {x2 : Int32} {x3 : Int32} {x4 : Int32} {x5 : Int32} {x6 : Int32} {S : gS} {H : Heap} {locs : List Loc} {ls : Array Slot} {o : Int32 × gS} (C : gC p s m args meth c cX12_toHire 9 RX12 ((some .int)) D (mtys cI cS) mord g Am) (O : gO (mcell g cI cS sa) mord g) (K66 : ∀ (x1 : Int32) (x2 : Int32) (x3 : Int32) (x4 : Int32) (x5 : Int32) (x6 : Int32) (S : gS) (H : Heap) (locs : List Loc) (ls : Array Slot), gX D (mcell g cI cS sa) mord g S s H locs → lv_has ls 9 [(0, .ref (g 99)), (1, .int x1), (2, .int x2), (3, .int x3), (4, .int x4), (5, .int x5), (6, .int x6)] → r66 x1 x2 x3 x4 x5 x6 S = some o → W p l e (rmd 7) s m args below meth c H locs 0 0 (gE below args s D (mtys cI cS) (mcell g cI cS sa) mord g (some (.int o.1)) o.2) (F0 m 66 ls [])) (X : gX D (mcell g cI cS sa) mord g S s H locs) (hl : lv_has ls 9 [(0, .ref (g 99)), (1, .int x1), (2, .int x2), (3, .int x3), (4, .int x4), (5, .int x5), (6, .int x6)]) (hF : fX12_toHire_b77 N r66 x1 x2 x3 x4 x5 x6 S = some o) : W p l e (rmd 7) s m args below meth c H locs 0 0 (gE below args s D (mtys cI cS) (mcell g cI cS sa) mord g (some (.int o.1)) o.2) (F0 m 77 ls []) := by
  unfold fX12_toHire_b77 at hF
  refine lv_aload_n C.1.1 C.1.2.1 dX12_toHire_77 rfl (lv_at hl 0 rfl) ?_
  refine lv_iload C.1.1 C.1.2.1 dX12_toHire_78 (lv_at hl 6 rfl) ?_
  obtain ⟨q1, hq1, hF⟩ := bnd_some hF
  refine m_callVi C X vX12_hirerOf rfl (kX12_hirerOf O C.2.2.2.2.1 N x6  S q1 hq1) (Nat.le_of_ble_eq_true rfl) (Nat.le_of_ble_eq_true rfl) (Nat.le_of_ble_eq_true rfl) (Nat.le_of_ble_eq_true rfl) rfl hl.1 rfl (Nat.le_of_ble_eq_true rfl) dX12_toHire_80 (fun H locs X => ?_)
  refine lv_istore (lv' := [(7, .int q1.1), (0, .ref (g 99)), (1, .int x1), (2, .int x2), (3, .int x3), (4, .int x4), (5, .int x5), (6, .int x6)]) C.1.1 C.1.2.1 dX12_toHire_83 hl (by decide) rfl (fun ls hl => ?_)
  refine lv_iload C.1.1 C.1.2.1 dX12_toHire_85 (lv_at hl 0 rfl) ?_
  refine lv_iconst (v := (-1)) C.1.1 C.1.2.1 dX12_toHire_87 (by decide) ?_
  refine lv_icmp_eq (tgt := 100) C.1.1 C.1.2.1 dX12_toHire_88 (by decide) (fun h_z => ?_) (fun h_z => ?_)
  · rw [if_pos h_z] at hF
    exact bX12_toHire_100 C O K66 X (lv_sub hl [1, 2, 3, 4, 5, 6, 7] rfl) hF
  · rw [if_neg h_z] at hF
    exact bX12_toHire_91 C O K66 X (lv_sub hl [1, 2, 3, 4, 5, 6, 7, 0] rfl) hF
noncomputable def fX12_toHire_b66 (N : Nat) (r66 : Int32 → Int32 → Int32 → Int32 → Int32 → Int32 → gS → Option (Int32 × gS)) (x1 : Int32) (x2 : Int32) (x3 : Int32) (x4 : Int32) (x5 : Int32) (x6 : Int32) (S : gS) : Option (Int32 × gS) := if (S 5 0) ≤ x6 then fX12_toHire_b154 N x3 x4 x5 S else fX12_toHire_b77 N r66 x1 x2 x3 x4 x5 x6 S
theorem bX12_toHire_66 {N : Nat} {r66 : Int32 → Int32 → Int32 → Int32 → Int32 → Int32 → gS → Option (Int32 × gS)} {x1 : Int32} {x2 : Int32} {x3 : Int32} {x4 : Int32} {x5 : Int32} {x6 : Int32} {S : gS} {H : Heap} {locs : List Loc} {ls : Array Slot} {o : Int32 × gS} (C : gC p s m args meth c cX12_toHire 9 RX12 ((some .int)) D (mtys cI cS) mord g Am) (O : gO (mcell g cI cS sa) mord g) (K66 : ∀ (x1 : Int32) (x2 : Int32) (x3 : Int32) (x4 : Int32) (x5 : Int32) (x6 : Int32) (S : gS) (H : Heap) (locs : List Loc) (ls : Array Slot), gX D (mcell g cI cS sa) mord g S s H locs → lv_has ls 9 [(0, .ref (g 99)), (1, .int x1), (2, .int x2), (3, .int x3), (4, .int x4), (5, .int x5), (6, .int x6)] → r66 x1 x2 x3 x4 x5 x6 S = some o → W p l e (rmd 7) s m args below meth c H locs 0 0 (gE below args s D (mtys cI cS) (mcell g cI cS sa) mord g (some (.int o.1)) o.2) (F0 m 66 ls [])) (X : gX D (mcell g cI cS sa) mord g S s H locs) (hl : lv_has ls 9 [(0, .ref (g 99)), (1, .int x1), (2, .int x2), (3, .int x3), (4, .int x4), (5, .int x5), (6, .int x6)]) (hF : fX12_toHire_b66 N r66 x1 x2 x3 x4 x5 x6 S = some o) : W p l e (rmd 7) s m args below meth c H locs 0 0 (gE below args s D (mtys cI cS) (mcell g cI cS sa) mord g (some (.int o.1)) o.2) (F0 m 66 ls []) := by
  unfold fX12_toHire_b66 at hF
  refine lv_iload C.1.1 C.1.2.1 dX12_toHire_66 (lv_at hl 6 rfl) ?_
  refine lv_aload_n C.1.1 C.1.2.1 dX12_toHire_68 rfl (lv_at hl 0 rfl) ?_
  refine m_g5 C X dX12_toHire_69 ?_
  refine lv_iconst (v := 0) C.1.1 C.1.2.1 dX12_toHire_72 (by decide) ?_
  refine m_r5 C X (j := 0) (inb_vp (by decide)) (by decide) dX12_toHire_73 ?_
  refine lv_icmp_ge (tgt := 154) C.1.1 C.1.2.1 dX12_toHire_74 (by decide) (fun h_z => ?_) (fun h_z => ?_)
  · rw [if_pos h_z] at hF
    exact bX12_toHire_154 C O X (lv_sub hl [3, 4, 5] rfl) hF
  · rw [if_neg h_z] at hF
    exact bX12_toHire_77 C O K66 X (lv_sub hl [0, 1, 2, 3, 4, 5, 6] rfl) hF
noncomputable def fX12_toHire_h66 (N : Nat) : Nat → Int32 → Int32 → Int32 → Int32 → Int32 → Int32 → gS → Option (Int32 × gS)
  | 0, _, _, _, _, _, _, _ => none
  | n + 1, x1, x2, x3, x4, x5, x6, S => fX12_toHire_b66 N (fX12_toHire_h66 N n) x1 x2 x3 x4 x5 x6 S
theorem hX12_toHire_66 {N : Nat} {o : Int32 × gS} (C : gC p s m args meth c cX12_toHire 9 RX12 ((some .int)) D (mtys cI cS) mord g Am) (O : gO (mcell g cI cS sa) mord g) : ∀ (n : Nat) (x1 : Int32) (x2 : Int32) (x3 : Int32) (x4 : Int32) (x5 : Int32) (x6 : Int32) (S : gS) (H : Heap) (locs : List Loc) (ls : Array Slot), gX D (mcell g cI cS sa) mord g S s H locs → lv_has ls 9 [(0, .ref (g 99)), (1, .int x1), (2, .int x2), (3, .int x3), (4, .int x4), (5, .int x5), (6, .int x6)] → fX12_toHire_h66 N n x1 x2 x3 x4 x5 x6 S = some o → W p l e (rmd 7) s m args below meth c H locs 0 0 (gE below args s D (mtys cI cS) (mcell g cI cS sa) mord g (some (.int o.1)) o.2) (F0 m 66 ls []) := by
  intro n
  induction n with
  | zero =>
    intro x1 x2 x3 x4 x5 x6 S H locs ls X hl hF
    exact absurd (show (none : Option (Int32 × gS)) = some o from hF) (by simp)
  | succ n ih =>
    intro x1 x2 x3 x4 x5 x6 S H locs ls X hl hF
    have hF : fX12_toHire_b66 N (fX12_toHire_h66 N n) x1 x2 x3 x4 x5 x6 S = some o := hF
    exact bX12_toHire_66 C O ih X hl hF
noncomputable def fX12_toHire_b46 (N : Nat) (x1 : Int32) (x2 : Int32) (x3 : Int32) (S : gS) : Option (Int32 × gS) := bnd (fX12_pack N 46 0 S) fun q1 => (fX12_toHire_h66 N N x1 x2 x3 ((-1)) 1000 0 q1.2)
theorem bX12_toHire_46 {N : Nat} {x1 : Int32} {x2 : Int32} {x3 : Int32} {S : gS} {H : Heap} {locs : List Loc} {ls : Array Slot} {o : Int32 × gS} (C : gC p s m args meth c cX12_toHire 9 RX12 ((some .int)) D (mtys cI cS) mord g Am) (O : gO (mcell g cI cS sa) mord g) (X : gX D (mcell g cI cS sa) mord g S s H locs) (hl : lv_has ls 9 [(0, .ref (g 99)), (1, .int x1), (2, .int x2), (3, .int x3)]) (hF : fX12_toHire_b46 N x1 x2 x3 S = some o) : W p l e (rmd 7) s m args below meth c H locs 0 0 (gE below args s D (mtys cI cS) (mcell g cI cS sa) mord g (some (.int o.1)) o.2) (F0 m 46 ls []) := by
  unfold fX12_toHire_b46 at hF
  refine lv_aload_n C.1.1 C.1.2.1 dX12_toHire_46 rfl (lv_at hl 0 rfl) ?_
  refine lv_aload_n C.1.1 C.1.2.1 dX12_toHire_47 rfl (lv_at hl 0 rfl) ?_
  refine m_g46 C X dX12_toHire_48 ?_
  refine lv_iconst (v := 0) C.1.1 C.1.2.1 dX12_toHire_51 (by decide) ?_
  obtain ⟨q1, hq1, hF⟩ := bnd_some hF
  refine m_callV C X vX12_pack rfl (kX12_pack O C.2.2.2.2.1 N 46 0 (rfl : mI 46 = true) S q1 hq1) (Nat.le_of_ble_eq_true rfl) (Nat.le_of_ble_eq_true rfl) (Nat.le_of_ble_eq_true rfl) (Nat.le_of_ble_eq_true rfl) rfl hl.1 rfl (Nat.le_of_ble_eq_true rfl) dX12_toHire_52 (fun H locs X => ?_)
  refine lv_iconst (v := (-1)) C.1.1 C.1.2.1 dX12_toHire_55 (by decide) ?_
  refine lv_istore (lv' := [(4, .int ((-1))), (0, .ref (g 99)), (1, .int x1), (2, .int x2), (3, .int x3)]) C.1.1 C.1.2.1 dX12_toHire_56 hl (by decide) rfl (fun ls hl => ?_)
  refine lv_sipush (v := 1000) C.1.1 C.1.2.1 dX12_toHire_58 (by decide) ?_
  refine lv_istore (lv' := [(5, .int 1000), (4, .int ((-1))), (0, .ref (g 99)), (1, .int x1), (2, .int x2), (3, .int x3)]) C.1.1 C.1.2.1 dX12_toHire_61 hl (by decide) rfl (fun ls hl => ?_)
  refine lv_iconst (v := 0) C.1.1 C.1.2.1 dX12_toHire_63 (by decide) ?_
  refine lv_istore (lv' := [(6, .int 0), (5, .int 1000), (4, .int ((-1))), (0, .ref (g 99)), (1, .int x1), (2, .int x2), (3, .int x3)]) C.1.1 C.1.2.1 dX12_toHire_64 hl (by decide) rfl (fun ls hl => ?_)
  exact hX12_toHire_66 C O N _ _ _ _ _ _ _ _ _ _ X (lv_sub hl [3, 4, 5, 6, 2, 1, 0] rfl) hF
noncomputable def fX12_toHire_b40 (N : Nat) (S : gS) : Option (Int32 × gS) := bnd (fX12_fail N 2 S) fun q1 => (some (q1.1, q1.2))
theorem bX12_toHire_40 {N : Nat} {S : gS} {H : Heap} {locs : List Loc} {ls : Array Slot} {o : Int32 × gS} (C : gC p s m args meth c cX12_toHire 9 RX12 ((some .int)) D (mtys cI cS) mord g Am) (O : gO (mcell g cI cS sa) mord g) (X : gX D (mcell g cI cS sa) mord g S s H locs) (hl : lv_has ls 9 [(0, .ref (g 99))]) (hF : fX12_toHire_b40 N S = some o) : W p l e (rmd 7) s m args below meth c H locs 0 0 (gE below args s D (mtys cI cS) (mcell g cI cS sa) mord g (some (.int o.1)) o.2) (F0 m 40 ls []) := by
  unfold fX12_toHire_b40 at hF
  refine lv_aload_n C.1.1 C.1.2.1 dX12_toHire_40 rfl (lv_at hl 0 rfl) ?_
  refine lv_iconst (v := 2) C.1.1 C.1.2.1 dX12_toHire_41 (by decide) ?_
  obtain ⟨q1, hq1, hF⟩ := bnd_some hF
  refine m_callVi C X vX12_fail rfl (kX12_fail O C.2.2.2.2.1 N 2  S q1 hq1) (Nat.le_of_ble_eq_true rfl) (Nat.le_of_ble_eq_true rfl) (Nat.le_of_ble_eq_true rfl) (Nat.le_of_ble_eq_true rfl) rfl hl.1 rfl (Nat.le_of_ble_eq_true rfl) dX12_toHire_42 (fun H locs X => ?_)
  cases hF
  exact g_iret C X dX12_toHire_45
noncomputable def fX12_toHire_b28 (N : Nat) (x1 : Int32) (x2 : Int32) (x3 : Int32) (S : gS) : Option (Int32 × gS) := bnd (fX12_isIn N (Int32.toInt64 x2) 1 60 S) fun q1 => (if q1.1 = 0 then fX12_toHire_b40 N q1.2 else fX12_toHire_b46 N x1 x2 x3 q1.2)
theorem bX12_toHire_28 {N : Nat} {x1 : Int32} {x2 : Int32} {x3 : Int32} {S : gS} {H : Heap} {locs : List Loc} {ls : Array Slot} {o : Int32 × gS} (C : gC p s m args meth c cX12_toHire 9 RX12 ((some .int)) D (mtys cI cS) mord g Am) (O : gO (mcell g cI cS sa) mord g) (X : gX D (mcell g cI cS sa) mord g S s H locs) (hl : lv_has ls 9 [(0, .ref (g 99)), (1, .int x1), (2, .int x2), (3, .int x3)]) (hF : fX12_toHire_b28 N x1 x2 x3 S = some o) : W p l e (rmd 7) s m args below meth c H locs 0 0 (gE below args s D (mtys cI cS) (mcell g cI cS sa) mord g (some (.int o.1)) o.2) (F0 m 28 ls []) := by
  unfold fX12_toHire_b28 at hF
  refine lv_iload_n C.1.1 C.1.2.1 dX12_toHire_28 rfl (lv_at hl 2 rfl) ?_
  refine lv_i2l (v := Int32.toInt64 x2) C.1.1 C.1.2.1 dX12_toHire_29 rfl ?_
  refine lv_lconst (v := 1) C.1.1 C.1.2.1 dX12_toHire_30 (by decide) ?_
  refine lv_ldc2 C.1.1 C.1.2.1 C.1.2.2.2.1 (C.1.2.2.2.2 _ mKL432) dX12_toHire_31 ?_
  obtain ⟨q1, hq1, hF⟩ := bnd_some hF
  refine g_callSi C X vX12_isIn (kX12_isIn O C.2.2.2.2.1 N (Int32.toInt64 x2) 1 60  S q1 hq1) (Nat.le_of_ble_eq_true rfl) (Nat.le_of_ble_eq_true rfl) (Nat.le_of_ble_eq_true rfl) (Nat.le_of_ble_eq_true rfl) rfl hl.1 rfl (Nat.le_of_ble_eq_true rfl) dX12_toHire_34 (fun H locs X => ?_)
  refine lv_if_ne (tgt := 46) C.1.1 C.1.2.1 dX12_toHire_37 (by decide) (fun h_z => ?_) (fun h_z => ?_)
  · rw [if_neg h_z] at hF
    exact bX12_toHire_46 C O X (lv_sub hl [0, 1, 2, 3] rfl) hF
  · rw [if_pos h_z] at hF
    exact bX12_toHire_40 C O X (lv_sub hl [0] rfl) hF
noncomputable def fX12_toHire_b22 (N : Nat) (S : gS) : Option (Int32 × gS) := bnd (fX12_fail N 1 S) fun q1 => (some (q1.1, q1.2))
theorem bX12_toHire_22 {N : Nat} {S : gS} {H : Heap} {locs : List Loc} {ls : Array Slot} {o : Int32 × gS} (C : gC p s m args meth c cX12_toHire 9 RX12 ((some .int)) D (mtys cI cS) mord g Am) (O : gO (mcell g cI cS sa) mord g) (X : gX D (mcell g cI cS sa) mord g S s H locs) (hl : lv_has ls 9 [(0, .ref (g 99))]) (hF : fX12_toHire_b22 N S = some o) : W p l e (rmd 7) s m args below meth c H locs 0 0 (gE below args s D (mtys cI cS) (mcell g cI cS sa) mord g (some (.int o.1)) o.2) (F0 m 22 ls []) := by
  unfold fX12_toHire_b22 at hF
  refine lv_aload_n C.1.1 C.1.2.1 dX12_toHire_22 rfl (lv_at hl 0 rfl) ?_
  refine lv_iconst (v := 1) C.1.1 C.1.2.1 dX12_toHire_23 (by decide) ?_
  obtain ⟨q1, hq1, hF⟩ := bnd_some hF
  refine m_callVi C X vX12_fail rfl (kX12_fail O C.2.2.2.2.1 N 1  S q1 hq1) (Nat.le_of_ble_eq_true rfl) (Nat.le_of_ble_eq_true rfl) (Nat.le_of_ble_eq_true rfl) (Nat.le_of_ble_eq_true rfl) rfl hl.1 rfl (Nat.le_of_ble_eq_true rfl) dX12_toHire_24 (fun H locs X => ?_)
  cases hF
  exact g_iret C X dX12_toHire_27
noncomputable def fX12_toHire_b17 (N : Nat) (x1 : Int32) (x2 : Int32) (x3 : Int32) (S : gS) : Option (Int32 × gS) := if x3 ≤ 1 then fX12_toHire_b28 N x1 x2 x3 S else fX12_toHire_b22 N S
theorem bX12_toHire_17 {N : Nat} {x1 : Int32} {x2 : Int32} {x3 : Int32} {S : gS} {H : Heap} {locs : List Loc} {ls : Array Slot} {o : Int32 × gS} (C : gC p s m args meth c cX12_toHire 9 RX12 ((some .int)) D (mtys cI cS) mord g Am) (O : gO (mcell g cI cS sa) mord g) (X : gX D (mcell g cI cS sa) mord g S s H locs) (hl : lv_has ls 9 [(0, .ref (g 99)), (1, .int x1), (2, .int x2), (3, .int x3)]) (hF : fX12_toHire_b17 N x1 x2 x3 S = some o) : W p l e (rmd 7) s m args below meth c H locs 0 0 (gE below args s D (mtys cI cS) (mcell g cI cS sa) mord g (some (.int o.1)) o.2) (F0 m 17 ls []) := by
  unfold fX12_toHire_b17 at hF
  refine lv_iload_n C.1.1 C.1.2.1 dX12_toHire_17 rfl (lv_at hl 3 rfl) ?_
  refine lv_iconst (v := 1) C.1.1 C.1.2.1 dX12_toHire_18 (by decide) ?_
  refine lv_icmp_le (tgt := 28) C.1.1 C.1.2.1 dX12_toHire_19 (by decide) (fun h_z => ?_) (fun h_z => ?_)
  · rw [if_pos h_z] at hF
    exact bX12_toHire_28 C O X (lv_sub hl [0, 1, 2, 3] rfl) hF
  · rw [if_neg h_z] at hF
    exact bX12_toHire_22 C O X (lv_sub hl [0] rfl) hF
noncomputable def fX12_toHire_b13 (N : Nat) (x1 : Int32) (x2 : Int32) (x3 : Int32) (S : gS) : Option (Int32 × gS) := if x3 < 0 then fX12_toHire_b22 N S else fX12_toHire_b17 N x1 x2 x3 S
theorem bX12_toHire_13 {N : Nat} {x1 : Int32} {x2 : Int32} {x3 : Int32} {S : gS} {H : Heap} {locs : List Loc} {ls : Array Slot} {o : Int32 × gS} (C : gC p s m args meth c cX12_toHire 9 RX12 ((some .int)) D (mtys cI cS) mord g Am) (O : gO (mcell g cI cS sa) mord g) (X : gX D (mcell g cI cS sa) mord g S s H locs) (hl : lv_has ls 9 [(0, .ref (g 99)), (1, .int x1), (2, .int x2), (3, .int x3)]) (hF : fX12_toHire_b13 N x1 x2 x3 S = some o) : W p l e (rmd 7) s m args below meth c H locs 0 0 (gE below args s D (mtys cI cS) (mcell g cI cS sa) mord g (some (.int o.1)) o.2) (F0 m 13 ls []) := by
  unfold fX12_toHire_b13 at hF
  refine lv_iload_n C.1.1 C.1.2.1 dX12_toHire_13 rfl (lv_at hl 3 rfl) ?_
  refine lv_if_lt (tgt := 22) C.1.1 C.1.2.1 dX12_toHire_14 (by decide) (fun h_z => ?_) (fun h_z => ?_)
  · rw [if_pos h_z] at hF
    exact bX12_toHire_22 C O X (lv_sub hl [0] rfl) hF
  · rw [if_neg h_z] at hF
    exact bX12_toHire_17 C O X (lv_sub hl [0, 1, 2, 3] rfl) hF
noncomputable def fX12_toHire_b0 (N : Nat) (x1 : Int32) (x2 : Int32) (x3 : Int32) (S : gS) : Option (Int32 × gS) := lt (sU S 99 4 0) fun S1 => (bnd (fX12_isGuild N x1 S1) fun q1 => (if q1.1 = 0 then fX12_toHire_b22 N q1.2 else fX12_toHire_b13 N x1 x2 x3 q1.2))
theorem bX12_toHire_0 {N : Nat} {x1 : Int32} {x2 : Int32} {x3 : Int32} {S : gS} {H : Heap} {locs : List Loc} {ls : Array Slot} {o : Int32 × gS} (C : gC p s m args meth c cX12_toHire 9 RX12 ((some .int)) D (mtys cI cS) mord g Am) (O : gO (mcell g cI cS sa) mord g) (X : gX D (mcell g cI cS sa) mord g S s H locs) (hl : lv_has ls 9 [(0, .ref (g 99)), (1, .int x1), (2, .int x2), (3, .int x3)]) (hF : fX12_toHire_b0 N x1 x2 x3 S = some o) : W p l e (rmd 7) s m args below meth c H locs 0 0 (gE below args s D (mtys cI cS) (mcell g cI cS sa) mord g (some (.int o.1)) o.2) (F0 m 0 ls []) := by
  unfold fX12_toHire_b0 at hF
  refine lv_aload_n C.1.1 C.1.2.1 dX12_toHire_0 rfl (lv_at hl 0 rfl) ?_
  refine lv_iconst (v := 0) C.1.1 C.1.2.1 dX12_toHire_1 (by decide) ?_
  obtain ⟨S1, eS1, hF⟩ := lt_some hF
  refine m_p4 C O X eS1 dX12_toHire_2 (fun H locs X => ?_)
  refine lv_aload_n C.1.1 C.1.2.1 dX12_toHire_5 rfl (lv_at hl 0 rfl) ?_
  refine lv_iload_n C.1.1 C.1.2.1 dX12_toHire_6 rfl (lv_at hl 1 rfl) ?_
  obtain ⟨q1, hq1, hF⟩ := bnd_some hF
  refine m_callVi C X vX12_isGuild rfl (kX12_isGuild O C.2.2.2.2.1 N x1  S1 q1 hq1) (Nat.le_of_ble_eq_true rfl) (Nat.le_of_ble_eq_true rfl) (Nat.le_of_ble_eq_true rfl) (Nat.le_of_ble_eq_true rfl) rfl hl.1 rfl (Nat.le_of_ble_eq_true rfl) dX12_toHire_7 (fun H locs X => ?_)
  refine lv_if_eq (tgt := 22) C.1.1 C.1.2.1 dX12_toHire_10 (by decide) (fun h_z => ?_) (fun h_z => ?_)
  · rw [if_pos h_z] at hF
    exact bX12_toHire_22 C O X (lv_sub hl [0] rfl) hF
  · rw [if_neg h_z] at hF
    exact bX12_toHire_13 C O X (lv_sub hl [0, 1, 2, 3] rfl) hF
noncomputable def fX12_toHire (N : Nat) (x1 : Int32) (x2 : Int32) (x3 : Int32) (S : gS) : Option (Int32 × gS) := fX12_toHire_b0 N x1 x2 x3 S
theorem kX12_toHire {l : Launch} {D : va_G} {g : Nat → Nat} {cI cS : ClassId} {sa : Nat → Nat → Option Nat} {Am : (Nat → Prop) → State → Heap → Prop} (O : gO (mcell g cI cS sa) mord g) (P : gAm Am) (N : Nat) (x1 : Int32) (x2 : Int32) (x3 : Int32) (S : gS) (o : Int32 × gS) (hF : fX12_toHire N x1 x2 x3 S = some o) : gM l yX12_toHire cX12_toHire 9 ((some .int)) 7 D (mtys cI cS) (mcell g cI cS sa) mord g Am [.ref (g 99), .int x1, .int x2, .int x3] S (some (.int o.1)) o.2 :=
  gM_of O P (by decide) (Nat.le_of_ble_eq_true rfl) (fun p e s m args below meth c ls C X hl => bX12_toHire_0 C O X (lv_sub hl [0, 1, 2, 3] rfl) hF)
-- mayHave
noncomputable def fX12_mayHave_b31 (N : Nat) (t0 : Int32) (S : gS) : Option (Int32 × gS) := chk (zb t0) (some (t0, S))
theorem bX12_mayHave_31 {N : Nat} {t0 : Int32} {S : gS} {H : Heap} {locs : List Loc} {ls : Array Slot} {o : Int32 × gS} (C : gC p s m args meth c cX12_mayHave 4 RX12 ((some .boolean)) D (mtys cI cS) mord g Am) (O : gO (mcell g cI cS sa) mord g) (X : gX D (mcell g cI cS sa) mord g S s H locs) (hl : lv_has ls 4 []) (hF : fX12_mayHave_b31 N t0 S = some o) : W p l e (rmd 1) s m args below meth c H locs 0 0 (gE below args s D (mtys cI cS) (mcell g cI cS sa) mord g (some (.int o.1)) o.2) (F0 m 31 ls [.int t0]) := by
  unfold fX12_mayHave_b31 at hF
  obtain ⟨h_1, hF⟩ := chk_some hF
  cases hF
  exact g_zret C X h_1 dX12_mayHave_31
noncomputable def fX12_mayHave_b30 (N : Nat) (S : gS) : Option (Int32 × gS) := fX12_mayHave_b31 N 0 S
theorem bX12_mayHave_30 {N : Nat} {S : gS} {H : Heap} {locs : List Loc} {ls : Array Slot} {o : Int32 × gS} (C : gC p s m args meth c cX12_mayHave 4 RX12 ((some .boolean)) D (mtys cI cS) mord g Am) (O : gO (mcell g cI cS sa) mord g) (X : gX D (mcell g cI cS sa) mord g S s H locs) (hl : lv_has ls 4 []) (hF : fX12_mayHave_b30 N S = some o) : W p l e (rmd 1) s m args below meth c H locs 0 0 (gE below args s D (mtys cI cS) (mcell g cI cS sa) mord g (some (.int o.1)) o.2) (F0 m 30 ls []) := by
  unfold fX12_mayHave_b30 at hF
  refine lv_iconst (v := 0) C.1.1 C.1.2.1 dX12_mayHave_30 (by decide) ?_
  exact bX12_mayHave_31 C O X (lv_sub hl [] rfl) hF
noncomputable def fX12_mayHave_b26 (N : Nat) (S : gS) : Option (Int32 × gS) := fX12_mayHave_b31 N 1 S
theorem bX12_mayHave_26 {N : Nat} {S : gS} {H : Heap} {locs : List Loc} {ls : Array Slot} {o : Int32 × gS} (C : gC p s m args meth c cX12_mayHave 4 RX12 ((some .boolean)) D (mtys cI cS) mord g Am) (O : gO (mcell g cI cS sa) mord g) (X : gX D (mcell g cI cS sa) mord g S s H locs) (hl : lv_has ls 4 []) (hF : fX12_mayHave_b26 N S = some o) : W p l e (rmd 1) s m args below meth c H locs 0 0 (gE below args s D (mtys cI cS) (mcell g cI cS sa) mord g (some (.int o.1)) o.2) (F0 m 26 ls []) := by
  unfold fX12_mayHave_b26 at hF
  refine lv_iconst (v := 1) C.1.1 C.1.2.1 dX12_mayHave_26 (by decide) ?_
  refine lv_goto (tgt := 31) C.1.1 C.1.2.1 dX12_mayHave_27 (by decide) ?_
  exact bX12_mayHave_31 C O X (lv_sub hl [] rfl) hF
noncomputable def fX12_mayHave_b8 (N : Nat) (x1 : Int32) (x3 : Int32) (S : gS) : Option (Int32 × gS) := chk (inb x1 (6)) (chk (inb x3 (16)) (if (S 33 (Int32.toNatClampNeg x1)) < ((10 * (S 9 (Int32.toNatClampNeg x3)) : Int32)) then fX12_mayHave_b30 N S else fX12_mayHave_b26 N S))
theorem bX12_mayHave_8 {N : Nat} {x1 : Int32} {x3 : Int32} {S : gS} {H : Heap} {locs : List Loc} {ls : Array Slot} {o : Int32 × gS} (C : gC p s m args meth c cX12_mayHave 4 RX12 ((some .boolean)) D (mtys cI cS) mord g Am) (O : gO (mcell g cI cS sa) mord g) (X : gX D (mcell g cI cS sa) mord g S s H locs) (hl : lv_has ls 4 [(0, .ref (g 99)), (1, .int x1), (3, .int x3)]) (hF : fX12_mayHave_b8 N x1 x3 S = some o) : W p l e (rmd 1) s m args below meth c H locs 0 0 (gE below args s D (mtys cI cS) (mcell g cI cS sa) mord g (some (.int o.1)) o.2) (F0 m 8 ls []) := by
  unfold fX12_mayHave_b8 at hF
  refine lv_aload_n C.1.1 C.1.2.1 dX12_mayHave_8 rfl (lv_at hl 0 rfl) ?_
  refine m_g33 C X dX12_mayHave_9 ?_
  refine lv_iload_n C.1.1 C.1.2.1 dX12_mayHave_12 rfl (lv_at hl 1 rfl) ?_
  obtain ⟨h_1, hF⟩ := chk_some hF
  refine m_r33 C X  (inb_vp h_1) rfl dX12_mayHave_13 ?_
  refine lv_bipush (v := 10) C.1.1 C.1.2.1 dX12_mayHave_14 (by decide) ?_
  refine lv_aload_n C.1.1 C.1.2.1 dX12_mayHave_16 rfl (lv_at hl 0 rfl) ?_
  refine m_g9 C X dX12_mayHave_17 ?_
  refine lv_iload_n C.1.1 C.1.2.1 dX12_mayHave_20 rfl (lv_at hl 2 rfl) ?_
  obtain ⟨h_2, hF⟩ := chk_some hF
  refine m_r9 C X  (inb_vp h_2) rfl dX12_mayHave_21 ?_
  refine lv_imul C.1.1 C.1.2.1 dX12_mayHave_22 ?_
  refine lv_icmp_lt (tgt := 30) C.1.1 C.1.2.1 dX12_mayHave_23 (by decide) (fun h_z => ?_) (fun h_z => ?_)
  · rw [if_pos h_z] at hF
    exact bX12_mayHave_30 C O X (lv_sub hl [] rfl) hF
  · rw [if_neg h_z] at hF
    exact bX12_mayHave_26 C O X (lv_sub hl [] rfl) hF
noncomputable def fX12_mayHave_b0 (N : Nat) (x1 : Int32) (x2 : Int32) (x3 : Int32) (S : gS) : Option (Int32 × gS) := bnd (fX12_isOf N x2 x3 S) fun q1 => (if q1.1 = 0 then fX12_mayHave_b8 N x1 x3 q1.2 else fX12_mayHave_b30 N q1.2)
theorem bX12_mayHave_0 {N : Nat} {x1 : Int32} {x2 : Int32} {x3 : Int32} {S : gS} {H : Heap} {locs : List Loc} {ls : Array Slot} {o : Int32 × gS} (C : gC p s m args meth c cX12_mayHave 4 RX12 ((some .boolean)) D (mtys cI cS) mord g Am) (O : gO (mcell g cI cS sa) mord g) (X : gX D (mcell g cI cS sa) mord g S s H locs) (hl : lv_has ls 4 [(0, .ref (g 99)), (1, .int x1), (2, .int x2), (3, .int x3)]) (hF : fX12_mayHave_b0 N x1 x2 x3 S = some o) : W p l e (rmd 1) s m args below meth c H locs 0 0 (gE below args s D (mtys cI cS) (mcell g cI cS sa) mord g (some (.int o.1)) o.2) (F0 m 0 ls []) := by
  unfold fX12_mayHave_b0 at hF
  refine lv_iload_n C.1.1 C.1.2.1 dX12_mayHave_0 rfl (lv_at hl 2 rfl) ?_
  refine lv_iload_n C.1.1 C.1.2.1 dX12_mayHave_1 rfl (lv_at hl 3 rfl) ?_
  obtain ⟨q1, hq1, hF⟩ := bnd_some hF
  refine g_callSi C X vX12_isOf (kX12_isOf O C.2.2.2.2.1 N x2 x3  S q1 hq1) (Nat.le_of_ble_eq_true rfl) (Nat.le_of_ble_eq_true rfl) (Nat.le_of_ble_eq_true rfl) (Nat.le_of_ble_eq_true rfl) rfl hl.1 rfl (Nat.le_of_ble_eq_true rfl) dX12_mayHave_2 (fun H locs X => ?_)
  refine lv_if_ne (tgt := 30) C.1.1 C.1.2.1 dX12_mayHave_5 (by decide) (fun h_z => ?_) (fun h_z => ?_)
  · rw [if_neg h_z] at hF
    exact bX12_mayHave_30 C O X (lv_sub hl [] rfl) hF
  · rw [if_pos h_z] at hF
    exact bX12_mayHave_8 C O X (lv_sub hl [0, 1, 3] rfl) hF
noncomputable def fX12_mayHave (N : Nat) (x1 : Int32) (x2 : Int32) (x3 : Int32) (S : gS) : Option (Int32 × gS) := fX12_mayHave_b0 N x1 x2 x3 S
theorem kX12_mayHave {l : Launch} {D : va_G} {g : Nat → Nat} {cI cS : ClassId} {sa : Nat → Nat → Option Nat} {Am : (Nat → Prop) → State → Heap → Prop} (O : gO (mcell g cI cS sa) mord g) (P : gAm Am) (N : Nat) (x1 : Int32) (x2 : Int32) (x3 : Int32) (S : gS) (o : Int32 × gS) (hF : fX12_mayHave N x1 x2 x3 S = some o) : gM l yX12_mayHave cX12_mayHave 4 ((some .boolean)) 1 D (mtys cI cS) (mcell g cI cS sa) mord g Am [.ref (g 99), .int x1, .int x2, .int x3] S (some (.int o.1)) o.2 :=
  gM_of O P (by decide) (Nat.le_of_ble_eq_true rfl) (fun p e s m args below meth c ls C X hl => bX12_mayHave_0 C O X (lv_sub hl [0, 1, 2, 3] rfl) hF)
-- with
noncomputable def fX12_with_b0 (N : Nat) (x1 : Int32) (x2 : Int32) (x3 : Int32) (S : gS) : Option (Int32 × gS) := chk (inb x3 (16)) (chk (inb ((((((x1 + 1 : Int32)) <<< ((8 : Int32) &&& 31) : Int32)) + ((x2 ||| (((1 : Int32) <<< (x3 &&& 31) : Int32)) : Int32)) : Int32)) (1792)) (some (((S 9 (Int32.toNatClampNeg x3)) + (S 47 (Int32.toNatClampNeg ((((((x1 + 1 : Int32)) <<< ((8 : Int32) &&& 31) : Int32)) + ((x2 ||| (((1 : Int32) <<< (x3 &&& 31) : Int32)) : Int32)) : Int32)))) : Int32), S)))
theorem bX12_with_0 {N : Nat} {x1 : Int32} {x2 : Int32} {x3 : Int32} {S : gS} {H : Heap} {locs : List Loc} {ls : Array Slot} {o : Int32 × gS} (C : gC p s m args meth c cX12_with 4 RX12 ((some .int)) D (mtys cI cS) mord g Am) (O : gO (mcell g cI cS sa) mord g) (X : gX D (mcell g cI cS sa) mord g S s H locs) (hl : lv_has ls 4 [(0, .ref (g 99)), (1, .int x1), (2, .int x2), (3, .int x3)]) (hF : fX12_with_b0 N x1 x2 x3 S = some o) : W p l e (rmd 0) s m args below meth c H locs 0 0 (gE below args s D (mtys cI cS) (mcell g cI cS sa) mord g (some (.int o.1)) o.2) (F0 m 0 ls []) := by
  unfold fX12_with_b0 at hF
  refine lv_aload_n C.1.1 C.1.2.1 dX12_with_0 rfl (lv_at hl 0 rfl) ?_
  refine m_g9 C X dX12_with_1 ?_
  refine lv_iload_n C.1.1 C.1.2.1 dX12_with_4 rfl (lv_at hl 3 rfl) ?_
  obtain ⟨h_1, hF⟩ := chk_some hF
  refine m_r9 C X  (inb_vp h_1) rfl dX12_with_5 ?_
  refine lv_aload_n C.1.1 C.1.2.1 dX12_with_6 rfl (lv_at hl 0 rfl) ?_
  refine m_g47 C X dX12_with_7 ?_
  refine lv_iload_n C.1.1 C.1.2.1 dX12_with_10 rfl (lv_at hl 1 rfl) ?_
  refine lv_iconst (v := 1) C.1.1 C.1.2.1 dX12_with_11 (by decide) ?_
  refine lv_iadd C.1.1 C.1.2.1 dX12_with_12 ?_
  refine lv_bipush (v := 8) C.1.1 C.1.2.1 dX12_with_13 (by decide) ?_
  refine lv_ishl C.1.1 C.1.2.1 dX12_with_15 ?_
  refine lv_iload_n C.1.1 C.1.2.1 dX12_with_16 rfl (lv_at hl 2 rfl) ?_
  refine lv_iconst (v := 1) C.1.1 C.1.2.1 dX12_with_17 (by decide) ?_
  refine lv_iload_n C.1.1 C.1.2.1 dX12_with_18 rfl (lv_at hl 3 rfl) ?_
  refine lv_ishl C.1.1 C.1.2.1 dX12_with_19 ?_
  refine lv_ior C.1.1 C.1.2.1 dX12_with_20 ?_
  refine lv_iadd C.1.1 C.1.2.1 dX12_with_21 ?_
  obtain ⟨h_2, hF⟩ := chk_some hF
  refine m_r47 C X  (inb_vp h_2) rfl dX12_with_22 ?_
  refine lv_iadd C.1.1 C.1.2.1 dX12_with_23 ?_
  cases hF
  exact g_iret C X dX12_with_24
noncomputable def fX12_with (N : Nat) (x1 : Int32) (x2 : Int32) (x3 : Int32) (S : gS) : Option (Int32 × gS) := fX12_with_b0 N x1 x2 x3 S
theorem kX12_with {l : Launch} {D : va_G} {g : Nat → Nat} {cI cS : ClassId} {sa : Nat → Nat → Option Nat} {Am : (Nat → Prop) → State → Heap → Prop} (O : gO (mcell g cI cS sa) mord g) (P : gAm Am) (N : Nat) (x1 : Int32) (x2 : Int32) (x3 : Int32) (S : gS) (o : Int32 × gS) (hF : fX12_with N x1 x2 x3 S = some o) : gM l yX12_with cX12_with 4 ((some .int)) 0 D (mtys cI cS) (mcell g cI cS sa) mord g Am [.ref (g 99), .int x1, .int x2, .int x3] S (some (.int o.1)) o.2 :=
  gM_of O P (by decide) (Nat.le_of_ble_eq_true rfl) (fun p e s m args below meth c ls C X hl => bX12_with_0 C O X (lv_sub hl [0, 1, 2, 3] rfl) hF)
-- tellLeast
noncomputable def fX12_tellLeast_b149 (N : Nat) (S : gS) : Option (Int32 × gS) := some (0, S)
theorem bX12_tellLeast_149 {N : Nat} {S : gS} {H : Heap} {locs : List Loc} {ls : Array Slot} {o : Int32 × gS} (C : gC p s m args meth c cX12_tellLeast 6 RX12 none D (mtys cI cS) mord g Am) (O : gO (mcell g cI cS sa) mord g) (X : gX D (mcell g cI cS sa) mord g S s H locs) (hl : lv_has ls 6 []) (hF : fX12_tellLeast_b149 N S = some o) : W p l e (rmd 2) s m args below meth c H locs 0 0 (gE below args s D (mtys cI cS) (mcell g cI cS sa) mord g none o.2) (F0 m 149 ls []) := by
  unfold fX12_tellLeast_b149 at hF
  cases hF
  exact g_vret C X dX12_tellLeast_149
noncomputable def fX12_tellLeast_b143 (N : Nat) (r48 : Int32 → Int32 → gS → Option (Int32 × gS)) (x1 : Int32) (x2 : Int32) (S : gS) : Option (Int32 × gS) := r48 x1 ((x2 + (-1) : Int32)) S
theorem bX12_tellLeast_143 {N : Nat} {r48 : Int32 → Int32 → gS → Option (Int32 × gS)} {x1 : Int32} {x2 : Int32} {S : gS} {H : Heap} {locs : List Loc} {ls : Array Slot} {o : Int32 × gS} (C : gC p s m args meth c cX12_tellLeast 6 RX12 none D (mtys cI cS) mord g Am) (O : gO (mcell g cI cS sa) mord g) (K48 : ∀ (x1 : Int32) (x2 : Int32) (S : gS) (H : Heap) (locs : List Loc) (ls : Array Slot), gX D (mcell g cI cS sa) mord g S s H locs → lv_has ls 6 [(0, .ref (g 99)), (1, .int x1), (2, .int x2)] → r48 x1 x2 S = some o → W p l e (rmd 2) s m args below meth c H locs 0 0 (gE below args s D (mtys cI cS) (mcell g cI cS sa) mord g none o.2) (F0 m 48 ls [])) (X : gX D (mcell g cI cS sa) mord g S s H locs) (hl : lv_has ls 6 [(0, .ref (g 99)), (1, .int x1), (2, .int x2)]) (hF : fX12_tellLeast_b143 N r48 x1 x2 S = some o) : W p l e (rmd 2) s m args below meth c H locs 0 0 (gE below args s D (mtys cI cS) (mcell g cI cS sa) mord g none o.2) (F0 m 143 ls []) := by
  unfold fX12_tellLeast_b143 at hF
  refine lv_iinc (v := (x2 + (-1) : Int32)) (lv' := [(2, .int ((x2 + (-1) : Int32))), (0, .ref (g 99)), (1, .int x1)]) C.1.1 C.1.2.1 dX12_tellLeast_143 hl (k := 2) rfl rfl (by decide) rfl (fun ls hl => ?_)
  refine lv_goto (tgt := 48) C.1.1 C.1.2.1 dX12_tellLeast_146 (by decide) ?_
  exact K48 _ _ _ _ _ _ X (lv_sub hl [1, 2, 0] rfl) hF
noncomputable def fX12_tellLeast_b124 (N : Nat) (r48 : Int32 → Int32 → gS → Option (Int32 × gS)) (r54 : Int32 → Int32 → Int32 → gS → Option (Int32 × gS)) (x1 : Int32) (x2 : Int32) (x3 : Int32) (x4 : Int32) (S : gS) : Option (Int32 × gS) := chk (inb ((((x2 <<< ((8 : Int32) &&& 31) : Int32)) + x3 : Int32)) (1792)) (lt (sU S 47 (Int32.toNatClampNeg ((((x2 <<< ((8 : Int32) &&& 31) : Int32)) + x3 : Int32))) x4) fun S1 => (r54 x1 x2 ((x3 + 1 : Int32)) S1))
theorem bX12_tellLeast_124 {N : Nat} {r48 : Int32 → Int32 → gS → Option (Int32 × gS)} {r54 : Int32 → Int32 → Int32 → gS → Option (Int32 × gS)} {x1 : Int32} {x2 : Int32} {x3 : Int32} {x4 : Int32} {S : gS} {H : Heap} {locs : List Loc} {ls : Array Slot} {o : Int32 × gS} (C : gC p s m args meth c cX12_tellLeast 6 RX12 none D (mtys cI cS) mord g Am) (O : gO (mcell g cI cS sa) mord g) (K48 : ∀ (x1 : Int32) (x2 : Int32) (S : gS) (H : Heap) (locs : List Loc) (ls : Array Slot), gX D (mcell g cI cS sa) mord g S s H locs → lv_has ls 6 [(0, .ref (g 99)), (1, .int x1), (2, .int x2)] → r48 x1 x2 S = some o → W p l e (rmd 2) s m args below meth c H locs 0 0 (gE below args s D (mtys cI cS) (mcell g cI cS sa) mord g none o.2) (F0 m 48 ls [])) (K54 : ∀ (x1 : Int32) (x2 : Int32) (x3 : Int32) (S : gS) (H : Heap) (locs : List Loc) (ls : Array Slot), gX D (mcell g cI cS sa) mord g S s H locs → lv_has ls 6 [(0, .ref (g 99)), (1, .int x1), (2, .int x2), (3, .int x3)] → r54 x1 x2 x3 S = some o → W p l e (rmd 2) s m args below meth c H locs 0 0 (gE below args s D (mtys cI cS) (mcell g cI cS sa) mord g none o.2) (F0 m 54 ls [])) (X : gX D (mcell g cI cS sa) mord g S s H locs) (hl : lv_has ls 6 [(0, .ref (g 99)), (1, .int x1), (2, .int x2), (3, .int x3), (4, .int x4)]) (hF : fX12_tellLeast_b124 N r48 r54 x1 x2 x3 x4 S = some o) : W p l e (rmd 2) s m args below meth c H locs 0 0 (gE below args s D (mtys cI cS) (mcell g cI cS sa) mord g none o.2) (F0 m 124 ls []) := by
  unfold fX12_tellLeast_b124 at hF
  refine lv_aload_n C.1.1 C.1.2.1 dX12_tellLeast_124 rfl (lv_at hl 0 rfl) ?_
  refine m_g47 C X dX12_tellLeast_125 ?_
  refine lv_iload_n C.1.1 C.1.2.1 dX12_tellLeast_128 rfl (lv_at hl 2 rfl) ?_
  refine lv_bipush (v := 8) C.1.1 C.1.2.1 dX12_tellLeast_129 (by decide) ?_
  refine lv_ishl C.1.1 C.1.2.1 dX12_tellLeast_131 ?_
  refine lv_iload_n C.1.1 C.1.2.1 dX12_tellLeast_132 rfl (lv_at hl 3 rfl) ?_
  refine lv_iadd C.1.1 C.1.2.1 dX12_tellLeast_133 ?_
  refine lv_iload C.1.1 C.1.2.1 dX12_tellLeast_134 (lv_at hl 4 rfl) ?_
  obtain ⟨h_1, hF⟩ := chk_some hF
  obtain ⟨S1, eS1, hF⟩ := lt_some hF
  refine m_w47 C O X  (inb_vp h_1) rfl eS1 dX12_tellLeast_136 (fun H locs X => ?_)
  refine lv_iinc (v := (x3 + 1 : Int32)) (lv' := [(3, .int ((x3 + 1 : Int32))), (0, .ref (g 99)), (1, .int x1), (2, .int x2), (4, .int x4)]) C.1.1 C.1.2.1 dX12_tellLeast_137 hl (k := 3) rfl rfl (by decide) rfl (fun ls hl => ?_)
  refine lv_goto (tgt := 54) C.1.1 C.1.2.1 dX12_tellLeast_140 (by decide) ?_
  exact K54 _ _ _ _ _ _ _ X (lv_sub hl [1, 2, 3, 0] rfl) hF
noncomputable def fX12_tellLeast_b118 (N : Nat) (r48 : Int32 → Int32 → gS → Option (Int32 × gS)) (r54 : Int32 → Int32 → Int32 → gS → Option (Int32 × gS)) (r81 : Int32 → Int32 → Int32 → Int32 → Int32 → gS → Option (Int32 × gS)) (x1 : Int32) (x2 : Int32) (x3 : Int32) (x4 : Int32) (x5 : Int32) (S : gS) : Option (Int32 × gS) := r81 x1 x2 x3 x4 ((x5 + 1 : Int32)) S
theorem bX12_tellLeast_118 {N : Nat} {r48 : Int32 → Int32 → gS → Option (Int32 × gS)} {r54 : Int32 → Int32 → Int32 → gS → Option (Int32 × gS)} {r81 : Int32 → Int32 → Int32 → Int32 → Int32 → gS → Option (Int32 × gS)} {x1 : Int32} {x2 : Int32} {x3 : Int32} {x4 : Int32} {x5 : Int32} {S : gS} {H : Heap} {locs : List Loc} {ls : Array Slot} {o : Int32 × gS} (C : gC p s m args meth c cX12_tellLeast 6 RX12 none D (mtys cI cS) mord g Am) (O : gO (mcell g cI cS sa) mord g) (K48 : ∀ (x1 : Int32) (x2 : Int32) (S : gS) (H : Heap) (locs : List Loc) (ls : Array Slot), gX D (mcell g cI cS sa) mord g S s H locs → lv_has ls 6 [(0, .ref (g 99)), (1, .int x1), (2, .int x2)] → r48 x1 x2 S = some o → W p l e (rmd 2) s m args below meth c H locs 0 0 (gE below args s D (mtys cI cS) (mcell g cI cS sa) mord g none o.2) (F0 m 48 ls [])) (K54 : ∀ (x1 : Int32) (x2 : Int32) (x3 : Int32) (S : gS) (H : Heap) (locs : List Loc) (ls : Array Slot), gX D (mcell g cI cS sa) mord g S s H locs → lv_has ls 6 [(0, .ref (g 99)), (1, .int x1), (2, .int x2), (3, .int x3)] → r54 x1 x2 x3 S = some o → W p l e (rmd 2) s m args below meth c H locs 0 0 (gE below args s D (mtys cI cS) (mcell g cI cS sa) mord g none o.2) (F0 m 54 ls [])) (K81 : ∀ (x1 : Int32) (x2 : Int32) (x3 : Int32) (x4 : Int32) (x5 : Int32) (S : gS) (H : Heap) (locs : List Loc) (ls : Array Slot), gX D (mcell g cI cS sa) mord g S s H locs → lv_has ls 6 [(0, .ref (g 99)), (1, .int x1), (2, .int x2), (3, .int x3), (4, .int x4), (5, .int x5)] → r81 x1 x2 x3 x4 x5 S = some o → W p l e (rmd 2) s m args below meth c H locs 0 0 (gE below args s D (mtys cI cS) (mcell g cI cS sa) mord g none o.2) (F0 m 81 ls [])) (X : gX D (mcell g cI cS sa) mord g S s H locs) (hl : lv_has ls 6 [(0, .ref (g 99)), (1, .int x1), (2, .int x2), (3, .int x3), (4, .int x4), (5, .int x5)]) (hF : fX12_tellLeast_b118 N r48 r54 r81 x1 x2 x3 x4 x5 S = some o) : W p l e (rmd 2) s m args below meth c H locs 0 0 (gE below args s D (mtys cI cS) (mcell g cI cS sa) mord g none o.2) (F0 m 118 ls []) := by
  unfold fX12_tellLeast_b118 at hF
  refine lv_iinc (v := (x5 + 1 : Int32)) (lv' := [(5, .int ((x5 + 1 : Int32))), (0, .ref (g 99)), (1, .int x1), (2, .int x2), (3, .int x3), (4, .int x4)]) C.1.1 C.1.2.1 dX12_tellLeast_118 hl (k := 5) rfl rfl (by decide) rfl (fun ls hl => ?_)
  refine lv_goto (tgt := 81) C.1.1 C.1.2.1 dX12_tellLeast_121 (by decide) ?_
  exact K81 _ _ _ _ _ _ _ _ _ X (lv_sub hl [1, 2, 3, 4, 5, 0] rfl) hF
noncomputable def fX12_tellLeast_b103 (N : Nat) (r48 : Int32 → Int32 → gS → Option (Int32 × gS)) (r54 : Int32 → Int32 → Int32 → gS → Option (Int32 × gS)) (r81 : Int32 → Int32 → Int32 → Int32 → Int32 → gS → Option (Int32 × gS)) (x1 : Int32) (x2 : Int32) (x3 : Int32) (x4 : Int32) (x5 : Int32) (S : gS) : Option (Int32 × gS) := bnd (fX12_with N x2 x3 x5 S) fun q1 => (fX12_tellLeast_b118 N r48 r54 r81 x1 x2 x3 (if q1.1 < x4 then q1.1 else x4) x5 q1.2)
theorem bX12_tellLeast_103 {N : Nat} {r48 : Int32 → Int32 → gS → Option (Int32 × gS)} {r54 : Int32 → Int32 → Int32 → gS → Option (Int32 × gS)} {r81 : Int32 → Int32 → Int32 → Int32 → Int32 → gS → Option (Int32 × gS)} {x1 : Int32} {x2 : Int32} {x3 : Int32} {x4 : Int32} {x5 : Int32} {S : gS} {H : Heap} {locs : List Loc} {ls : Array Slot} {o : Int32 × gS} (C : gC p s m args meth c cX12_tellLeast 6 RX12 none D (mtys cI cS) mord g Am) (O : gO (mcell g cI cS sa) mord g) (K48 : ∀ (x1 : Int32) (x2 : Int32) (S : gS) (H : Heap) (locs : List Loc) (ls : Array Slot), gX D (mcell g cI cS sa) mord g S s H locs → lv_has ls 6 [(0, .ref (g 99)), (1, .int x1), (2, .int x2)] → r48 x1 x2 S = some o → W p l e (rmd 2) s m args below meth c H locs 0 0 (gE below args s D (mtys cI cS) (mcell g cI cS sa) mord g none o.2) (F0 m 48 ls [])) (K54 : ∀ (x1 : Int32) (x2 : Int32) (x3 : Int32) (S : gS) (H : Heap) (locs : List Loc) (ls : Array Slot), gX D (mcell g cI cS sa) mord g S s H locs → lv_has ls 6 [(0, .ref (g 99)), (1, .int x1), (2, .int x2), (3, .int x3)] → r54 x1 x2 x3 S = some o → W p l e (rmd 2) s m args below meth c H locs 0 0 (gE below args s D (mtys cI cS) (mcell g cI cS sa) mord g none o.2) (F0 m 54 ls [])) (K81 : ∀ (x1 : Int32) (x2 : Int32) (x3 : Int32) (x4 : Int32) (x5 : Int32) (S : gS) (H : Heap) (locs : List Loc) (ls : Array Slot), gX D (mcell g cI cS sa) mord g S s H locs → lv_has ls 6 [(0, .ref (g 99)), (1, .int x1), (2, .int x2), (3, .int x3), (4, .int x4), (5, .int x5)] → r81 x1 x2 x3 x4 x5 S = some o → W p l e (rmd 2) s m args below meth c H locs 0 0 (gE below args s D (mtys cI cS) (mcell g cI cS sa) mord g none o.2) (F0 m 81 ls [])) (X : gX D (mcell g cI cS sa) mord g S s H locs) (hl : lv_has ls 6 [(0, .ref (g 99)), (1, .int x1), (2, .int x2), (3, .int x3), (4, .int x4), (5, .int x5)]) (hF : fX12_tellLeast_b103 N r48 r54 r81 x1 x2 x3 x4 x5 S = some o) : W p l e (rmd 2) s m args below meth c H locs 0 0 (gE below args s D (mtys cI cS) (mcell g cI cS sa) mord g none o.2) (F0 m 103 ls []) := by
  unfold fX12_tellLeast_b103 at hF
  refine lv_iload C.1.1 C.1.2.1 dX12_tellLeast_103 (lv_at hl 4 rfl) ?_
  refine lv_aload_n C.1.1 C.1.2.1 dX12_tellLeast_105 rfl (lv_at hl 0 rfl) ?_
  refine lv_iload_n C.1.1 C.1.2.1 dX12_tellLeast_106 rfl (lv_at hl 2 rfl) ?_
  refine lv_iload_n C.1.1 C.1.2.1 dX12_tellLeast_107 rfl (lv_at hl 3 rfl) ?_
  refine lv_iload C.1.1 C.1.2.1 dX12_tellLeast_108 (lv_at hl 5 rfl) ?_
  obtain ⟨q1, hq1, hF⟩ := bnd_some hF
  refine m_callVi C X vX12_with rfl (kX12_with O C.2.2.2.2.1 N x2 x3 x5  S q1 hq1) (Nat.le_of_ble_eq_true rfl) (Nat.le_of_ble_eq_true rfl) (Nat.le_of_ble_eq_true rfl) (Nat.le_of_ble_eq_true rfl) rfl hl.1 rfl (Nat.le_of_ble_eq_true rfl) dX12_tellLeast_110 (fun H locs X => ?_)
  refine g_min C hl.1 mMmin192 ⟨Nat.le_of_ble_eq_true rfl, Nat.le_of_ble_eq_true rfl⟩ (Nat.le_of_ble_eq_true rfl) (Nat.le_of_ble_eq_true rfl) dX12_tellLeast_113 ?_
  refine lv_istore (lv' := [(4, .int (if q1.1 < x4 then q1.1 else x4)), (0, .ref (g 99)), (1, .int x1), (2, .int x2), (3, .int x3), (5, .int x5)]) C.1.1 C.1.2.1 dX12_tellLeast_116 hl (by decide) rfl (fun ls hl => ?_)
  exact bX12_tellLeast_118 C O K48 K54 K81 X (lv_sub hl [1, 2, 3, 4, 0, 5] rfl) hF
noncomputable def fX12_tellLeast_b92 (N : Nat) (r48 : Int32 → Int32 → gS → Option (Int32 × gS)) (r54 : Int32 → Int32 → Int32 → gS → Option (Int32 × gS)) (r81 : Int32 → Int32 → Int32 → Int32 → Int32 → gS → Option (Int32 × gS)) (x1 : Int32) (x2 : Int32) (x3 : Int32) (x4 : Int32) (x5 : Int32) (S : gS) : Option (Int32 × gS) := bnd (fX12_mayHave N x2 x3 x5 S) fun q1 => (if q1.1 = 0 then fX12_tellLeast_b118 N r48 r54 r81 x1 x2 x3 x4 x5 q1.2 else fX12_tellLeast_b103 N r48 r54 r81 x1 x2 x3 x4 x5 q1.2)
theorem bX12_tellLeast_92 {N : Nat} {r48 : Int32 → Int32 → gS → Option (Int32 × gS)} {r54 : Int32 → Int32 → Int32 → gS → Option (Int32 × gS)} {r81 : Int32 → Int32 → Int32 → Int32 → Int32 → gS → Option (Int32 × gS)} {x1 : Int32} {x2 : Int32} {x3 : Int32} {x4 : Int32} {x5 : Int32} {S : gS} {H : Heap} {locs : List Loc} {ls : Array Slot} {o : Int32 × gS} (C : gC p s m args meth c cX12_tellLeast 6 RX12 none D (mtys cI cS) mord g Am) (O : gO (mcell g cI cS sa) mord g) (K48 : ∀ (x1 : Int32) (x2 : Int32) (S : gS) (H : Heap) (locs : List Loc) (ls : Array Slot), gX D (mcell g cI cS sa) mord g S s H locs → lv_has ls 6 [(0, .ref (g 99)), (1, .int x1), (2, .int x2)] → r48 x1 x2 S = some o → W p l e (rmd 2) s m args below meth c H locs 0 0 (gE below args s D (mtys cI cS) (mcell g cI cS sa) mord g none o.2) (F0 m 48 ls [])) (K54 : ∀ (x1 : Int32) (x2 : Int32) (x3 : Int32) (S : gS) (H : Heap) (locs : List Loc) (ls : Array Slot), gX D (mcell g cI cS sa) mord g S s H locs → lv_has ls 6 [(0, .ref (g 99)), (1, .int x1), (2, .int x2), (3, .int x3)] → r54 x1 x2 x3 S = some o → W p l e (rmd 2) s m args below meth c H locs 0 0 (gE below args s D (mtys cI cS) (mcell g cI cS sa) mord g none o.2) (F0 m 54 ls [])) (K81 : ∀ (x1 : Int32) (x2 : Int32) (x3 : Int32) (x4 : Int32) (x5 : Int32) (S : gS) (H : Heap) (locs : List Loc) (ls : Array Slot), gX D (mcell g cI cS sa) mord g S s H locs → lv_has ls 6 [(0, .ref (g 99)), (1, .int x1), (2, .int x2), (3, .int x3), (4, .int x4), (5, .int x5)] → r81 x1 x2 x3 x4 x5 S = some o → W p l e (rmd 2) s m args below meth c H locs 0 0 (gE below args s D (mtys cI cS) (mcell g cI cS sa) mord g none o.2) (F0 m 81 ls [])) (X : gX D (mcell g cI cS sa) mord g S s H locs) (hl : lv_has ls 6 [(0, .ref (g 99)), (1, .int x1), (2, .int x2), (3, .int x3), (4, .int x4), (5, .int x5)]) (hF : fX12_tellLeast_b92 N r48 r54 r81 x1 x2 x3 x4 x5 S = some o) : W p l e (rmd 2) s m args below meth c H locs 0 0 (gE below args s D (mtys cI cS) (mcell g cI cS sa) mord g none o.2) (F0 m 92 ls []) := by
  unfold fX12_tellLeast_b92 at hF
  refine lv_aload_n C.1.1 C.1.2.1 dX12_tellLeast_92 rfl (lv_at hl 0 rfl) ?_
  refine lv_iload_n C.1.1 C.1.2.1 dX12_tellLeast_93 rfl (lv_at hl 2 rfl) ?_
  refine lv_iload_n C.1.1 C.1.2.1 dX12_tellLeast_94 rfl (lv_at hl 3 rfl) ?_
  refine lv_iload C.1.1 C.1.2.1 dX12_tellLeast_95 (lv_at hl 5 rfl) ?_
  obtain ⟨q1, hq1, hF⟩ := bnd_some hF
  refine m_callVi C X vX12_mayHave rfl (kX12_mayHave O C.2.2.2.2.1 N x2 x3 x5  S q1 hq1) (Nat.le_of_ble_eq_true rfl) (Nat.le_of_ble_eq_true rfl) (Nat.le_of_ble_eq_true rfl) (Nat.le_of_ble_eq_true rfl) rfl hl.1 rfl (Nat.le_of_ble_eq_true rfl) dX12_tellLeast_97 (fun H locs X => ?_)
  refine lv_if_eq (tgt := 118) C.1.1 C.1.2.1 dX12_tellLeast_100 (by decide) (fun h_z => ?_) (fun h_z => ?_)
  · rw [if_pos h_z] at hF
    exact bX12_tellLeast_118 C O K48 K54 K81 X (lv_sub hl [0, 1, 2, 3, 4, 5] rfl) hF
  · rw [if_neg h_z] at hF
    exact bX12_tellLeast_103 C O K48 K54 K81 X (lv_sub hl [0, 1, 2, 3, 4, 5] rfl) hF
noncomputable def fX12_tellLeast_b81 (N : Nat) (r48 : Int32 → Int32 → gS → Option (Int32 × gS)) (r54 : Int32 → Int32 → Int32 → gS → Option (Int32 × gS)) (r81 : Int32 → Int32 → Int32 → Int32 → Int32 → gS → Option (Int32 × gS)) (x1 : Int32) (x2 : Int32) (x3 : Int32) (x4 : Int32) (x5 : Int32) (S : gS) : Option (Int32 × gS) := if (S 5 0) ≤ x5 then fX12_tellLeast_b124 N r48 r54 x1 x2 x3 x4 S else fX12_tellLeast_b92 N r48 r54 r81 x1 x2 x3 x4 x5 S
theorem bX12_tellLeast_81 {N : Nat} {r48 : Int32 → Int32 → gS → Option (Int32 × gS)} {r54 : Int32 → Int32 → Int32 → gS → Option (Int32 × gS)} {r81 : Int32 → Int32 → Int32 → Int32 → Int32 → gS → Option (Int32 × gS)} {x1 : Int32} {x2 : Int32} {x3 : Int32} {x4 : Int32} {x5 : Int32} {S : gS} {H : Heap} {locs : List Loc} {ls : Array Slot} {o : Int32 × gS} (C : gC p s m args meth c cX12_tellLeast 6 RX12 none D (mtys cI cS) mord g Am) (O : gO (mcell g cI cS sa) mord g) (K48 : ∀ (x1 : Int32) (x2 : Int32) (S : gS) (H : Heap) (locs : List Loc) (ls : Array Slot), gX D (mcell g cI cS sa) mord g S s H locs → lv_has ls 6 [(0, .ref (g 99)), (1, .int x1), (2, .int x2)] → r48 x1 x2 S = some o → W p l e (rmd 2) s m args below meth c H locs 0 0 (gE below args s D (mtys cI cS) (mcell g cI cS sa) mord g none o.2) (F0 m 48 ls [])) (K54 : ∀ (x1 : Int32) (x2 : Int32) (x3 : Int32) (S : gS) (H : Heap) (locs : List Loc) (ls : Array Slot), gX D (mcell g cI cS sa) mord g S s H locs → lv_has ls 6 [(0, .ref (g 99)), (1, .int x1), (2, .int x2), (3, .int x3)] → r54 x1 x2 x3 S = some o → W p l e (rmd 2) s m args below meth c H locs 0 0 (gE below args s D (mtys cI cS) (mcell g cI cS sa) mord g none o.2) (F0 m 54 ls [])) (K81 : ∀ (x1 : Int32) (x2 : Int32) (x3 : Int32) (x4 : Int32) (x5 : Int32) (S : gS) (H : Heap) (locs : List Loc) (ls : Array Slot), gX D (mcell g cI cS sa) mord g S s H locs → lv_has ls 6 [(0, .ref (g 99)), (1, .int x1), (2, .int x2), (3, .int x3), (4, .int x4), (5, .int x5)] → r81 x1 x2 x3 x4 x5 S = some o → W p l e (rmd 2) s m args below meth c H locs 0 0 (gE below args s D (mtys cI cS) (mcell g cI cS sa) mord g none o.2) (F0 m 81 ls [])) (X : gX D (mcell g cI cS sa) mord g S s H locs) (hl : lv_has ls 6 [(0, .ref (g 99)), (1, .int x1), (2, .int x2), (3, .int x3), (4, .int x4), (5, .int x5)]) (hF : fX12_tellLeast_b81 N r48 r54 r81 x1 x2 x3 x4 x5 S = some o) : W p l e (rmd 2) s m args below meth c H locs 0 0 (gE below args s D (mtys cI cS) (mcell g cI cS sa) mord g none o.2) (F0 m 81 ls []) := by
  unfold fX12_tellLeast_b81 at hF
  refine lv_iload C.1.1 C.1.2.1 dX12_tellLeast_81 (lv_at hl 5 rfl) ?_
  refine lv_aload_n C.1.1 C.1.2.1 dX12_tellLeast_83 rfl (lv_at hl 0 rfl) ?_
  refine m_g5 C X dX12_tellLeast_84 ?_
  refine lv_iconst (v := 0) C.1.1 C.1.2.1 dX12_tellLeast_87 (by decide) ?_
  refine m_r5 C X (j := 0) (inb_vp (by decide)) (by decide) dX12_tellLeast_88 ?_
  refine lv_icmp_ge (tgt := 124) C.1.1 C.1.2.1 dX12_tellLeast_89 (by decide) (fun h_z => ?_) (fun h_z => ?_)
  · rw [if_pos h_z] at hF
    exact bX12_tellLeast_124 C O K48 K54 X (lv_sub hl [0, 1, 2, 3, 4] rfl) hF
  · rw [if_neg h_z] at hF
    exact bX12_tellLeast_92 C O K48 K54 K81 X (lv_sub hl [0, 1, 2, 3, 4, 5] rfl) hF
noncomputable def fX12_tellLeast_h81 (N : Nat) (r48 : Int32 → Int32 → gS → Option (Int32 × gS)) (r54 : Int32 → Int32 → Int32 → gS → Option (Int32 × gS)) : Nat → Int32 → Int32 → Int32 → Int32 → Int32 → gS → Option (Int32 × gS)
  | 0, _, _, _, _, _, _ => none
  | n + 1, x1, x2, x3, x4, x5, S => fX12_tellLeast_b81 N r48 r54 (fX12_tellLeast_h81 N r48 r54 n) x1 x2 x3 x4 x5 S
theorem hX12_tellLeast_81 {N : Nat} {r48 : Int32 → Int32 → gS → Option (Int32 × gS)} {r54 : Int32 → Int32 → Int32 → gS → Option (Int32 × gS)} {o : Int32 × gS} (C : gC p s m args meth c cX12_tellLeast 6 RX12 none D (mtys cI cS) mord g Am) (O : gO (mcell g cI cS sa) mord g) (K48 : ∀ (x1 : Int32) (x2 : Int32) (S : gS) (H : Heap) (locs : List Loc) (ls : Array Slot), gX D (mcell g cI cS sa) mord g S s H locs → lv_has ls 6 [(0, .ref (g 99)), (1, .int x1), (2, .int x2)] → r48 x1 x2 S = some o → W p l e (rmd 2) s m args below meth c H locs 0 0 (gE below args s D (mtys cI cS) (mcell g cI cS sa) mord g none o.2) (F0 m 48 ls [])) (K54 : ∀ (x1 : Int32) (x2 : Int32) (x3 : Int32) (S : gS) (H : Heap) (locs : List Loc) (ls : Array Slot), gX D (mcell g cI cS sa) mord g S s H locs → lv_has ls 6 [(0, .ref (g 99)), (1, .int x1), (2, .int x2), (3, .int x3)] → r54 x1 x2 x3 S = some o → W p l e (rmd 2) s m args below meth c H locs 0 0 (gE below args s D (mtys cI cS) (mcell g cI cS sa) mord g none o.2) (F0 m 54 ls [])) : ∀ (n : Nat) (x1 : Int32) (x2 : Int32) (x3 : Int32) (x4 : Int32) (x5 : Int32) (S : gS) (H : Heap) (locs : List Loc) (ls : Array Slot), gX D (mcell g cI cS sa) mord g S s H locs → lv_has ls 6 [(0, .ref (g 99)), (1, .int x1), (2, .int x2), (3, .int x3), (4, .int x4), (5, .int x5)] → fX12_tellLeast_h81 N r48 r54 n x1 x2 x3 x4 x5 S = some o → W p l e (rmd 2) s m args below meth c H locs 0 0 (gE below args s D (mtys cI cS) (mcell g cI cS sa) mord g none o.2) (F0 m 81 ls []) := by
  intro n
  induction n with
  | zero =>
    intro x1 x2 x3 x4 x5 S H locs ls X hl hF
    exact absurd (show (none : Option (Int32 × gS)) = some o from hF) (by simp)
  | succ n ih =>
    intro x1 x2 x3 x4 x5 S H locs ls X hl hF
    have hF : fX12_tellLeast_b81 N r48 r54 (fX12_tellLeast_h81 N r48 r54 n) x1 x2 x3 x4 x5 S = some o := hF
    exact bX12_tellLeast_81 C O K48 K54 ih X hl hF
noncomputable def fX12_tellLeast_b59 (N : Nat) (r48 : Int32 → Int32 → gS → Option (Int32 × gS)) (r54 : Int32 → Int32 → Int32 → gS → Option (Int32 × gS)) (x1 : Int32) (x2 : Int32) (x3 : Int32) (S : gS) : Option (Int32 × gS) := chk (inb ((((((x2 + 1 : Int32)) <<< ((8 : Int32) &&& 31) : Int32)) + x3 : Int32)) (1792)) (fX12_tellLeast_h81 N r48 r54 N x1 x2 x3 ((1000 + (S 47 (Int32.toNatClampNeg ((((((x2 + 1 : Int32)) <<< ((8 : Int32) &&& 31) : Int32)) + x3 : Int32)))) : Int32)) 0 S)
theorem bX12_tellLeast_59 {N : Nat} {r48 : Int32 → Int32 → gS → Option (Int32 × gS)} {r54 : Int32 → Int32 → Int32 → gS → Option (Int32 × gS)} {x1 : Int32} {x2 : Int32} {x3 : Int32} {S : gS} {H : Heap} {locs : List Loc} {ls : Array Slot} {o : Int32 × gS} (C : gC p s m args meth c cX12_tellLeast 6 RX12 none D (mtys cI cS) mord g Am) (O : gO (mcell g cI cS sa) mord g) (K48 : ∀ (x1 : Int32) (x2 : Int32) (S : gS) (H : Heap) (locs : List Loc) (ls : Array Slot), gX D (mcell g cI cS sa) mord g S s H locs → lv_has ls 6 [(0, .ref (g 99)), (1, .int x1), (2, .int x2)] → r48 x1 x2 S = some o → W p l e (rmd 2) s m args below meth c H locs 0 0 (gE below args s D (mtys cI cS) (mcell g cI cS sa) mord g none o.2) (F0 m 48 ls [])) (K54 : ∀ (x1 : Int32) (x2 : Int32) (x3 : Int32) (S : gS) (H : Heap) (locs : List Loc) (ls : Array Slot), gX D (mcell g cI cS sa) mord g S s H locs → lv_has ls 6 [(0, .ref (g 99)), (1, .int x1), (2, .int x2), (3, .int x3)] → r54 x1 x2 x3 S = some o → W p l e (rmd 2) s m args below meth c H locs 0 0 (gE below args s D (mtys cI cS) (mcell g cI cS sa) mord g none o.2) (F0 m 54 ls [])) (X : gX D (mcell g cI cS sa) mord g S s H locs) (hl : lv_has ls 6 [(0, .ref (g 99)), (1, .int x1), (2, .int x2), (3, .int x3)]) (hF : fX12_tellLeast_b59 N r48 r54 x1 x2 x3 S = some o) : W p l e (rmd 2) s m args below meth c H locs 0 0 (gE below args s D (mtys cI cS) (mcell g cI cS sa) mord g none o.2) (F0 m 59 ls []) := by
  unfold fX12_tellLeast_b59 at hF
  refine lv_sipush (v := 1000) C.1.1 C.1.2.1 dX12_tellLeast_59 (by decide) ?_
  refine lv_aload_n C.1.1 C.1.2.1 dX12_tellLeast_62 rfl (lv_at hl 0 rfl) ?_
  refine m_g47 C X dX12_tellLeast_63 ?_
  refine lv_iload_n C.1.1 C.1.2.1 dX12_tellLeast_66 rfl (lv_at hl 2 rfl) ?_
  refine lv_iconst (v := 1) C.1.1 C.1.2.1 dX12_tellLeast_67 (by decide) ?_
  refine lv_iadd C.1.1 C.1.2.1 dX12_tellLeast_68 ?_
  refine lv_bipush (v := 8) C.1.1 C.1.2.1 dX12_tellLeast_69 (by decide) ?_
  refine lv_ishl C.1.1 C.1.2.1 dX12_tellLeast_71 ?_
  refine lv_iload_n C.1.1 C.1.2.1 dX12_tellLeast_72 rfl (lv_at hl 3 rfl) ?_
  refine lv_iadd C.1.1 C.1.2.1 dX12_tellLeast_73 ?_
  obtain ⟨h_1, hF⟩ := chk_some hF
  refine m_r47 C X  (inb_vp h_1) rfl dX12_tellLeast_74 ?_
  refine lv_iadd C.1.1 C.1.2.1 dX12_tellLeast_75 ?_
  refine lv_istore (lv' := [(4, .int ((1000 + (S 47 (Int32.toNatClampNeg ((((((x2 + 1 : Int32)) <<< ((8 : Int32) &&& 31) : Int32)) + x3 : Int32)))) : Int32))), (0, .ref (g 99)), (1, .int x1), (2, .int x2), (3, .int x3)]) C.1.1 C.1.2.1 dX12_tellLeast_76 hl (by decide) rfl (fun ls hl => ?_)
  refine lv_iconst (v := 0) C.1.1 C.1.2.1 dX12_tellLeast_78 (by decide) ?_
  refine lv_istore (lv' := [(5, .int 0), (4, .int ((1000 + (S 47 (Int32.toNatClampNeg ((((((x2 + 1 : Int32)) <<< ((8 : Int32) &&& 31) : Int32)) + x3 : Int32)))) : Int32))), (0, .ref (g 99)), (1, .int x1), (2, .int x2), (3, .int x3)]) C.1.1 C.1.2.1 dX12_tellLeast_79 hl (by decide) rfl (fun ls hl => ?_)
  exact hX12_tellLeast_81 C O K48 K54 N _ _ _ _ _ _ _ _ _ X (lv_sub hl [2, 3, 4, 5, 1, 0] rfl) hF
noncomputable def fX12_tellLeast_b54 (N : Nat) (r48 : Int32 → Int32 → gS → Option (Int32 × gS)) (r54 : Int32 → Int32 → Int32 → gS → Option (Int32 × gS)) (x1 : Int32) (x2 : Int32) (x3 : Int32) (S : gS) : Option (Int32 × gS) := if x1 ≤ x3 then fX12_tellLeast_b143 N r48 x1 x2 S else fX12_tellLeast_b59 N r48 r54 x1 x2 x3 S
theorem bX12_tellLeast_54 {N : Nat} {r48 : Int32 → Int32 → gS → Option (Int32 × gS)} {r54 : Int32 → Int32 → Int32 → gS → Option (Int32 × gS)} {x1 : Int32} {x2 : Int32} {x3 : Int32} {S : gS} {H : Heap} {locs : List Loc} {ls : Array Slot} {o : Int32 × gS} (C : gC p s m args meth c cX12_tellLeast 6 RX12 none D (mtys cI cS) mord g Am) (O : gO (mcell g cI cS sa) mord g) (K48 : ∀ (x1 : Int32) (x2 : Int32) (S : gS) (H : Heap) (locs : List Loc) (ls : Array Slot), gX D (mcell g cI cS sa) mord g S s H locs → lv_has ls 6 [(0, .ref (g 99)), (1, .int x1), (2, .int x2)] → r48 x1 x2 S = some o → W p l e (rmd 2) s m args below meth c H locs 0 0 (gE below args s D (mtys cI cS) (mcell g cI cS sa) mord g none o.2) (F0 m 48 ls [])) (K54 : ∀ (x1 : Int32) (x2 : Int32) (x3 : Int32) (S : gS) (H : Heap) (locs : List Loc) (ls : Array Slot), gX D (mcell g cI cS sa) mord g S s H locs → lv_has ls 6 [(0, .ref (g 99)), (1, .int x1), (2, .int x2), (3, .int x3)] → r54 x1 x2 x3 S = some o → W p l e (rmd 2) s m args below meth c H locs 0 0 (gE below args s D (mtys cI cS) (mcell g cI cS sa) mord g none o.2) (F0 m 54 ls [])) (X : gX D (mcell g cI cS sa) mord g S s H locs) (hl : lv_has ls 6 [(0, .ref (g 99)), (1, .int x1), (2, .int x2), (3, .int x3)]) (hF : fX12_tellLeast_b54 N r48 r54 x1 x2 x3 S = some o) : W p l e (rmd 2) s m args below meth c H locs 0 0 (gE below args s D (mtys cI cS) (mcell g cI cS sa) mord g none o.2) (F0 m 54 ls []) := by
  unfold fX12_tellLeast_b54 at hF
  refine lv_iload_n C.1.1 C.1.2.1 dX12_tellLeast_54 rfl (lv_at hl 3 rfl) ?_
  refine lv_iload_n C.1.1 C.1.2.1 dX12_tellLeast_55 rfl (lv_at hl 1 rfl) ?_
  refine lv_icmp_ge (tgt := 143) C.1.1 C.1.2.1 dX12_tellLeast_56 (by decide) (fun h_z => ?_) (fun h_z => ?_)
  · rw [if_pos h_z] at hF
    exact bX12_tellLeast_143 C O K48 X (lv_sub hl [0, 1, 2] rfl) hF
  · rw [if_neg h_z] at hF
    exact bX12_tellLeast_59 C O K48 K54 X (lv_sub hl [0, 1, 2, 3] rfl) hF
noncomputable def fX12_tellLeast_h54 (N : Nat) (r48 : Int32 → Int32 → gS → Option (Int32 × gS)) : Nat → Int32 → Int32 → Int32 → gS → Option (Int32 × gS)
  | 0, _, _, _, _ => none
  | n + 1, x1, x2, x3, S => fX12_tellLeast_b54 N r48 (fX12_tellLeast_h54 N r48 n) x1 x2 x3 S
theorem hX12_tellLeast_54 {N : Nat} {r48 : Int32 → Int32 → gS → Option (Int32 × gS)} {o : Int32 × gS} (C : gC p s m args meth c cX12_tellLeast 6 RX12 none D (mtys cI cS) mord g Am) (O : gO (mcell g cI cS sa) mord g) (K48 : ∀ (x1 : Int32) (x2 : Int32) (S : gS) (H : Heap) (locs : List Loc) (ls : Array Slot), gX D (mcell g cI cS sa) mord g S s H locs → lv_has ls 6 [(0, .ref (g 99)), (1, .int x1), (2, .int x2)] → r48 x1 x2 S = some o → W p l e (rmd 2) s m args below meth c H locs 0 0 (gE below args s D (mtys cI cS) (mcell g cI cS sa) mord g none o.2) (F0 m 48 ls [])) : ∀ (n : Nat) (x1 : Int32) (x2 : Int32) (x3 : Int32) (S : gS) (H : Heap) (locs : List Loc) (ls : Array Slot), gX D (mcell g cI cS sa) mord g S s H locs → lv_has ls 6 [(0, .ref (g 99)), (1, .int x1), (2, .int x2), (3, .int x3)] → fX12_tellLeast_h54 N r48 n x1 x2 x3 S = some o → W p l e (rmd 2) s m args below meth c H locs 0 0 (gE below args s D (mtys cI cS) (mcell g cI cS sa) mord g none o.2) (F0 m 54 ls []) := by
  intro n
  induction n with
  | zero =>
    intro x1 x2 x3 S H locs ls X hl hF
    exact absurd (show (none : Option (Int32 × gS)) = some o from hF) (by simp)
  | succ n ih =>
    intro x1 x2 x3 S H locs ls X hl hF
    have hF : fX12_tellLeast_b54 N r48 (fX12_tellLeast_h54 N r48 n) x1 x2 x3 S = some o := hF
    exact bX12_tellLeast_54 C O K48 ih X hl hF
noncomputable def fX12_tellLeast_b52 (N : Nat) (r48 : Int32 → Int32 → gS → Option (Int32 × gS)) (x1 : Int32) (x2 : Int32) (S : gS) : Option (Int32 × gS) := fX12_tellLeast_h54 N r48 N x1 x2 0 S
theorem bX12_tellLeast_52 {N : Nat} {r48 : Int32 → Int32 → gS → Option (Int32 × gS)} {x1 : Int32} {x2 : Int32} {S : gS} {H : Heap} {locs : List Loc} {ls : Array Slot} {o : Int32 × gS} (C : gC p s m args meth c cX12_tellLeast 6 RX12 none D (mtys cI cS) mord g Am) (O : gO (mcell g cI cS sa) mord g) (K48 : ∀ (x1 : Int32) (x2 : Int32) (S : gS) (H : Heap) (locs : List Loc) (ls : Array Slot), gX D (mcell g cI cS sa) mord g S s H locs → lv_has ls 6 [(0, .ref (g 99)), (1, .int x1), (2, .int x2)] → r48 x1 x2 S = some o → W p l e (rmd 2) s m args below meth c H locs 0 0 (gE below args s D (mtys cI cS) (mcell g cI cS sa) mord g none o.2) (F0 m 48 ls [])) (X : gX D (mcell g cI cS sa) mord g S s H locs) (hl : lv_has ls 6 [(0, .ref (g 99)), (1, .int x1), (2, .int x2)]) (hF : fX12_tellLeast_b52 N r48 x1 x2 S = some o) : W p l e (rmd 2) s m args below meth c H locs 0 0 (gE below args s D (mtys cI cS) (mcell g cI cS sa) mord g none o.2) (F0 m 52 ls []) := by
  unfold fX12_tellLeast_b52 at hF
  refine lv_iconst (v := 0) C.1.1 C.1.2.1 dX12_tellLeast_52 (by decide) ?_
  refine lv_istore_n (lv' := [(3, .int 0), (0, .ref (g 99)), (1, .int x1), (2, .int x2)]) C.1.1 C.1.2.1 dX12_tellLeast_53 rfl hl (by decide) rfl (fun ls hl => ?_)
  exact hX12_tellLeast_54 C O K48 N _ _ _ _ _ _ _ X (lv_sub hl [1, 2, 3, 0] rfl) hF
noncomputable def fX12_tellLeast_b48 (N : Nat) (r48 : Int32 → Int32 → gS → Option (Int32 × gS)) (x1 : Int32) (x2 : Int32) (S : gS) : Option (Int32 × gS) := if x2 < 0 then fX12_tellLeast_b149 N S else fX12_tellLeast_b52 N r48 x1 x2 S
theorem bX12_tellLeast_48 {N : Nat} {r48 : Int32 → Int32 → gS → Option (Int32 × gS)} {x1 : Int32} {x2 : Int32} {S : gS} {H : Heap} {locs : List Loc} {ls : Array Slot} {o : Int32 × gS} (C : gC p s m args meth c cX12_tellLeast 6 RX12 none D (mtys cI cS) mord g Am) (O : gO (mcell g cI cS sa) mord g) (K48 : ∀ (x1 : Int32) (x2 : Int32) (S : gS) (H : Heap) (locs : List Loc) (ls : Array Slot), gX D (mcell g cI cS sa) mord g S s H locs → lv_has ls 6 [(0, .ref (g 99)), (1, .int x1), (2, .int x2)] → r48 x1 x2 S = some o → W p l e (rmd 2) s m args below meth c H locs 0 0 (gE below args s D (mtys cI cS) (mcell g cI cS sa) mord g none o.2) (F0 m 48 ls [])) (X : gX D (mcell g cI cS sa) mord g S s H locs) (hl : lv_has ls 6 [(0, .ref (g 99)), (1, .int x1), (2, .int x2)]) (hF : fX12_tellLeast_b48 N r48 x1 x2 S = some o) : W p l e (rmd 2) s m args below meth c H locs 0 0 (gE below args s D (mtys cI cS) (mcell g cI cS sa) mord g none o.2) (F0 m 48 ls []) := by
  unfold fX12_tellLeast_b48 at hF
  refine lv_iload_n C.1.1 C.1.2.1 dX12_tellLeast_48 rfl (lv_at hl 2 rfl) ?_
  refine lv_if_lt (tgt := 149) C.1.1 C.1.2.1 dX12_tellLeast_49 (by decide) (fun h_z => ?_) (fun h_z => ?_)
  · rw [if_pos h_z] at hF
    exact bX12_tellLeast_149 C O X (lv_sub hl [] rfl) hF
  · rw [if_neg h_z] at hF
    exact bX12_tellLeast_52 C O K48 X (lv_sub hl [0, 1, 2] rfl) hF
noncomputable def fX12_tellLeast_h48 (N : Nat) : Nat → Int32 → Int32 → gS → Option (Int32 × gS)
  | 0, _, _, _ => none
  | n + 1, x1, x2, S => fX12_tellLeast_b48 N (fX12_tellLeast_h48 N n) x1 x2 S
theorem hX12_tellLeast_48 {N : Nat} {o : Int32 × gS} (C : gC p s m args meth c cX12_tellLeast 6 RX12 none D (mtys cI cS) mord g Am) (O : gO (mcell g cI cS sa) mord g) : ∀ (n : Nat) (x1 : Int32) (x2 : Int32) (S : gS) (H : Heap) (locs : List Loc) (ls : Array Slot), gX D (mcell g cI cS sa) mord g S s H locs → lv_has ls 6 [(0, .ref (g 99)), (1, .int x1), (2, .int x2)] → fX12_tellLeast_h48 N n x1 x2 S = some o → W p l e (rmd 2) s m args below meth c H locs 0 0 (gE below args s D (mtys cI cS) (mcell g cI cS sa) mord g none o.2) (F0 m 48 ls []) := by
  intro n
  induction n with
  | zero =>
    intro x1 x2 S H locs ls X hl hF
    exact absurd (show (none : Option (Int32 × gS)) = some o from hF) (by simp)
  | succ n ih =>
    intro x1 x2 S H locs ls X hl hF
    have hF : fX12_tellLeast_b48 N (fX12_tellLeast_h48 N n) x1 x2 S = some o := hF
    exact bX12_tellLeast_48 C O ih X hl hF
noncomputable def fX12_tellLeast_b39 (N : Nat) (x1 : Int32) (S : gS) : Option (Int32 × gS) := fX12_tellLeast_h48 N N x1 (((S 5 1) - 1 : Int32)) S
theorem bX12_tellLeast_39 {N : Nat} {x1 : Int32} {S : gS} {H : Heap} {locs : List Loc} {ls : Array Slot} {o : Int32 × gS} (C : gC p s m args meth c cX12_tellLeast 6 RX12 none D (mtys cI cS) mord g Am) (O : gO (mcell g cI cS sa) mord g) (X : gX D (mcell g cI cS sa) mord g S s H locs) (hl : lv_has ls 6 [(0, .ref (g 99)), (1, .int x1)]) (hF : fX12_tellLeast_b39 N x1 S = some o) : W p l e (rmd 2) s m args below meth c H locs 0 0 (gE below args s D (mtys cI cS) (mcell g cI cS sa) mord g none o.2) (F0 m 39 ls []) := by
  unfold fX12_tellLeast_b39 at hF
  refine lv_aload_n C.1.1 C.1.2.1 dX12_tellLeast_39 rfl (lv_at hl 0 rfl) ?_
  refine m_g5 C X dX12_tellLeast_40 ?_
  refine lv_iconst (v := 1) C.1.1 C.1.2.1 dX12_tellLeast_43 (by decide) ?_
  refine m_r5 C X (j := 1) (inb_vp (by decide)) (by decide) dX12_tellLeast_44 ?_
  refine lv_iconst (v := 1) C.1.1 C.1.2.1 dX12_tellLeast_45 (by decide) ?_
  refine lv_isub C.1.1 C.1.2.1 dX12_tellLeast_46 ?_
  refine lv_istore_n (lv' := [(2, .int (((S 5 1) - 1 : Int32))), (0, .ref (g 99)), (1, .int x1)]) C.1.1 C.1.2.1 dX12_tellLeast_47 rfl hl (by decide) rfl (fun ls hl => ?_)
  exact hX12_tellLeast_48 C O N _ _ _ _ _ _ X (lv_sub hl [1, 2, 0] rfl) hF
noncomputable def fX12_tellLeast_b16 (N : Nat) (r11 : Int32 → Int32 → gS → Option (Int32 × gS)) (x1 : Int32) (x2 : Int32) (S : gS) : Option (Int32 × gS) := chk (inb (((((S 5 1) <<< ((8 : Int32) &&& 31) : Int32)) + x2 : Int32)) (1792)) (lt (sU S 47 (Int32.toNatClampNeg (((((S 5 1) <<< ((8 : Int32) &&& 31) : Int32)) + x2 : Int32))) 0) fun S1 => (r11 x1 ((x2 + 1 : Int32)) S1))
theorem bX12_tellLeast_16 {N : Nat} {r11 : Int32 → Int32 → gS → Option (Int32 × gS)} {x1 : Int32} {x2 : Int32} {S : gS} {H : Heap} {locs : List Loc} {ls : Array Slot} {o : Int32 × gS} (C : gC p s m args meth c cX12_tellLeast 6 RX12 none D (mtys cI cS) mord g Am) (O : gO (mcell g cI cS sa) mord g) (K11 : ∀ (x1 : Int32) (x2 : Int32) (S : gS) (H : Heap) (locs : List Loc) (ls : Array Slot), gX D (mcell g cI cS sa) mord g S s H locs → lv_has ls 6 [(0, .ref (g 99)), (1, .int x1), (2, .int x2)] → r11 x1 x2 S = some o → W p l e (rmd 2) s m args below meth c H locs 0 0 (gE below args s D (mtys cI cS) (mcell g cI cS sa) mord g none o.2) (F0 m 11 ls [])) (X : gX D (mcell g cI cS sa) mord g S s H locs) (hl : lv_has ls 6 [(0, .ref (g 99)), (1, .int x1), (2, .int x2)]) (hF : fX12_tellLeast_b16 N r11 x1 x2 S = some o) : W p l e (rmd 2) s m args below meth c H locs 0 0 (gE below args s D (mtys cI cS) (mcell g cI cS sa) mord g none o.2) (F0 m 16 ls []) := by
  unfold fX12_tellLeast_b16 at hF
  refine lv_aload_n C.1.1 C.1.2.1 dX12_tellLeast_16 rfl (lv_at hl 0 rfl) ?_
  refine m_g47 C X dX12_tellLeast_17 ?_
  refine lv_aload_n C.1.1 C.1.2.1 dX12_tellLeast_20 rfl (lv_at hl 0 rfl) ?_
  refine m_g5 C X dX12_tellLeast_21 ?_
  refine lv_iconst (v := 1) C.1.1 C.1.2.1 dX12_tellLeast_24 (by decide) ?_
  refine m_r5 C X (j := 1) (inb_vp (by decide)) (by decide) dX12_tellLeast_25 ?_
  refine lv_bipush (v := 8) C.1.1 C.1.2.1 dX12_tellLeast_26 (by decide) ?_
  refine lv_ishl C.1.1 C.1.2.1 dX12_tellLeast_28 ?_
  refine lv_iload_n C.1.1 C.1.2.1 dX12_tellLeast_29 rfl (lv_at hl 2 rfl) ?_
  refine lv_iadd C.1.1 C.1.2.1 dX12_tellLeast_30 ?_
  refine lv_iconst (v := 0) C.1.1 C.1.2.1 dX12_tellLeast_31 (by decide) ?_
  obtain ⟨h_1, hF⟩ := chk_some hF
  obtain ⟨S1, eS1, hF⟩ := lt_some hF
  refine m_w47 C O X  (inb_vp h_1) rfl eS1 dX12_tellLeast_32 (fun H locs X => ?_)
  refine lv_iinc (v := (x2 + 1 : Int32)) (lv' := [(2, .int ((x2 + 1 : Int32))), (0, .ref (g 99)), (1, .int x1)]) C.1.1 C.1.2.1 dX12_tellLeast_33 hl (k := 2) rfl rfl (by decide) rfl (fun ls hl => ?_)
  refine lv_goto (tgt := 11) C.1.1 C.1.2.1 dX12_tellLeast_36 (by decide) ?_
  exact K11 _ _ _ _ _ _ X (lv_sub hl [1, 2, 0] rfl) hF
noncomputable def fX12_tellLeast_b11 (N : Nat) (r11 : Int32 → Int32 → gS → Option (Int32 × gS)) (x1 : Int32) (x2 : Int32) (S : gS) : Option (Int32 × gS) := if x1 ≤ x2 then fX12_tellLeast_b39 N x1 S else fX12_tellLeast_b16 N r11 x1 x2 S
theorem bX12_tellLeast_11 {N : Nat} {r11 : Int32 → Int32 → gS → Option (Int32 × gS)} {x1 : Int32} {x2 : Int32} {S : gS} {H : Heap} {locs : List Loc} {ls : Array Slot} {o : Int32 × gS} (C : gC p s m args meth c cX12_tellLeast 6 RX12 none D (mtys cI cS) mord g Am) (O : gO (mcell g cI cS sa) mord g) (K11 : ∀ (x1 : Int32) (x2 : Int32) (S : gS) (H : Heap) (locs : List Loc) (ls : Array Slot), gX D (mcell g cI cS sa) mord g S s H locs → lv_has ls 6 [(0, .ref (g 99)), (1, .int x1), (2, .int x2)] → r11 x1 x2 S = some o → W p l e (rmd 2) s m args below meth c H locs 0 0 (gE below args s D (mtys cI cS) (mcell g cI cS sa) mord g none o.2) (F0 m 11 ls [])) (X : gX D (mcell g cI cS sa) mord g S s H locs) (hl : lv_has ls 6 [(0, .ref (g 99)), (1, .int x1), (2, .int x2)]) (hF : fX12_tellLeast_b11 N r11 x1 x2 S = some o) : W p l e (rmd 2) s m args below meth c H locs 0 0 (gE below args s D (mtys cI cS) (mcell g cI cS sa) mord g none o.2) (F0 m 11 ls []) := by
  unfold fX12_tellLeast_b11 at hF
  refine lv_iload_n C.1.1 C.1.2.1 dX12_tellLeast_11 rfl (lv_at hl 2 rfl) ?_
  refine lv_iload_n C.1.1 C.1.2.1 dX12_tellLeast_12 rfl (lv_at hl 1 rfl) ?_
  refine lv_icmp_ge (tgt := 39) C.1.1 C.1.2.1 dX12_tellLeast_13 (by decide) (fun h_z => ?_) (fun h_z => ?_)
  · rw [if_pos h_z] at hF
    exact bX12_tellLeast_39 C O X (lv_sub hl [0, 1] rfl) hF
  · rw [if_neg h_z] at hF
    exact bX12_tellLeast_16 C O K11 X (lv_sub hl [0, 1, 2] rfl) hF
noncomputable def fX12_tellLeast_h11 (N : Nat) : Nat → Int32 → Int32 → gS → Option (Int32 × gS)
  | 0, _, _, _ => none
  | n + 1, x1, x2, S => fX12_tellLeast_b11 N (fX12_tellLeast_h11 N n) x1 x2 S
theorem hX12_tellLeast_11 {N : Nat} {o : Int32 × gS} (C : gC p s m args meth c cX12_tellLeast 6 RX12 none D (mtys cI cS) mord g Am) (O : gO (mcell g cI cS sa) mord g) : ∀ (n : Nat) (x1 : Int32) (x2 : Int32) (S : gS) (H : Heap) (locs : List Loc) (ls : Array Slot), gX D (mcell g cI cS sa) mord g S s H locs → lv_has ls 6 [(0, .ref (g 99)), (1, .int x1), (2, .int x2)] → fX12_tellLeast_h11 N n x1 x2 S = some o → W p l e (rmd 2) s m args below meth c H locs 0 0 (gE below args s D (mtys cI cS) (mcell g cI cS sa) mord g none o.2) (F0 m 11 ls []) := by
  intro n
  induction n with
  | zero =>
    intro x1 x2 S H locs ls X hl hF
    exact absurd (show (none : Option (Int32 × gS)) = some o from hF) (by simp)
  | succ n ih =>
    intro x1 x2 S H locs ls X hl hF
    have hF : fX12_tellLeast_b11 N (fX12_tellLeast_h11 N n) x1 x2 S = some o := hF
    exact bX12_tellLeast_11 C O ih X hl hF
noncomputable def fX12_tellLeast_b0 (N : Nat) (S : gS) : Option (Int32 × gS) := fX12_tellLeast_h11 N N (((1 : Int32) <<< ((S 5 0) &&& 31) : Int32)) 0 S
theorem bX12_tellLeast_0 {N : Nat} {S : gS} {H : Heap} {locs : List Loc} {ls : Array Slot} {o : Int32 × gS} (C : gC p s m args meth c cX12_tellLeast 6 RX12 none D (mtys cI cS) mord g Am) (O : gO (mcell g cI cS sa) mord g) (X : gX D (mcell g cI cS sa) mord g S s H locs) (hl : lv_has ls 6 [(0, .ref (g 99))]) (hF : fX12_tellLeast_b0 N S = some o) : W p l e (rmd 2) s m args below meth c H locs 0 0 (gE below args s D (mtys cI cS) (mcell g cI cS sa) mord g none o.2) (F0 m 0 ls []) := by
  unfold fX12_tellLeast_b0 at hF
  refine lv_iconst (v := 1) C.1.1 C.1.2.1 dX12_tellLeast_0 (by decide) ?_
  refine lv_aload_n C.1.1 C.1.2.1 dX12_tellLeast_1 rfl (lv_at hl 0 rfl) ?_
  refine m_g5 C X dX12_tellLeast_2 ?_
  refine lv_iconst (v := 0) C.1.1 C.1.2.1 dX12_tellLeast_5 (by decide) ?_
  refine m_r5 C X (j := 0) (inb_vp (by decide)) (by decide) dX12_tellLeast_6 ?_
  refine lv_ishl C.1.1 C.1.2.1 dX12_tellLeast_7 ?_
  refine lv_istore_n (lv' := [(1, .int (((1 : Int32) <<< ((S 5 0) &&& 31) : Int32))), (0, .ref (g 99))]) C.1.1 C.1.2.1 dX12_tellLeast_8 rfl hl (by decide) rfl (fun ls hl => ?_)
  refine lv_iconst (v := 0) C.1.1 C.1.2.1 dX12_tellLeast_9 (by decide) ?_
  refine lv_istore_n (lv' := [(2, .int 0), (1, .int (((1 : Int32) <<< ((S 5 0) &&& 31) : Int32))), (0, .ref (g 99))]) C.1.1 C.1.2.1 dX12_tellLeast_10 rfl hl (by decide) rfl (fun ls hl => ?_)
  exact hX12_tellLeast_11 C O N _ _ _ _ _ _ X (lv_sub hl [2, 1, 0] rfl) hF
noncomputable def fX12_tellLeast (N : Nat) (S : gS) : Option (Int32 × gS) := fX12_tellLeast_b0 N S
theorem kX12_tellLeast {l : Launch} {D : va_G} {g : Nat → Nat} {cI cS : ClassId} {sa : Nat → Nat → Option Nat} {Am : (Nat → Prop) → State → Heap → Prop} (O : gO (mcell g cI cS sa) mord g) (P : gAm Am) (N : Nat) (S : gS) (o : Int32 × gS) (hF : fX12_tellLeast N S = some o) : gM l yX12_tellLeast cX12_tellLeast 6 none 2 D (mtys cI cS) (mcell g cI cS sa) mord g Am [.ref (g 99)] S none o.2 :=
  gM_of O P (by decide) (Nat.le_of_ble_eq_true rfl) (fun p e s m args below meth c ls C X hl => bX12_tellLeast_0 C O X (lv_sub hl [0] rfl) hF)
-- shared
noncomputable def fX12_shared_b58 (N : Nat) (t0 : Int32) (S : gS) : Option (Int32 × gS) := some (t0, S)
theorem bX12_shared_58 {N : Nat} {t0 : Int32} {S : gS} {H : Heap} {locs : List Loc} {ls : Array Slot} {o : Int32 × gS} (C : gC p s m args meth c cX12_shared 2 RX12 ((some .int)) D (mtys cI cS) mord g Am) (O : gO (mcell g cI cS sa) mord g) (X : gX D (mcell g cI cS sa) mord g S s H locs) (hl : lv_has ls 2 []) (hF : fX12_shared_b58 N t0 S = some o) : W p l e (rmd 3) s m args below meth c H locs 0 0 (gE below args s D (mtys cI cS) (mcell g cI cS sa) mord g (some (.int o.1)) o.2) (F0 m 58 ls [.int t0]) := by
  unfold fX12_shared_b58 at hF
  cases hF
  exact g_iret C X dX12_shared_58
noncomputable def fX12_shared_b48 (N : Nat) (S : gS) : Option (Int32 × gS) := fX12_shared_b58 N (((S 47 0) - (S 47 0) / 1000 * 1000 : Int32)) S
theorem bX12_shared_48 {N : Nat} {S : gS} {H : Heap} {locs : List Loc} {ls : Array Slot} {o : Int32 × gS} (C : gC p s m args meth c cX12_shared 2 RX12 ((some .int)) D (mtys cI cS) mord g Am) (O : gO (mcell g cI cS sa) mord g) (X : gX D (mcell g cI cS sa) mord g S s H locs) (hl : lv_has ls 2 [(0, .ref (g 99))]) (hF : fX12_shared_b48 N S = some o) : W p l e (rmd 3) s m args below meth c H locs 0 0 (gE below args s D (mtys cI cS) (mcell g cI cS sa) mord g (some (.int o.1)) o.2) (F0 m 48 ls []) := by
  unfold fX12_shared_b48 at hF
  refine lv_aload_n C.1.1 C.1.2.1 dX12_shared_48 rfl (lv_at hl 0 rfl) ?_
  refine m_g47 C X dX12_shared_49 ?_
  refine lv_iconst (v := 0) C.1.1 C.1.2.1 dX12_shared_52 (by decide) ?_
  refine m_r47 C X (j := 0) (inb_vp (by decide)) (by decide) dX12_shared_53 ?_
  refine lv_sipush (v := 1000) C.1.1 C.1.2.1 dX12_shared_54 (by decide) ?_
  refine lv_irem C.1.1 C.1.2.1 dX12_shared_57 (by decide) ?_
  exact bX12_shared_58 C O X (lv_sub hl [] rfl) hF
noncomputable def fX12_shared_b28 (N : Nat) (S : gS) : Option (Int32 × gS) := fX12_shared_b58 N (((S 5 1) - (((S 47 0) / 1000 : Int32)) : Int32)) S
theorem bX12_shared_28 {N : Nat} {S : gS} {H : Heap} {locs : List Loc} {ls : Array Slot} {o : Int32 × gS} (C : gC p s m args meth c cX12_shared 2 RX12 ((some .int)) D (mtys cI cS) mord g Am) (O : gO (mcell g cI cS sa) mord g) (X : gX D (mcell g cI cS sa) mord g S s H locs) (hl : lv_has ls 2 [(0, .ref (g 99))]) (hF : fX12_shared_b28 N S = some o) : W p l e (rmd 3) s m args below meth c H locs 0 0 (gE below args s D (mtys cI cS) (mcell g cI cS sa) mord g (some (.int o.1)) o.2) (F0 m 28 ls []) := by
  unfold fX12_shared_b28 at hF
  refine lv_aload_n C.1.1 C.1.2.1 dX12_shared_28 rfl (lv_at hl 0 rfl) ?_
  refine m_g5 C X dX12_shared_29 ?_
  refine lv_iconst (v := 1) C.1.1 C.1.2.1 dX12_shared_32 (by decide) ?_
  refine m_r5 C X (j := 1) (inb_vp (by decide)) (by decide) dX12_shared_33 ?_
  refine lv_aload_n C.1.1 C.1.2.1 dX12_shared_34 rfl (lv_at hl 0 rfl) ?_
  refine m_g47 C X dX12_shared_35 ?_
  refine lv_iconst (v := 0) C.1.1 C.1.2.1 dX12_shared_38 (by decide) ?_
  refine m_r47 C X (j := 0) (inb_vp (by decide)) (by decide) dX12_shared_39 ?_
  refine lv_sipush (v := 1000) C.1.1 C.1.2.1 dX12_shared_40 (by decide) ?_
  refine lv_idiv C.1.1 C.1.2.1 dX12_shared_43 (by decide) ?_
  refine lv_isub C.1.1 C.1.2.1 dX12_shared_44 ?_
  refine lv_goto (tgt := 58) C.1.1 C.1.2.1 dX12_shared_45 (by decide) ?_
  exact bX12_shared_58 C O X (lv_sub hl [] rfl) hF
noncomputable def fX12_shared_b20 (N : Nat) (x1 : Int32) (S : gS) : Option (Int32 × gS) := bnd (fX12_tellLeast N  S) fun q1 => (if x1 = 0 then fX12_shared_b28 N q1.2 else fX12_shared_b48 N q1.2)
theorem bX12_shared_20 {N : Nat} {x1 : Int32} {S : gS} {H : Heap} {locs : List Loc} {ls : Array Slot} {o : Int32 × gS} (C : gC p s m args meth c cX12_shared 2 RX12 ((some .int)) D (mtys cI cS) mord g Am) (O : gO (mcell g cI cS sa) mord g) (X : gX D (mcell g cI cS sa) mord g S s H locs) (hl : lv_has ls 2 [(0, .ref (g 99)), (1, .int x1)]) (hF : fX12_shared_b20 N x1 S = some o) : W p l e (rmd 3) s m args below meth c H locs 0 0 (gE below args s D (mtys cI cS) (mcell g cI cS sa) mord g (some (.int o.1)) o.2) (F0 m 20 ls []) := by
  unfold fX12_shared_b20 at hF
  refine lv_aload_n C.1.1 C.1.2.1 dX12_shared_20 rfl (lv_at hl 0 rfl) ?_
  obtain ⟨q1, hq1, hF⟩ := bnd_some hF
  refine m_callV C X vX12_tellLeast rfl (kX12_tellLeast O C.2.2.2.2.1 N   S q1 hq1) (Nat.le_of_ble_eq_true rfl) (Nat.le_of_ble_eq_true rfl) (Nat.le_of_ble_eq_true rfl) (Nat.le_of_ble_eq_true rfl) rfl hl.1 rfl (Nat.le_of_ble_eq_true rfl) dX12_shared_21 (fun H locs X => ?_)
  refine lv_iload_n C.1.1 C.1.2.1 dX12_shared_24 rfl (lv_at hl 1 rfl) ?_
  refine lv_if_ne (tgt := 48) C.1.1 C.1.2.1 dX12_shared_25 (by decide) (fun h_z => ?_) (fun h_z => ?_)
  · rw [if_neg h_z] at hF
    exact bX12_shared_48 C O X (lv_sub hl [0] rfl) hF
  · rw [if_pos h_z] at hF
    exact bX12_shared_28 C O X (lv_sub hl [0] rfl) hF
noncomputable def fX12_shared_b14 (N : Nat) (S : gS) : Option (Int32 × gS) := bnd (fX12_fail N 1 S) fun q1 => (some (q1.1, q1.2))
theorem bX12_shared_14 {N : Nat} {S : gS} {H : Heap} {locs : List Loc} {ls : Array Slot} {o : Int32 × gS} (C : gC p s m args meth c cX12_shared 2 RX12 ((some .int)) D (mtys cI cS) mord g Am) (O : gO (mcell g cI cS sa) mord g) (X : gX D (mcell g cI cS sa) mord g S s H locs) (hl : lv_has ls 2 [(0, .ref (g 99))]) (hF : fX12_shared_b14 N S = some o) : W p l e (rmd 3) s m args below meth c H locs 0 0 (gE below args s D (mtys cI cS) (mcell g cI cS sa) mord g (some (.int o.1)) o.2) (F0 m 14 ls []) := by
  unfold fX12_shared_b14 at hF
  refine lv_aload_n C.1.1 C.1.2.1 dX12_shared_14 rfl (lv_at hl 0 rfl) ?_
  refine lv_iconst (v := 1) C.1.1 C.1.2.1 dX12_shared_15 (by decide) ?_
  obtain ⟨q1, hq1, hF⟩ := bnd_some hF
  refine m_callVi C X vX12_fail rfl (kX12_fail O C.2.2.2.2.1 N 1  S q1 hq1) (Nat.le_of_ble_eq_true rfl) (Nat.le_of_ble_eq_true rfl) (Nat.le_of_ble_eq_true rfl) (Nat.le_of_ble_eq_true rfl) rfl hl.1 rfl (Nat.le_of_ble_eq_true rfl) dX12_shared_16 (fun H locs X => ?_)
  cases hF
  exact g_iret C X dX12_shared_19
noncomputable def fX12_shared_b9 (N : Nat) (x1 : Int32) (S : gS) : Option (Int32 × gS) := if x1 ≤ 1 then fX12_shared_b20 N x1 S else fX12_shared_b14 N S
theorem bX12_shared_9 {N : Nat} {x1 : Int32} {S : gS} {H : Heap} {locs : List Loc} {ls : Array Slot} {o : Int32 × gS} (C : gC p s m args meth c cX12_shared 2 RX12 ((some .int)) D (mtys cI cS) mord g Am) (O : gO (mcell g cI cS sa) mord g) (X : gX D (mcell g cI cS sa) mord g S s H locs) (hl : lv_has ls 2 [(0, .ref (g 99)), (1, .int x1)]) (hF : fX12_shared_b9 N x1 S = some o) : W p l e (rmd 3) s m args below meth c H locs 0 0 (gE below args s D (mtys cI cS) (mcell g cI cS sa) mord g (some (.int o.1)) o.2) (F0 m 9 ls []) := by
  unfold fX12_shared_b9 at hF
  refine lv_iload_n C.1.1 C.1.2.1 dX12_shared_9 rfl (lv_at hl 1 rfl) ?_
  refine lv_iconst (v := 1) C.1.1 C.1.2.1 dX12_shared_10 (by decide) ?_
  refine lv_icmp_le (tgt := 20) C.1.1 C.1.2.1 dX12_shared_11 (by decide) (fun h_z => ?_) (fun h_z => ?_)
  · rw [if_pos h_z] at hF
    exact bX12_shared_20 C O X (lv_sub hl [0, 1] rfl) hF
  · rw [if_neg h_z] at hF
    exact bX12_shared_14 C O X (lv_sub hl [0] rfl) hF
noncomputable def fX12_shared_b0 (N : Nat) (x1 : Int32) (S : gS) : Option (Int32 × gS) := lt (sU S 99 4 0) fun S1 => (if x1 < 0 then fX12_shared_b14 N S1 else fX12_shared_b9 N x1 S1)
theorem bX12_shared_0 {N : Nat} {x1 : Int32} {S : gS} {H : Heap} {locs : List Loc} {ls : Array Slot} {o : Int32 × gS} (C : gC p s m args meth c cX12_shared 2 RX12 ((some .int)) D (mtys cI cS) mord g Am) (O : gO (mcell g cI cS sa) mord g) (X : gX D (mcell g cI cS sa) mord g S s H locs) (hl : lv_has ls 2 [(0, .ref (g 99)), (1, .int x1)]) (hF : fX12_shared_b0 N x1 S = some o) : W p l e (rmd 3) s m args below meth c H locs 0 0 (gE below args s D (mtys cI cS) (mcell g cI cS sa) mord g (some (.int o.1)) o.2) (F0 m 0 ls []) := by
  unfold fX12_shared_b0 at hF
  refine lv_aload_n C.1.1 C.1.2.1 dX12_shared_0 rfl (lv_at hl 0 rfl) ?_
  refine lv_iconst (v := 0) C.1.1 C.1.2.1 dX12_shared_1 (by decide) ?_
  obtain ⟨S1, eS1, hF⟩ := lt_some hF
  refine m_p4 C O X eS1 dX12_shared_2 (fun H locs X => ?_)
  refine lv_iload_n C.1.1 C.1.2.1 dX12_shared_5 rfl (lv_at hl 1 rfl) ?_
  refine lv_if_lt (tgt := 14) C.1.1 C.1.2.1 dX12_shared_6 (by decide) (fun h_z => ?_) (fun h_z => ?_)
  · rw [if_pos h_z] at hF
    exact bX12_shared_14 C O X (lv_sub hl [0] rfl) hF
  · rw [if_neg h_z] at hF
    exact bX12_shared_9 C O X (lv_sub hl [0, 1] rfl) hF
noncomputable def fX12_shared (N : Nat) (x1 : Int32) (S : gS) : Option (Int32 × gS) := fX12_shared_b0 N x1 S
theorem kX12_shared {l : Launch} {D : va_G} {g : Nat → Nat} {cI cS : ClassId} {sa : Nat → Nat → Option Nat} {Am : (Nat → Prop) → State → Heap → Prop} (O : gO (mcell g cI cS sa) mord g) (P : gAm Am) (N : Nat) (x1 : Int32) (S : gS) (o : Int32 × gS) (hF : fX12_shared N x1 S = some o) : gM l yX12_shared cX12_shared 2 ((some .int)) 3 D (mtys cI cS) (mcell g cI cS sa) mord g Am [.ref (g 99), .int x1] S (some (.int o.1)) o.2 :=
  gM_of O P (by decide) (Nat.le_of_ble_eq_true rfl) (fun p e s m args below meth c ls C X hl => bX12_shared_0 C O X (lv_sub hl [0, 1] rfl) hF)
-- has
noncomputable def fX12_has_b119 (N : Nat) (x3 : Int32) (S : gS) : Option (Int32 × gS) := some (x3, S)
theorem bX12_has_119 {N : Nat} {x3 : Int32} {S : gS} {H : Heap} {locs : List Loc} {ls : Array Slot} {o : Int32 × gS} (C : gC p s m args meth c cX12_has 6 RX12 ((some .int)) D (mtys cI cS) mord g Am) (O : gO (mcell g cI cS sa) mord g) (X : gX D (mcell g cI cS sa) mord g S s H locs) (hl : lv_has ls 6 [(3, .int x3)]) (hF : fX12_has_b119 N x3 S = some o) : W p l e (rmd 3) s m args below meth c H locs 0 0 (gE below args s D (mtys cI cS) (mcell g cI cS sa) mord g (some (.int o.1)) o.2) (F0 m 119 ls []) := by
  unfold fX12_has_b119 at hF
  refine lv_iload_n C.1.1 C.1.2.1 dX12_has_119 rfl (lv_at hl 0 rfl) ?_
  cases hF
  exact g_iret C X dX12_has_120
noncomputable def fX12_has_b111 (N : Nat) (r30 : Int32 → Int32 → Int32 → Int32 → gS → Option (Int32 × gS)) (x1 : Int32) (x3 : Int32) (x4 : Int32) (t0 : Int32) (t1 : Int32) (S : gS) : Option (Int32 × gS) := r30 x1 ((t0 ||| t1 : Int32)) x3 ((x4 + 1 : Int32)) S
theorem bX12_has_111 {N : Nat} {r30 : Int32 → Int32 → Int32 → Int32 → gS → Option (Int32 × gS)} {x1 : Int32} {x3 : Int32} {x4 : Int32} {t0 : Int32} {t1 : Int32} {S : gS} {H : Heap} {locs : List Loc} {ls : Array Slot} {o : Int32 × gS} (C : gC p s m args meth c cX12_has 6 RX12 ((some .int)) D (mtys cI cS) mord g Am) (O : gO (mcell g cI cS sa) mord g) (K30 : ∀ (x1 : Int32) (x2 : Int32) (x3 : Int32) (x4 : Int32) (S : gS) (H : Heap) (locs : List Loc) (ls : Array Slot), gX D (mcell g cI cS sa) mord g S s H locs → lv_has ls 6 [(0, .ref (g 99)), (1, .int x1), (2, .int x2), (3, .int x3), (4, .int x4)] → r30 x1 x2 x3 x4 S = some o → W p l e (rmd 3) s m args below meth c H locs 0 0 (gE below args s D (mtys cI cS) (mcell g cI cS sa) mord g (some (.int o.1)) o.2) (F0 m 30 ls [])) (X : gX D (mcell g cI cS sa) mord g S s H locs) (hl : lv_has ls 6 [(0, .ref (g 99)), (1, .int x1), (3, .int x3), (4, .int x4)]) (hF : fX12_has_b111 N r30 x1 x3 x4 t0 t1 S = some o) : W p l e (rmd 3) s m args below meth c H locs 0 0 (gE below args s D (mtys cI cS) (mcell g cI cS sa) mord g (some (.int o.1)) o.2) (F0 m 111 ls [.int t1, .int t0]) := by
  unfold fX12_has_b111 at hF
  refine lv_ior C.1.1 C.1.2.1 dX12_has_111 ?_
  refine lv_istore_n (lv' := [(2, .int ((t0 ||| t1 : Int32))), (0, .ref (g 99)), (1, .int x1), (3, .int x3), (4, .int x4)]) C.1.1 C.1.2.1 dX12_has_112 rfl hl (by decide) rfl (fun ls hl => ?_)
  refine lv_iinc (v := (x4 + 1 : Int32)) (lv' := [(4, .int ((x4 + 1 : Int32))), (2, .int ((t0 ||| t1 : Int32))), (0, .ref (g 99)), (1, .int x1), (3, .int x3)]) C.1.1 C.1.2.1 dX12_has_113 hl (k := 4) rfl rfl (by decide) rfl (fun ls hl => ?_)
  refine lv_goto (tgt := 30) C.1.1 C.1.2.1 dX12_has_116 (by decide) ?_
  exact K30 _ _ _ _ _ _ _ _ X (lv_sub hl [2, 3, 1, 4, 0] rfl) hF
noncomputable def fX12_has_b108 (N : Nat) (r30 : Int32 → Int32 → Int32 → Int32 → gS → Option (Int32 × gS)) (x1 : Int32) (x3 : Int32) (x4 : Int32) (t0 : Int32) (S : gS) : Option (Int32 × gS) := fX12_has_b111 N r30 x1 x3 x4 t0 (((1 : Int32) <<< (x3 &&& 31) : Int32)) S
theorem bX12_has_108 {N : Nat} {r30 : Int32 → Int32 → Int32 → Int32 → gS → Option (Int32 × gS)} {x1 : Int32} {x3 : Int32} {x4 : Int32} {t0 : Int32} {S : gS} {H : Heap} {locs : List Loc} {ls : Array Slot} {o : Int32 × gS} (C : gC p s m args meth c cX12_has 6 RX12 ((some .int)) D (mtys cI cS) mord g Am) (O : gO (mcell g cI cS sa) mord g) (K30 : ∀ (x1 : Int32) (x2 : Int32) (x3 : Int32) (x4 : Int32) (S : gS) (H : Heap) (locs : List Loc) (ls : Array Slot), gX D (mcell g cI cS sa) mord g S s H locs → lv_has ls 6 [(0, .ref (g 99)), (1, .int x1), (2, .int x2), (3, .int x3), (4, .int x4)] → r30 x1 x2 x3 x4 S = some o → W p l e (rmd 3) s m args below meth c H locs 0 0 (gE below args s D (mtys cI cS) (mcell g cI cS sa) mord g (some (.int o.1)) o.2) (F0 m 30 ls [])) (X : gX D (mcell g cI cS sa) mord g S s H locs) (hl : lv_has ls 6 [(0, .ref (g 99)), (1, .int x1), (3, .int x3), (4, .int x4)]) (hF : fX12_has_b108 N r30 x1 x3 x4 t0 S = some o) : W p l e (rmd 3) s m args below meth c H locs 0 0 (gE below args s D (mtys cI cS) (mcell g cI cS sa) mord g (some (.int o.1)) o.2) (F0 m 108 ls [.int t0]) := by
  unfold fX12_has_b108 at hF
  refine lv_iconst (v := 1) C.1.1 C.1.2.1 dX12_has_108 (by decide) ?_
  refine lv_iload_n C.1.1 C.1.2.1 dX12_has_109 rfl (lv_at hl 2 rfl) ?_
  refine lv_ishl C.1.1 C.1.2.1 dX12_has_110 ?_
  exact bX12_has_111 C O K30 X (lv_sub hl [0, 1, 2, 3] rfl) hF
noncomputable def fX12_has_b104 (N : Nat) (r30 : Int32 → Int32 → Int32 → Int32 → gS → Option (Int32 × gS)) (x1 : Int32) (x3 : Int32) (x4 : Int32) (t0 : Int32) (S : gS) : Option (Int32 × gS) := fX12_has_b111 N r30 x1 x3 x4 t0 0 S
theorem bX12_has_104 {N : Nat} {r30 : Int32 → Int32 → Int32 → Int32 → gS → Option (Int32 × gS)} {x1 : Int32} {x3 : Int32} {x4 : Int32} {t0 : Int32} {S : gS} {H : Heap} {locs : List Loc} {ls : Array Slot} {o : Int32 × gS} (C : gC p s m args meth c cX12_has 6 RX12 ((some .int)) D (mtys cI cS) mord g Am) (O : gO (mcell g cI cS sa) mord g) (K30 : ∀ (x1 : Int32) (x2 : Int32) (x3 : Int32) (x4 : Int32) (S : gS) (H : Heap) (locs : List Loc) (ls : Array Slot), gX D (mcell g cI cS sa) mord g S s H locs → lv_has ls 6 [(0, .ref (g 99)), (1, .int x1), (2, .int x2), (3, .int x3), (4, .int x4)] → r30 x1 x2 x3 x4 S = some o → W p l e (rmd 3) s m args below meth c H locs 0 0 (gE below args s D (mtys cI cS) (mcell g cI cS sa) mord g (some (.int o.1)) o.2) (F0 m 30 ls [])) (X : gX D (mcell g cI cS sa) mord g S s H locs) (hl : lv_has ls 6 [(0, .ref (g 99)), (1, .int x1), (3, .int x3), (4, .int x4)]) (hF : fX12_has_b104 N r30 x1 x3 x4 t0 S = some o) : W p l e (rmd 3) s m args below meth c H locs 0 0 (gE below args s D (mtys cI cS) (mcell g cI cS sa) mord g (some (.int o.1)) o.2) (F0 m 104 ls [.int t0]) := by
  unfold fX12_has_b104 at hF
  refine lv_iconst (v := 0) C.1.1 C.1.2.1 dX12_has_104 (by decide) ?_
  refine lv_goto (tgt := 111) C.1.1 C.1.2.1 dX12_has_105 (by decide) ?_
  exact bX12_has_111 C O K30 X (lv_sub hl [0, 1, 2, 3] rfl) hF
noncomputable def fX12_has_b98 (N : Nat) (r30 : Int32 → Int32 → Int32 → Int32 → gS → Option (Int32 × gS)) (x1 : Int32) (x2 : Int32) (x3 : Int32) (x4 : Int32) (S : gS) : Option (Int32 × gS) := if x3 = ((-1)) then fX12_has_b104 N r30 x1 x3 x4 x2 S else fX12_has_b108 N r30 x1 x3 x4 x2 S
theorem bX12_has_98 {N : Nat} {r30 : Int32 → Int32 → Int32 → Int32 → gS → Option (Int32 × gS)} {x1 : Int32} {x2 : Int32} {x3 : Int32} {x4 : Int32} {S : gS} {H : Heap} {locs : List Loc} {ls : Array Slot} {o : Int32 × gS} (C : gC p s m args meth c cX12_has 6 RX12 ((some .int)) D (mtys cI cS) mord g Am) (O : gO (mcell g cI cS sa) mord g) (K30 : ∀ (x1 : Int32) (x2 : Int32) (x3 : Int32) (x4 : Int32) (S : gS) (H : Heap) (locs : List Loc) (ls : Array Slot), gX D (mcell g cI cS sa) mord g S s H locs → lv_has ls 6 [(0, .ref (g 99)), (1, .int x1), (2, .int x2), (3, .int x3), (4, .int x4)] → r30 x1 x2 x3 x4 S = some o → W p l e (rmd 3) s m args below meth c H locs 0 0 (gE below args s D (mtys cI cS) (mcell g cI cS sa) mord g (some (.int o.1)) o.2) (F0 m 30 ls [])) (X : gX D (mcell g cI cS sa) mord g S s H locs) (hl : lv_has ls 6 [(0, .ref (g 99)), (1, .int x1), (2, .int x2), (3, .int x3), (4, .int x4)]) (hF : fX12_has_b98 N r30 x1 x2 x3 x4 S = some o) : W p l e (rmd 3) s m args below meth c H locs 0 0 (gE below args s D (mtys cI cS) (mcell g cI cS sa) mord g (some (.int o.1)) o.2) (F0 m 98 ls []) := by
  unfold fX12_has_b98 at hF
  refine lv_iload_n C.1.1 C.1.2.1 dX12_has_98 rfl (lv_at hl 2 rfl) ?_
  refine lv_iload_n C.1.1 C.1.2.1 dX12_has_99 rfl (lv_at hl 3 rfl) ?_
  refine lv_iconst (v := (-1)) C.1.1 C.1.2.1 dX12_has_100 (by decide) ?_
  refine lv_icmp_ne (tgt := 108) C.1.1 C.1.2.1 dX12_has_101 (by decide) (fun h_z => ?_) (fun h_z => ?_)
  · rw [if_neg h_z] at hF
    exact bX12_has_108 C O K30 X (lv_sub hl [0, 1, 3, 4] rfl) hF
  · rw [if_pos h_z] at hF
    exact bX12_has_104 C O K30 X (lv_sub hl [0, 1, 3, 4] rfl) hF
noncomputable def fX12_has_b92 (N : Nat) (r30 : Int32 → Int32 → Int32 → Int32 → gS → Option (Int32 × gS)) (r48 : Int32 → Int32 → Int32 → Int32 → Int32 → gS → Option (Int32 × gS)) (x1 : Int32) (x2 : Int32) (x3 : Int32) (x4 : Int32) (x5 : Int32) (S : gS) : Option (Int32 × gS) := r48 x1 x2 x3 x4 ((x5 + (-1) : Int32)) S
theorem bX12_has_92 {N : Nat} {r30 : Int32 → Int32 → Int32 → Int32 → gS → Option (Int32 × gS)} {r48 : Int32 → Int32 → Int32 → Int32 → Int32 → gS → Option (Int32 × gS)} {x1 : Int32} {x2 : Int32} {x3 : Int32} {x4 : Int32} {x5 : Int32} {S : gS} {H : Heap} {locs : List Loc} {ls : Array Slot} {o : Int32 × gS} (C : gC p s m args meth c cX12_has 6 RX12 ((some .int)) D (mtys cI cS) mord g Am) (O : gO (mcell g cI cS sa) mord g) (K30 : ∀ (x1 : Int32) (x2 : Int32) (x3 : Int32) (x4 : Int32) (S : gS) (H : Heap) (locs : List Loc) (ls : Array Slot), gX D (mcell g cI cS sa) mord g S s H locs → lv_has ls 6 [(0, .ref (g 99)), (1, .int x1), (2, .int x2), (3, .int x3), (4, .int x4)] → r30 x1 x2 x3 x4 S = some o → W p l e (rmd 3) s m args below meth c H locs 0 0 (gE below args s D (mtys cI cS) (mcell g cI cS sa) mord g (some (.int o.1)) o.2) (F0 m 30 ls [])) (K48 : ∀ (x1 : Int32) (x2 : Int32) (x3 : Int32) (x4 : Int32) (x5 : Int32) (S : gS) (H : Heap) (locs : List Loc) (ls : Array Slot), gX D (mcell g cI cS sa) mord g S s H locs → lv_has ls 6 [(0, .ref (g 99)), (1, .int x1), (2, .int x2), (3, .int x3), (4, .int x4), (5, .int x5)] → r48 x1 x2 x3 x4 x5 S = some o → W p l e (rmd 3) s m args below meth c H locs 0 0 (gE below args s D (mtys cI cS) (mcell g cI cS sa) mord g (some (.int o.1)) o.2) (F0 m 48 ls [])) (X : gX D (mcell g cI cS sa) mord g S s H locs) (hl : lv_has ls 6 [(0, .ref (g 99)), (1, .int x1), (2, .int x2), (3, .int x3), (4, .int x4), (5, .int x5)]) (hF : fX12_has_b92 N r30 r48 x1 x2 x3 x4 x5 S = some o) : W p l e (rmd 3) s m args below meth c H locs 0 0 (gE below args s D (mtys cI cS) (mcell g cI cS sa) mord g (some (.int o.1)) o.2) (F0 m 92 ls []) := by
  unfold fX12_has_b92 at hF
  refine lv_iinc (v := (x5 + (-1) : Int32)) (lv' := [(5, .int ((x5 + (-1) : Int32))), (0, .ref (g 99)), (1, .int x1), (2, .int x2), (3, .int x3), (4, .int x4)]) C.1.1 C.1.2.1 dX12_has_92 hl (k := 5) rfl rfl (by decide) rfl (fun ls hl => ?_)
  refine lv_goto (tgt := 48) C.1.1 C.1.2.1 dX12_has_95 (by decide) ?_
  exact K48 _ _ _ _ _ _ _ _ _ X (lv_sub hl [1, 2, 3, 4, 5, 0] rfl) hF
noncomputable def fX12_has_b89 (N : Nat) (r30 : Int32 → Int32 → Int32 → Int32 → gS → Option (Int32 × gS)) (r48 : Int32 → Int32 → Int32 → Int32 → Int32 → gS → Option (Int32 × gS)) (x1 : Int32) (x2 : Int32) (x4 : Int32) (x5 : Int32) (S : gS) : Option (Int32 × gS) := fX12_has_b92 N r30 r48 x1 x2 x5 x4 x5 S
theorem bX12_has_89 {N : Nat} {r30 : Int32 → Int32 → Int32 → Int32 → gS → Option (Int32 × gS)} {r48 : Int32 → Int32 → Int32 → Int32 → Int32 → gS → Option (Int32 × gS)} {x1 : Int32} {x2 : Int32} {x4 : Int32} {x5 : Int32} {S : gS} {H : Heap} {locs : List Loc} {ls : Array Slot} {o : Int32 × gS} (C : gC p s m args meth c cX12_has 6 RX12 ((some .int)) D (mtys cI cS) mord g Am) (O : gO (mcell g cI cS sa) mord g) (K30 : ∀ (x1 : Int32) (x2 : Int32) (x3 : Int32) (x4 : Int32) (S : gS) (H : Heap) (locs : List Loc) (ls : Array Slot), gX D (mcell g cI cS sa) mord g S s H locs → lv_has ls 6 [(0, .ref (g 99)), (1, .int x1), (2, .int x2), (3, .int x3), (4, .int x4)] → r30 x1 x2 x3 x4 S = some o → W p l e (rmd 3) s m args below meth c H locs 0 0 (gE below args s D (mtys cI cS) (mcell g cI cS sa) mord g (some (.int o.1)) o.2) (F0 m 30 ls [])) (K48 : ∀ (x1 : Int32) (x2 : Int32) (x3 : Int32) (x4 : Int32) (x5 : Int32) (S : gS) (H : Heap) (locs : List Loc) (ls : Array Slot), gX D (mcell g cI cS sa) mord g S s H locs → lv_has ls 6 [(0, .ref (g 99)), (1, .int x1), (2, .int x2), (3, .int x3), (4, .int x4), (5, .int x5)] → r48 x1 x2 x3 x4 x5 S = some o → W p l e (rmd 3) s m args below meth c H locs 0 0 (gE below args s D (mtys cI cS) (mcell g cI cS sa) mord g (some (.int o.1)) o.2) (F0 m 48 ls [])) (X : gX D (mcell g cI cS sa) mord g S s H locs) (hl : lv_has ls 6 [(0, .ref (g 99)), (1, .int x1), (2, .int x2), (4, .int x4), (5, .int x5)]) (hF : fX12_has_b89 N r30 r48 x1 x2 x4 x5 S = some o) : W p l e (rmd 3) s m args below meth c H locs 0 0 (gE below args s D (mtys cI cS) (mcell g cI cS sa) mord g (some (.int o.1)) o.2) (F0 m 89 ls []) := by
  unfold fX12_has_b89 at hF
  refine lv_iload C.1.1 C.1.2.1 dX12_has_89 (lv_at hl 4 rfl) ?_
  refine lv_istore_n (lv' := [(3, .int x5), (0, .ref (g 99)), (1, .int x1), (2, .int x2), (4, .int x4), (5, .int x5)]) C.1.1 C.1.2.1 dX12_has_91 rfl hl (by decide) rfl (fun ls hl => ?_)
  exact bX12_has_92 C O K30 K48 X (lv_sub hl [1, 2, 3, 0, 4, 5] rfl) hF
noncomputable def fX12_has_b65 (N : Nat) (r30 : Int32 → Int32 → Int32 → Int32 → gS → Option (Int32 × gS)) (r48 : Int32 → Int32 → Int32 → Int32 → Int32 → gS → Option (Int32 × gS)) (x1 : Int32) (x2 : Int32) (x3 : Int32) (x4 : Int32) (x5 : Int32) (S : gS) : Option (Int32 × gS) := bnd (fX12_with N x4 x2 x5 S) fun q1 => (chk (inb ((((x4 <<< ((8 : Int32) &&& 31) : Int32)) + x2 : Int32)) (1792)) (if q1.1 = (q1.2 47 (Int32.toNatClampNeg ((((x4 <<< ((8 : Int32) &&& 31) : Int32)) + x2 : Int32)))) then fX12_has_b89 N r30 r48 x1 x2 x4 x5 q1.2 else fX12_has_b92 N r30 r48 x1 x2 x3 x4 x5 q1.2))
theorem bX12_has_65 {N : Nat} {r30 : Int32 → Int32 → Int32 → Int32 → gS → Option (Int32 × gS)} {r48 : Int32 → Int32 → Int32 → Int32 → Int32 → gS → Option (Int32 × gS)} {x1 : Int32} {x2 : Int32} {x3 : Int32} {x4 : Int32} {x5 : Int32} {S : gS} {H : Heap} {locs : List Loc} {ls : Array Slot} {o : Int32 × gS} (C : gC p s m args meth c cX12_has 6 RX12 ((some .int)) D (mtys cI cS) mord g Am) (O : gO (mcell g cI cS sa) mord g) (K30 : ∀ (x1 : Int32) (x2 : Int32) (x3 : Int32) (x4 : Int32) (S : gS) (H : Heap) (locs : List Loc) (ls : Array Slot), gX D (mcell g cI cS sa) mord g S s H locs → lv_has ls 6 [(0, .ref (g 99)), (1, .int x1), (2, .int x2), (3, .int x3), (4, .int x4)] → r30 x1 x2 x3 x4 S = some o → W p l e (rmd 3) s m args below meth c H locs 0 0 (gE below args s D (mtys cI cS) (mcell g cI cS sa) mord g (some (.int o.1)) o.2) (F0 m 30 ls [])) (K48 : ∀ (x1 : Int32) (x2 : Int32) (x3 : Int32) (x4 : Int32) (x5 : Int32) (S : gS) (H : Heap) (locs : List Loc) (ls : Array Slot), gX D (mcell g cI cS sa) mord g S s H locs → lv_has ls 6 [(0, .ref (g 99)), (1, .int x1), (2, .int x2), (3, .int x3), (4, .int x4), (5, .int x5)] → r48 x1 x2 x3 x4 x5 S = some o → W p l e (rmd 3) s m args below meth c H locs 0 0 (gE below args s D (mtys cI cS) (mcell g cI cS sa) mord g (some (.int o.1)) o.2) (F0 m 48 ls [])) (X : gX D (mcell g cI cS sa) mord g S s H locs) (hl : lv_has ls 6 [(0, .ref (g 99)), (1, .int x1), (2, .int x2), (3, .int x3), (4, .int x4), (5, .int x5)]) (hF : fX12_has_b65 N r30 r48 x1 x2 x3 x4 x5 S = some o) : W p l e (rmd 3) s m args below meth c H locs 0 0 (gE below args s D (mtys cI cS) (mcell g cI cS sa) mord g (some (.int o.1)) o.2) (F0 m 65 ls []) := by
  unfold fX12_has_b65 at hF
  refine lv_aload_n C.1.1 C.1.2.1 dX12_has_65 rfl (lv_at hl 0 rfl) ?_
  refine lv_iload C.1.1 C.1.2.1 dX12_has_66 (lv_at hl 4 rfl) ?_
  refine lv_iload_n C.1.1 C.1.2.1 dX12_has_68 rfl (lv_at hl 2 rfl) ?_
  refine lv_iload C.1.1 C.1.2.1 dX12_has_69 (lv_at hl 5 rfl) ?_
  obtain ⟨q1, hq1, hF⟩ := bnd_some hF
  refine m_callVi C X vX12_with rfl (kX12_with O C.2.2.2.2.1 N x4 x2 x5  S q1 hq1) (Nat.le_of_ble_eq_true rfl) (Nat.le_of_ble_eq_true rfl) (Nat.le_of_ble_eq_true rfl) (Nat.le_of_ble_eq_true rfl) rfl hl.1 rfl (Nat.le_of_ble_eq_true rfl) dX12_has_71 (fun H locs X => ?_)
  refine lv_aload_n C.1.1 C.1.2.1 dX12_has_74 rfl (lv_at hl 0 rfl) ?_
  refine m_g47 C X dX12_has_75 ?_
  refine lv_iload C.1.1 C.1.2.1 dX12_has_78 (lv_at hl 4 rfl) ?_
  refine lv_bipush (v := 8) C.1.1 C.1.2.1 dX12_has_80 (by decide) ?_
  refine lv_ishl C.1.1 C.1.2.1 dX12_has_82 ?_
  refine lv_iload_n C.1.1 C.1.2.1 dX12_has_83 rfl (lv_at hl 2 rfl) ?_
  refine lv_iadd C.1.1 C.1.2.1 dX12_has_84 ?_
  obtain ⟨h_1, hF⟩ := chk_some hF
  refine m_r47 C X  (inb_vp h_1) rfl dX12_has_85 ?_
  refine lv_icmp_ne (tgt := 92) C.1.1 C.1.2.1 dX12_has_86 (by decide) (fun h_z => ?_) (fun h_z => ?_)
  · rw [if_neg h_z] at hF
    exact bX12_has_92 C O K30 K48 X (lv_sub hl [0, 1, 2, 3, 4, 5] rfl) hF
  · rw [if_pos h_z] at hF
    exact bX12_has_89 C O K30 K48 X (lv_sub hl [0, 1, 2, 4, 5] rfl) hF
noncomputable def fX12_has_b53 (N : Nat) (r30 : Int32 → Int32 → Int32 → Int32 → gS → Option (Int32 × gS)) (r48 : Int32 → Int32 → Int32 → Int32 → Int32 → gS → Option (Int32 × gS)) (x1 : Int32) (x2 : Int32) (x3 : Int32) (x4 : Int32) (x5 : Int32) (S : gS) : Option (Int32 × gS) := bnd (fX12_mayHave N x4 x2 x5 S) fun q1 => (if q1.1 = 0 then fX12_has_b92 N r30 r48 x1 x2 x3 x4 x5 q1.2 else fX12_has_b65 N r30 r48 x1 x2 x3 x4 x5 q1.2)
theorem bX12_has_53 {N : Nat} {r30 : Int32 → Int32 → Int32 → Int32 → gS → Option (Int32 × gS)} {r48 : Int32 → Int32 → Int32 → Int32 → Int32 → gS → Option (Int32 × gS)} {x1 : Int32} {x2 : Int32} {x3 : Int32} {x4 : Int32} {x5 : Int32} {S : gS} {H : Heap} {locs : List Loc} {ls : Array Slot} {o : Int32 × gS} (C : gC p s m args meth c cX12_has 6 RX12 ((some .int)) D (mtys cI cS) mord g Am) (O : gO (mcell g cI cS sa) mord g) (K30 : ∀ (x1 : Int32) (x2 : Int32) (x3 : Int32) (x4 : Int32) (S : gS) (H : Heap) (locs : List Loc) (ls : Array Slot), gX D (mcell g cI cS sa) mord g S s H locs → lv_has ls 6 [(0, .ref (g 99)), (1, .int x1), (2, .int x2), (3, .int x3), (4, .int x4)] → r30 x1 x2 x3 x4 S = some o → W p l e (rmd 3) s m args below meth c H locs 0 0 (gE below args s D (mtys cI cS) (mcell g cI cS sa) mord g (some (.int o.1)) o.2) (F0 m 30 ls [])) (K48 : ∀ (x1 : Int32) (x2 : Int32) (x3 : Int32) (x4 : Int32) (x5 : Int32) (S : gS) (H : Heap) (locs : List Loc) (ls : Array Slot), gX D (mcell g cI cS sa) mord g S s H locs → lv_has ls 6 [(0, .ref (g 99)), (1, .int x1), (2, .int x2), (3, .int x3), (4, .int x4), (5, .int x5)] → r48 x1 x2 x3 x4 x5 S = some o → W p l e (rmd 3) s m args below meth c H locs 0 0 (gE below args s D (mtys cI cS) (mcell g cI cS sa) mord g (some (.int o.1)) o.2) (F0 m 48 ls [])) (X : gX D (mcell g cI cS sa) mord g S s H locs) (hl : lv_has ls 6 [(0, .ref (g 99)), (1, .int x1), (2, .int x2), (3, .int x3), (4, .int x4), (5, .int x5)]) (hF : fX12_has_b53 N r30 r48 x1 x2 x3 x4 x5 S = some o) : W p l e (rmd 3) s m args below meth c H locs 0 0 (gE below args s D (mtys cI cS) (mcell g cI cS sa) mord g (some (.int o.1)) o.2) (F0 m 53 ls []) := by
  unfold fX12_has_b53 at hF
  refine lv_aload_n C.1.1 C.1.2.1 dX12_has_53 rfl (lv_at hl 0 rfl) ?_
  refine lv_iload C.1.1 C.1.2.1 dX12_has_54 (lv_at hl 4 rfl) ?_
  refine lv_iload_n C.1.1 C.1.2.1 dX12_has_56 rfl (lv_at hl 2 rfl) ?_
  refine lv_iload C.1.1 C.1.2.1 dX12_has_57 (lv_at hl 5 rfl) ?_
  obtain ⟨q1, hq1, hF⟩ := bnd_some hF
  refine m_callVi C X vX12_mayHave rfl (kX12_mayHave O C.2.2.2.2.1 N x4 x2 x5  S q1 hq1) (Nat.le_of_ble_eq_true rfl) (Nat.le_of_ble_eq_true rfl) (Nat.le_of_ble_eq_true rfl) (Nat.le_of_ble_eq_true rfl) rfl hl.1 rfl (Nat.le_of_ble_eq_true rfl) dX12_has_59 (fun H locs X => ?_)
  refine lv_if_eq (tgt := 92) C.1.1 C.1.2.1 dX12_has_62 (by decide) (fun h_z => ?_) (fun h_z => ?_)
  · rw [if_pos h_z] at hF
    exact bX12_has_92 C O K30 K48 X (lv_sub hl [0, 1, 2, 3, 4, 5] rfl) hF
  · rw [if_neg h_z] at hF
    exact bX12_has_65 C O K30 K48 X (lv_sub hl [0, 1, 2, 3, 4, 5] rfl) hF
noncomputable def fX12_has_b48 (N : Nat) (r30 : Int32 → Int32 → Int32 → Int32 → gS → Option (Int32 × gS)) (r48 : Int32 → Int32 → Int32 → Int32 → Int32 → gS → Option (Int32 × gS)) (x1 : Int32) (x2 : Int32) (x3 : Int32) (x4 : Int32) (x5 : Int32) (S : gS) : Option (Int32 × gS) := if x5 < 0 then fX12_has_b98 N r30 x1 x2 x3 x4 S else fX12_has_b53 N r30 r48 x1 x2 x3 x4 x5 S
theorem bX12_has_48 {N : Nat} {r30 : Int32 → Int32 → Int32 → Int32 → gS → Option (Int32 × gS)} {r48 : Int32 → Int32 → Int32 → Int32 → Int32 → gS → Option (Int32 × gS)} {x1 : Int32} {x2 : Int32} {x3 : Int32} {x4 : Int32} {x5 : Int32} {S : gS} {H : Heap} {locs : List Loc} {ls : Array Slot} {o : Int32 × gS} (C : gC p s m args meth c cX12_has 6 RX12 ((some .int)) D (mtys cI cS) mord g Am) (O : gO (mcell g cI cS sa) mord g) (K30 : ∀ (x1 : Int32) (x2 : Int32) (x3 : Int32) (x4 : Int32) (S : gS) (H : Heap) (locs : List Loc) (ls : Array Slot), gX D (mcell g cI cS sa) mord g S s H locs → lv_has ls 6 [(0, .ref (g 99)), (1, .int x1), (2, .int x2), (3, .int x3), (4, .int x4)] → r30 x1 x2 x3 x4 S = some o → W p l e (rmd 3) s m args below meth c H locs 0 0 (gE below args s D (mtys cI cS) (mcell g cI cS sa) mord g (some (.int o.1)) o.2) (F0 m 30 ls [])) (K48 : ∀ (x1 : Int32) (x2 : Int32) (x3 : Int32) (x4 : Int32) (x5 : Int32) (S : gS) (H : Heap) (locs : List Loc) (ls : Array Slot), gX D (mcell g cI cS sa) mord g S s H locs → lv_has ls 6 [(0, .ref (g 99)), (1, .int x1), (2, .int x2), (3, .int x3), (4, .int x4), (5, .int x5)] → r48 x1 x2 x3 x4 x5 S = some o → W p l e (rmd 3) s m args below meth c H locs 0 0 (gE below args s D (mtys cI cS) (mcell g cI cS sa) mord g (some (.int o.1)) o.2) (F0 m 48 ls [])) (X : gX D (mcell g cI cS sa) mord g S s H locs) (hl : lv_has ls 6 [(0, .ref (g 99)), (1, .int x1), (2, .int x2), (3, .int x3), (4, .int x4), (5, .int x5)]) (hF : fX12_has_b48 N r30 r48 x1 x2 x3 x4 x5 S = some o) : W p l e (rmd 3) s m args below meth c H locs 0 0 (gE below args s D (mtys cI cS) (mcell g cI cS sa) mord g (some (.int o.1)) o.2) (F0 m 48 ls []) := by
  unfold fX12_has_b48 at hF
  refine lv_iload C.1.1 C.1.2.1 dX12_has_48 (lv_at hl 5 rfl) ?_
  refine lv_if_lt (tgt := 98) C.1.1 C.1.2.1 dX12_has_50 (by decide) (fun h_z => ?_) (fun h_z => ?_)
  · rw [if_pos h_z] at hF
    exact bX12_has_98 C O K30 X (lv_sub hl [0, 1, 2, 3, 4] rfl) hF
  · rw [if_neg h_z] at hF
    exact bX12_has_53 C O K30 K48 X (lv_sub hl [0, 1, 2, 3, 4, 5] rfl) hF
noncomputable def fX12_has_h48 (N : Nat) (r30 : Int32 → Int32 → Int32 → Int32 → gS → Option (Int32 × gS)) : Nat → Int32 → Int32 → Int32 → Int32 → Int32 → gS → Option (Int32 × gS)
  | 0, _, _, _, _, _, _ => none
  | n + 1, x1, x2, x3, x4, x5, S => fX12_has_b48 N r30 (fX12_has_h48 N r30 n) x1 x2 x3 x4 x5 S
theorem hX12_has_48 {N : Nat} {r30 : Int32 → Int32 → Int32 → Int32 → gS → Option (Int32 × gS)} {o : Int32 × gS} (C : gC p s m args meth c cX12_has 6 RX12 ((some .int)) D (mtys cI cS) mord g Am) (O : gO (mcell g cI cS sa) mord g) (K30 : ∀ (x1 : Int32) (x2 : Int32) (x3 : Int32) (x4 : Int32) (S : gS) (H : Heap) (locs : List Loc) (ls : Array Slot), gX D (mcell g cI cS sa) mord g S s H locs → lv_has ls 6 [(0, .ref (g 99)), (1, .int x1), (2, .int x2), (3, .int x3), (4, .int x4)] → r30 x1 x2 x3 x4 S = some o → W p l e (rmd 3) s m args below meth c H locs 0 0 (gE below args s D (mtys cI cS) (mcell g cI cS sa) mord g (some (.int o.1)) o.2) (F0 m 30 ls [])) : ∀ (n : Nat) (x1 : Int32) (x2 : Int32) (x3 : Int32) (x4 : Int32) (x5 : Int32) (S : gS) (H : Heap) (locs : List Loc) (ls : Array Slot), gX D (mcell g cI cS sa) mord g S s H locs → lv_has ls 6 [(0, .ref (g 99)), (1, .int x1), (2, .int x2), (3, .int x3), (4, .int x4), (5, .int x5)] → fX12_has_h48 N r30 n x1 x2 x3 x4 x5 S = some o → W p l e (rmd 3) s m args below meth c H locs 0 0 (gE below args s D (mtys cI cS) (mcell g cI cS sa) mord g (some (.int o.1)) o.2) (F0 m 48 ls []) := by
  intro n
  induction n with
  | zero =>
    intro x1 x2 x3 x4 x5 S H locs ls X hl hF
    exact absurd (show (none : Option (Int32 × gS)) = some o from hF) (by simp)
  | succ n ih =>
    intro x1 x2 x3 x4 x5 S H locs ls X hl hF
    have hF : fX12_has_b48 N r30 (fX12_has_h48 N r30 n) x1 x2 x3 x4 x5 S = some o := hF
    exact bX12_has_48 C O K30 ih X hl hF
noncomputable def fX12_has_b36 (N : Nat) (r30 : Int32 → Int32 → Int32 → Int32 → gS → Option (Int32 × gS)) (x1 : Int32) (x2 : Int32) (x4 : Int32) (S : gS) : Option (Int32 × gS) := fX12_has_h48 N r30 N x1 x2 ((-1)) x4 (((S 5 0) - 1 : Int32)) S
theorem bX12_has_36 {N : Nat} {r30 : Int32 → Int32 → Int32 → Int32 → gS → Option (Int32 × gS)} {x1 : Int32} {x2 : Int32} {x4 : Int32} {S : gS} {H : Heap} {locs : List Loc} {ls : Array Slot} {o : Int32 × gS} (C : gC p s m args meth c cX12_has 6 RX12 ((some .int)) D (mtys cI cS) mord g Am) (O : gO (mcell g cI cS sa) mord g) (K30 : ∀ (x1 : Int32) (x2 : Int32) (x3 : Int32) (x4 : Int32) (S : gS) (H : Heap) (locs : List Loc) (ls : Array Slot), gX D (mcell g cI cS sa) mord g S s H locs → lv_has ls 6 [(0, .ref (g 99)), (1, .int x1), (2, .int x2), (3, .int x3), (4, .int x4)] → r30 x1 x2 x3 x4 S = some o → W p l e (rmd 3) s m args below meth c H locs 0 0 (gE below args s D (mtys cI cS) (mcell g cI cS sa) mord g (some (.int o.1)) o.2) (F0 m 30 ls [])) (X : gX D (mcell g cI cS sa) mord g S s H locs) (hl : lv_has ls 6 [(0, .ref (g 99)), (1, .int x1), (2, .int x2), (4, .int x4)]) (hF : fX12_has_b36 N r30 x1 x2 x4 S = some o) : W p l e (rmd 3) s m args below meth c H locs 0 0 (gE below args s D (mtys cI cS) (mcell g cI cS sa) mord g (some (.int o.1)) o.2) (F0 m 36 ls []) := by
  unfold fX12_has_b36 at hF
  refine lv_iconst (v := (-1)) C.1.1 C.1.2.1 dX12_has_36 (by decide) ?_
  refine lv_istore_n (lv' := [(3, .int ((-1))), (0, .ref (g 99)), (1, .int x1), (2, .int x2), (4, .int x4)]) C.1.1 C.1.2.1 dX12_has_37 rfl hl (by decide) rfl (fun ls hl => ?_)
  refine lv_aload_n C.1.1 C.1.2.1 dX12_has_38 rfl (lv_at hl 1 rfl) ?_
  refine m_g5 C X dX12_has_39 ?_
  refine lv_iconst (v := 0) C.1.1 C.1.2.1 dX12_has_42 (by decide) ?_
  refine m_r5 C X (j := 0) (inb_vp (by decide)) (by decide) dX12_has_43 ?_
  refine lv_iconst (v := 1) C.1.1 C.1.2.1 dX12_has_44 (by decide) ?_
  refine lv_isub C.1.1 C.1.2.1 dX12_has_45 ?_
  refine lv_istore (lv' := [(5, .int (((S 5 0) - 1 : Int32))), (3, .int ((-1))), (0, .ref (g 99)), (1, .int x1), (2, .int x2), (4, .int x4)]) C.1.1 C.1.2.1 dX12_has_46 hl (by decide) rfl (fun ls hl => ?_)
  exact hX12_has_48 C O K30 N _ _ _ _ _ _ _ _ _ X (lv_sub hl [2, 3, 4, 1, 5, 0] rfl) hF
noncomputable def fX12_has_b30 (N : Nat) (r30 : Int32 → Int32 → Int32 → Int32 → gS → Option (Int32 × gS)) (x1 : Int32) (x2 : Int32) (x3 : Int32) (x4 : Int32) (S : gS) : Option (Int32 × gS) := if x1 < x4 then fX12_has_b119 N x3 S else fX12_has_b36 N r30 x1 x2 x4 S
theorem bX12_has_30 {N : Nat} {r30 : Int32 → Int32 → Int32 → Int32 → gS → Option (Int32 × gS)} {x1 : Int32} {x2 : Int32} {x3 : Int32} {x4 : Int32} {S : gS} {H : Heap} {locs : List Loc} {ls : Array Slot} {o : Int32 × gS} (C : gC p s m args meth c cX12_has 6 RX12 ((some .int)) D (mtys cI cS) mord g Am) (O : gO (mcell g cI cS sa) mord g) (K30 : ∀ (x1 : Int32) (x2 : Int32) (x3 : Int32) (x4 : Int32) (S : gS) (H : Heap) (locs : List Loc) (ls : Array Slot), gX D (mcell g cI cS sa) mord g S s H locs → lv_has ls 6 [(0, .ref (g 99)), (1, .int x1), (2, .int x2), (3, .int x3), (4, .int x4)] → r30 x1 x2 x3 x4 S = some o → W p l e (rmd 3) s m args below meth c H locs 0 0 (gE below args s D (mtys cI cS) (mcell g cI cS sa) mord g (some (.int o.1)) o.2) (F0 m 30 ls [])) (X : gX D (mcell g cI cS sa) mord g S s H locs) (hl : lv_has ls 6 [(0, .ref (g 99)), (1, .int x1), (2, .int x2), (3, .int x3), (4, .int x4)]) (hF : fX12_has_b30 N r30 x1 x2 x3 x4 S = some o) : W p l e (rmd 3) s m args below meth c H locs 0 0 (gE below args s D (mtys cI cS) (mcell g cI cS sa) mord g (some (.int o.1)) o.2) (F0 m 30 ls []) := by
  unfold fX12_has_b30 at hF
  refine lv_iload C.1.1 C.1.2.1 dX12_has_30 (lv_at hl 4 rfl) ?_
  refine lv_iload_n C.1.1 C.1.2.1 dX12_has_32 rfl (lv_at hl 1 rfl) ?_
  refine lv_icmp_gt (tgt := 119) C.1.1 C.1.2.1 dX12_has_33 (by decide) (fun h_z => ?_) (fun h_z => ?_)
  · rw [if_pos h_z] at hF
    exact bX12_has_119 C O X (lv_sub hl [3] rfl) hF
  · rw [if_neg h_z] at hF
    exact bX12_has_36 C O K30 X (lv_sub hl [0, 1, 2, 4] rfl) hF
noncomputable def fX12_has_h30 (N : Nat) : Nat → Int32 → Int32 → Int32 → Int32 → gS → Option (Int32 × gS)
  | 0, _, _, _, _, _ => none
  | n + 1, x1, x2, x3, x4, S => fX12_has_b30 N (fX12_has_h30 N n) x1 x2 x3 x4 S
theorem hX12_has_30 {N : Nat} {o : Int32 × gS} (C : gC p s m args meth c cX12_has 6 RX12 ((some .int)) D (mtys cI cS) mord g Am) (O : gO (mcell g cI cS sa) mord g) : ∀ (n : Nat) (x1 : Int32) (x2 : Int32) (x3 : Int32) (x4 : Int32) (S : gS) (H : Heap) (locs : List Loc) (ls : Array Slot), gX D (mcell g cI cS sa) mord g S s H locs → lv_has ls 6 [(0, .ref (g 99)), (1, .int x1), (2, .int x2), (3, .int x3), (4, .int x4)] → fX12_has_h30 N n x1 x2 x3 x4 S = some o → W p l e (rmd 3) s m args below meth c H locs 0 0 (gE below args s D (mtys cI cS) (mcell g cI cS sa) mord g (some (.int o.1)) o.2) (F0 m 30 ls []) := by
  intro n
  induction n with
  | zero =>
    intro x1 x2 x3 x4 S H locs ls X hl hF
    exact absurd (show (none : Option (Int32 × gS)) = some o from hF) (by simp)
  | succ n ih =>
    intro x1 x2 x3 x4 S H locs ls X hl hF
    have hF : fX12_has_b30 N (fX12_has_h30 N n) x1 x2 x3 x4 S = some o := hF
    exact bX12_has_30 C O ih X hl hF
noncomputable def fX12_has_b19 (N : Nat) (x1 : Int32) (S : gS) : Option (Int32 × gS) := bnd (fX12_tellLeast N  S) fun q1 => (fX12_has_h30 N N x1 0 ((-1)) 0 q1.2)
theorem bX12_has_19 {N : Nat} {x1 : Int32} {S : gS} {H : Heap} {locs : List Loc} {ls : Array Slot} {o : Int32 × gS} (C : gC p s m args meth c cX12_has 6 RX12 ((some .int)) D (mtys cI cS) mord g Am) (O : gO (mcell g cI cS sa) mord g) (X : gX D (mcell g cI cS sa) mord g S s H locs) (hl : lv_has ls 6 [(0, .ref (g 99)), (1, .int x1)]) (hF : fX12_has_b19 N x1 S = some o) : W p l e (rmd 3) s m args below meth c H locs 0 0 (gE below args s D (mtys cI cS) (mcell g cI cS sa) mord g (some (.int o.1)) o.2) (F0 m 19 ls []) := by
  unfold fX12_has_b19 at hF
  refine lv_aload_n C.1.1 C.1.2.1 dX12_has_19 rfl (lv_at hl 0 rfl) ?_
  obtain ⟨q1, hq1, hF⟩ := bnd_some hF
  refine m_callV C X vX12_tellLeast rfl (kX12_tellLeast O C.2.2.2.2.1 N   S q1 hq1) (Nat.le_of_ble_eq_true rfl) (Nat.le_of_ble_eq_true rfl) (Nat.le_of_ble_eq_true rfl) (Nat.le_of_ble_eq_true rfl) rfl hl.1 rfl (Nat.le_of_ble_eq_true rfl) dX12_has_20 (fun H locs X => ?_)
  refine lv_iconst (v := 0) C.1.1 C.1.2.1 dX12_has_23 (by decide) ?_
  refine lv_istore_n (lv' := [(2, .int 0), (0, .ref (g 99)), (1, .int x1)]) C.1.1 C.1.2.1 dX12_has_24 rfl hl (by decide) rfl (fun ls hl => ?_)
  refine lv_iconst (v := (-1)) C.1.1 C.1.2.1 dX12_has_25 (by decide) ?_
  refine lv_istore_n (lv' := [(3, .int ((-1))), (2, .int 0), (0, .ref (g 99)), (1, .int x1)]) C.1.1 C.1.2.1 dX12_has_26 rfl hl (by decide) rfl (fun ls hl => ?_)
  refine lv_iconst (v := 0) C.1.1 C.1.2.1 dX12_has_27 (by decide) ?_
  refine lv_istore (lv' := [(4, .int 0), (3, .int ((-1))), (2, .int 0), (0, .ref (g 99)), (1, .int x1)]) C.1.1 C.1.2.1 dX12_has_28 hl (by decide) rfl (fun ls hl => ?_)
  exact hX12_has_30 C O N _ _ _ _ _ _ _ _ X (lv_sub hl [3, 4, 2, 1, 0] rfl) hF
noncomputable def fX12_has_b13 (N : Nat) (S : gS) : Option (Int32 × gS) := bnd (fX12_fail N 1 S) fun q1 => (some (q1.1, q1.2))
theorem bX12_has_13 {N : Nat} {S : gS} {H : Heap} {locs : List Loc} {ls : Array Slot} {o : Int32 × gS} (C : gC p s m args meth c cX12_has 6 RX12 ((some .int)) D (mtys cI cS) mord g Am) (O : gO (mcell g cI cS sa) mord g) (X : gX D (mcell g cI cS sa) mord g S s H locs) (hl : lv_has ls 6 [(0, .ref (g 99))]) (hF : fX12_has_b13 N S = some o) : W p l e (rmd 3) s m args below meth c H locs 0 0 (gE below args s D (mtys cI cS) (mcell g cI cS sa) mord g (some (.int o.1)) o.2) (F0 m 13 ls []) := by
  unfold fX12_has_b13 at hF
  refine lv_aload_n C.1.1 C.1.2.1 dX12_has_13 rfl (lv_at hl 0 rfl) ?_
  refine lv_iconst (v := 1) C.1.1 C.1.2.1 dX12_has_14 (by decide) ?_
  obtain ⟨q1, hq1, hF⟩ := bnd_some hF
  refine m_callVi C X vX12_fail rfl (kX12_fail O C.2.2.2.2.1 N 1  S q1 hq1) (Nat.le_of_ble_eq_true rfl) (Nat.le_of_ble_eq_true rfl) (Nat.le_of_ble_eq_true rfl) (Nat.le_of_ble_eq_true rfl) rfl hl.1 rfl (Nat.le_of_ble_eq_true rfl) dX12_has_15 (fun H locs X => ?_)
  cases hF
  exact g_iret C X dX12_has_18
noncomputable def fX12_has_b0 (N : Nat) (x1 : Int32) (S : gS) : Option (Int32 × gS) := lt (sU S 99 4 0) fun S1 => (bnd (fX12_isGuild N x1 S1) fun q1 => (if q1.1 = 0 then fX12_has_b13 N q1.2 else fX12_has_b19 N x1 q1.2))
theorem bX12_has_0 {N : Nat} {x1 : Int32} {S : gS} {H : Heap} {locs : List Loc} {ls : Array Slot} {o : Int32 × gS} (C : gC p s m args meth c cX12_has 6 RX12 ((some .int)) D (mtys cI cS) mord g Am) (O : gO (mcell g cI cS sa) mord g) (X : gX D (mcell g cI cS sa) mord g S s H locs) (hl : lv_has ls 6 [(0, .ref (g 99)), (1, .int x1)]) (hF : fX12_has_b0 N x1 S = some o) : W p l e (rmd 3) s m args below meth c H locs 0 0 (gE below args s D (mtys cI cS) (mcell g cI cS sa) mord g (some (.int o.1)) o.2) (F0 m 0 ls []) := by
  unfold fX12_has_b0 at hF
  refine lv_aload_n C.1.1 C.1.2.1 dX12_has_0 rfl (lv_at hl 0 rfl) ?_
  refine lv_iconst (v := 0) C.1.1 C.1.2.1 dX12_has_1 (by decide) ?_
  obtain ⟨S1, eS1, hF⟩ := lt_some hF
  refine m_p4 C O X eS1 dX12_has_2 (fun H locs X => ?_)
  refine lv_aload_n C.1.1 C.1.2.1 dX12_has_5 rfl (lv_at hl 0 rfl) ?_
  refine lv_iload_n C.1.1 C.1.2.1 dX12_has_6 rfl (lv_at hl 1 rfl) ?_
  obtain ⟨q1, hq1, hF⟩ := bnd_some hF
  refine m_callVi C X vX12_isGuild rfl (kX12_isGuild O C.2.2.2.2.1 N x1  S1 q1 hq1) (Nat.le_of_ble_eq_true rfl) (Nat.le_of_ble_eq_true rfl) (Nat.le_of_ble_eq_true rfl) (Nat.le_of_ble_eq_true rfl) rfl hl.1 rfl (Nat.le_of_ble_eq_true rfl) dX12_has_7 (fun H locs X => ?_)
  refine lv_if_ne (tgt := 19) C.1.1 C.1.2.1 dX12_has_10 (by decide) (fun h_z => ?_) (fun h_z => ?_)
  · rw [if_neg h_z] at hF
    exact bX12_has_19 C O X (lv_sub hl [0, 1] rfl) hF
  · rw [if_pos h_z] at hF
    exact bX12_has_13 C O X (lv_sub hl [0] rfl) hF
noncomputable def fX12_has (N : Nat) (x1 : Int32) (S : gS) : Option (Int32 × gS) := fX12_has_b0 N x1 S
theorem kX12_has {l : Launch} {D : va_G} {g : Nat → Nat} {cI cS : ClassId} {sa : Nat → Nat → Option Nat} {Am : (Nat → Prop) → State → Heap → Prop} (O : gO (mcell g cI cS sa) mord g) (P : gAm Am) (N : Nat) (x1 : Int32) (S : gS) (o : Int32 × gS) (hF : fX12_has N x1 S = some o) : gM l yX12_has cX12_has 6 ((some .int)) 3 D (mtys cI cS) (mcell g cI cS sa) mord g Am [.ref (g 99), .int x1] S (some (.int o.1)) o.2 :=
  gM_of O P (by decide) (Nat.le_of_ble_eq_true rfl) (fun p e s m args below meth c ls C X hl => bX12_has_0 C O X (lv_sub hl [0, 1] rfl) hF)
-- toGive
noncomputable def fX12_toGive_b120 (N : Nat) (x4 : Int32) (S : gS) : Option (Int32 × gS) := some (x4, S)
theorem bX12_toGive_120 {N : Nat} {x4 : Int32} {S : gS} {H : Heap} {locs : List Loc} {ls : Array Slot} {o : Int32 × gS} (C : gC p s m args meth c cX12_toGive 6 RX12 ((some .int)) D (mtys cI cS) mord g Am) (O : gO (mcell g cI cS sa) mord g) (X : gX D (mcell g cI cS sa) mord g S s H locs) (hl : lv_has ls 6 [(4, .int x4)]) (hF : fX12_toGive_b120 N x4 S = some o) : W p l e (rmd 7) s m args below meth c H locs 0 0 (gE below args s D (mtys cI cS) (mcell g cI cS sa) mord g (some (.int o.1)) o.2) (F0 m 120 ls []) := by
  unfold fX12_toGive_b120 at hF
  refine lv_iload C.1.1 C.1.2.1 dX12_toGive_120 (lv_at hl 0 rfl) ?_
  cases hF
  exact g_iret C X dX12_toGive_122
noncomputable def fX12_toGive_b105 (N : Nat) (r59 : Int32 → Int32 → Int32 → Int32 → Int32 → gS → Option (Int32 × gS)) (x1 : Int32) (x2 : Int32) (x3 : Int32) (x4 : Int32) (x5 : Int32) (S : gS) : Option (Int32 × gS) := bnd (fX12_unpack N 46 0 S) fun q1 => (r59 x1 x2 x3 x4 ((x5 + 1 : Int32)) q1.2)
theorem bX12_toGive_105 {N : Nat} {r59 : Int32 → Int32 → Int32 → Int32 → Int32 → gS → Option (Int32 × gS)} {x1 : Int32} {x2 : Int32} {x3 : Int32} {x4 : Int32} {x5 : Int32} {S : gS} {H : Heap} {locs : List Loc} {ls : Array Slot} {o : Int32 × gS} (C : gC p s m args meth c cX12_toGive 6 RX12 ((some .int)) D (mtys cI cS) mord g Am) (O : gO (mcell g cI cS sa) mord g) (K59 : ∀ (x1 : Int32) (x2 : Int32) (x3 : Int32) (x4 : Int32) (x5 : Int32) (S : gS) (H : Heap) (locs : List Loc) (ls : Array Slot), gX D (mcell g cI cS sa) mord g S s H locs → lv_has ls 6 [(0, .ref (g 99)), (1, .int x1), (2, .int x2), (3, .int x3), (4, .int x4), (5, .int x5)] → r59 x1 x2 x3 x4 x5 S = some o → W p l e (rmd 7) s m args below meth c H locs 0 0 (gE below args s D (mtys cI cS) (mcell g cI cS sa) mord g (some (.int o.1)) o.2) (F0 m 59 ls [])) (X : gX D (mcell g cI cS sa) mord g S s H locs) (hl : lv_has ls 6 [(0, .ref (g 99)), (1, .int x1), (2, .int x2), (3, .int x3), (4, .int x4), (5, .int x5)]) (hF : fX12_toGive_b105 N r59 x1 x2 x3 x4 x5 S = some o) : W p l e (rmd 7) s m args below meth c H locs 0 0 (gE below args s D (mtys cI cS) (mcell g cI cS sa) mord g (some (.int o.1)) o.2) (F0 m 105 ls []) := by
  unfold fX12_toGive_b105 at hF
  refine lv_aload_n C.1.1 C.1.2.1 dX12_toGive_105 rfl (lv_at hl 0 rfl) ?_
  refine lv_aload_n C.1.1 C.1.2.1 dX12_toGive_106 rfl (lv_at hl 0 rfl) ?_
  refine m_g46 C X dX12_toGive_107 ?_
  refine lv_iconst (v := 0) C.1.1 C.1.2.1 dX12_toGive_110 (by decide) ?_
  obtain ⟨q1, hq1, hF⟩ := bnd_some hF
  refine m_callV C X vX12_unpack rfl (kX12_unpack O C.2.2.2.2.1 N 46 0 (rfl : mI 46 = true) S q1 hq1) (Nat.le_of_ble_eq_true rfl) (Nat.le_of_ble_eq_true rfl) (Nat.le_of_ble_eq_true rfl) (Nat.le_of_ble_eq_true rfl) rfl hl.1 rfl (Nat.le_of_ble_eq_true rfl) dX12_toGive_111 (fun H locs X => ?_)
  refine lv_iinc (v := (x5 + 1 : Int32)) (lv' := [(5, .int ((x5 + 1 : Int32))), (0, .ref (g 99)), (1, .int x1), (2, .int x2), (3, .int x3), (4, .int x4)]) C.1.1 C.1.2.1 dX12_toGive_114 hl (k := 5) rfl rfl (by decide) rfl (fun ls hl => ?_)
  refine lv_goto (tgt := 59) C.1.1 C.1.2.1 dX12_toGive_117 (by decide) ?_
  exact K59 _ _ _ _ _ _ _ _ _ X (lv_sub hl [1, 2, 3, 4, 5, 0] rfl) hF
noncomputable def fX12_toGive_b101 (N : Nat) (r59 : Int32 → Int32 → Int32 → Int32 → Int32 → gS → Option (Int32 × gS)) (x1 : Int32) (x2 : Int32) (x3 : Int32) (x5 : Int32) (S : gS) : Option (Int32 × gS) := fX12_toGive_b105 N r59 x1 x2 x3 x5 x5 S
theorem bX12_toGive_101 {N : Nat} {r59 : Int32 → Int32 → Int32 → Int32 → Int32 → gS → Option (Int32 × gS)} {x1 : Int32} {x2 : Int32} {x3 : Int32} {x5 : Int32} {S : gS} {H : Heap} {locs : List Loc} {ls : Array Slot} {o : Int32 × gS} (C : gC p s m args meth c cX12_toGive 6 RX12 ((some .int)) D (mtys cI cS) mord g Am) (O : gO (mcell g cI cS sa) mord g) (K59 : ∀ (x1 : Int32) (x2 : Int32) (x3 : Int32) (x4 : Int32) (x5 : Int32) (S : gS) (H : Heap) (locs : List Loc) (ls : Array Slot), gX D (mcell g cI cS sa) mord g S s H locs → lv_has ls 6 [(0, .ref (g 99)), (1, .int x1), (2, .int x2), (3, .int x3), (4, .int x4), (5, .int x5)] → r59 x1 x2 x3 x4 x5 S = some o → W p l e (rmd 7) s m args below meth c H locs 0 0 (gE below args s D (mtys cI cS) (mcell g cI cS sa) mord g (some (.int o.1)) o.2) (F0 m 59 ls [])) (X : gX D (mcell g cI cS sa) mord g S s H locs) (hl : lv_has ls 6 [(0, .ref (g 99)), (1, .int x1), (2, .int x2), (3, .int x3), (5, .int x5)]) (hF : fX12_toGive_b101 N r59 x1 x2 x3 x5 S = some o) : W p l e (rmd 7) s m args below meth c H locs 0 0 (gE below args s D (mtys cI cS) (mcell g cI cS sa) mord g (some (.int o.1)) o.2) (F0 m 101 ls []) := by
  unfold fX12_toGive_b101 at hF
  refine lv_iload C.1.1 C.1.2.1 dX12_toGive_101 (lv_at hl 4 rfl) ?_
  refine lv_istore (lv' := [(4, .int x5), (0, .ref (g 99)), (1, .int x1), (2, .int x2), (3, .int x3), (5, .int x5)]) C.1.1 C.1.2.1 dX12_toGive_103 hl (by decide) rfl (fun ls hl => ?_)
  exact bX12_toGive_105 C O K59 X (lv_sub hl [1, 2, 3, 4, 0, 5] rfl) hF
noncomputable def fX12_toGive_b78 (N : Nat) (r59 : Int32 → Int32 → Int32 → Int32 → Int32 → gS → Option (Int32 × gS)) (x1 : Int32) (x2 : Int32) (x3 : Int32) (x4 : Int32) (x5 : Int32) (S : gS) : Option (Int32 × gS) := chk (inb x1 (6)) (lt (sU S 33 (Int32.toNatClampNeg x1) x5) fun S1 => (bnd (fX12_goOn N x2 S1) fun q1 => (chk (inb x1 (6)) (if (q1.2 35 (Int32.toNatClampNeg x1)) = x3 then fX12_toGive_b101 N r59 x1 x2 x3 x5 q1.2 else fX12_toGive_b105 N r59 x1 x2 x3 x4 x5 q1.2))))
theorem bX12_toGive_78 {N : Nat} {r59 : Int32 → Int32 → Int32 → Int32 → Int32 → gS → Option (Int32 × gS)} {x1 : Int32} {x2 : Int32} {x3 : Int32} {x4 : Int32} {x5 : Int32} {S : gS} {H : Heap} {locs : List Loc} {ls : Array Slot} {o : Int32 × gS} (C : gC p s m args meth c cX12_toGive 6 RX12 ((some .int)) D (mtys cI cS) mord g Am) (O : gO (mcell g cI cS sa) mord g) (K59 : ∀ (x1 : Int32) (x2 : Int32) (x3 : Int32) (x4 : Int32) (x5 : Int32) (S : gS) (H : Heap) (locs : List Loc) (ls : Array Slot), gX D (mcell g cI cS sa) mord g S s H locs → lv_has ls 6 [(0, .ref (g 99)), (1, .int x1), (2, .int x2), (3, .int x3), (4, .int x4), (5, .int x5)] → r59 x1 x2 x3 x4 x5 S = some o → W p l e (rmd 7) s m args below meth c H locs 0 0 (gE below args s D (mtys cI cS) (mcell g cI cS sa) mord g (some (.int o.1)) o.2) (F0 m 59 ls [])) (X : gX D (mcell g cI cS sa) mord g S s H locs) (hl : lv_has ls 6 [(0, .ref (g 99)), (1, .int x1), (2, .int x2), (3, .int x3), (4, .int x4), (5, .int x5)]) (hF : fX12_toGive_b78 N r59 x1 x2 x3 x4 x5 S = some o) : W p l e (rmd 7) s m args below meth c H locs 0 0 (gE below args s D (mtys cI cS) (mcell g cI cS sa) mord g (some (.int o.1)) o.2) (F0 m 78 ls []) := by
  unfold fX12_toGive_b78 at hF
  refine lv_aload_n C.1.1 C.1.2.1 dX12_toGive_78 rfl (lv_at hl 0 rfl) ?_
  refine m_g33 C X dX12_toGive_79 ?_
  refine lv_iload_n C.1.1 C.1.2.1 dX12_toGive_82 rfl (lv_at hl 1 rfl) ?_
  refine lv_iload C.1.1 C.1.2.1 dX12_toGive_83 (lv_at hl 5 rfl) ?_
  obtain ⟨h_1, hF⟩ := chk_some hF
  obtain ⟨S1, eS1, hF⟩ := lt_some hF
  refine m_w33 C O X  (inb_vp h_1) rfl eS1 dX12_toGive_85 (fun H locs X => ?_)
  refine lv_aload_n C.1.1 C.1.2.1 dX12_toGive_86 rfl (lv_at hl 0 rfl) ?_
  refine lv_iload_n C.1.1 C.1.2.1 dX12_toGive_87 rfl (lv_at hl 2 rfl) ?_
  obtain ⟨q1, hq1, hF⟩ := bnd_some hF
  refine m_callV C X vX12_goOn rfl (kX12_goOn O C.2.2.2.2.1 N x2  S1 q1 hq1) (Nat.le_of_ble_eq_true rfl) (Nat.le_of_ble_eq_true rfl) (Nat.le_of_ble_eq_true rfl) (Nat.le_of_ble_eq_true rfl) rfl hl.1 rfl (Nat.le_of_ble_eq_true rfl) dX12_toGive_88 (fun H locs X => ?_)
  refine lv_aload_n C.1.1 C.1.2.1 dX12_toGive_91 rfl (lv_at hl 0 rfl) ?_
  refine m_g35 C X dX12_toGive_92 ?_
  refine lv_iload_n C.1.1 C.1.2.1 dX12_toGive_95 rfl (lv_at hl 1 rfl) ?_
  obtain ⟨h_2, hF⟩ := chk_some hF
  refine m_r35 C X  (inb_vp h_2) rfl dX12_toGive_96 ?_
  refine lv_iload_n C.1.1 C.1.2.1 dX12_toGive_97 rfl (lv_at hl 3 rfl) ?_
  refine lv_icmp_ne (tgt := 105) C.1.1 C.1.2.1 dX12_toGive_98 (by decide) (fun h_z => ?_) (fun h_z => ?_)
  · rw [if_neg h_z] at hF
    exact bX12_toGive_105 C O K59 X (lv_sub hl [0, 1, 2, 3, 4, 5] rfl) hF
  · rw [if_pos h_z] at hF
    exact bX12_toGive_101 C O K59 X (lv_sub hl [0, 1, 2, 3, 5] rfl) hF
noncomputable def fX12_toGive_b73 (N : Nat) (r59 : Int32 → Int32 → Int32 → Int32 → Int32 → gS → Option (Int32 × gS)) (x1 : Int32) (x2 : Int32) (x3 : Int32) (x4 : Int32) (x5 : Int32) (S : gS) : Option (Int32 × gS) := if x3 = ((-1)) then fX12_toGive_b120 N x4 S else fX12_toGive_b78 N r59 x1 x2 x3 x4 x5 S
theorem bX12_toGive_73 {N : Nat} {r59 : Int32 → Int32 → Int32 → Int32 → Int32 → gS → Option (Int32 × gS)} {x1 : Int32} {x2 : Int32} {x3 : Int32} {x4 : Int32} {x5 : Int32} {S : gS} {H : Heap} {locs : List Loc} {ls : Array Slot} {o : Int32 × gS} (C : gC p s m args meth c cX12_toGive 6 RX12 ((some .int)) D (mtys cI cS) mord g Am) (O : gO (mcell g cI cS sa) mord g) (K59 : ∀ (x1 : Int32) (x2 : Int32) (x3 : Int32) (x4 : Int32) (x5 : Int32) (S : gS) (H : Heap) (locs : List Loc) (ls : Array Slot), gX D (mcell g cI cS sa) mord g S s H locs → lv_has ls 6 [(0, .ref (g 99)), (1, .int x1), (2, .int x2), (3, .int x3), (4, .int x4), (5, .int x5)] → r59 x1 x2 x3 x4 x5 S = some o → W p l e (rmd 7) s m args below meth c H locs 0 0 (gE below args s D (mtys cI cS) (mcell g cI cS sa) mord g (some (.int o.1)) o.2) (F0 m 59 ls [])) (X : gX D (mcell g cI cS sa) mord g S s H locs) (hl : lv_has ls 6 [(0, .ref (g 99)), (1, .int x1), (2, .int x2), (3, .int x3), (4, .int x4), (5, .int x5)]) (hF : fX12_toGive_b73 N r59 x1 x2 x3 x4 x5 S = some o) : W p l e (rmd 7) s m args below meth c H locs 0 0 (gE below args s D (mtys cI cS) (mcell g cI cS sa) mord g (some (.int o.1)) o.2) (F0 m 73 ls []) := by
  unfold fX12_toGive_b73 at hF
  refine lv_iload_n C.1.1 C.1.2.1 dX12_toGive_73 rfl (lv_at hl 3 rfl) ?_
  refine lv_iconst (v := (-1)) C.1.1 C.1.2.1 dX12_toGive_74 (by decide) ?_
  refine lv_icmp_eq (tgt := 120) C.1.1 C.1.2.1 dX12_toGive_75 (by decide) (fun h_z => ?_) (fun h_z => ?_)
  · rw [if_pos h_z] at hF
    exact bX12_toGive_120 C O X (lv_sub hl [4] rfl) hF
  · rw [if_neg h_z] at hF
    exact bX12_toGive_78 C O K59 X (lv_sub hl [0, 1, 2, 3, 4, 5] rfl) hF
noncomputable def fX12_toGive_b67 (N : Nat) (r59 : Int32 → Int32 → Int32 → Int32 → Int32 → gS → Option (Int32 × gS)) (x1 : Int32) (x2 : Int32) (x3 : Int32) (x4 : Int32) (x5 : Int32) (S : gS) : Option (Int32 × gS) := if x4 = ((-1)) then fX12_toGive_b73 N r59 x1 x2 x3 x4 x5 S else fX12_toGive_b120 N x4 S
theorem bX12_toGive_67 {N : Nat} {r59 : Int32 → Int32 → Int32 → Int32 → Int32 → gS → Option (Int32 × gS)} {x1 : Int32} {x2 : Int32} {x3 : Int32} {x4 : Int32} {x5 : Int32} {S : gS} {H : Heap} {locs : List Loc} {ls : Array Slot} {o : Int32 × gS} (C : gC p s m args meth c cX12_toGive 6 RX12 ((some .int)) D (mtys cI cS) mord g Am) (O : gO (mcell g cI cS sa) mord g) (K59 : ∀ (x1 : Int32) (x2 : Int32) (x3 : Int32) (x4 : Int32) (x5 : Int32) (S : gS) (H : Heap) (locs : List Loc) (ls : Array Slot), gX D (mcell g cI cS sa) mord g S s H locs → lv_has ls 6 [(0, .ref (g 99)), (1, .int x1), (2, .int x2), (3, .int x3), (4, .int x4), (5, .int x5)] → r59 x1 x2 x3 x4 x5 S = some o → W p l e (rmd 7) s m args below meth c H locs 0 0 (gE below args s D (mtys cI cS) (mcell g cI cS sa) mord g (some (.int o.1)) o.2) (F0 m 59 ls [])) (X : gX D (mcell g cI cS sa) mord g S s H locs) (hl : lv_has ls 6 [(0, .ref (g 99)), (1, .int x1), (2, .int x2), (3, .int x3), (4, .int x4), (5, .int x5)]) (hF : fX12_toGive_b67 N r59 x1 x2 x3 x4 x5 S = some o) : W p l e (rmd 7) s m args below meth c H locs 0 0 (gE below args s D (mtys cI cS) (mcell g cI cS sa) mord g (some (.int o.1)) o.2) (F0 m 67 ls []) := by
  unfold fX12_toGive_b67 at hF
  refine lv_iload C.1.1 C.1.2.1 dX12_toGive_67 (lv_at hl 4 rfl) ?_
  refine lv_iconst (v := (-1)) C.1.1 C.1.2.1 dX12_toGive_69 (by decide) ?_
  refine lv_icmp_ne (tgt := 120) C.1.1 C.1.2.1 dX12_toGive_70 (by decide) (fun h_z => ?_) (fun h_z => ?_)
  · rw [if_neg h_z] at hF
    exact bX12_toGive_120 C O X (lv_sub hl [4] rfl) hF
  · rw [if_pos h_z] at hF
    exact bX12_toGive_73 C O K59 X (lv_sub hl [0, 1, 2, 3, 4, 5] rfl) hF
noncomputable def fX12_toGive_b59 (N : Nat) (r59 : Int32 → Int32 → Int32 → Int32 → Int32 → gS → Option (Int32 × gS)) (x1 : Int32) (x2 : Int32) (x3 : Int32) (x4 : Int32) (x5 : Int32) (S : gS) : Option (Int32 × gS) := if 999 < x5 then fX12_toGive_b120 N x4 S else fX12_toGive_b67 N r59 x1 x2 x3 x4 x5 S
theorem bX12_toGive_59 {N : Nat} {r59 : Int32 → Int32 → Int32 → Int32 → Int32 → gS → Option (Int32 × gS)} {x1 : Int32} {x2 : Int32} {x3 : Int32} {x4 : Int32} {x5 : Int32} {S : gS} {H : Heap} {locs : List Loc} {ls : Array Slot} {o : Int32 × gS} (C : gC p s m args meth c cX12_toGive 6 RX12 ((some .int)) D (mtys cI cS) mord g Am) (O : gO (mcell g cI cS sa) mord g) (K59 : ∀ (x1 : Int32) (x2 : Int32) (x3 : Int32) (x4 : Int32) (x5 : Int32) (S : gS) (H : Heap) (locs : List Loc) (ls : Array Slot), gX D (mcell g cI cS sa) mord g S s H locs → lv_has ls 6 [(0, .ref (g 99)), (1, .int x1), (2, .int x2), (3, .int x3), (4, .int x4), (5, .int x5)] → r59 x1 x2 x3 x4 x5 S = some o → W p l e (rmd 7) s m args below meth c H locs 0 0 (gE below args s D (mtys cI cS) (mcell g cI cS sa) mord g (some (.int o.1)) o.2) (F0 m 59 ls [])) (X : gX D (mcell g cI cS sa) mord g S s H locs) (hl : lv_has ls 6 [(0, .ref (g 99)), (1, .int x1), (2, .int x2), (3, .int x3), (4, .int x4), (5, .int x5)]) (hF : fX12_toGive_b59 N r59 x1 x2 x3 x4 x5 S = some o) : W p l e (rmd 7) s m args below meth c H locs 0 0 (gE below args s D (mtys cI cS) (mcell g cI cS sa) mord g (some (.int o.1)) o.2) (F0 m 59 ls []) := by
  unfold fX12_toGive_b59 at hF
  refine lv_iload C.1.1 C.1.2.1 dX12_toGive_59 (lv_at hl 5 rfl) ?_
  refine lv_sipush (v := 999) C.1.1 C.1.2.1 dX12_toGive_61 (by decide) ?_
  refine lv_icmp_gt (tgt := 120) C.1.1 C.1.2.1 dX12_toGive_64 (by decide) (fun h_z => ?_) (fun h_z => ?_)
  · rw [if_pos h_z] at hF
    exact bX12_toGive_120 C O X (lv_sub hl [4] rfl) hF
  · rw [if_neg h_z] at hF
    exact bX12_toGive_67 C O K59 X (lv_sub hl [0, 1, 2, 3, 4, 5] rfl) hF
noncomputable def fX12_toGive_h59 (N : Nat) : Nat → Int32 → Int32 → Int32 → Int32 → Int32 → gS → Option (Int32 × gS)
  | 0, _, _, _, _, _, _ => none
  | n + 1, x1, x2, x3, x4, x5, S => fX12_toGive_b59 N (fX12_toGive_h59 N n) x1 x2 x3 x4 x5 S
theorem hX12_toGive_59 {N : Nat} {o : Int32 × gS} (C : gC p s m args meth c cX12_toGive 6 RX12 ((some .int)) D (mtys cI cS) mord g Am) (O : gO (mcell g cI cS sa) mord g) : ∀ (n : Nat) (x1 : Int32) (x2 : Int32) (x3 : Int32) (x4 : Int32) (x5 : Int32) (S : gS) (H : Heap) (locs : List Loc) (ls : Array Slot), gX D (mcell g cI cS sa) mord g S s H locs → lv_has ls 6 [(0, .ref (g 99)), (1, .int x1), (2, .int x2), (3, .int x3), (4, .int x4), (5, .int x5)] → fX12_toGive_h59 N n x1 x2 x3 x4 x5 S = some o → W p l e (rmd 7) s m args below meth c H locs 0 0 (gE below args s D (mtys cI cS) (mcell g cI cS sa) mord g (some (.int o.1)) o.2) (F0 m 59 ls []) := by
  intro n
  induction n with
  | zero =>
    intro x1 x2 x3 x4 x5 S H locs ls X hl hF
    exact absurd (show (none : Option (Int32 × gS)) = some o from hF) (by simp)
  | succ n ih =>
    intro x1 x2 x3 x4 x5 S H locs ls X hl hF
    have hF : fX12_toGive_b59 N (fX12_toGive_h59 N n) x1 x2 x3 x4 x5 S = some o := hF
    exact bX12_toGive_59 C O ih X hl hF
noncomputable def fX12_toGive_b37 (N : Nat) (x1 : Int32) (x2 : Int32) (S : gS) : Option (Int32 × gS) := chk (inb x1 (6)) (bnd (fX12_pack N 46 0 S) fun q1 => (fX12_toGive_h59 N N x1 x2 (S 35 (Int32.toNatClampNeg x1)) ((-1)) 0 q1.2))
theorem bX12_toGive_37 {N : Nat} {x1 : Int32} {x2 : Int32} {S : gS} {H : Heap} {locs : List Loc} {ls : Array Slot} {o : Int32 × gS} (C : gC p s m args meth c cX12_toGive 6 RX12 ((some .int)) D (mtys cI cS) mord g Am) (O : gO (mcell g cI cS sa) mord g) (X : gX D (mcell g cI cS sa) mord g S s H locs) (hl : lv_has ls 6 [(0, .ref (g 99)), (1, .int x1), (2, .int x2)]) (hF : fX12_toGive_b37 N x1 x2 S = some o) : W p l e (rmd 7) s m args below meth c H locs 0 0 (gE below args s D (mtys cI cS) (mcell g cI cS sa) mord g (some (.int o.1)) o.2) (F0 m 37 ls []) := by
  unfold fX12_toGive_b37 at hF
  refine lv_aload_n C.1.1 C.1.2.1 dX12_toGive_37 rfl (lv_at hl 0 rfl) ?_
  refine m_g35 C X dX12_toGive_38 ?_
  refine lv_iload_n C.1.1 C.1.2.1 dX12_toGive_41 rfl (lv_at hl 1 rfl) ?_
  obtain ⟨h_1, hF⟩ := chk_some hF
  refine m_r35 C X  (inb_vp h_1) rfl dX12_toGive_42 ?_
  refine lv_istore_n (lv' := [(3, .int (S 35 (Int32.toNatClampNeg x1))), (0, .ref (g 99)), (1, .int x1), (2, .int x2)]) C.1.1 C.1.2.1 dX12_toGive_43 rfl hl (by decide) rfl (fun ls hl => ?_)
  refine lv_iconst (v := (-1)) C.1.1 C.1.2.1 dX12_toGive_44 (by decide) ?_
  refine lv_istore (lv' := [(4, .int ((-1))), (3, .int (S 35 (Int32.toNatClampNeg x1))), (0, .ref (g 99)), (1, .int x1), (2, .int x2)]) C.1.1 C.1.2.1 dX12_toGive_45 hl (by decide) rfl (fun ls hl => ?_)
  refine lv_aload_n C.1.1 C.1.2.1 dX12_toGive_47 rfl (lv_at hl 2 rfl) ?_
  refine lv_aload_n C.1.1 C.1.2.1 dX12_toGive_48 rfl (lv_at hl 2 rfl) ?_
  refine m_g46 C X dX12_toGive_49 ?_
  refine lv_iconst (v := 0) C.1.1 C.1.2.1 dX12_toGive_52 (by decide) ?_
  obtain ⟨q1, hq1, hF⟩ := bnd_some hF
  refine m_callV C X vX12_pack rfl (kX12_pack O C.2.2.2.2.1 N 46 0 (rfl : mI 46 = true) S q1 hq1) (Nat.le_of_ble_eq_true rfl) (Nat.le_of_ble_eq_true rfl) (Nat.le_of_ble_eq_true rfl) (Nat.le_of_ble_eq_true rfl) rfl hl.1 rfl (Nat.le_of_ble_eq_true rfl) dX12_toGive_53 (fun H locs X => ?_)
  refine lv_iconst (v := 0) C.1.1 C.1.2.1 dX12_toGive_56 (by decide) ?_
  refine lv_istore (lv' := [(5, .int 0), (4, .int ((-1))), (3, .int (S 35 (Int32.toNatClampNeg x1))), (0, .ref (g 99)), (1, .int x1), (2, .int x2)]) C.1.1 C.1.2.1 dX12_toGive_57 hl (by decide) rfl (fun ls hl => ?_)
  exact hX12_toGive_59 C O N _ _ _ _ _ _ _ _ _ X (lv_sub hl [3, 4, 5, 2, 1, 0] rfl) hF
noncomputable def fX12_toGive_b31 (N : Nat) (S : gS) : Option (Int32 × gS) := bnd (fX12_fail N 2 S) fun q1 => (some (q1.1, q1.2))
theorem bX12_toGive_31 {N : Nat} {S : gS} {H : Heap} {locs : List Loc} {ls : Array Slot} {o : Int32 × gS} (C : gC p s m args meth c cX12_toGive 6 RX12 ((some .int)) D (mtys cI cS) mord g Am) (O : gO (mcell g cI cS sa) mord g) (X : gX D (mcell g cI cS sa) mord g S s H locs) (hl : lv_has ls 6 [(0, .ref (g 99))]) (hF : fX12_toGive_b31 N S = some o) : W p l e (rmd 7) s m args below meth c H locs 0 0 (gE below args s D (mtys cI cS) (mcell g cI cS sa) mord g (some (.int o.1)) o.2) (F0 m 31 ls []) := by
  unfold fX12_toGive_b31 at hF
  refine lv_aload_n C.1.1 C.1.2.1 dX12_toGive_31 rfl (lv_at hl 0 rfl) ?_
  refine lv_iconst (v := 2) C.1.1 C.1.2.1 dX12_toGive_32 (by decide) ?_
  obtain ⟨q1, hq1, hF⟩ := bnd_some hF
  refine m_callVi C X vX12_fail rfl (kX12_fail O C.2.2.2.2.1 N 2  S q1 hq1) (Nat.le_of_ble_eq_true rfl) (Nat.le_of_ble_eq_true rfl) (Nat.le_of_ble_eq_true rfl) (Nat.le_of_ble_eq_true rfl) rfl hl.1 rfl (Nat.le_of_ble_eq_true rfl) dX12_toGive_33 (fun H locs X => ?_)
  cases hF
  exact g_iret C X dX12_toGive_36
noncomputable def fX12_toGive_b19 (N : Nat) (x1 : Int32) (x2 : Int32) (S : gS) : Option (Int32 × gS) := bnd (fX12_isIn N (Int32.toInt64 x2) 1 60 S) fun q1 => (if q1.1 = 0 then fX12_toGive_b31 N q1.2 else fX12_toGive_b37 N x1 x2 q1.2)
theorem bX12_toGive_19 {N : Nat} {x1 : Int32} {x2 : Int32} {S : gS} {H : Heap} {locs : List Loc} {ls : Array Slot} {o : Int32 × gS} (C : gC p s m args meth c cX12_toGive 6 RX12 ((some .int)) D (mtys cI cS) mord g Am) (O : gO (mcell g cI cS sa) mord g) (X : gX D (mcell g cI cS sa) mord g S s H locs) (hl : lv_has ls 6 [(0, .ref (g 99)), (1, .int x1), (2, .int x2)]) (hF : fX12_toGive_b19 N x1 x2 S = some o) : W p l e (rmd 7) s m args below meth c H locs 0 0 (gE below args s D (mtys cI cS) (mcell g cI cS sa) mord g (some (.int o.1)) o.2) (F0 m 19 ls []) := by
  unfold fX12_toGive_b19 at hF
  refine lv_iload_n C.1.1 C.1.2.1 dX12_toGive_19 rfl (lv_at hl 2 rfl) ?_
  refine lv_i2l (v := Int32.toInt64 x2) C.1.1 C.1.2.1 dX12_toGive_20 rfl ?_
  refine lv_lconst (v := 1) C.1.1 C.1.2.1 dX12_toGive_21 (by decide) ?_
  refine lv_ldc2 C.1.1 C.1.2.1 C.1.2.2.2.1 (C.1.2.2.2.2 _ mKL432) dX12_toGive_22 ?_
  obtain ⟨q1, hq1, hF⟩ := bnd_some hF
  refine g_callSi C X vX12_isIn (kX12_isIn O C.2.2.2.2.1 N (Int32.toInt64 x2) 1 60  S q1 hq1) (Nat.le_of_ble_eq_true rfl) (Nat.le_of_ble_eq_true rfl) (Nat.le_of_ble_eq_true rfl) (Nat.le_of_ble_eq_true rfl) rfl hl.1 rfl (Nat.le_of_ble_eq_true rfl) dX12_toGive_25 (fun H locs X => ?_)
  refine lv_if_ne (tgt := 37) C.1.1 C.1.2.1 dX12_toGive_28 (by decide) (fun h_z => ?_) (fun h_z => ?_)
  · rw [if_neg h_z] at hF
    exact bX12_toGive_37 C O X (lv_sub hl [0, 1, 2] rfl) hF
  · rw [if_pos h_z] at hF
    exact bX12_toGive_31 C O X (lv_sub hl [0] rfl) hF
noncomputable def fX12_toGive_b13 (N : Nat) (S : gS) : Option (Int32 × gS) := bnd (fX12_fail N 1 S) fun q1 => (some (q1.1, q1.2))
theorem bX12_toGive_13 {N : Nat} {S : gS} {H : Heap} {locs : List Loc} {ls : Array Slot} {o : Int32 × gS} (C : gC p s m args meth c cX12_toGive 6 RX12 ((some .int)) D (mtys cI cS) mord g Am) (O : gO (mcell g cI cS sa) mord g) (X : gX D (mcell g cI cS sa) mord g S s H locs) (hl : lv_has ls 6 [(0, .ref (g 99))]) (hF : fX12_toGive_b13 N S = some o) : W p l e (rmd 7) s m args below meth c H locs 0 0 (gE below args s D (mtys cI cS) (mcell g cI cS sa) mord g (some (.int o.1)) o.2) (F0 m 13 ls []) := by
  unfold fX12_toGive_b13 at hF
  refine lv_aload_n C.1.1 C.1.2.1 dX12_toGive_13 rfl (lv_at hl 0 rfl) ?_
  refine lv_iconst (v := 1) C.1.1 C.1.2.1 dX12_toGive_14 (by decide) ?_
  obtain ⟨q1, hq1, hF⟩ := bnd_some hF
  refine m_callVi C X vX12_fail rfl (kX12_fail O C.2.2.2.2.1 N 1  S q1 hq1) (Nat.le_of_ble_eq_true rfl) (Nat.le_of_ble_eq_true rfl) (Nat.le_of_ble_eq_true rfl) (Nat.le_of_ble_eq_true rfl) rfl hl.1 rfl (Nat.le_of_ble_eq_true rfl) dX12_toGive_15 (fun H locs X => ?_)
  cases hF
  exact g_iret C X dX12_toGive_18
noncomputable def fX12_toGive_b0 (N : Nat) (x1 : Int32) (x2 : Int32) (S : gS) : Option (Int32 × gS) := lt (sU S 99 4 0) fun S1 => (bnd (fX12_isGuild N x1 S1) fun q1 => (if q1.1 = 0 then fX12_toGive_b13 N q1.2 else fX12_toGive_b19 N x1 x2 q1.2))
theorem bX12_toGive_0 {N : Nat} {x1 : Int32} {x2 : Int32} {S : gS} {H : Heap} {locs : List Loc} {ls : Array Slot} {o : Int32 × gS} (C : gC p s m args meth c cX12_toGive 6 RX12 ((some .int)) D (mtys cI cS) mord g Am) (O : gO (mcell g cI cS sa) mord g) (X : gX D (mcell g cI cS sa) mord g S s H locs) (hl : lv_has ls 6 [(0, .ref (g 99)), (1, .int x1), (2, .int x2)]) (hF : fX12_toGive_b0 N x1 x2 S = some o) : W p l e (rmd 7) s m args below meth c H locs 0 0 (gE below args s D (mtys cI cS) (mcell g cI cS sa) mord g (some (.int o.1)) o.2) (F0 m 0 ls []) := by
  unfold fX12_toGive_b0 at hF
  refine lv_aload_n C.1.1 C.1.2.1 dX12_toGive_0 rfl (lv_at hl 0 rfl) ?_
  refine lv_iconst (v := 0) C.1.1 C.1.2.1 dX12_toGive_1 (by decide) ?_
  obtain ⟨S1, eS1, hF⟩ := lt_some hF
  refine m_p4 C O X eS1 dX12_toGive_2 (fun H locs X => ?_)
  refine lv_aload_n C.1.1 C.1.2.1 dX12_toGive_5 rfl (lv_at hl 0 rfl) ?_
  refine lv_iload_n C.1.1 C.1.2.1 dX12_toGive_6 rfl (lv_at hl 1 rfl) ?_
  obtain ⟨q1, hq1, hF⟩ := bnd_some hF
  refine m_callVi C X vX12_isGuild rfl (kX12_isGuild O C.2.2.2.2.1 N x1  S1 q1 hq1) (Nat.le_of_ble_eq_true rfl) (Nat.le_of_ble_eq_true rfl) (Nat.le_of_ble_eq_true rfl) (Nat.le_of_ble_eq_true rfl) rfl hl.1 rfl (Nat.le_of_ble_eq_true rfl) dX12_toGive_7 (fun H locs X => ?_)
  refine lv_if_ne (tgt := 19) C.1.1 C.1.2.1 dX12_toGive_10 (by decide) (fun h_z => ?_) (fun h_z => ?_)
  · rw [if_neg h_z] at hF
    exact bX12_toGive_19 C O X (lv_sub hl [0, 1, 2] rfl) hF
  · rw [if_pos h_z] at hF
    exact bX12_toGive_13 C O X (lv_sub hl [0] rfl) hF
noncomputable def fX12_toGive (N : Nat) (x1 : Int32) (x2 : Int32) (S : gS) : Option (Int32 × gS) := fX12_toGive_b0 N x1 x2 S
theorem kX12_toGive {l : Launch} {D : va_G} {g : Nat → Nat} {cI cS : ClassId} {sa : Nat → Nat → Option Nat} {Am : (Nat → Prop) → State → Heap → Prop} (O : gO (mcell g cI cS sa) mord g) (P : gAm Am) (N : Nat) (x1 : Int32) (x2 : Int32) (S : gS) (o : Int32 × gS) (hF : fX12_toGive N x1 x2 S = some o) : gM l yX12_toGive cX12_toGive 6 ((some .int)) 7 D (mtys cI cS) (mcell g cI cS sa) mord g Am [.ref (g 99), .int x1, .int x2] S (some (.int o.1)) o.2 :=
  gM_of O P (by decide) (Nat.le_of_ble_eq_true rfl) (fun p e s m args below meth c ls C X hl => bX12_toGive_0 C O X (lv_sub hl [0, 1, 2] rfl) hF)
-- confessing
noncomputable def fX12_confessing_b47 (N : Nat) (x1 : Int32) (x2 : Int32) (S : gS) : Option (Int32 × gS) := bnd (fX12_pack N 46 0 S) fun q1 => (bnd (fX12_goOn N x2 q1.2) fun q2 => (chk (inb x1 (6)) (bnd (fX12_unpack N 46 0 q2.2) fun q3 => (bnd (fX12_doConfess N x1 q3.2) fun q4 => (bnd (fX12_goOn N x2 q4.2) fun q5 => (chk (inb x1 (6)) (bnd (fX12_unpack N 46 0 q5.2) fun q6 => (some (((q2.2 32 (Int32.toNatClampNeg x1)) - (q5.2 32 (Int32.toNatClampNeg x1)) : Int32), q6.2)))))))))
theorem bX12_confessing_47 {N : Nat} {x1 : Int32} {x2 : Int32} {S : gS} {H : Heap} {locs : List Loc} {ls : Array Slot} {o : Int32 × gS} (C : gC p s m args meth c cX12_confessing 5 RX12 ((some .int)) D (mtys cI cS) mord g Am) (O : gO (mcell g cI cS sa) mord g) (X : gX D (mcell g cI cS sa) mord g S s H locs) (hl : lv_has ls 5 [(0, .ref (g 99)), (1, .int x1), (2, .int x2)]) (hF : fX12_confessing_b47 N x1 x2 S = some o) : W p l e (rmd 7) s m args below meth c H locs 0 0 (gE below args s D (mtys cI cS) (mcell g cI cS sa) mord g (some (.int o.1)) o.2) (F0 m 47 ls []) := by
  unfold fX12_confessing_b47 at hF
  refine lv_aload_n C.1.1 C.1.2.1 dX12_confessing_47 rfl (lv_at hl 0 rfl) ?_
  refine lv_aload_n C.1.1 C.1.2.1 dX12_confessing_48 rfl (lv_at hl 0 rfl) ?_
  refine m_g46 C X dX12_confessing_49 ?_
  refine lv_iconst (v := 0) C.1.1 C.1.2.1 dX12_confessing_52 (by decide) ?_
  obtain ⟨q1, hq1, hF⟩ := bnd_some hF
  refine m_callV C X vX12_pack rfl (kX12_pack O C.2.2.2.2.1 N 46 0 (rfl : mI 46 = true) S q1 hq1) (Nat.le_of_ble_eq_true rfl) (Nat.le_of_ble_eq_true rfl) (Nat.le_of_ble_eq_true rfl) (Nat.le_of_ble_eq_true rfl) rfl hl.1 rfl (Nat.le_of_ble_eq_true rfl) dX12_confessing_53 (fun H locs X => ?_)
  refine lv_aload_n C.1.1 C.1.2.1 dX12_confessing_56 rfl (lv_at hl 0 rfl) ?_
  refine lv_iload_n C.1.1 C.1.2.1 dX12_confessing_57 rfl (lv_at hl 2 rfl) ?_
  obtain ⟨q2, hq2, hF⟩ := bnd_some hF
  refine m_callV C X vX12_goOn rfl (kX12_goOn O C.2.2.2.2.1 N x2  q1.2 q2 hq2) (Nat.le_of_ble_eq_true rfl) (Nat.le_of_ble_eq_true rfl) (Nat.le_of_ble_eq_true rfl) (Nat.le_of_ble_eq_true rfl) rfl hl.1 rfl (Nat.le_of_ble_eq_true rfl) dX12_confessing_58 (fun H locs X => ?_)
  refine lv_aload_n C.1.1 C.1.2.1 dX12_confessing_61 rfl (lv_at hl 0 rfl) ?_
  refine m_g32 C X dX12_confessing_62 ?_
  refine lv_iload_n C.1.1 C.1.2.1 dX12_confessing_65 rfl (lv_at hl 1 rfl) ?_
  obtain ⟨h_1, hF⟩ := chk_some hF
  refine m_r32 C X  (inb_vp h_1) rfl dX12_confessing_66 ?_
  refine lv_istore_n (lv' := [(3, .int (q2.2 32 (Int32.toNatClampNeg x1))), (0, .ref (g 99)), (1, .int x1), (2, .int x2)]) C.1.1 C.1.2.1 dX12_confessing_67 rfl hl (by decide) rfl (fun ls hl => ?_)
  refine lv_aload_n C.1.1 C.1.2.1 dX12_confessing_68 rfl (lv_at hl 1 rfl) ?_
  refine lv_aload_n C.1.1 C.1.2.1 dX12_confessing_69 rfl (lv_at hl 1 rfl) ?_
  refine m_g46 C X dX12_confessing_70 ?_
  refine lv_iconst (v := 0) C.1.1 C.1.2.1 dX12_confessing_73 (by decide) ?_
  obtain ⟨q3, hq3, hF⟩ := bnd_some hF
  refine m_callV C X vX12_unpack rfl (kX12_unpack O C.2.2.2.2.1 N 46 0 (rfl : mI 46 = true) q2.2 q3 hq3) (Nat.le_of_ble_eq_true rfl) (Nat.le_of_ble_eq_true rfl) (Nat.le_of_ble_eq_true rfl) (Nat.le_of_ble_eq_true rfl) rfl hl.1 rfl (Nat.le_of_ble_eq_true rfl) dX12_confessing_74 (fun H locs X => ?_)
  refine lv_aload_n C.1.1 C.1.2.1 dX12_confessing_77 rfl (lv_at hl 1 rfl) ?_
  refine lv_iload_n C.1.1 C.1.2.1 dX12_confessing_78 rfl (lv_at hl 2 rfl) ?_
  obtain ⟨q4, hq4, hF⟩ := bnd_some hF
  refine m_callV C X vX12_doConfess rfl (kX12_doConfess O C.2.2.2.2.1 N x1  q3.2 q4 hq4) (Nat.le_of_ble_eq_true rfl) (Nat.le_of_ble_eq_true rfl) (Nat.le_of_ble_eq_true rfl) (Nat.le_of_ble_eq_true rfl) rfl hl.1 rfl (Nat.le_of_ble_eq_true rfl) dX12_confessing_79 (fun H locs X => ?_)
  refine lv_aload_n C.1.1 C.1.2.1 dX12_confessing_82 rfl (lv_at hl 1 rfl) ?_
  refine lv_iload_n C.1.1 C.1.2.1 dX12_confessing_83 rfl (lv_at hl 3 rfl) ?_
  obtain ⟨q5, hq5, hF⟩ := bnd_some hF
  refine m_callV C X vX12_goOn rfl (kX12_goOn O C.2.2.2.2.1 N x2  q4.2 q5 hq5) (Nat.le_of_ble_eq_true rfl) (Nat.le_of_ble_eq_true rfl) (Nat.le_of_ble_eq_true rfl) (Nat.le_of_ble_eq_true rfl) rfl hl.1 rfl (Nat.le_of_ble_eq_true rfl) dX12_confessing_84 (fun H locs X => ?_)
  refine lv_aload_n C.1.1 C.1.2.1 dX12_confessing_87 rfl (lv_at hl 1 rfl) ?_
  refine m_g32 C X dX12_confessing_88 ?_
  refine lv_iload_n C.1.1 C.1.2.1 dX12_confessing_91 rfl (lv_at hl 2 rfl) ?_
  obtain ⟨h_2, hF⟩ := chk_some hF
  refine m_r32 C X  (inb_vp h_2) rfl dX12_confessing_92 ?_
  refine lv_istore (lv' := [(4, .int (q5.2 32 (Int32.toNatClampNeg x1))), (3, .int (q2.2 32 (Int32.toNatClampNeg x1))), (0, .ref (g 99)), (1, .int x1), (2, .int x2)]) C.1.1 C.1.2.1 dX12_confessing_93 hl (by decide) rfl (fun ls hl => ?_)
  refine lv_aload_n C.1.1 C.1.2.1 dX12_confessing_95 rfl (lv_at hl 2 rfl) ?_
  refine lv_aload_n C.1.1 C.1.2.1 dX12_confessing_96 rfl (lv_at hl 2 rfl) ?_
  refine m_g46 C X dX12_confessing_97 ?_
  refine lv_iconst (v := 0) C.1.1 C.1.2.1 dX12_confessing_100 (by decide) ?_
  obtain ⟨q6, hq6, hF⟩ := bnd_some hF
  refine m_callV C X vX12_unpack rfl (kX12_unpack O C.2.2.2.2.1 N 46 0 (rfl : mI 46 = true) q5.2 q6 hq6) (Nat.le_of_ble_eq_true rfl) (Nat.le_of_ble_eq_true rfl) (Nat.le_of_ble_eq_true rfl) (Nat.le_of_ble_eq_true rfl) rfl hl.1 rfl (Nat.le_of_ble_eq_true rfl) dX12_confessing_101 (fun H locs X => ?_)
  refine lv_iload_n C.1.1 C.1.2.1 dX12_confessing_104 rfl (lv_at hl 1 rfl) ?_
  refine lv_iload C.1.1 C.1.2.1 dX12_confessing_105 (lv_at hl 0 rfl) ?_
  refine lv_isub C.1.1 C.1.2.1 dX12_confessing_107 ?_
  cases hF
  exact g_iret C X dX12_confessing_108
noncomputable def fX12_confessing_b45 (N : Nat) (S : gS) : Option (Int32 × gS) := some (0, S)
theorem bX12_confessing_45 {N : Nat} {S : gS} {H : Heap} {locs : List Loc} {ls : Array Slot} {o : Int32 × gS} (C : gC p s m args meth c cX12_confessing 5 RX12 ((some .int)) D (mtys cI cS) mord g Am) (O : gO (mcell g cI cS sa) mord g) (X : gX D (mcell g cI cS sa) mord g S s H locs) (hl : lv_has ls 5 []) (hF : fX12_confessing_b45 N S = some o) : W p l e (rmd 7) s m args below meth c H locs 0 0 (gE below args s D (mtys cI cS) (mcell g cI cS sa) mord g (some (.int o.1)) o.2) (F0 m 45 ls []) := by
  unfold fX12_confessing_b45 at hF
  refine lv_iconst (v := 0) C.1.1 C.1.2.1 dX12_confessing_45 (by decide) ?_
  cases hF
  exact g_iret C X dX12_confessing_46
noncomputable def fX12_confessing_b37 (N : Nat) (x1 : Int32) (x2 : Int32) (S : gS) : Option (Int32 × gS) := bnd (fX12_canConfess N x1 S) fun q1 => (if q1.1 = 0 then fX12_confessing_b45 N q1.2 else fX12_confessing_b47 N x1 x2 q1.2)
theorem bX12_confessing_37 {N : Nat} {x1 : Int32} {x2 : Int32} {S : gS} {H : Heap} {locs : List Loc} {ls : Array Slot} {o : Int32 × gS} (C : gC p s m args meth c cX12_confessing 5 RX12 ((some .int)) D (mtys cI cS) mord g Am) (O : gO (mcell g cI cS sa) mord g) (X : gX D (mcell g cI cS sa) mord g S s H locs) (hl : lv_has ls 5 [(0, .ref (g 99)), (1, .int x1), (2, .int x2)]) (hF : fX12_confessing_b37 N x1 x2 S = some o) : W p l e (rmd 7) s m args below meth c H locs 0 0 (gE below args s D (mtys cI cS) (mcell g cI cS sa) mord g (some (.int o.1)) o.2) (F0 m 37 ls []) := by
  unfold fX12_confessing_b37 at hF
  refine lv_aload_n C.1.1 C.1.2.1 dX12_confessing_37 rfl (lv_at hl 0 rfl) ?_
  refine lv_iload_n C.1.1 C.1.2.1 dX12_confessing_38 rfl (lv_at hl 1 rfl) ?_
  obtain ⟨q1, hq1, hF⟩ := bnd_some hF
  refine m_callVi C X vX12_canConfess rfl (kX12_canConfess O C.2.2.2.2.1 N x1  S q1 hq1) (Nat.le_of_ble_eq_true rfl) (Nat.le_of_ble_eq_true rfl) (Nat.le_of_ble_eq_true rfl) (Nat.le_of_ble_eq_true rfl) rfl hl.1 rfl (Nat.le_of_ble_eq_true rfl) dX12_confessing_39 (fun H locs X => ?_)
  refine lv_if_ne (tgt := 47) C.1.1 C.1.2.1 dX12_confessing_42 (by decide) (fun h_z => ?_) (fun h_z => ?_)
  · rw [if_neg h_z] at hF
    exact bX12_confessing_47 C O X (lv_sub hl [0, 1, 2] rfl) hF
  · rw [if_pos h_z] at hF
    exact bX12_confessing_45 C O X (lv_sub hl [] rfl) hF
noncomputable def fX12_confessing_b31 (N : Nat) (S : gS) : Option (Int32 × gS) := bnd (fX12_fail N 2 S) fun q1 => (some (q1.1, q1.2))
theorem bX12_confessing_31 {N : Nat} {S : gS} {H : Heap} {locs : List Loc} {ls : Array Slot} {o : Int32 × gS} (C : gC p s m args meth c cX12_confessing 5 RX12 ((some .int)) D (mtys cI cS) mord g Am) (O : gO (mcell g cI cS sa) mord g) (X : gX D (mcell g cI cS sa) mord g S s H locs) (hl : lv_has ls 5 [(0, .ref (g 99))]) (hF : fX12_confessing_b31 N S = some o) : W p l e (rmd 7) s m args below meth c H locs 0 0 (gE below args s D (mtys cI cS) (mcell g cI cS sa) mord g (some (.int o.1)) o.2) (F0 m 31 ls []) := by
  unfold fX12_confessing_b31 at hF
  refine lv_aload_n C.1.1 C.1.2.1 dX12_confessing_31 rfl (lv_at hl 0 rfl) ?_
  refine lv_iconst (v := 2) C.1.1 C.1.2.1 dX12_confessing_32 (by decide) ?_
  obtain ⟨q1, hq1, hF⟩ := bnd_some hF
  refine m_callVi C X vX12_fail rfl (kX12_fail O C.2.2.2.2.1 N 2  S q1 hq1) (Nat.le_of_ble_eq_true rfl) (Nat.le_of_ble_eq_true rfl) (Nat.le_of_ble_eq_true rfl) (Nat.le_of_ble_eq_true rfl) rfl hl.1 rfl (Nat.le_of_ble_eq_true rfl) dX12_confessing_33 (fun H locs X => ?_)
  cases hF
  exact g_iret C X dX12_confessing_36
noncomputable def fX12_confessing_b19 (N : Nat) (x1 : Int32) (x2 : Int32) (S : gS) : Option (Int32 × gS) := bnd (fX12_isIn N (Int32.toInt64 x2) 0 60 S) fun q1 => (if q1.1 = 0 then fX12_confessing_b31 N q1.2 else fX12_confessing_b37 N x1 x2 q1.2)
theorem bX12_confessing_19 {N : Nat} {x1 : Int32} {x2 : Int32} {S : gS} {H : Heap} {locs : List Loc} {ls : Array Slot} {o : Int32 × gS} (C : gC p s m args meth c cX12_confessing 5 RX12 ((some .int)) D (mtys cI cS) mord g Am) (O : gO (mcell g cI cS sa) mord g) (X : gX D (mcell g cI cS sa) mord g S s H locs) (hl : lv_has ls 5 [(0, .ref (g 99)), (1, .int x1), (2, .int x2)]) (hF : fX12_confessing_b19 N x1 x2 S = some o) : W p l e (rmd 7) s m args below meth c H locs 0 0 (gE below args s D (mtys cI cS) (mcell g cI cS sa) mord g (some (.int o.1)) o.2) (F0 m 19 ls []) := by
  unfold fX12_confessing_b19 at hF
  refine lv_iload_n C.1.1 C.1.2.1 dX12_confessing_19 rfl (lv_at hl 2 rfl) ?_
  refine lv_i2l (v := Int32.toInt64 x2) C.1.1 C.1.2.1 dX12_confessing_20 rfl ?_
  refine lv_lconst (v := 0) C.1.1 C.1.2.1 dX12_confessing_21 (by decide) ?_
  refine lv_ldc2 C.1.1 C.1.2.1 C.1.2.2.2.1 (C.1.2.2.2.2 _ mKL432) dX12_confessing_22 ?_
  obtain ⟨q1, hq1, hF⟩ := bnd_some hF
  refine g_callSi C X vX12_isIn (kX12_isIn O C.2.2.2.2.1 N (Int32.toInt64 x2) 0 60  S q1 hq1) (Nat.le_of_ble_eq_true rfl) (Nat.le_of_ble_eq_true rfl) (Nat.le_of_ble_eq_true rfl) (Nat.le_of_ble_eq_true rfl) rfl hl.1 rfl (Nat.le_of_ble_eq_true rfl) dX12_confessing_25 (fun H locs X => ?_)
  refine lv_if_ne (tgt := 37) C.1.1 C.1.2.1 dX12_confessing_28 (by decide) (fun h_z => ?_) (fun h_z => ?_)
  · rw [if_neg h_z] at hF
    exact bX12_confessing_37 C O X (lv_sub hl [0, 1, 2] rfl) hF
  · rw [if_pos h_z] at hF
    exact bX12_confessing_31 C O X (lv_sub hl [0] rfl) hF
noncomputable def fX12_confessing_b13 (N : Nat) (S : gS) : Option (Int32 × gS) := bnd (fX12_fail N 1 S) fun q1 => (some (q1.1, q1.2))
theorem bX12_confessing_13 {N : Nat} {S : gS} {H : Heap} {locs : List Loc} {ls : Array Slot} {o : Int32 × gS} (C : gC p s m args meth c cX12_confessing 5 RX12 ((some .int)) D (mtys cI cS) mord g Am) (O : gO (mcell g cI cS sa) mord g) (X : gX D (mcell g cI cS sa) mord g S s H locs) (hl : lv_has ls 5 [(0, .ref (g 99))]) (hF : fX12_confessing_b13 N S = some o) : W p l e (rmd 7) s m args below meth c H locs 0 0 (gE below args s D (mtys cI cS) (mcell g cI cS sa) mord g (some (.int o.1)) o.2) (F0 m 13 ls []) := by
  unfold fX12_confessing_b13 at hF
  refine lv_aload_n C.1.1 C.1.2.1 dX12_confessing_13 rfl (lv_at hl 0 rfl) ?_
  refine lv_iconst (v := 1) C.1.1 C.1.2.1 dX12_confessing_14 (by decide) ?_
  obtain ⟨q1, hq1, hF⟩ := bnd_some hF
  refine m_callVi C X vX12_fail rfl (kX12_fail O C.2.2.2.2.1 N 1  S q1 hq1) (Nat.le_of_ble_eq_true rfl) (Nat.le_of_ble_eq_true rfl) (Nat.le_of_ble_eq_true rfl) (Nat.le_of_ble_eq_true rfl) rfl hl.1 rfl (Nat.le_of_ble_eq_true rfl) dX12_confessing_15 (fun H locs X => ?_)
  cases hF
  exact g_iret C X dX12_confessing_18
noncomputable def fX12_confessing_b0 (N : Nat) (x1 : Int32) (x2 : Int32) (S : gS) : Option (Int32 × gS) := lt (sU S 99 4 0) fun S1 => (bnd (fX12_isGuild N x1 S1) fun q1 => (if q1.1 = 0 then fX12_confessing_b13 N q1.2 else fX12_confessing_b19 N x1 x2 q1.2))
theorem bX12_confessing_0 {N : Nat} {x1 : Int32} {x2 : Int32} {S : gS} {H : Heap} {locs : List Loc} {ls : Array Slot} {o : Int32 × gS} (C : gC p s m args meth c cX12_confessing 5 RX12 ((some .int)) D (mtys cI cS) mord g Am) (O : gO (mcell g cI cS sa) mord g) (X : gX D (mcell g cI cS sa) mord g S s H locs) (hl : lv_has ls 5 [(0, .ref (g 99)), (1, .int x1), (2, .int x2)]) (hF : fX12_confessing_b0 N x1 x2 S = some o) : W p l e (rmd 7) s m args below meth c H locs 0 0 (gE below args s D (mtys cI cS) (mcell g cI cS sa) mord g (some (.int o.1)) o.2) (F0 m 0 ls []) := by
  unfold fX12_confessing_b0 at hF
  refine lv_aload_n C.1.1 C.1.2.1 dX12_confessing_0 rfl (lv_at hl 0 rfl) ?_
  refine lv_iconst (v := 0) C.1.1 C.1.2.1 dX12_confessing_1 (by decide) ?_
  obtain ⟨S1, eS1, hF⟩ := lt_some hF
  refine m_p4 C O X eS1 dX12_confessing_2 (fun H locs X => ?_)
  refine lv_aload_n C.1.1 C.1.2.1 dX12_confessing_5 rfl (lv_at hl 0 rfl) ?_
  refine lv_iload_n C.1.1 C.1.2.1 dX12_confessing_6 rfl (lv_at hl 1 rfl) ?_
  obtain ⟨q1, hq1, hF⟩ := bnd_some hF
  refine m_callVi C X vX12_isGuild rfl (kX12_isGuild O C.2.2.2.2.1 N x1  S1 q1 hq1) (Nat.le_of_ble_eq_true rfl) (Nat.le_of_ble_eq_true rfl) (Nat.le_of_ble_eq_true rfl) (Nat.le_of_ble_eq_true rfl) rfl hl.1 rfl (Nat.le_of_ble_eq_true rfl) dX12_confessing_7 (fun H locs X => ?_)
  refine lv_if_ne (tgt := 19) C.1.1 C.1.2.1 dX12_confessing_10 (by decide) (fun h_z => ?_) (fun h_z => ?_)
  · rw [if_neg h_z] at hF
    exact bX12_confessing_19 C O X (lv_sub hl [0, 1, 2] rfl) hF
  · rw [if_pos h_z] at hF
    exact bX12_confessing_13 C O X (lv_sub hl [0] rfl) hF
noncomputable def fX12_confessing (N : Nat) (x1 : Int32) (x2 : Int32) (S : gS) : Option (Int32 × gS) := fX12_confessing_b0 N x1 x2 S
theorem kX12_confessing {l : Launch} {D : va_G} {g : Nat → Nat} {cI cS : ClassId} {sa : Nat → Nat → Option Nat} {Am : (Nat → Prop) → State → Heap → Prop} (O : gO (mcell g cI cS sa) mord g) (P : gAm Am) (N : Nat) (x1 : Int32) (x2 : Int32) (S : gS) (o : Int32 × gS) (hF : fX12_confessing N x1 x2 S = some o) : gM l yX12_confessing cX12_confessing 5 ((some .int)) 7 D (mtys cI cS) (mcell g cI cS sa) mord g Am [.ref (g 99), .int x1, .int x2] S (some (.int o.1)) o.2 :=
  gM_of O P (by decide) (Nat.le_of_ble_eq_true rfl) (fun p e s m args below meth c ls C X hl => bX12_confessing_0 C O X (lv_sub hl [0, 1, 2] rfl) hF)
-- see
noncomputable def fX12_see_b58 (N : Nat) (x1 : Int32) (x2 : Int32) (x3 : Int32) (S : gS) : Option (Int32 × gS) := chk (inb (S 99 40) (8)) (lt (sU S 48 (Int32.toNatClampNeg (S 99 40)) x1) fun S1 => (chk (inb (S1 99 40) (8)) (lt (sU S1 49 (Int32.toNatClampNeg (S1 99 40)) x2) fun S2 => (chk (inb (S2 99 40) (8)) (lt (sU S2 50 (Int32.toNatClampNeg (S2 99 40)) x3) fun S3 => (lt (sU S3 99 40 (((S3 99 40) + 1 : Int32))) fun S4 => (some (S4 99 40, S4))))))))
theorem bX12_see_58 {N : Nat} {x1 : Int32} {x2 : Int32} {x3 : Int32} {S : gS} {H : Heap} {locs : List Loc} {ls : Array Slot} {o : Int32 × gS} (C : gC p s m args meth c cX12_see 4 RX12 ((some .int)) D (mtys cI cS) mord g Am) (O : gO (mcell g cI cS sa) mord g) (X : gX D (mcell g cI cS sa) mord g S s H locs) (hl : lv_has ls 4 [(0, .ref (g 99)), (1, .int x1), (2, .int x2), (3, .int x3)]) (hF : fX12_see_b58 N x1 x2 x3 S = some o) : W p l e (rmd 2) s m args below meth c H locs 0 0 (gE below args s D (mtys cI cS) (mcell g cI cS sa) mord g (some (.int o.1)) o.2) (F0 m 58 ls []) := by
  unfold fX12_see_b58 at hF
  refine lv_aload_n C.1.1 C.1.2.1 dX12_see_58 rfl (lv_at hl 0 rfl) ?_
  refine m_g48 C X dX12_see_59 ?_
  refine lv_aload_n C.1.1 C.1.2.1 dX12_see_62 rfl (lv_at hl 0 rfl) ?_
  refine m_g40 C X dX12_see_63 ?_
  refine lv_iload_n C.1.1 C.1.2.1 dX12_see_66 rfl (lv_at hl 1 rfl) ?_
  obtain ⟨h_1, hF⟩ := chk_some hF
  obtain ⟨S1, eS1, hF⟩ := lt_some hF
  refine m_w48 C O X  (inb_vp h_1) rfl eS1 dX12_see_67 (fun H locs X => ?_)
  refine lv_aload_n C.1.1 C.1.2.1 dX12_see_68 rfl (lv_at hl 0 rfl) ?_
  refine m_g49 C X dX12_see_69 ?_
  refine lv_aload_n C.1.1 C.1.2.1 dX12_see_72 rfl (lv_at hl 0 rfl) ?_
  refine m_g40 C X dX12_see_73 ?_
  refine lv_iload_n C.1.1 C.1.2.1 dX12_see_76 rfl (lv_at hl 2 rfl) ?_
  obtain ⟨h_2, hF⟩ := chk_some hF
  obtain ⟨S2, eS2, hF⟩ := lt_some hF
  refine m_w49 C O X  (inb_vp h_2) rfl eS2 dX12_see_77 (fun H locs X => ?_)
  refine lv_aload_n C.1.1 C.1.2.1 dX12_see_78 rfl (lv_at hl 0 rfl) ?_
  refine m_g50 C X dX12_see_79 ?_
  refine lv_aload_n C.1.1 C.1.2.1 dX12_see_82 rfl (lv_at hl 0 rfl) ?_
  refine m_g40 C X dX12_see_83 ?_
  refine lv_iload_n C.1.1 C.1.2.1 dX12_see_86 rfl (lv_at hl 3 rfl) ?_
  obtain ⟨h_3, hF⟩ := chk_some hF
  obtain ⟨S3, eS3, hF⟩ := lt_some hF
  refine m_w50 C O X  (inb_vp h_3) rfl eS3 dX12_see_87 (fun H locs X => ?_)
  refine lv_aload_n C.1.1 C.1.2.1 dX12_see_88 rfl (lv_at hl 0 rfl) ?_
  refine lv_dup C.1.1 C.1.2.1 dX12_see_89 rfl ?_
  refine m_g40 C X dX12_see_90 ?_
  refine lv_iconst (v := 1) C.1.1 C.1.2.1 dX12_see_93 (by decide) ?_
  refine lv_iadd C.1.1 C.1.2.1 dX12_see_94 ?_
  obtain ⟨S4, eS4, hF⟩ := lt_some hF
  refine m_p40 C O X eS4 dX12_see_95 (fun H locs X => ?_)
  refine lv_aload_n C.1.1 C.1.2.1 dX12_see_98 rfl (lv_at hl 0 rfl) ?_
  refine m_g40 C X dX12_see_99 ?_
  cases hF
  exact g_iret C X dX12_see_102
noncomputable def fX12_see_b52 (N : Nat) (S : gS) : Option (Int32 × gS) := bnd (fX12_refuse N 2 S) fun q1 => (some (q1.1, q1.2))
theorem bX12_see_52 {N : Nat} {S : gS} {H : Heap} {locs : List Loc} {ls : Array Slot} {o : Int32 × gS} (C : gC p s m args meth c cX12_see 4 RX12 ((some .int)) D (mtys cI cS) mord g Am) (O : gO (mcell g cI cS sa) mord g) (X : gX D (mcell g cI cS sa) mord g S s H locs) (hl : lv_has ls 4 [(0, .ref (g 99))]) (hF : fX12_see_b52 N S = some o) : W p l e (rmd 2) s m args below meth c H locs 0 0 (gE below args s D (mtys cI cS) (mcell g cI cS sa) mord g (some (.int o.1)) o.2) (F0 m 52 ls []) := by
  unfold fX12_see_b52 at hF
  refine lv_aload_n C.1.1 C.1.2.1 dX12_see_52 rfl (lv_at hl 0 rfl) ?_
  refine lv_iconst (v := 2) C.1.1 C.1.2.1 dX12_see_53 (by decide) ?_
  obtain ⟨q1, hq1, hF⟩ := bnd_some hF
  refine m_callVi C X vX12_refuse rfl (kX12_refuse O C.2.2.2.2.1 N 2  S q1 hq1) (Nat.le_of_ble_eq_true rfl) (Nat.le_of_ble_eq_true rfl) (Nat.le_of_ble_eq_true rfl) (Nat.le_of_ble_eq_true rfl) rfl hl.1 rfl (Nat.le_of_ble_eq_true rfl) dX12_see_54 (fun H locs X => ?_)
  cases hF
  exact g_iret C X dX12_see_57
noncomputable def fX12_see_b40 (N : Nat) (x1 : Int32) (x2 : Int32) (x3 : Int32) (S : gS) : Option (Int32 × gS) := bnd (fX12_isIn N (Int32.toInt64 x3) 0 99 S) fun q1 => (if q1.1 = 0 then fX12_see_b52 N q1.2 else fX12_see_b58 N x1 x2 x3 q1.2)
theorem bX12_see_40 {N : Nat} {x1 : Int32} {x2 : Int32} {x3 : Int32} {S : gS} {H : Heap} {locs : List Loc} {ls : Array Slot} {o : Int32 × gS} (C : gC p s m args meth c cX12_see 4 RX12 ((some .int)) D (mtys cI cS) mord g Am) (O : gO (mcell g cI cS sa) mord g) (X : gX D (mcell g cI cS sa) mord g S s H locs) (hl : lv_has ls 4 [(0, .ref (g 99)), (1, .int x1), (2, .int x2), (3, .int x3)]) (hF : fX12_see_b40 N x1 x2 x3 S = some o) : W p l e (rmd 2) s m args below meth c H locs 0 0 (gE below args s D (mtys cI cS) (mcell g cI cS sa) mord g (some (.int o.1)) o.2) (F0 m 40 ls []) := by
  unfold fX12_see_b40 at hF
  refine lv_iload_n C.1.1 C.1.2.1 dX12_see_40 rfl (lv_at hl 3 rfl) ?_
  refine lv_i2l (v := Int32.toInt64 x3) C.1.1 C.1.2.1 dX12_see_41 rfl ?_
  refine lv_lconst (v := 0) C.1.1 C.1.2.1 dX12_see_42 (by decide) ?_
  refine lv_ldc2 C.1.1 C.1.2.1 C.1.2.2.2.1 (C.1.2.2.2.2 _ mKL453) dX12_see_43 ?_
  obtain ⟨q1, hq1, hF⟩ := bnd_some hF
  refine g_callSi C X vX12_isIn (kX12_isIn O C.2.2.2.2.1 N (Int32.toInt64 x3) 0 99  S q1 hq1) (Nat.le_of_ble_eq_true rfl) (Nat.le_of_ble_eq_true rfl) (Nat.le_of_ble_eq_true rfl) (Nat.le_of_ble_eq_true rfl) rfl hl.1 rfl (Nat.le_of_ble_eq_true rfl) dX12_see_46 (fun H locs X => ?_)
  refine lv_if_ne (tgt := 58) C.1.1 C.1.2.1 dX12_see_49 (by decide) (fun h_z => ?_) (fun h_z => ?_)
  · rw [if_neg h_z] at hF
    exact bX12_see_58 C O X (lv_sub hl [0, 1, 2, 3] rfl) hF
  · rw [if_pos h_z] at hF
    exact bX12_see_52 C O X (lv_sub hl [0] rfl) hF
noncomputable def fX12_see_b28 (N : Nat) (x1 : Int32) (x2 : Int32) (x3 : Int32) (S : gS) : Option (Int32 × gS) := bnd (fX12_isIn N (Int32.toInt64 x2) 0 20 S) fun q1 => (if q1.1 = 0 then fX12_see_b52 N q1.2 else fX12_see_b40 N x1 x2 x3 q1.2)
theorem bX12_see_28 {N : Nat} {x1 : Int32} {x2 : Int32} {x3 : Int32} {S : gS} {H : Heap} {locs : List Loc} {ls : Array Slot} {o : Int32 × gS} (C : gC p s m args meth c cX12_see 4 RX12 ((some .int)) D (mtys cI cS) mord g Am) (O : gO (mcell g cI cS sa) mord g) (X : gX D (mcell g cI cS sa) mord g S s H locs) (hl : lv_has ls 4 [(0, .ref (g 99)), (1, .int x1), (2, .int x2), (3, .int x3)]) (hF : fX12_see_b28 N x1 x2 x3 S = some o) : W p l e (rmd 2) s m args below meth c H locs 0 0 (gE below args s D (mtys cI cS) (mcell g cI cS sa) mord g (some (.int o.1)) o.2) (F0 m 28 ls []) := by
  unfold fX12_see_b28 at hF
  refine lv_iload_n C.1.1 C.1.2.1 dX12_see_28 rfl (lv_at hl 2 rfl) ?_
  refine lv_i2l (v := Int32.toInt64 x2) C.1.1 C.1.2.1 dX12_see_29 rfl ?_
  refine lv_lconst (v := 0) C.1.1 C.1.2.1 dX12_see_30 (by decide) ?_
  refine lv_ldc2 C.1.1 C.1.2.1 C.1.2.2.2.1 (C.1.2.2.2.2 _ mKL404) dX12_see_31 ?_
  obtain ⟨q1, hq1, hF⟩ := bnd_some hF
  refine g_callSi C X vX12_isIn (kX12_isIn O C.2.2.2.2.1 N (Int32.toInt64 x2) 0 20  S q1 hq1) (Nat.le_of_ble_eq_true rfl) (Nat.le_of_ble_eq_true rfl) (Nat.le_of_ble_eq_true rfl) (Nat.le_of_ble_eq_true rfl) rfl hl.1 rfl (Nat.le_of_ble_eq_true rfl) dX12_see_34 (fun H locs X => ?_)
  refine lv_if_eq (tgt := 52) C.1.1 C.1.2.1 dX12_see_37 (by decide) (fun h_z => ?_) (fun h_z => ?_)
  · rw [if_pos h_z] at hF
    exact bX12_see_52 C O X (lv_sub hl [0] rfl) hF
  · rw [if_neg h_z] at hF
    exact bX12_see_40 C O X (lv_sub hl [0, 1, 2, 3] rfl) hF
noncomputable def fX12_see_b19 (N : Nat) (x1 : Int32) (x2 : Int32) (x3 : Int32) (S : gS) : Option (Int32 × gS) := if (S 99 40) = 8 then fX12_see_b52 N S else fX12_see_b28 N x1 x2 x3 S
theorem bX12_see_19 {N : Nat} {x1 : Int32} {x2 : Int32} {x3 : Int32} {S : gS} {H : Heap} {locs : List Loc} {ls : Array Slot} {o : Int32 × gS} (C : gC p s m args meth c cX12_see 4 RX12 ((some .int)) D (mtys cI cS) mord g Am) (O : gO (mcell g cI cS sa) mord g) (X : gX D (mcell g cI cS sa) mord g S s H locs) (hl : lv_has ls 4 [(0, .ref (g 99)), (1, .int x1), (2, .int x2), (3, .int x3)]) (hF : fX12_see_b19 N x1 x2 x3 S = some o) : W p l e (rmd 2) s m args below meth c H locs 0 0 (gE below args s D (mtys cI cS) (mcell g cI cS sa) mord g (some (.int o.1)) o.2) (F0 m 19 ls []) := by
  unfold fX12_see_b19 at hF
  refine lv_aload_n C.1.1 C.1.2.1 dX12_see_19 rfl (lv_at hl 0 rfl) ?_
  refine m_g40 C X dX12_see_20 ?_
  refine lv_bipush (v := 8) C.1.1 C.1.2.1 dX12_see_23 (by decide) ?_
  refine lv_icmp_eq (tgt := 52) C.1.1 C.1.2.1 dX12_see_25 (by decide) (fun h_z => ?_) (fun h_z => ?_)
  · rw [if_pos h_z] at hF
    exact bX12_see_52 C O X (lv_sub hl [0] rfl) hF
  · rw [if_neg h_z] at hF
    exact bX12_see_28 C O X (lv_sub hl [0, 1, 2, 3] rfl) hF
noncomputable def fX12_see_b13 (N : Nat) (S : gS) : Option (Int32 × gS) := bnd (fX12_fail N 1 S) fun q1 => (some (q1.1, q1.2))
theorem bX12_see_13 {N : Nat} {S : gS} {H : Heap} {locs : List Loc} {ls : Array Slot} {o : Int32 × gS} (C : gC p s m args meth c cX12_see 4 RX12 ((some .int)) D (mtys cI cS) mord g Am) (O : gO (mcell g cI cS sa) mord g) (X : gX D (mcell g cI cS sa) mord g S s H locs) (hl : lv_has ls 4 [(0, .ref (g 99))]) (hF : fX12_see_b13 N S = some o) : W p l e (rmd 2) s m args below meth c H locs 0 0 (gE below args s D (mtys cI cS) (mcell g cI cS sa) mord g (some (.int o.1)) o.2) (F0 m 13 ls []) := by
  unfold fX12_see_b13 at hF
  refine lv_aload_n C.1.1 C.1.2.1 dX12_see_13 rfl (lv_at hl 0 rfl) ?_
  refine lv_iconst (v := 1) C.1.1 C.1.2.1 dX12_see_14 (by decide) ?_
  obtain ⟨q1, hq1, hF⟩ := bnd_some hF
  refine m_callVi C X vX12_fail rfl (kX12_fail O C.2.2.2.2.1 N 1  S q1 hq1) (Nat.le_of_ble_eq_true rfl) (Nat.le_of_ble_eq_true rfl) (Nat.le_of_ble_eq_true rfl) (Nat.le_of_ble_eq_true rfl) rfl hl.1 rfl (Nat.le_of_ble_eq_true rfl) dX12_see_15 (fun H locs X => ?_)
  cases hF
  exact g_iret C X dX12_see_18
noncomputable def fX12_see_b0 (N : Nat) (x1 : Int32) (x2 : Int32) (x3 : Int32) (S : gS) : Option (Int32 × gS) := lt (sU S 99 4 0) fun S1 => (bnd (fX12_isGuild N x1 S1) fun q1 => (if q1.1 = 0 then fX12_see_b13 N q1.2 else fX12_see_b19 N x1 x2 x3 q1.2))
theorem bX12_see_0 {N : Nat} {x1 : Int32} {x2 : Int32} {x3 : Int32} {S : gS} {H : Heap} {locs : List Loc} {ls : Array Slot} {o : Int32 × gS} (C : gC p s m args meth c cX12_see 4 RX12 ((some .int)) D (mtys cI cS) mord g Am) (O : gO (mcell g cI cS sa) mord g) (X : gX D (mcell g cI cS sa) mord g S s H locs) (hl : lv_has ls 4 [(0, .ref (g 99)), (1, .int x1), (2, .int x2), (3, .int x3)]) (hF : fX12_see_b0 N x1 x2 x3 S = some o) : W p l e (rmd 2) s m args below meth c H locs 0 0 (gE below args s D (mtys cI cS) (mcell g cI cS sa) mord g (some (.int o.1)) o.2) (F0 m 0 ls []) := by
  unfold fX12_see_b0 at hF
  refine lv_aload_n C.1.1 C.1.2.1 dX12_see_0 rfl (lv_at hl 0 rfl) ?_
  refine lv_iconst (v := 0) C.1.1 C.1.2.1 dX12_see_1 (by decide) ?_
  obtain ⟨S1, eS1, hF⟩ := lt_some hF
  refine m_p4 C O X eS1 dX12_see_2 (fun H locs X => ?_)
  refine lv_aload_n C.1.1 C.1.2.1 dX12_see_5 rfl (lv_at hl 0 rfl) ?_
  refine lv_iload_n C.1.1 C.1.2.1 dX12_see_6 rfl (lv_at hl 1 rfl) ?_
  obtain ⟨q1, hq1, hF⟩ := bnd_some hF
  refine m_callVi C X vX12_isGuild rfl (kX12_isGuild O C.2.2.2.2.1 N x1  S1 q1 hq1) (Nat.le_of_ble_eq_true rfl) (Nat.le_of_ble_eq_true rfl) (Nat.le_of_ble_eq_true rfl) (Nat.le_of_ble_eq_true rfl) rfl hl.1 rfl (Nat.le_of_ble_eq_true rfl) dX12_see_7 (fun H locs X => ?_)
  refine lv_if_ne (tgt := 19) C.1.1 C.1.2.1 dX12_see_10 (by decide) (fun h_z => ?_) (fun h_z => ?_)
  · rw [if_neg h_z] at hF
    exact bX12_see_19 C O X (lv_sub hl [0, 1, 2, 3] rfl) hF
  · rw [if_pos h_z] at hF
    exact bX12_see_13 C O X (lv_sub hl [0] rfl) hF
noncomputable def fX12_see (N : Nat) (x1 : Int32) (x2 : Int32) (x3 : Int32) (S : gS) : Option (Int32 × gS) := fX12_see_b0 N x1 x2 x3 S
theorem kX12_see {l : Launch} {D : va_G} {g : Nat → Nat} {cI cS : ClassId} {sa : Nat → Nat → Option Nat} {Am : (Nat → Prop) → State → Heap → Prop} (O : gO (mcell g cI cS sa) mord g) (P : gAm Am) (N : Nat) (x1 : Int32) (x2 : Int32) (x3 : Int32) (S : gS) (o : Int32 × gS) (hF : fX12_see N x1 x2 x3 S = some o) : gM l yX12_see cX12_see 4 ((some .int)) 2 D (mtys cI cS) (mcell g cI cS sa) mord g Am [.ref (g 99), .int x1, .int x2, .int x3] S (some (.int o.1)) o.2 :=
  gM_of O P (by decide) (Nat.le_of_ble_eq_true rfl) (fun p e s m args below meth c ls C X hl => bX12_see_0 C O X (lv_sub hl [0, 1, 2, 3] rfl) hF)
-- isAsSeen
noncomputable def fX12_isAsSeen_b122 (N : Nat) (x2 : Int32) (S : gS) : Option (Int32 × gS) := bnd (fX12_unpack N 51 0 S) fun q1 => (chk (zb x2) (some (x2, q1.2)))
theorem bX12_isAsSeen_122 {N : Nat} {x2 : Int32} {S : gS} {H : Heap} {locs : List Loc} {ls : Array Slot} {o : Int32 × gS} (C : gC p s m args meth c cX12_isAsSeen 5 RX12 ((some .boolean)) D (mtys cI cS) mord g Am) (O : gO (mcell g cI cS sa) mord g) (X : gX D (mcell g cI cS sa) mord g S s H locs) (hl : lv_has ls 5 [(0, .ref (g 99)), (2, .int x2)]) (hF : fX12_isAsSeen_b122 N x2 S = some o) : W p l e (rmd 6) s m args below meth c H locs 0 0 (gE below args s D (mtys cI cS) (mcell g cI cS sa) mord g (some (.int o.1)) o.2) (F0 m 122 ls []) := by
  unfold fX12_isAsSeen_b122 at hF
  refine lv_aload_n C.1.1 C.1.2.1 dX12_isAsSeen_122 rfl (lv_at hl 0 rfl) ?_
  refine lv_aload_n C.1.1 C.1.2.1 dX12_isAsSeen_123 rfl (lv_at hl 0 rfl) ?_
  refine m_g51 C X dX12_isAsSeen_124 ?_
  refine lv_iconst (v := 0) C.1.1 C.1.2.1 dX12_isAsSeen_127 (by decide) ?_
  obtain ⟨q1, hq1, hF⟩ := bnd_some hF
  refine m_callV C X vX12_unpack rfl (kX12_unpack O C.2.2.2.2.1 N 51 0 (rfl : mI 51 = true) S q1 hq1) (Nat.le_of_ble_eq_true rfl) (Nat.le_of_ble_eq_true rfl) (Nat.le_of_ble_eq_true rfl) (Nat.le_of_ble_eq_true rfl) rfl hl.1 rfl (Nat.le_of_ble_eq_true rfl) dX12_isAsSeen_128 (fun H locs X => ?_)
  refine lv_iload_n C.1.1 C.1.2.1 dX12_isAsSeen_131 rfl (lv_at hl 1 rfl) ?_
  obtain ⟨h_1, hF⟩ := chk_some hF
  cases hF
  exact g_zret C X h_1 dX12_isAsSeen_132
noncomputable def fX12_isAsSeen_b112 (N : Nat) (r42 : Int32 → Int32 → Int32 → gS → Option (Int32 × gS)) (x1 : Int32) (x2 : Int32) (x3 : Int32) (S : gS) : Option (Int32 × gS) := bnd (fX12_anHour N  S) fun q1 => (r42 x1 x2 ((x3 + 1 : Int32)) q1.2)
theorem bX12_isAsSeen_112 {N : Nat} {r42 : Int32 → Int32 → Int32 → gS → Option (Int32 × gS)} {x1 : Int32} {x2 : Int32} {x3 : Int32} {S : gS} {H : Heap} {locs : List Loc} {ls : Array Slot} {o : Int32 × gS} (C : gC p s m args meth c cX12_isAsSeen 5 RX12 ((some .boolean)) D (mtys cI cS) mord g Am) (O : gO (mcell g cI cS sa) mord g) (K42 : ∀ (x1 : Int32) (x2 : Int32) (x3 : Int32) (S : gS) (H : Heap) (locs : List Loc) (ls : Array Slot), gX D (mcell g cI cS sa) mord g S s H locs → lv_has ls 5 [(0, .ref (g 99)), (1, .int x1), (2, .int x2), (3, .int x3)] → r42 x1 x2 x3 S = some o → W p l e (rmd 6) s m args below meth c H locs 0 0 (gE below args s D (mtys cI cS) (mcell g cI cS sa) mord g (some (.int o.1)) o.2) (F0 m 42 ls [])) (X : gX D (mcell g cI cS sa) mord g S s H locs) (hl : lv_has ls 5 [(0, .ref (g 99)), (1, .int x1), (2, .int x2), (3, .int x3)]) (hF : fX12_isAsSeen_b112 N r42 x1 x2 x3 S = some o) : W p l e (rmd 6) s m args below meth c H locs 0 0 (gE below args s D (mtys cI cS) (mcell g cI cS sa) mord g (some (.int o.1)) o.2) (F0 m 112 ls []) := by
  unfold fX12_isAsSeen_b112 at hF
  refine lv_aload_n C.1.1 C.1.2.1 dX12_isAsSeen_112 rfl (lv_at hl 0 rfl) ?_
  obtain ⟨q1, hq1, hF⟩ := bnd_some hF
  refine m_callV C X vX12_anHour rfl (kX12_anHour O C.2.2.2.2.1 N   S q1 hq1) (Nat.le_of_ble_eq_true rfl) (Nat.le_of_ble_eq_true rfl) (Nat.le_of_ble_eq_true rfl) (Nat.le_of_ble_eq_true rfl) rfl hl.1 rfl (Nat.le_of_ble_eq_true rfl) dX12_isAsSeen_113 (fun H locs X => ?_)
  refine lv_iinc (v := (x3 + 1 : Int32)) (lv' := [(3, .int ((x3 + 1 : Int32))), (0, .ref (g 99)), (1, .int x1), (2, .int x2)]) C.1.1 C.1.2.1 dX12_isAsSeen_116 hl (k := 3) rfl rfl (by decide) rfl (fun ls hl => ?_)
  refine lv_goto (tgt := 42) C.1.1 C.1.2.1 dX12_isAsSeen_119 (by decide) ?_
  exact K42 _ _ _ _ _ _ _ X (lv_sub hl [1, 2, 3, 0] rfl) hF
noncomputable def fX12_isAsSeen_b105 (N : Nat) (r42 : Int32 → Int32 → Int32 → gS → Option (Int32 × gS)) (r54 : Int32 → Int32 → Int32 → Int32 → gS → Option (Int32 × gS)) (x1 : Int32) (x3 : Int32) (x4 : Int32) (t0 : Int32) (S : gS) : Option (Int32 × gS) := r54 x1 t0 x3 ((x4 + 1 : Int32)) S
theorem bX12_isAsSeen_105 {N : Nat} {r42 : Int32 → Int32 → Int32 → gS → Option (Int32 × gS)} {r54 : Int32 → Int32 → Int32 → Int32 → gS → Option (Int32 × gS)} {x1 : Int32} {x3 : Int32} {x4 : Int32} {t0 : Int32} {S : gS} {H : Heap} {locs : List Loc} {ls : Array Slot} {o : Int32 × gS} (C : gC p s m args meth c cX12_isAsSeen 5 RX12 ((some .boolean)) D (mtys cI cS) mord g Am) (O : gO (mcell g cI cS sa) mord g) (K42 : ∀ (x1 : Int32) (x2 : Int32) (x3 : Int32) (S : gS) (H : Heap) (locs : List Loc) (ls : Array Slot), gX D (mcell g cI cS sa) mord g S s H locs → lv_has ls 5 [(0, .ref (g 99)), (1, .int x1), (2, .int x2), (3, .int x3)] → r42 x1 x2 x3 S = some o → W p l e (rmd 6) s m args below meth c H locs 0 0 (gE below args s D (mtys cI cS) (mcell g cI cS sa) mord g (some (.int o.1)) o.2) (F0 m 42 ls [])) (K54 : ∀ (x1 : Int32) (x2 : Int32) (x3 : Int32) (x4 : Int32) (S : gS) (H : Heap) (locs : List Loc) (ls : Array Slot), gX D (mcell g cI cS sa) mord g S s H locs → lv_has ls 5 [(0, .ref (g 99)), (1, .int x1), (2, .int x2), (3, .int x3), (4, .int x4)] → r54 x1 x2 x3 x4 S = some o → W p l e (rmd 6) s m args below meth c H locs 0 0 (gE below args s D (mtys cI cS) (mcell g cI cS sa) mord g (some (.int o.1)) o.2) (F0 m 54 ls [])) (X : gX D (mcell g cI cS sa) mord g S s H locs) (hl : lv_has ls 5 [(0, .ref (g 99)), (1, .int x1), (3, .int x3), (4, .int x4)]) (hF : fX12_isAsSeen_b105 N r42 r54 x1 x3 x4 t0 S = some o) : W p l e (rmd 6) s m args below meth c H locs 0 0 (gE below args s D (mtys cI cS) (mcell g cI cS sa) mord g (some (.int o.1)) o.2) (F0 m 105 ls [.int t0]) := by
  unfold fX12_isAsSeen_b105 at hF
  refine lv_istore_n (lv' := [(2, .int t0), (0, .ref (g 99)), (1, .int x1), (3, .int x3), (4, .int x4)]) C.1.1 C.1.2.1 dX12_isAsSeen_105 rfl hl (by decide) rfl (fun ls hl => ?_)
  refine lv_iinc (v := (x4 + 1 : Int32)) (lv' := [(4, .int ((x4 + 1 : Int32))), (2, .int t0), (0, .ref (g 99)), (1, .int x1), (3, .int x3)]) C.1.1 C.1.2.1 dX12_isAsSeen_106 hl (k := 4) rfl rfl (by decide) rfl (fun ls hl => ?_)
  refine lv_goto (tgt := 54) C.1.1 C.1.2.1 dX12_isAsSeen_109 (by decide) ?_
  exact K54 _ _ _ _ _ _ _ _ X (lv_sub hl [2, 3, 1, 4, 0] rfl) hF
noncomputable def fX12_isAsSeen_b104 (N : Nat) (r42 : Int32 → Int32 → Int32 → gS → Option (Int32 × gS)) (r54 : Int32 → Int32 → Int32 → Int32 → gS → Option (Int32 × gS)) (x1 : Int32) (x3 : Int32) (x4 : Int32) (S : gS) : Option (Int32 × gS) := fX12_isAsSeen_b105 N r42 r54 x1 x3 x4 0 S
theorem bX12_isAsSeen_104 {N : Nat} {r42 : Int32 → Int32 → Int32 → gS → Option (Int32 × gS)} {r54 : Int32 → Int32 → Int32 → Int32 → gS → Option (Int32 × gS)} {x1 : Int32} {x3 : Int32} {x4 : Int32} {S : gS} {H : Heap} {locs : List Loc} {ls : Array Slot} {o : Int32 × gS} (C : gC p s m args meth c cX12_isAsSeen 5 RX12 ((some .boolean)) D (mtys cI cS) mord g Am) (O : gO (mcell g cI cS sa) mord g) (K42 : ∀ (x1 : Int32) (x2 : Int32) (x3 : Int32) (S : gS) (H : Heap) (locs : List Loc) (ls : Array Slot), gX D (mcell g cI cS sa) mord g S s H locs → lv_has ls 5 [(0, .ref (g 99)), (1, .int x1), (2, .int x2), (3, .int x3)] → r42 x1 x2 x3 S = some o → W p l e (rmd 6) s m args below meth c H locs 0 0 (gE below args s D (mtys cI cS) (mcell g cI cS sa) mord g (some (.int o.1)) o.2) (F0 m 42 ls [])) (K54 : ∀ (x1 : Int32) (x2 : Int32) (x3 : Int32) (x4 : Int32) (S : gS) (H : Heap) (locs : List Loc) (ls : Array Slot), gX D (mcell g cI cS sa) mord g S s H locs → lv_has ls 5 [(0, .ref (g 99)), (1, .int x1), (2, .int x2), (3, .int x3), (4, .int x4)] → r54 x1 x2 x3 x4 S = some o → W p l e (rmd 6) s m args below meth c H locs 0 0 (gE below args s D (mtys cI cS) (mcell g cI cS sa) mord g (some (.int o.1)) o.2) (F0 m 54 ls [])) (X : gX D (mcell g cI cS sa) mord g S s H locs) (hl : lv_has ls 5 [(0, .ref (g 99)), (1, .int x1), (3, .int x3), (4, .int x4)]) (hF : fX12_isAsSeen_b104 N r42 r54 x1 x3 x4 S = some o) : W p l e (rmd 6) s m args below meth c H locs 0 0 (gE below args s D (mtys cI cS) (mcell g cI cS sa) mord g (some (.int o.1)) o.2) (F0 m 104 ls []) := by
  unfold fX12_isAsSeen_b104 at hF
  refine lv_iconst (v := 0) C.1.1 C.1.2.1 dX12_isAsSeen_104 (by decide) ?_
  exact bX12_isAsSeen_105 C O K42 K54 X (lv_sub hl [0, 1, 2, 3] rfl) hF
noncomputable def fX12_isAsSeen_b100 (N : Nat) (r42 : Int32 → Int32 → Int32 → gS → Option (Int32 × gS)) (r54 : Int32 → Int32 → Int32 → Int32 → gS → Option (Int32 × gS)) (x1 : Int32) (x3 : Int32) (x4 : Int32) (S : gS) : Option (Int32 × gS) := fX12_isAsSeen_b105 N r42 r54 x1 x3 x4 1 S
theorem bX12_isAsSeen_100 {N : Nat} {r42 : Int32 → Int32 → Int32 → gS → Option (Int32 × gS)} {r54 : Int32 → Int32 → Int32 → Int32 → gS → Option (Int32 × gS)} {x1 : Int32} {x3 : Int32} {x4 : Int32} {S : gS} {H : Heap} {locs : List Loc} {ls : Array Slot} {o : Int32 × gS} (C : gC p s m args meth c cX12_isAsSeen 5 RX12 ((some .boolean)) D (mtys cI cS) mord g Am) (O : gO (mcell g cI cS sa) mord g) (K42 : ∀ (x1 : Int32) (x2 : Int32) (x3 : Int32) (S : gS) (H : Heap) (locs : List Loc) (ls : Array Slot), gX D (mcell g cI cS sa) mord g S s H locs → lv_has ls 5 [(0, .ref (g 99)), (1, .int x1), (2, .int x2), (3, .int x3)] → r42 x1 x2 x3 S = some o → W p l e (rmd 6) s m args below meth c H locs 0 0 (gE below args s D (mtys cI cS) (mcell g cI cS sa) mord g (some (.int o.1)) o.2) (F0 m 42 ls [])) (K54 : ∀ (x1 : Int32) (x2 : Int32) (x3 : Int32) (x4 : Int32) (S : gS) (H : Heap) (locs : List Loc) (ls : Array Slot), gX D (mcell g cI cS sa) mord g S s H locs → lv_has ls 5 [(0, .ref (g 99)), (1, .int x1), (2, .int x2), (3, .int x3), (4, .int x4)] → r54 x1 x2 x3 x4 S = some o → W p l e (rmd 6) s m args below meth c H locs 0 0 (gE below args s D (mtys cI cS) (mcell g cI cS sa) mord g (some (.int o.1)) o.2) (F0 m 54 ls [])) (X : gX D (mcell g cI cS sa) mord g S s H locs) (hl : lv_has ls 5 [(0, .ref (g 99)), (1, .int x1), (3, .int x3), (4, .int x4)]) (hF : fX12_isAsSeen_b100 N r42 r54 x1 x3 x4 S = some o) : W p l e (rmd 6) s m args below meth c H locs 0 0 (gE below args s D (mtys cI cS) (mcell g cI cS sa) mord g (some (.int o.1)) o.2) (F0 m 100 ls []) := by
  unfold fX12_isAsSeen_b100 at hF
  refine lv_iconst (v := 1) C.1.1 C.1.2.1 dX12_isAsSeen_100 (by decide) ?_
  refine lv_goto (tgt := 105) C.1.1 C.1.2.1 dX12_isAsSeen_101 (by decide) ?_
  exact bX12_isAsSeen_105 C O K42 K54 X (lv_sub hl [0, 1, 2, 3] rfl) hF
noncomputable def fX12_isAsSeen_b78 (N : Nat) (r42 : Int32 → Int32 → Int32 → gS → Option (Int32 × gS)) (r54 : Int32 → Int32 → Int32 → Int32 → gS → Option (Int32 × gS)) (x1 : Int32) (x3 : Int32) (x4 : Int32) (S : gS) : Option (Int32 × gS) := chk (inb x4 (8)) (chk (inb (S 48 (Int32.toNatClampNeg x4)) (6)) (chk (inb x4 (8)) (if (S 32 (Int32.toNatClampNeg (S 48 (Int32.toNatClampNeg x4)))) = (S 50 (Int32.toNatClampNeg x4)) then fX12_isAsSeen_b100 N r42 r54 x1 x3 x4 S else fX12_isAsSeen_b104 N r42 r54 x1 x3 x4 S)))
theorem bX12_isAsSeen_78 {N : Nat} {r42 : Int32 → Int32 → Int32 → gS → Option (Int32 × gS)} {r54 : Int32 → Int32 → Int32 → Int32 → gS → Option (Int32 × gS)} {x1 : Int32} {x3 : Int32} {x4 : Int32} {S : gS} {H : Heap} {locs : List Loc} {ls : Array Slot} {o : Int32 × gS} (C : gC p s m args meth c cX12_isAsSeen 5 RX12 ((some .boolean)) D (mtys cI cS) mord g Am) (O : gO (mcell g cI cS sa) mord g) (K42 : ∀ (x1 : Int32) (x2 : Int32) (x3 : Int32) (S : gS) (H : Heap) (locs : List Loc) (ls : Array Slot), gX D (mcell g cI cS sa) mord g S s H locs → lv_has ls 5 [(0, .ref (g 99)), (1, .int x1), (2, .int x2), (3, .int x3)] → r42 x1 x2 x3 S = some o → W p l e (rmd 6) s m args below meth c H locs 0 0 (gE below args s D (mtys cI cS) (mcell g cI cS sa) mord g (some (.int o.1)) o.2) (F0 m 42 ls [])) (K54 : ∀ (x1 : Int32) (x2 : Int32) (x3 : Int32) (x4 : Int32) (S : gS) (H : Heap) (locs : List Loc) (ls : Array Slot), gX D (mcell g cI cS sa) mord g S s H locs → lv_has ls 5 [(0, .ref (g 99)), (1, .int x1), (2, .int x2), (3, .int x3), (4, .int x4)] → r54 x1 x2 x3 x4 S = some o → W p l e (rmd 6) s m args below meth c H locs 0 0 (gE below args s D (mtys cI cS) (mcell g cI cS sa) mord g (some (.int o.1)) o.2) (F0 m 54 ls [])) (X : gX D (mcell g cI cS sa) mord g S s H locs) (hl : lv_has ls 5 [(0, .ref (g 99)), (1, .int x1), (3, .int x3), (4, .int x4)]) (hF : fX12_isAsSeen_b78 N r42 r54 x1 x3 x4 S = some o) : W p l e (rmd 6) s m args below meth c H locs 0 0 (gE below args s D (mtys cI cS) (mcell g cI cS sa) mord g (some (.int o.1)) o.2) (F0 m 78 ls []) := by
  unfold fX12_isAsSeen_b78 at hF
  refine lv_aload_n C.1.1 C.1.2.1 dX12_isAsSeen_78 rfl (lv_at hl 0 rfl) ?_
  refine m_g32 C X dX12_isAsSeen_79 ?_
  refine lv_aload_n C.1.1 C.1.2.1 dX12_isAsSeen_82 rfl (lv_at hl 0 rfl) ?_
  refine m_g48 C X dX12_isAsSeen_83 ?_
  refine lv_iload C.1.1 C.1.2.1 dX12_isAsSeen_86 (lv_at hl 3 rfl) ?_
  obtain ⟨h_1, hF⟩ := chk_some hF
  refine m_r48 C X  (inb_vp h_1) rfl dX12_isAsSeen_88 ?_
  obtain ⟨h_2, hF⟩ := chk_some hF
  refine m_r32 C X  (inb_vp h_2) rfl dX12_isAsSeen_89 ?_
  refine lv_aload_n C.1.1 C.1.2.1 dX12_isAsSeen_90 rfl (lv_at hl 0 rfl) ?_
  refine m_g50 C X dX12_isAsSeen_91 ?_
  refine lv_iload C.1.1 C.1.2.1 dX12_isAsSeen_94 (lv_at hl 3 rfl) ?_
  obtain ⟨h_3, hF⟩ := chk_some hF
  refine m_r50 C X  (inb_vp h_3) rfl dX12_isAsSeen_96 ?_
  refine lv_icmp_ne (tgt := 104) C.1.1 C.1.2.1 dX12_isAsSeen_97 (by decide) (fun h_z => ?_) (fun h_z => ?_)
  · rw [if_neg h_z] at hF
    exact bX12_isAsSeen_104 C O K42 K54 X (lv_sub hl [0, 1, 2, 3] rfl) hF
  · rw [if_pos h_z] at hF
    exact bX12_isAsSeen_100 C O K42 K54 X (lv_sub hl [0, 1, 2, 3] rfl) hF
noncomputable def fX12_isAsSeen_b67 (N : Nat) (r42 : Int32 → Int32 → Int32 → gS → Option (Int32 × gS)) (r54 : Int32 → Int32 → Int32 → Int32 → gS → Option (Int32 × gS)) (x1 : Int32) (x3 : Int32) (x4 : Int32) (S : gS) : Option (Int32 × gS) := chk (inb x4 (8)) (if (S 49 (Int32.toNatClampNeg x4)) = x3 then fX12_isAsSeen_b78 N r42 r54 x1 x3 x4 S else fX12_isAsSeen_b100 N r42 r54 x1 x3 x4 S)
theorem bX12_isAsSeen_67 {N : Nat} {r42 : Int32 → Int32 → Int32 → gS → Option (Int32 × gS)} {r54 : Int32 → Int32 → Int32 → Int32 → gS → Option (Int32 × gS)} {x1 : Int32} {x3 : Int32} {x4 : Int32} {S : gS} {H : Heap} {locs : List Loc} {ls : Array Slot} {o : Int32 × gS} (C : gC p s m args meth c cX12_isAsSeen 5 RX12 ((some .boolean)) D (mtys cI cS) mord g Am) (O : gO (mcell g cI cS sa) mord g) (K42 : ∀ (x1 : Int32) (x2 : Int32) (x3 : Int32) (S : gS) (H : Heap) (locs : List Loc) (ls : Array Slot), gX D (mcell g cI cS sa) mord g S s H locs → lv_has ls 5 [(0, .ref (g 99)), (1, .int x1), (2, .int x2), (3, .int x3)] → r42 x1 x2 x3 S = some o → W p l e (rmd 6) s m args below meth c H locs 0 0 (gE below args s D (mtys cI cS) (mcell g cI cS sa) mord g (some (.int o.1)) o.2) (F0 m 42 ls [])) (K54 : ∀ (x1 : Int32) (x2 : Int32) (x3 : Int32) (x4 : Int32) (S : gS) (H : Heap) (locs : List Loc) (ls : Array Slot), gX D (mcell g cI cS sa) mord g S s H locs → lv_has ls 5 [(0, .ref (g 99)), (1, .int x1), (2, .int x2), (3, .int x3), (4, .int x4)] → r54 x1 x2 x3 x4 S = some o → W p l e (rmd 6) s m args below meth c H locs 0 0 (gE below args s D (mtys cI cS) (mcell g cI cS sa) mord g (some (.int o.1)) o.2) (F0 m 54 ls [])) (X : gX D (mcell g cI cS sa) mord g S s H locs) (hl : lv_has ls 5 [(0, .ref (g 99)), (1, .int x1), (3, .int x3), (4, .int x4)]) (hF : fX12_isAsSeen_b67 N r42 r54 x1 x3 x4 S = some o) : W p l e (rmd 6) s m args below meth c H locs 0 0 (gE below args s D (mtys cI cS) (mcell g cI cS sa) mord g (some (.int o.1)) o.2) (F0 m 67 ls []) := by
  unfold fX12_isAsSeen_b67 at hF
  refine lv_aload_n C.1.1 C.1.2.1 dX12_isAsSeen_67 rfl (lv_at hl 0 rfl) ?_
  refine m_g49 C X dX12_isAsSeen_68 ?_
  refine lv_iload C.1.1 C.1.2.1 dX12_isAsSeen_71 (lv_at hl 3 rfl) ?_
  obtain ⟨h_1, hF⟩ := chk_some hF
  refine m_r49 C X  (inb_vp h_1) rfl dX12_isAsSeen_73 ?_
  refine lv_iload_n C.1.1 C.1.2.1 dX12_isAsSeen_74 rfl (lv_at hl 2 rfl) ?_
  refine lv_icmp_ne (tgt := 100) C.1.1 C.1.2.1 dX12_isAsSeen_75 (by decide) (fun h_z => ?_) (fun h_z => ?_)
  · rw [if_neg h_z] at hF
    exact bX12_isAsSeen_100 C O K42 K54 X (lv_sub hl [0, 1, 2, 3] rfl) hF
  · rw [if_pos h_z] at hF
    exact bX12_isAsSeen_78 C O K42 K54 X (lv_sub hl [0, 1, 2, 3] rfl) hF
noncomputable def fX12_isAsSeen_b63 (N : Nat) (r42 : Int32 → Int32 → Int32 → gS → Option (Int32 × gS)) (r54 : Int32 → Int32 → Int32 → Int32 → gS → Option (Int32 × gS)) (x1 : Int32) (x2 : Int32) (x3 : Int32) (x4 : Int32) (S : gS) : Option (Int32 × gS) := if x2 = 0 then fX12_isAsSeen_b104 N r42 r54 x1 x3 x4 S else fX12_isAsSeen_b67 N r42 r54 x1 x3 x4 S
theorem bX12_isAsSeen_63 {N : Nat} {r42 : Int32 → Int32 → Int32 → gS → Option (Int32 × gS)} {r54 : Int32 → Int32 → Int32 → Int32 → gS → Option (Int32 × gS)} {x1 : Int32} {x2 : Int32} {x3 : Int32} {x4 : Int32} {S : gS} {H : Heap} {locs : List Loc} {ls : Array Slot} {o : Int32 × gS} (C : gC p s m args meth c cX12_isAsSeen 5 RX12 ((some .boolean)) D (mtys cI cS) mord g Am) (O : gO (mcell g cI cS sa) mord g) (K42 : ∀ (x1 : Int32) (x2 : Int32) (x3 : Int32) (S : gS) (H : Heap) (locs : List Loc) (ls : Array Slot), gX D (mcell g cI cS sa) mord g S s H locs → lv_has ls 5 [(0, .ref (g 99)), (1, .int x1), (2, .int x2), (3, .int x3)] → r42 x1 x2 x3 S = some o → W p l e (rmd 6) s m args below meth c H locs 0 0 (gE below args s D (mtys cI cS) (mcell g cI cS sa) mord g (some (.int o.1)) o.2) (F0 m 42 ls [])) (K54 : ∀ (x1 : Int32) (x2 : Int32) (x3 : Int32) (x4 : Int32) (S : gS) (H : Heap) (locs : List Loc) (ls : Array Slot), gX D (mcell g cI cS sa) mord g S s H locs → lv_has ls 5 [(0, .ref (g 99)), (1, .int x1), (2, .int x2), (3, .int x3), (4, .int x4)] → r54 x1 x2 x3 x4 S = some o → W p l e (rmd 6) s m args below meth c H locs 0 0 (gE below args s D (mtys cI cS) (mcell g cI cS sa) mord g (some (.int o.1)) o.2) (F0 m 54 ls [])) (X : gX D (mcell g cI cS sa) mord g S s H locs) (hl : lv_has ls 5 [(0, .ref (g 99)), (1, .int x1), (2, .int x2), (3, .int x3), (4, .int x4)]) (hF : fX12_isAsSeen_b63 N r42 r54 x1 x2 x3 x4 S = some o) : W p l e (rmd 6) s m args below meth c H locs 0 0 (gE below args s D (mtys cI cS) (mcell g cI cS sa) mord g (some (.int o.1)) o.2) (F0 m 63 ls []) := by
  unfold fX12_isAsSeen_b63 at hF
  refine lv_iload_n C.1.1 C.1.2.1 dX12_isAsSeen_63 rfl (lv_at hl 2 rfl) ?_
  refine lv_if_eq (tgt := 104) C.1.1 C.1.2.1 dX12_isAsSeen_64 (by decide) (fun h_z => ?_) (fun h_z => ?_)
  · rw [if_pos h_z] at hF
    exact bX12_isAsSeen_104 C O K42 K54 X (lv_sub hl [0, 1, 3, 4] rfl) hF
  · rw [if_neg h_z] at hF
    exact bX12_isAsSeen_67 C O K42 K54 X (lv_sub hl [0, 1, 3, 4] rfl) hF
noncomputable def fX12_isAsSeen_b54 (N : Nat) (r42 : Int32 → Int32 → Int32 → gS → Option (Int32 × gS)) (r54 : Int32 → Int32 → Int32 → Int32 → gS → Option (Int32 × gS)) (x1 : Int32) (x2 : Int32) (x3 : Int32) (x4 : Int32) (S : gS) : Option (Int32 × gS) := if (S 99 40) ≤ x4 then fX12_isAsSeen_b112 N r42 x1 x2 x3 S else fX12_isAsSeen_b63 N r42 r54 x1 x2 x3 x4 S
theorem bX12_isAsSeen_54 {N : Nat} {r42 : Int32 → Int32 → Int32 → gS → Option (Int32 × gS)} {r54 : Int32 → Int32 → Int32 → Int32 → gS → Option (Int32 × gS)} {x1 : Int32} {x2 : Int32} {x3 : Int32} {x4 : Int32} {S : gS} {H : Heap} {locs : List Loc} {ls : Array Slot} {o : Int32 × gS} (C : gC p s m args meth c cX12_isAsSeen 5 RX12 ((some .boolean)) D (mtys cI cS) mord g Am) (O : gO (mcell g cI cS sa) mord g) (K42 : ∀ (x1 : Int32) (x2 : Int32) (x3 : Int32) (S : gS) (H : Heap) (locs : List Loc) (ls : Array Slot), gX D (mcell g cI cS sa) mord g S s H locs → lv_has ls 5 [(0, .ref (g 99)), (1, .int x1), (2, .int x2), (3, .int x3)] → r42 x1 x2 x3 S = some o → W p l e (rmd 6) s m args below meth c H locs 0 0 (gE below args s D (mtys cI cS) (mcell g cI cS sa) mord g (some (.int o.1)) o.2) (F0 m 42 ls [])) (K54 : ∀ (x1 : Int32) (x2 : Int32) (x3 : Int32) (x4 : Int32) (S : gS) (H : Heap) (locs : List Loc) (ls : Array Slot), gX D (mcell g cI cS sa) mord g S s H locs → lv_has ls 5 [(0, .ref (g 99)), (1, .int x1), (2, .int x2), (3, .int x3), (4, .int x4)] → r54 x1 x2 x3 x4 S = some o → W p l e (rmd 6) s m args below meth c H locs 0 0 (gE below args s D (mtys cI cS) (mcell g cI cS sa) mord g (some (.int o.1)) o.2) (F0 m 54 ls [])) (X : gX D (mcell g cI cS sa) mord g S s H locs) (hl : lv_has ls 5 [(0, .ref (g 99)), (1, .int x1), (2, .int x2), (3, .int x3), (4, .int x4)]) (hF : fX12_isAsSeen_b54 N r42 r54 x1 x2 x3 x4 S = some o) : W p l e (rmd 6) s m args below meth c H locs 0 0 (gE below args s D (mtys cI cS) (mcell g cI cS sa) mord g (some (.int o.1)) o.2) (F0 m 54 ls []) := by
  unfold fX12_isAsSeen_b54 at hF
  refine lv_iload C.1.1 C.1.2.1 dX12_isAsSeen_54 (lv_at hl 4 rfl) ?_
  refine lv_aload_n C.1.1 C.1.2.1 dX12_isAsSeen_56 rfl (lv_at hl 0 rfl) ?_
  refine m_g40 C X dX12_isAsSeen_57 ?_
  refine lv_icmp_ge (tgt := 112) C.1.1 C.1.2.1 dX12_isAsSeen_60 (by decide) (fun h_z => ?_) (fun h_z => ?_)
  · rw [if_pos h_z] at hF
    exact bX12_isAsSeen_112 C O K42 X (lv_sub hl [0, 1, 2, 3] rfl) hF
  · rw [if_neg h_z] at hF
    exact bX12_isAsSeen_63 C O K42 K54 X (lv_sub hl [0, 1, 2, 3, 4] rfl) hF
noncomputable def fX12_isAsSeen_h54 (N : Nat) (r42 : Int32 → Int32 → Int32 → gS → Option (Int32 × gS)) : Nat → Int32 → Int32 → Int32 → Int32 → gS → Option (Int32 × gS)
  | 0, _, _, _, _, _ => none
  | n + 1, x1, x2, x3, x4, S => fX12_isAsSeen_b54 N r42 (fX12_isAsSeen_h54 N r42 n) x1 x2 x3 x4 S
theorem hX12_isAsSeen_54 {N : Nat} {r42 : Int32 → Int32 → Int32 → gS → Option (Int32 × gS)} {o : Int32 × gS} (C : gC p s m args meth c cX12_isAsSeen 5 RX12 ((some .boolean)) D (mtys cI cS) mord g Am) (O : gO (mcell g cI cS sa) mord g) (K42 : ∀ (x1 : Int32) (x2 : Int32) (x3 : Int32) (S : gS) (H : Heap) (locs : List Loc) (ls : Array Slot), gX D (mcell g cI cS sa) mord g S s H locs → lv_has ls 5 [(0, .ref (g 99)), (1, .int x1), (2, .int x2), (3, .int x3)] → r42 x1 x2 x3 S = some o → W p l e (rmd 6) s m args below meth c H locs 0 0 (gE below args s D (mtys cI cS) (mcell g cI cS sa) mord g (some (.int o.1)) o.2) (F0 m 42 ls [])) : ∀ (n : Nat) (x1 : Int32) (x2 : Int32) (x3 : Int32) (x4 : Int32) (S : gS) (H : Heap) (locs : List Loc) (ls : Array Slot), gX D (mcell g cI cS sa) mord g S s H locs → lv_has ls 5 [(0, .ref (g 99)), (1, .int x1), (2, .int x2), (3, .int x3), (4, .int x4)] → fX12_isAsSeen_h54 N r42 n x1 x2 x3 x4 S = some o → W p l e (rmd 6) s m args below meth c H locs 0 0 (gE below args s D (mtys cI cS) (mcell g cI cS sa) mord g (some (.int o.1)) o.2) (F0 m 54 ls []) := by
  intro n
  induction n with
  | zero =>
    intro x1 x2 x3 x4 S H locs ls X hl hF
    exact absurd (show (none : Option (Int32 × gS)) = some o from hF) (by simp)
  | succ n ih =>
    intro x1 x2 x3 x4 S H locs ls X hl hF
    have hF : fX12_isAsSeen_b54 N r42 (fX12_isAsSeen_h54 N r42 n) x1 x2 x3 x4 S = some o := hF
    exact bX12_isAsSeen_54 C O K42 ih X hl hF
noncomputable def fX12_isAsSeen_b51 (N : Nat) (r42 : Int32 → Int32 → Int32 → gS → Option (Int32 × gS)) (x1 : Int32) (x2 : Int32) (x3 : Int32) (S : gS) : Option (Int32 × gS) := fX12_isAsSeen_h54 N r42 N x1 x2 x3 0 S
theorem bX12_isAsSeen_51 {N : Nat} {r42 : Int32 → Int32 → Int32 → gS → Option (Int32 × gS)} {x1 : Int32} {x2 : Int32} {x3 : Int32} {S : gS} {H : Heap} {locs : List Loc} {ls : Array Slot} {o : Int32 × gS} (C : gC p s m args meth c cX12_isAsSeen 5 RX12 ((some .boolean)) D (mtys cI cS) mord g Am) (O : gO (mcell g cI cS sa) mord g) (K42 : ∀ (x1 : Int32) (x2 : Int32) (x3 : Int32) (S : gS) (H : Heap) (locs : List Loc) (ls : Array Slot), gX D (mcell g cI cS sa) mord g S s H locs → lv_has ls 5 [(0, .ref (g 99)), (1, .int x1), (2, .int x2), (3, .int x3)] → r42 x1 x2 x3 S = some o → W p l e (rmd 6) s m args below meth c H locs 0 0 (gE below args s D (mtys cI cS) (mcell g cI cS sa) mord g (some (.int o.1)) o.2) (F0 m 42 ls [])) (X : gX D (mcell g cI cS sa) mord g S s H locs) (hl : lv_has ls 5 [(0, .ref (g 99)), (1, .int x1), (2, .int x2), (3, .int x3)]) (hF : fX12_isAsSeen_b51 N r42 x1 x2 x3 S = some o) : W p l e (rmd 6) s m args below meth c H locs 0 0 (gE below args s D (mtys cI cS) (mcell g cI cS sa) mord g (some (.int o.1)) o.2) (F0 m 51 ls []) := by
  unfold fX12_isAsSeen_b51 at hF
  refine lv_iconst (v := 0) C.1.1 C.1.2.1 dX12_isAsSeen_51 (by decide) ?_
  refine lv_istore (lv' := [(4, .int 0), (0, .ref (g 99)), (1, .int x1), (2, .int x2), (3, .int x3)]) C.1.1 C.1.2.1 dX12_isAsSeen_52 hl (by decide) rfl (fun ls hl => ?_)
  exact hX12_isAsSeen_54 C O K42 N _ _ _ _ _ _ _ _ X (lv_sub hl [1, 2, 3, 4, 0] rfl) hF
noncomputable def fX12_isAsSeen_b47 (N : Nat) (r42 : Int32 → Int32 → Int32 → gS → Option (Int32 × gS)) (x1 : Int32) (x2 : Int32) (x3 : Int32) (S : gS) : Option (Int32 × gS) := if x2 = 0 then fX12_isAsSeen_b122 N x2 S else fX12_isAsSeen_b51 N r42 x1 x2 x3 S
theorem bX12_isAsSeen_47 {N : Nat} {r42 : Int32 → Int32 → Int32 → gS → Option (Int32 × gS)} {x1 : Int32} {x2 : Int32} {x3 : Int32} {S : gS} {H : Heap} {locs : List Loc} {ls : Array Slot} {o : Int32 × gS} (C : gC p s m args meth c cX12_isAsSeen 5 RX12 ((some .boolean)) D (mtys cI cS) mord g Am) (O : gO (mcell g cI cS sa) mord g) (K42 : ∀ (x1 : Int32) (x2 : Int32) (x3 : Int32) (S : gS) (H : Heap) (locs : List Loc) (ls : Array Slot), gX D (mcell g cI cS sa) mord g S s H locs → lv_has ls 5 [(0, .ref (g 99)), (1, .int x1), (2, .int x2), (3, .int x3)] → r42 x1 x2 x3 S = some o → W p l e (rmd 6) s m args below meth c H locs 0 0 (gE below args s D (mtys cI cS) (mcell g cI cS sa) mord g (some (.int o.1)) o.2) (F0 m 42 ls [])) (X : gX D (mcell g cI cS sa) mord g S s H locs) (hl : lv_has ls 5 [(0, .ref (g 99)), (1, .int x1), (2, .int x2), (3, .int x3)]) (hF : fX12_isAsSeen_b47 N r42 x1 x2 x3 S = some o) : W p l e (rmd 6) s m args below meth c H locs 0 0 (gE below args s D (mtys cI cS) (mcell g cI cS sa) mord g (some (.int o.1)) o.2) (F0 m 47 ls []) := by
  unfold fX12_isAsSeen_b47 at hF
  refine lv_iload_n C.1.1 C.1.2.1 dX12_isAsSeen_47 rfl (lv_at hl 2 rfl) ?_
  refine lv_if_eq (tgt := 122) C.1.1 C.1.2.1 dX12_isAsSeen_48 (by decide) (fun h_z => ?_) (fun h_z => ?_)
  · rw [if_pos h_z] at hF
    exact bX12_isAsSeen_122 C O X (lv_sub hl [0, 2] rfl) hF
  · rw [if_neg h_z] at hF
    exact bX12_isAsSeen_51 C O K42 X (lv_sub hl [0, 1, 2, 3] rfl) hF
noncomputable def fX12_isAsSeen_b42 (N : Nat) (r42 : Int32 → Int32 → Int32 → gS → Option (Int32 × gS)) (x1 : Int32) (x2 : Int32) (x3 : Int32) (S : gS) : Option (Int32 × gS) := if x1 < x3 then fX12_isAsSeen_b122 N x2 S else fX12_isAsSeen_b47 N r42 x1 x2 x3 S
theorem bX12_isAsSeen_42 {N : Nat} {r42 : Int32 → Int32 → Int32 → gS → Option (Int32 × gS)} {x1 : Int32} {x2 : Int32} {x3 : Int32} {S : gS} {H : Heap} {locs : List Loc} {ls : Array Slot} {o : Int32 × gS} (C : gC p s m args meth c cX12_isAsSeen 5 RX12 ((some .boolean)) D (mtys cI cS) mord g Am) (O : gO (mcell g cI cS sa) mord g) (K42 : ∀ (x1 : Int32) (x2 : Int32) (x3 : Int32) (S : gS) (H : Heap) (locs : List Loc) (ls : Array Slot), gX D (mcell g cI cS sa) mord g S s H locs → lv_has ls 5 [(0, .ref (g 99)), (1, .int x1), (2, .int x2), (3, .int x3)] → r42 x1 x2 x3 S = some o → W p l e (rmd 6) s m args below meth c H locs 0 0 (gE below args s D (mtys cI cS) (mcell g cI cS sa) mord g (some (.int o.1)) o.2) (F0 m 42 ls [])) (X : gX D (mcell g cI cS sa) mord g S s H locs) (hl : lv_has ls 5 [(0, .ref (g 99)), (1, .int x1), (2, .int x2), (3, .int x3)]) (hF : fX12_isAsSeen_b42 N r42 x1 x2 x3 S = some o) : W p l e (rmd 6) s m args below meth c H locs 0 0 (gE below args s D (mtys cI cS) (mcell g cI cS sa) mord g (some (.int o.1)) o.2) (F0 m 42 ls []) := by
  unfold fX12_isAsSeen_b42 at hF
  refine lv_iload_n C.1.1 C.1.2.1 dX12_isAsSeen_42 rfl (lv_at hl 3 rfl) ?_
  refine lv_iload_n C.1.1 C.1.2.1 dX12_isAsSeen_43 rfl (lv_at hl 1 rfl) ?_
  refine lv_icmp_gt (tgt := 122) C.1.1 C.1.2.1 dX12_isAsSeen_44 (by decide) (fun h_z => ?_) (fun h_z => ?_)
  · rw [if_pos h_z] at hF
    exact bX12_isAsSeen_122 C O X (lv_sub hl [0, 2] rfl) hF
  · rw [if_neg h_z] at hF
    exact bX12_isAsSeen_47 C O K42 X (lv_sub hl [0, 1, 2, 3] rfl) hF
noncomputable def fX12_isAsSeen_h42 (N : Nat) : Nat → Int32 → Int32 → Int32 → gS → Option (Int32 × gS)
  | 0, _, _, _, _ => none
  | n + 1, x1, x2, x3, S => fX12_isAsSeen_b42 N (fX12_isAsSeen_h42 N n) x1 x2 x3 S
theorem hX12_isAsSeen_42 {N : Nat} {o : Int32 × gS} (C : gC p s m args meth c cX12_isAsSeen 5 RX12 ((some .boolean)) D (mtys cI cS) mord g Am) (O : gO (mcell g cI cS sa) mord g) : ∀ (n : Nat) (x1 : Int32) (x2 : Int32) (x3 : Int32) (S : gS) (H : Heap) (locs : List Loc) (ls : Array Slot), gX D (mcell g cI cS sa) mord g S s H locs → lv_has ls 5 [(0, .ref (g 99)), (1, .int x1), (2, .int x2), (3, .int x3)] → fX12_isAsSeen_h42 N n x1 x2 x3 S = some o → W p l e (rmd 6) s m args below meth c H locs 0 0 (gE below args s D (mtys cI cS) (mcell g cI cS sa) mord g (some (.int o.1)) o.2) (F0 m 42 ls []) := by
  intro n
  induction n with
  | zero =>
    intro x1 x2 x3 S H locs ls X hl hF
    exact absurd (show (none : Option (Int32 × gS)) = some o from hF) (by simp)
  | succ n ih =>
    intro x1 x2 x3 S H locs ls X hl hF
    have hF : fX12_isAsSeen_b42 N (fX12_isAsSeen_h42 N n) x1 x2 x3 S = some o := hF
    exact bX12_isAsSeen_42 C O ih X hl hF
noncomputable def fX12_isAsSeen_b38 (N : Nat) (x1 : Int32) (S : gS) : Option (Int32 × gS) := fX12_isAsSeen_h42 N N x1 1 0 S
theorem bX12_isAsSeen_38 {N : Nat} {x1 : Int32} {S : gS} {H : Heap} {locs : List Loc} {ls : Array Slot} {o : Int32 × gS} (C : gC p s m args meth c cX12_isAsSeen 5 RX12 ((some .boolean)) D (mtys cI cS) mord g Am) (O : gO (mcell g cI cS sa) mord g) (X : gX D (mcell g cI cS sa) mord g S s H locs) (hl : lv_has ls 5 [(0, .ref (g 99)), (1, .int x1)]) (hF : fX12_isAsSeen_b38 N x1 S = some o) : W p l e (rmd 6) s m args below meth c H locs 0 0 (gE below args s D (mtys cI cS) (mcell g cI cS sa) mord g (some (.int o.1)) o.2) (F0 m 38 ls []) := by
  unfold fX12_isAsSeen_b38 at hF
  refine lv_iconst (v := 1) C.1.1 C.1.2.1 dX12_isAsSeen_38 (by decide) ?_
  refine lv_istore_n (lv' := [(2, .int 1), (0, .ref (g 99)), (1, .int x1)]) C.1.1 C.1.2.1 dX12_isAsSeen_39 rfl hl (by decide) rfl (fun ls hl => ?_)
  refine lv_iconst (v := 0) C.1.1 C.1.2.1 dX12_isAsSeen_40 (by decide) ?_
  refine lv_istore_n (lv' := [(3, .int 0), (2, .int 1), (0, .ref (g 99)), (1, .int x1)]) C.1.1 C.1.2.1 dX12_isAsSeen_41 rfl hl (by decide) rfl (fun ls hl => ?_)
  exact hX12_isAsSeen_42 C O N _ _ _ _ _ _ _ X (lv_sub hl [2, 3, 1, 0] rfl) hF
noncomputable def fX12_isAsSeen_b21 (N : Nat) (r13 : Int32 → Int32 → gS → Option (Int32 × gS)) (x1 : Int32) (x2 : Int32) (S : gS) : Option (Int32 × gS) := chk (inb x2 (8)) (r13 (if x1 < (S 49 (Int32.toNatClampNeg x2)) then (S 49 (Int32.toNatClampNeg x2)) else x1) ((x2 + 1 : Int32)) S)
theorem bX12_isAsSeen_21 {N : Nat} {r13 : Int32 → Int32 → gS → Option (Int32 × gS)} {x1 : Int32} {x2 : Int32} {S : gS} {H : Heap} {locs : List Loc} {ls : Array Slot} {o : Int32 × gS} (C : gC p s m args meth c cX12_isAsSeen 5 RX12 ((some .boolean)) D (mtys cI cS) mord g Am) (O : gO (mcell g cI cS sa) mord g) (K13 : ∀ (x1 : Int32) (x2 : Int32) (S : gS) (H : Heap) (locs : List Loc) (ls : Array Slot), gX D (mcell g cI cS sa) mord g S s H locs → lv_has ls 5 [(0, .ref (g 99)), (1, .int x1), (2, .int x2)] → r13 x1 x2 S = some o → W p l e (rmd 6) s m args below meth c H locs 0 0 (gE below args s D (mtys cI cS) (mcell g cI cS sa) mord g (some (.int o.1)) o.2) (F0 m 13 ls [])) (X : gX D (mcell g cI cS sa) mord g S s H locs) (hl : lv_has ls 5 [(0, .ref (g 99)), (1, .int x1), (2, .int x2)]) (hF : fX12_isAsSeen_b21 N r13 x1 x2 S = some o) : W p l e (rmd 6) s m args below meth c H locs 0 0 (gE below args s D (mtys cI cS) (mcell g cI cS sa) mord g (some (.int o.1)) o.2) (F0 m 21 ls []) := by
  unfold fX12_isAsSeen_b21 at hF
  refine lv_iload_n C.1.1 C.1.2.1 dX12_isAsSeen_21 rfl (lv_at hl 1 rfl) ?_
  refine lv_aload_n C.1.1 C.1.2.1 dX12_isAsSeen_22 rfl (lv_at hl 0 rfl) ?_
  refine m_g49 C X dX12_isAsSeen_23 ?_
  refine lv_iload_n C.1.1 C.1.2.1 dX12_isAsSeen_26 rfl (lv_at hl 2 rfl) ?_
  obtain ⟨h_1, hF⟩ := chk_some hF
  refine m_r49 C X  (inb_vp h_1) rfl dX12_isAsSeen_27 ?_
  refine g_max C hl.1 mMmax354 ⟨Nat.le_of_ble_eq_true rfl, Nat.le_of_ble_eq_true rfl⟩ (Nat.le_of_ble_eq_true rfl) (Nat.le_of_ble_eq_true rfl) dX12_isAsSeen_28 ?_
  refine lv_istore_n (lv' := [(1, .int (if x1 < (S 49 (Int32.toNatClampNeg x2)) then (S 49 (Int32.toNatClampNeg x2)) else x1)), (0, .ref (g 99)), (2, .int x2)]) C.1.1 C.1.2.1 dX12_isAsSeen_31 rfl hl (by decide) rfl (fun ls hl => ?_)
  refine lv_iinc (v := (x2 + 1 : Int32)) (lv' := [(2, .int ((x2 + 1 : Int32))), (1, .int (if x1 < (S 49 (Int32.toNatClampNeg x2)) then (S 49 (Int32.toNatClampNeg x2)) else x1)), (0, .ref (g 99))]) C.1.1 C.1.2.1 dX12_isAsSeen_32 hl (k := 2) rfl rfl (by decide) rfl (fun ls hl => ?_)
  refine lv_goto (tgt := 13) C.1.1 C.1.2.1 dX12_isAsSeen_35 (by decide) ?_
  exact K13 _ _ _ _ _ _ X (lv_sub hl [2, 1, 0] rfl) hF
noncomputable def fX12_isAsSeen_b13 (N : Nat) (r13 : Int32 → Int32 → gS → Option (Int32 × gS)) (x1 : Int32) (x2 : Int32) (S : gS) : Option (Int32 × gS) := if (S 99 40) ≤ x2 then fX12_isAsSeen_b38 N x1 S else fX12_isAsSeen_b21 N r13 x1 x2 S
theorem bX12_isAsSeen_13 {N : Nat} {r13 : Int32 → Int32 → gS → Option (Int32 × gS)} {x1 : Int32} {x2 : Int32} {S : gS} {H : Heap} {locs : List Loc} {ls : Array Slot} {o : Int32 × gS} (C : gC p s m args meth c cX12_isAsSeen 5 RX12 ((some .boolean)) D (mtys cI cS) mord g Am) (O : gO (mcell g cI cS sa) mord g) (K13 : ∀ (x1 : Int32) (x2 : Int32) (S : gS) (H : Heap) (locs : List Loc) (ls : Array Slot), gX D (mcell g cI cS sa) mord g S s H locs → lv_has ls 5 [(0, .ref (g 99)), (1, .int x1), (2, .int x2)] → r13 x1 x2 S = some o → W p l e (rmd 6) s m args below meth c H locs 0 0 (gE below args s D (mtys cI cS) (mcell g cI cS sa) mord g (some (.int o.1)) o.2) (F0 m 13 ls [])) (X : gX D (mcell g cI cS sa) mord g S s H locs) (hl : lv_has ls 5 [(0, .ref (g 99)), (1, .int x1), (2, .int x2)]) (hF : fX12_isAsSeen_b13 N r13 x1 x2 S = some o) : W p l e (rmd 6) s m args below meth c H locs 0 0 (gE below args s D (mtys cI cS) (mcell g cI cS sa) mord g (some (.int o.1)) o.2) (F0 m 13 ls []) := by
  unfold fX12_isAsSeen_b13 at hF
  refine lv_iload_n C.1.1 C.1.2.1 dX12_isAsSeen_13 rfl (lv_at hl 2 rfl) ?_
  refine lv_aload_n C.1.1 C.1.2.1 dX12_isAsSeen_14 rfl (lv_at hl 0 rfl) ?_
  refine m_g40 C X dX12_isAsSeen_15 ?_
  refine lv_icmp_ge (tgt := 38) C.1.1 C.1.2.1 dX12_isAsSeen_18 (by decide) (fun h_z => ?_) (fun h_z => ?_)
  · rw [if_pos h_z] at hF
    exact bX12_isAsSeen_38 C O X (lv_sub hl [0, 1] rfl) hF
  · rw [if_neg h_z] at hF
    exact bX12_isAsSeen_21 C O K13 X (lv_sub hl [0, 1, 2] rfl) hF
noncomputable def fX12_isAsSeen_h13 (N : Nat) : Nat → Int32 → Int32 → gS → Option (Int32 × gS)
  | 0, _, _, _ => none
  | n + 1, x1, x2, S => fX12_isAsSeen_b13 N (fX12_isAsSeen_h13 N n) x1 x2 S
theorem hX12_isAsSeen_13 {N : Nat} {o : Int32 × gS} (C : gC p s m args meth c cX12_isAsSeen 5 RX12 ((some .boolean)) D (mtys cI cS) mord g Am) (O : gO (mcell g cI cS sa) mord g) : ∀ (n : Nat) (x1 : Int32) (x2 : Int32) (S : gS) (H : Heap) (locs : List Loc) (ls : Array Slot), gX D (mcell g cI cS sa) mord g S s H locs → lv_has ls 5 [(0, .ref (g 99)), (1, .int x1), (2, .int x2)] → fX12_isAsSeen_h13 N n x1 x2 S = some o → W p l e (rmd 6) s m args below meth c H locs 0 0 (gE below args s D (mtys cI cS) (mcell g cI cS sa) mord g (some (.int o.1)) o.2) (F0 m 13 ls []) := by
  intro n
  induction n with
  | zero =>
    intro x1 x2 S H locs ls X hl hF
    exact absurd (show (none : Option (Int32 × gS)) = some o from hF) (by simp)
  | succ n ih =>
    intro x1 x2 S H locs ls X hl hF
    have hF : fX12_isAsSeen_b13 N (fX12_isAsSeen_h13 N n) x1 x2 S = some o := hF
    exact bX12_isAsSeen_13 C O ih X hl hF
noncomputable def fX12_isAsSeen_b0 (N : Nat) (S : gS) : Option (Int32 × gS) := bnd (fX12_pack N 51 0 S) fun q1 => (fX12_isAsSeen_h13 N N 0 0 q1.2)
theorem bX12_isAsSeen_0 {N : Nat} {S : gS} {H : Heap} {locs : List Loc} {ls : Array Slot} {o : Int32 × gS} (C : gC p s m args meth c cX12_isAsSeen 5 RX12 ((some .boolean)) D (mtys cI cS) mord g Am) (O : gO (mcell g cI cS sa) mord g) (X : gX D (mcell g cI cS sa) mord g S s H locs) (hl : lv_has ls 5 [(0, .ref (g 99))]) (hF : fX12_isAsSeen_b0 N S = some o) : W p l e (rmd 6) s m args below meth c H locs 0 0 (gE below args s D (mtys cI cS) (mcell g cI cS sa) mord g (some (.int o.1)) o.2) (F0 m 0 ls []) := by
  unfold fX12_isAsSeen_b0 at hF
  refine lv_aload_n C.1.1 C.1.2.1 dX12_isAsSeen_0 rfl (lv_at hl 0 rfl) ?_
  refine lv_aload_n C.1.1 C.1.2.1 dX12_isAsSeen_1 rfl (lv_at hl 0 rfl) ?_
  refine m_g51 C X dX12_isAsSeen_2 ?_
  refine lv_iconst (v := 0) C.1.1 C.1.2.1 dX12_isAsSeen_5 (by decide) ?_
  obtain ⟨q1, hq1, hF⟩ := bnd_some hF
  refine m_callV C X vX12_pack rfl (kX12_pack O C.2.2.2.2.1 N 51 0 (rfl : mI 51 = true) S q1 hq1) (Nat.le_of_ble_eq_true rfl) (Nat.le_of_ble_eq_true rfl) (Nat.le_of_ble_eq_true rfl) (Nat.le_of_ble_eq_true rfl) rfl hl.1 rfl (Nat.le_of_ble_eq_true rfl) dX12_isAsSeen_6 (fun H locs X => ?_)
  refine lv_iconst (v := 0) C.1.1 C.1.2.1 dX12_isAsSeen_9 (by decide) ?_
  refine lv_istore_n (lv' := [(1, .int 0), (0, .ref (g 99))]) C.1.1 C.1.2.1 dX12_isAsSeen_10 rfl hl (by decide) rfl (fun ls hl => ?_)
  refine lv_iconst (v := 0) C.1.1 C.1.2.1 dX12_isAsSeen_11 (by decide) ?_
  refine lv_istore_n (lv' := [(2, .int 0), (1, .int 0), (0, .ref (g 99))]) C.1.1 C.1.2.1 dX12_isAsSeen_12 rfl hl (by decide) rfl (fun ls hl => ?_)
  exact hX12_isAsSeen_13 C O N _ _ _ _ _ _ X (lv_sub hl [2, 1, 0] rfl) hF
noncomputable def fX12_isAsSeen (N : Nat) (S : gS) : Option (Int32 × gS) := fX12_isAsSeen_b0 N S
theorem kX12_isAsSeen {l : Launch} {D : va_G} {g : Nat → Nat} {cI cS : ClassId} {sa : Nat → Nat → Option Nat} {Am : (Nat → Prop) → State → Heap → Prop} (O : gO (mcell g cI cS sa) mord g) (P : gAm Am) (N : Nat) (S : gS) (o : Int32 × gS) (hF : fX12_isAsSeen N S = some o) : gM l yX12_isAsSeen cX12_isAsSeen 5 ((some .boolean)) 6 D (mtys cI cS) (mcell g cI cS sa) mord g Am [.ref (g 99)] S (some (.int o.1)) o.2 :=
  gM_of O P (by decide) (Nat.le_of_ble_eq_true rfl) (fun p e s m args below meth c ls C X hl => bX12_isAsSeen_0 C O X (lv_sub hl [0] rfl) hF)
-- tellFits
noncomputable def fX12_tellFits_b98 (N : Nat) (S : gS) : Option (Int32 × gS) := some (0, S)
theorem bX12_tellFits_98 {N : Nat} {S : gS} {H : Heap} {locs : List Loc} {ls : Array Slot} {o : Int32 × gS} (C : gC p s m args meth c cX12_tellFits 4 RX12 none D (mtys cI cS) mord g Am) (O : gO (mcell g cI cS sa) mord g) (X : gX D (mcell g cI cS sa) mord g S s H locs) (hl : lv_has ls 4 []) (hF : fX12_tellFits_b98 N S = some o) : W p l e (rmd 7) s m args below meth c H locs 0 0 (gE below args s D (mtys cI cS) (mcell g cI cS sa) mord g none o.2) (F0 m 98 ls []) := by
  unfold fX12_tellFits_b98 at hF
  cases hF
  exact g_vret C X dX12_tellFits_98
noncomputable def fX12_tellFits_b85 (N : Nat) (r7 : Int32 → gS → Option (Int32 × gS)) (x1 : Int32) (x2 : Int32) (S : gS) : Option (Int32 × gS) := chk (inb x1 (6)) (lt (sU S 18 (Int32.toNatClampNeg x1) x2) fun S1 => (r7 ((x1 + 1 : Int32)) S1))
theorem bX12_tellFits_85 {N : Nat} {r7 : Int32 → gS → Option (Int32 × gS)} {x1 : Int32} {x2 : Int32} {S : gS} {H : Heap} {locs : List Loc} {ls : Array Slot} {o : Int32 × gS} (C : gC p s m args meth c cX12_tellFits 4 RX12 none D (mtys cI cS) mord g Am) (O : gO (mcell g cI cS sa) mord g) (K7 : ∀ (x1 : Int32) (S : gS) (H : Heap) (locs : List Loc) (ls : Array Slot), gX D (mcell g cI cS sa) mord g S s H locs → lv_has ls 4 [(0, .ref (g 99)), (1, .int x1)] → r7 x1 S = some o → W p l e (rmd 7) s m args below meth c H locs 0 0 (gE below args s D (mtys cI cS) (mcell g cI cS sa) mord g none o.2) (F0 m 7 ls [])) (X : gX D (mcell g cI cS sa) mord g S s H locs) (hl : lv_has ls 4 [(0, .ref (g 99)), (1, .int x1), (2, .int x2)]) (hF : fX12_tellFits_b85 N r7 x1 x2 S = some o) : W p l e (rmd 7) s m args below meth c H locs 0 0 (gE below args s D (mtys cI cS) (mcell g cI cS sa) mord g none o.2) (F0 m 85 ls []) := by
  unfold fX12_tellFits_b85 at hF
  refine lv_aload_n C.1.1 C.1.2.1 dX12_tellFits_85 rfl (lv_at hl 0 rfl) ?_
  refine m_g18 C X dX12_tellFits_86 ?_
  refine lv_iload_n C.1.1 C.1.2.1 dX12_tellFits_89 rfl (lv_at hl 1 rfl) ?_
  refine lv_iload_n C.1.1 C.1.2.1 dX12_tellFits_90 rfl (lv_at hl 2 rfl) ?_
  obtain ⟨h_1, hF⟩ := chk_some hF
  obtain ⟨S1, eS1, hF⟩ := lt_some hF
  refine m_w18 C O X  (inb_vp h_1) rfl eS1 dX12_tellFits_91 (fun H locs X => ?_)
  refine lv_iinc (v := (x1 + 1 : Int32)) (lv' := [(1, .int ((x1 + 1 : Int32))), (0, .ref (g 99)), (2, .int x2)]) C.1.1 C.1.2.1 dX12_tellFits_92 hl (k := 1) rfl rfl (by decide) rfl (fun ls hl => ?_)
  refine lv_goto (tgt := 7) C.1.1 C.1.2.1 dX12_tellFits_95 (by decide) ?_
  exact K7 _ _ _ _ _ X (lv_sub hl [1, 0] rfl) hF
noncomputable def fX12_tellFits_b79 (N : Nat) (r7 : Int32 → gS → Option (Int32 × gS)) (r26 : Int32 → Int32 → Int32 → gS → Option (Int32 × gS)) (x1 : Int32) (x2 : Int32) (x3 : Int32) (S : gS) : Option (Int32 × gS) := r26 x1 x2 ((x3 + 1 : Int32)) S
theorem bX12_tellFits_79 {N : Nat} {r7 : Int32 → gS → Option (Int32 × gS)} {r26 : Int32 → Int32 → Int32 → gS → Option (Int32 × gS)} {x1 : Int32} {x2 : Int32} {x3 : Int32} {S : gS} {H : Heap} {locs : List Loc} {ls : Array Slot} {o : Int32 × gS} (C : gC p s m args meth c cX12_tellFits 4 RX12 none D (mtys cI cS) mord g Am) (O : gO (mcell g cI cS sa) mord g) (K7 : ∀ (x1 : Int32) (S : gS) (H : Heap) (locs : List Loc) (ls : Array Slot), gX D (mcell g cI cS sa) mord g S s H locs → lv_has ls 4 [(0, .ref (g 99)), (1, .int x1)] → r7 x1 S = some o → W p l e (rmd 7) s m args below meth c H locs 0 0 (gE below args s D (mtys cI cS) (mcell g cI cS sa) mord g none o.2) (F0 m 7 ls [])) (K26 : ∀ (x1 : Int32) (x2 : Int32) (x3 : Int32) (S : gS) (H : Heap) (locs : List Loc) (ls : Array Slot), gX D (mcell g cI cS sa) mord g S s H locs → lv_has ls 4 [(0, .ref (g 99)), (1, .int x1), (2, .int x2), (3, .int x3)] → r26 x1 x2 x3 S = some o → W p l e (rmd 7) s m args below meth c H locs 0 0 (gE below args s D (mtys cI cS) (mcell g cI cS sa) mord g none o.2) (F0 m 26 ls [])) (X : gX D (mcell g cI cS sa) mord g S s H locs) (hl : lv_has ls 4 [(0, .ref (g 99)), (1, .int x1), (2, .int x2), (3, .int x3)]) (hF : fX12_tellFits_b79 N r7 r26 x1 x2 x3 S = some o) : W p l e (rmd 7) s m args below meth c H locs 0 0 (gE below args s D (mtys cI cS) (mcell g cI cS sa) mord g none o.2) (F0 m 79 ls []) := by
  unfold fX12_tellFits_b79 at hF
  refine lv_iinc (v := (x3 + 1 : Int32)) (lv' := [(3, .int ((x3 + 1 : Int32))), (0, .ref (g 99)), (1, .int x1), (2, .int x2)]) C.1.1 C.1.2.1 dX12_tellFits_79 hl (k := 3) rfl rfl (by decide) rfl (fun ls hl => ?_)
  refine lv_goto (tgt := 26) C.1.1 C.1.2.1 dX12_tellFits_82 (by decide) ?_
  exact K26 _ _ _ _ _ _ _ X (lv_sub hl [1, 2, 3, 0] rfl) hF
noncomputable def fX12_tellFits_b54 (N : Nat) (r7 : Int32 → gS → Option (Int32 × gS)) (r26 : Int32 → Int32 → Int32 → gS → Option (Int32 × gS)) (x1 : Int32) (x2 : Int32) (x3 : Int32) (S : gS) : Option (Int32 × gS) := chk (inb (S 99 54) (60)) (lt (sU S 52 (Int32.toNatClampNeg (S 99 54)) ((((10 * x1 : Int32)) + x3 : Int32))) fun S1 => (lt (sU S1 99 54 (((S1 99 54) + 1 : Int32))) fun S2 => (fX12_tellFits_b79 N r7 r26 x1 x2 x3 S2)))
theorem bX12_tellFits_54 {N : Nat} {r7 : Int32 → gS → Option (Int32 × gS)} {r26 : Int32 → Int32 → Int32 → gS → Option (Int32 × gS)} {x1 : Int32} {x2 : Int32} {x3 : Int32} {S : gS} {H : Heap} {locs : List Loc} {ls : Array Slot} {o : Int32 × gS} (C : gC p s m args meth c cX12_tellFits 4 RX12 none D (mtys cI cS) mord g Am) (O : gO (mcell g cI cS sa) mord g) (K7 : ∀ (x1 : Int32) (S : gS) (H : Heap) (locs : List Loc) (ls : Array Slot), gX D (mcell g cI cS sa) mord g S s H locs → lv_has ls 4 [(0, .ref (g 99)), (1, .int x1)] → r7 x1 S = some o → W p l e (rmd 7) s m args below meth c H locs 0 0 (gE below args s D (mtys cI cS) (mcell g cI cS sa) mord g none o.2) (F0 m 7 ls [])) (K26 : ∀ (x1 : Int32) (x2 : Int32) (x3 : Int32) (S : gS) (H : Heap) (locs : List Loc) (ls : Array Slot), gX D (mcell g cI cS sa) mord g S s H locs → lv_has ls 4 [(0, .ref (g 99)), (1, .int x1), (2, .int x2), (3, .int x3)] → r26 x1 x2 x3 S = some o → W p l e (rmd 7) s m args below meth c H locs 0 0 (gE below args s D (mtys cI cS) (mcell g cI cS sa) mord g none o.2) (F0 m 26 ls [])) (X : gX D (mcell g cI cS sa) mord g S s H locs) (hl : lv_has ls 4 [(0, .ref (g 99)), (1, .int x1), (2, .int x2), (3, .int x3)]) (hF : fX12_tellFits_b54 N r7 r26 x1 x2 x3 S = some o) : W p l e (rmd 7) s m args below meth c H locs 0 0 (gE below args s D (mtys cI cS) (mcell g cI cS sa) mord g none o.2) (F0 m 54 ls []) := by
  unfold fX12_tellFits_b54 at hF
  refine lv_aload_n C.1.1 C.1.2.1 dX12_tellFits_54 rfl (lv_at hl 0 rfl) ?_
  refine m_g52 C X dX12_tellFits_55 ?_
  refine lv_aload_n C.1.1 C.1.2.1 dX12_tellFits_58 rfl (lv_at hl 0 rfl) ?_
  refine m_g54 C X dX12_tellFits_59 ?_
  refine lv_bipush (v := 10) C.1.1 C.1.2.1 dX12_tellFits_62 (by decide) ?_
  refine lv_iload_n C.1.1 C.1.2.1 dX12_tellFits_64 rfl (lv_at hl 1 rfl) ?_
  refine lv_imul C.1.1 C.1.2.1 dX12_tellFits_65 ?_
  refine lv_iload_n C.1.1 C.1.2.1 dX12_tellFits_66 rfl (lv_at hl 3 rfl) ?_
  refine lv_iadd C.1.1 C.1.2.1 dX12_tellFits_67 ?_
  obtain ⟨h_1, hF⟩ := chk_some hF
  obtain ⟨S1, eS1, hF⟩ := lt_some hF
  refine m_w52 C O X  (inb_vp h_1) rfl eS1 dX12_tellFits_68 (fun H locs X => ?_)
  refine lv_aload_n C.1.1 C.1.2.1 dX12_tellFits_69 rfl (lv_at hl 0 rfl) ?_
  refine lv_dup C.1.1 C.1.2.1 dX12_tellFits_70 rfl ?_
  refine m_g54 C X dX12_tellFits_71 ?_
  refine lv_iconst (v := 1) C.1.1 C.1.2.1 dX12_tellFits_74 (by decide) ?_
  refine lv_iadd C.1.1 C.1.2.1 dX12_tellFits_75 ?_
  obtain ⟨S2, eS2, hF⟩ := lt_some hF
  refine m_p54 C O X eS2 dX12_tellFits_76 (fun H locs X => ?_)
  exact bX12_tellFits_79 C O K7 K26 X (lv_sub hl [0, 1, 2, 3] rfl) hF
noncomputable def fX12_tellFits_b51 (N : Nat) (r7 : Int32 → gS → Option (Int32 × gS)) (r26 : Int32 → Int32 → Int32 → gS → Option (Int32 × gS)) (x1 : Int32) (x2 : Int32) (x3 : Int32) (S : gS) : Option (Int32 × gS) := fX12_tellFits_b79 N r7 r26 x1 x2 x3 S
theorem bX12_tellFits_51 {N : Nat} {r7 : Int32 → gS → Option (Int32 × gS)} {r26 : Int32 → Int32 → Int32 → gS → Option (Int32 × gS)} {x1 : Int32} {x2 : Int32} {x3 : Int32} {S : gS} {H : Heap} {locs : List Loc} {ls : Array Slot} {o : Int32 × gS} (C : gC p s m args meth c cX12_tellFits 4 RX12 none D (mtys cI cS) mord g Am) (O : gO (mcell g cI cS sa) mord g) (K7 : ∀ (x1 : Int32) (S : gS) (H : Heap) (locs : List Loc) (ls : Array Slot), gX D (mcell g cI cS sa) mord g S s H locs → lv_has ls 4 [(0, .ref (g 99)), (1, .int x1)] → r7 x1 S = some o → W p l e (rmd 7) s m args below meth c H locs 0 0 (gE below args s D (mtys cI cS) (mcell g cI cS sa) mord g none o.2) (F0 m 7 ls [])) (K26 : ∀ (x1 : Int32) (x2 : Int32) (x3 : Int32) (S : gS) (H : Heap) (locs : List Loc) (ls : Array Slot), gX D (mcell g cI cS sa) mord g S s H locs → lv_has ls 4 [(0, .ref (g 99)), (1, .int x1), (2, .int x2), (3, .int x3)] → r26 x1 x2 x3 S = some o → W p l e (rmd 7) s m args below meth c H locs 0 0 (gE below args s D (mtys cI cS) (mcell g cI cS sa) mord g none o.2) (F0 m 26 ls [])) (X : gX D (mcell g cI cS sa) mord g S s H locs) (hl : lv_has ls 4 [(0, .ref (g 99)), (1, .int x1), (2, .int x2), (3, .int x3)]) (hF : fX12_tellFits_b51 N r7 r26 x1 x2 x3 S = some o) : W p l e (rmd 7) s m args below meth c H locs 0 0 (gE below args s D (mtys cI cS) (mcell g cI cS sa) mord g none o.2) (F0 m 51 ls []) := by
  unfold fX12_tellFits_b51 at hF
  refine lv_goto (tgt := 79) C.1.1 C.1.2.1 dX12_tellFits_51 (by decide) ?_
  exact bX12_tellFits_79 C O K7 K26 X (lv_sub hl [0, 1, 2, 3] rfl) hF
noncomputable def fX12_tellFits_b44 (N : Nat) (r7 : Int32 → gS → Option (Int32 × gS)) (r26 : Int32 → Int32 → Int32 → gS → Option (Int32 × gS)) (x1 : Int32) (x2 : Int32) (x3 : Int32) (S : gS) : Option (Int32 × gS) := bnd (fX12_isAsSeen N  S) fun q1 => (if q1.1 = 0 then fX12_tellFits_b51 N r7 r26 x1 x2 x3 q1.2 else fX12_tellFits_b54 N r7 r26 x1 x2 x3 q1.2)
theorem bX12_tellFits_44 {N : Nat} {r7 : Int32 → gS → Option (Int32 × gS)} {r26 : Int32 → Int32 → Int32 → gS → Option (Int32 × gS)} {x1 : Int32} {x2 : Int32} {x3 : Int32} {S : gS} {H : Heap} {locs : List Loc} {ls : Array Slot} {o : Int32 × gS} (C : gC p s m args meth c cX12_tellFits 4 RX12 none D (mtys cI cS) mord g Am) (O : gO (mcell g cI cS sa) mord g) (K7 : ∀ (x1 : Int32) (S : gS) (H : Heap) (locs : List Loc) (ls : Array Slot), gX D (mcell g cI cS sa) mord g S s H locs → lv_has ls 4 [(0, .ref (g 99)), (1, .int x1)] → r7 x1 S = some o → W p l e (rmd 7) s m args below meth c H locs 0 0 (gE below args s D (mtys cI cS) (mcell g cI cS sa) mord g none o.2) (F0 m 7 ls [])) (K26 : ∀ (x1 : Int32) (x2 : Int32) (x3 : Int32) (S : gS) (H : Heap) (locs : List Loc) (ls : Array Slot), gX D (mcell g cI cS sa) mord g S s H locs → lv_has ls 4 [(0, .ref (g 99)), (1, .int x1), (2, .int x2), (3, .int x3)] → r26 x1 x2 x3 S = some o → W p l e (rmd 7) s m args below meth c H locs 0 0 (gE below args s D (mtys cI cS) (mcell g cI cS sa) mord g none o.2) (F0 m 26 ls [])) (X : gX D (mcell g cI cS sa) mord g S s H locs) (hl : lv_has ls 4 [(0, .ref (g 99)), (1, .int x1), (2, .int x2), (3, .int x3)]) (hF : fX12_tellFits_b44 N r7 r26 x1 x2 x3 S = some o) : W p l e (rmd 7) s m args below meth c H locs 0 0 (gE below args s D (mtys cI cS) (mcell g cI cS sa) mord g none o.2) (F0 m 44 ls []) := by
  unfold fX12_tellFits_b44 at hF
  refine lv_aload_n C.1.1 C.1.2.1 dX12_tellFits_44 rfl (lv_at hl 0 rfl) ?_
  obtain ⟨q1, hq1, hF⟩ := bnd_some hF
  refine m_callVi C X vX12_isAsSeen rfl (kX12_isAsSeen O C.2.2.2.2.1 N   S q1 hq1) (Nat.le_of_ble_eq_true rfl) (Nat.le_of_ble_eq_true rfl) (Nat.le_of_ble_eq_true rfl) (Nat.le_of_ble_eq_true rfl) rfl hl.1 rfl (Nat.le_of_ble_eq_true rfl) dX12_tellFits_45 (fun H locs X => ?_)
  refine lv_if_ne (tgt := 54) C.1.1 C.1.2.1 dX12_tellFits_48 (by decide) (fun h_z => ?_) (fun h_z => ?_)
  · rw [if_neg h_z] at hF
    exact bX12_tellFits_54 C O K7 K26 X (lv_sub hl [0, 1, 2, 3] rfl) hF
  · rw [if_pos h_z] at hF
    exact bX12_tellFits_51 C O K7 K26 X (lv_sub hl [0, 1, 2, 3] rfl) hF
noncomputable def fX12_tellFits_b32 (N : Nat) (r7 : Int32 → gS → Option (Int32 × gS)) (r26 : Int32 → Int32 → Int32 → gS → Option (Int32 × gS)) (x1 : Int32) (x2 : Int32) (x3 : Int32) (S : gS) : Option (Int32 × gS) := chk (inb x1 (6)) (lt (sU S 18 (Int32.toNatClampNeg x1) x3) fun S1 => (if x3 = x2 then fX12_tellFits_b79 N r7 r26 x1 x2 x3 S1 else fX12_tellFits_b44 N r7 r26 x1 x2 x3 S1))
theorem bX12_tellFits_32 {N : Nat} {r7 : Int32 → gS → Option (Int32 × gS)} {r26 : Int32 → Int32 → Int32 → gS → Option (Int32 × gS)} {x1 : Int32} {x2 : Int32} {x3 : Int32} {S : gS} {H : Heap} {locs : List Loc} {ls : Array Slot} {o : Int32 × gS} (C : gC p s m args meth c cX12_tellFits 4 RX12 none D (mtys cI cS) mord g Am) (O : gO (mcell g cI cS sa) mord g) (K7 : ∀ (x1 : Int32) (S : gS) (H : Heap) (locs : List Loc) (ls : Array Slot), gX D (mcell g cI cS sa) mord g S s H locs → lv_has ls 4 [(0, .ref (g 99)), (1, .int x1)] → r7 x1 S = some o → W p l e (rmd 7) s m args below meth c H locs 0 0 (gE below args s D (mtys cI cS) (mcell g cI cS sa) mord g none o.2) (F0 m 7 ls [])) (K26 : ∀ (x1 : Int32) (x2 : Int32) (x3 : Int32) (S : gS) (H : Heap) (locs : List Loc) (ls : Array Slot), gX D (mcell g cI cS sa) mord g S s H locs → lv_has ls 4 [(0, .ref (g 99)), (1, .int x1), (2, .int x2), (3, .int x3)] → r26 x1 x2 x3 S = some o → W p l e (rmd 7) s m args below meth c H locs 0 0 (gE below args s D (mtys cI cS) (mcell g cI cS sa) mord g none o.2) (F0 m 26 ls [])) (X : gX D (mcell g cI cS sa) mord g S s H locs) (hl : lv_has ls 4 [(0, .ref (g 99)), (1, .int x1), (2, .int x2), (3, .int x3)]) (hF : fX12_tellFits_b32 N r7 r26 x1 x2 x3 S = some o) : W p l e (rmd 7) s m args below meth c H locs 0 0 (gE below args s D (mtys cI cS) (mcell g cI cS sa) mord g none o.2) (F0 m 32 ls []) := by
  unfold fX12_tellFits_b32 at hF
  refine lv_aload_n C.1.1 C.1.2.1 dX12_tellFits_32 rfl (lv_at hl 0 rfl) ?_
  refine m_g18 C X dX12_tellFits_33 ?_
  refine lv_iload_n C.1.1 C.1.2.1 dX12_tellFits_36 rfl (lv_at hl 1 rfl) ?_
  refine lv_iload_n C.1.1 C.1.2.1 dX12_tellFits_37 rfl (lv_at hl 3 rfl) ?_
  obtain ⟨h_1, hF⟩ := chk_some hF
  obtain ⟨S1, eS1, hF⟩ := lt_some hF
  refine m_w18 C O X  (inb_vp h_1) rfl eS1 dX12_tellFits_38 (fun H locs X => ?_)
  refine lv_iload_n C.1.1 C.1.2.1 dX12_tellFits_39 rfl (lv_at hl 3 rfl) ?_
  refine lv_iload_n C.1.1 C.1.2.1 dX12_tellFits_40 rfl (lv_at hl 2 rfl) ?_
  refine lv_icmp_eq (tgt := 79) C.1.1 C.1.2.1 dX12_tellFits_41 (by decide) (fun h_z => ?_) (fun h_z => ?_)
  · rw [if_pos h_z] at hF
    exact bX12_tellFits_79 C O K7 K26 X (lv_sub hl [0, 1, 2, 3] rfl) hF
  · rw [if_neg h_z] at hF
    exact bX12_tellFits_44 C O K7 K26 X (lv_sub hl [0, 1, 2, 3] rfl) hF
noncomputable def fX12_tellFits_b26 (N : Nat) (r7 : Int32 → gS → Option (Int32 × gS)) (r26 : Int32 → Int32 → Int32 → gS → Option (Int32 × gS)) (x1 : Int32) (x2 : Int32) (x3 : Int32) (S : gS) : Option (Int32 × gS) := if 9 < x3 then fX12_tellFits_b85 N r7 x1 x2 S else fX12_tellFits_b32 N r7 r26 x1 x2 x3 S
theorem bX12_tellFits_26 {N : Nat} {r7 : Int32 → gS → Option (Int32 × gS)} {r26 : Int32 → Int32 → Int32 → gS → Option (Int32 × gS)} {x1 : Int32} {x2 : Int32} {x3 : Int32} {S : gS} {H : Heap} {locs : List Loc} {ls : Array Slot} {o : Int32 × gS} (C : gC p s m args meth c cX12_tellFits 4 RX12 none D (mtys cI cS) mord g Am) (O : gO (mcell g cI cS sa) mord g) (K7 : ∀ (x1 : Int32) (S : gS) (H : Heap) (locs : List Loc) (ls : Array Slot), gX D (mcell g cI cS sa) mord g S s H locs → lv_has ls 4 [(0, .ref (g 99)), (1, .int x1)] → r7 x1 S = some o → W p l e (rmd 7) s m args below meth c H locs 0 0 (gE below args s D (mtys cI cS) (mcell g cI cS sa) mord g none o.2) (F0 m 7 ls [])) (K26 : ∀ (x1 : Int32) (x2 : Int32) (x3 : Int32) (S : gS) (H : Heap) (locs : List Loc) (ls : Array Slot), gX D (mcell g cI cS sa) mord g S s H locs → lv_has ls 4 [(0, .ref (g 99)), (1, .int x1), (2, .int x2), (3, .int x3)] → r26 x1 x2 x3 S = some o → W p l e (rmd 7) s m args below meth c H locs 0 0 (gE below args s D (mtys cI cS) (mcell g cI cS sa) mord g none o.2) (F0 m 26 ls [])) (X : gX D (mcell g cI cS sa) mord g S s H locs) (hl : lv_has ls 4 [(0, .ref (g 99)), (1, .int x1), (2, .int x2), (3, .int x3)]) (hF : fX12_tellFits_b26 N r7 r26 x1 x2 x3 S = some o) : W p l e (rmd 7) s m args below meth c H locs 0 0 (gE below args s D (mtys cI cS) (mcell g cI cS sa) mord g none o.2) (F0 m 26 ls []) := by
  unfold fX12_tellFits_b26 at hF
  refine lv_iload_n C.1.1 C.1.2.1 dX12_tellFits_26 rfl (lv_at hl 3 rfl) ?_
  refine lv_bipush (v := 9) C.1.1 C.1.2.1 dX12_tellFits_27 (by decide) ?_
  refine lv_icmp_gt (tgt := 85) C.1.1 C.1.2.1 dX12_tellFits_29 (by decide) (fun h_z => ?_) (fun h_z => ?_)
  · rw [if_pos h_z] at hF
    exact bX12_tellFits_85 C O K7 X (lv_sub hl [0, 1, 2] rfl) hF
  · rw [if_neg h_z] at hF
    exact bX12_tellFits_32 C O K7 K26 X (lv_sub hl [0, 1, 2, 3] rfl) hF
noncomputable def fX12_tellFits_h26 (N : Nat) (r7 : Int32 → gS → Option (Int32 × gS)) : Nat → Int32 → Int32 → Int32 → gS → Option (Int32 × gS)
  | 0, _, _, _, _ => none
  | n + 1, x1, x2, x3, S => fX12_tellFits_b26 N r7 (fX12_tellFits_h26 N r7 n) x1 x2 x3 S
theorem hX12_tellFits_26 {N : Nat} {r7 : Int32 → gS → Option (Int32 × gS)} {o : Int32 × gS} (C : gC p s m args meth c cX12_tellFits 4 RX12 none D (mtys cI cS) mord g Am) (O : gO (mcell g cI cS sa) mord g) (K7 : ∀ (x1 : Int32) (S : gS) (H : Heap) (locs : List Loc) (ls : Array Slot), gX D (mcell g cI cS sa) mord g S s H locs → lv_has ls 4 [(0, .ref (g 99)), (1, .int x1)] → r7 x1 S = some o → W p l e (rmd 7) s m args below meth c H locs 0 0 (gE below args s D (mtys cI cS) (mcell g cI cS sa) mord g none o.2) (F0 m 7 ls [])) : ∀ (n : Nat) (x1 : Int32) (x2 : Int32) (x3 : Int32) (S : gS) (H : Heap) (locs : List Loc) (ls : Array Slot), gX D (mcell g cI cS sa) mord g S s H locs → lv_has ls 4 [(0, .ref (g 99)), (1, .int x1), (2, .int x2), (3, .int x3)] → fX12_tellFits_h26 N r7 n x1 x2 x3 S = some o → W p l e (rmd 7) s m args below meth c H locs 0 0 (gE below args s D (mtys cI cS) (mcell g cI cS sa) mord g none o.2) (F0 m 26 ls []) := by
  intro n
  induction n with
  | zero =>
    intro x1 x2 x3 S H locs ls X hl hF
    exact absurd (show (none : Option (Int32 × gS)) = some o from hF) (by simp)
  | succ n ih =>
    intro x1 x2 x3 S H locs ls X hl hF
    have hF : fX12_tellFits_b26 N r7 (fX12_tellFits_h26 N r7 n) x1 x2 x3 S = some o := hF
    exact bX12_tellFits_26 C O K7 ih X hl hF
noncomputable def fX12_tellFits_b17 (N : Nat) (r7 : Int32 → gS → Option (Int32 × gS)) (x1 : Int32) (S : gS) : Option (Int32 × gS) := chk (inb x1 (6)) (fX12_tellFits_h26 N r7 N x1 (S 18 (Int32.toNatClampNeg x1)) 0 S)
theorem bX12_tellFits_17 {N : Nat} {r7 : Int32 → gS → Option (Int32 × gS)} {x1 : Int32} {S : gS} {H : Heap} {locs : List Loc} {ls : Array Slot} {o : Int32 × gS} (C : gC p s m args meth c cX12_tellFits 4 RX12 none D (mtys cI cS) mord g Am) (O : gO (mcell g cI cS sa) mord g) (K7 : ∀ (x1 : Int32) (S : gS) (H : Heap) (locs : List Loc) (ls : Array Slot), gX D (mcell g cI cS sa) mord g S s H locs → lv_has ls 4 [(0, .ref (g 99)), (1, .int x1)] → r7 x1 S = some o → W p l e (rmd 7) s m args below meth c H locs 0 0 (gE below args s D (mtys cI cS) (mcell g cI cS sa) mord g none o.2) (F0 m 7 ls [])) (X : gX D (mcell g cI cS sa) mord g S s H locs) (hl : lv_has ls 4 [(0, .ref (g 99)), (1, .int x1)]) (hF : fX12_tellFits_b17 N r7 x1 S = some o) : W p l e (rmd 7) s m args below meth c H locs 0 0 (gE below args s D (mtys cI cS) (mcell g cI cS sa) mord g none o.2) (F0 m 17 ls []) := by
  unfold fX12_tellFits_b17 at hF
  refine lv_aload_n C.1.1 C.1.2.1 dX12_tellFits_17 rfl (lv_at hl 0 rfl) ?_
  refine m_g18 C X dX12_tellFits_18 ?_
  refine lv_iload_n C.1.1 C.1.2.1 dX12_tellFits_21 rfl (lv_at hl 1 rfl) ?_
  obtain ⟨h_1, hF⟩ := chk_some hF
  refine m_r18 C X  (inb_vp h_1) rfl dX12_tellFits_22 ?_
  refine lv_istore_n (lv' := [(2, .int (S 18 (Int32.toNatClampNeg x1))), (0, .ref (g 99)), (1, .int x1)]) C.1.1 C.1.2.1 dX12_tellFits_23 rfl hl (by decide) rfl (fun ls hl => ?_)
  refine lv_iconst (v := 0) C.1.1 C.1.2.1 dX12_tellFits_24 (by decide) ?_
  refine lv_istore_n (lv' := [(3, .int 0), (2, .int (S 18 (Int32.toNatClampNeg x1))), (0, .ref (g 99)), (1, .int x1)]) C.1.1 C.1.2.1 dX12_tellFits_25 rfl hl (by decide) rfl (fun ls hl => ?_)
  exact hX12_tellFits_26 C O K7 N _ _ _ _ _ _ _ X (lv_sub hl [2, 3, 1, 0] rfl) hF
noncomputable def fX12_tellFits_b7 (N : Nat) (r7 : Int32 → gS → Option (Int32 × gS)) (x1 : Int32) (S : gS) : Option (Int32 × gS) := if (S 5 1) ≤ x1 then fX12_tellFits_b98 N S else fX12_tellFits_b17 N r7 x1 S
theorem bX12_tellFits_7 {N : Nat} {r7 : Int32 → gS → Option (Int32 × gS)} {x1 : Int32} {S : gS} {H : Heap} {locs : List Loc} {ls : Array Slot} {o : Int32 × gS} (C : gC p s m args meth c cX12_tellFits 4 RX12 none D (mtys cI cS) mord g Am) (O : gO (mcell g cI cS sa) mord g) (K7 : ∀ (x1 : Int32) (S : gS) (H : Heap) (locs : List Loc) (ls : Array Slot), gX D (mcell g cI cS sa) mord g S s H locs → lv_has ls 4 [(0, .ref (g 99)), (1, .int x1)] → r7 x1 S = some o → W p l e (rmd 7) s m args below meth c H locs 0 0 (gE below args s D (mtys cI cS) (mcell g cI cS sa) mord g none o.2) (F0 m 7 ls [])) (X : gX D (mcell g cI cS sa) mord g S s H locs) (hl : lv_has ls 4 [(0, .ref (g 99)), (1, .int x1)]) (hF : fX12_tellFits_b7 N r7 x1 S = some o) : W p l e (rmd 7) s m args below meth c H locs 0 0 (gE below args s D (mtys cI cS) (mcell g cI cS sa) mord g none o.2) (F0 m 7 ls []) := by
  unfold fX12_tellFits_b7 at hF
  refine lv_iload_n C.1.1 C.1.2.1 dX12_tellFits_7 rfl (lv_at hl 1 rfl) ?_
  refine lv_aload_n C.1.1 C.1.2.1 dX12_tellFits_8 rfl (lv_at hl 0 rfl) ?_
  refine m_g5 C X dX12_tellFits_9 ?_
  refine lv_iconst (v := 1) C.1.1 C.1.2.1 dX12_tellFits_12 (by decide) ?_
  refine m_r5 C X (j := 1) (inb_vp (by decide)) (by decide) dX12_tellFits_13 ?_
  refine lv_icmp_ge (tgt := 98) C.1.1 C.1.2.1 dX12_tellFits_14 (by decide) (fun h_z => ?_) (fun h_z => ?_)
  · rw [if_pos h_z] at hF
    exact bX12_tellFits_98 C O X (lv_sub hl [] rfl) hF
  · rw [if_neg h_z] at hF
    exact bX12_tellFits_17 C O K7 X (lv_sub hl [0, 1] rfl) hF
noncomputable def fX12_tellFits_h7 (N : Nat) : Nat → Int32 → gS → Option (Int32 × gS)
  | 0, _, _ => none
  | n + 1, x1, S => fX12_tellFits_b7 N (fX12_tellFits_h7 N n) x1 S
theorem hX12_tellFits_7 {N : Nat} {o : Int32 × gS} (C : gC p s m args meth c cX12_tellFits 4 RX12 none D (mtys cI cS) mord g Am) (O : gO (mcell g cI cS sa) mord g) : ∀ (n : Nat) (x1 : Int32) (S : gS) (H : Heap) (locs : List Loc) (ls : Array Slot), gX D (mcell g cI cS sa) mord g S s H locs → lv_has ls 4 [(0, .ref (g 99)), (1, .int x1)] → fX12_tellFits_h7 N n x1 S = some o → W p l e (rmd 7) s m args below meth c H locs 0 0 (gE below args s D (mtys cI cS) (mcell g cI cS sa) mord g none o.2) (F0 m 7 ls []) := by
  intro n
  induction n with
  | zero =>
    intro x1 S H locs ls X hl hF
    exact absurd (show (none : Option (Int32 × gS)) = some o from hF) (by simp)
  | succ n ih =>
    intro x1 S H locs ls X hl hF
    have hF : fX12_tellFits_b7 N (fX12_tellFits_h7 N n) x1 S = some o := hF
    exact bX12_tellFits_7 C O ih X hl hF
noncomputable def fX12_tellFits_b0 (N : Nat) (S : gS) : Option (Int32 × gS) := lt (sU S 99 54 0) fun S1 => (fX12_tellFits_h7 N N 0 S1)
theorem bX12_tellFits_0 {N : Nat} {S : gS} {H : Heap} {locs : List Loc} {ls : Array Slot} {o : Int32 × gS} (C : gC p s m args meth c cX12_tellFits 4 RX12 none D (mtys cI cS) mord g Am) (O : gO (mcell g cI cS sa) mord g) (X : gX D (mcell g cI cS sa) mord g S s H locs) (hl : lv_has ls 4 [(0, .ref (g 99))]) (hF : fX12_tellFits_b0 N S = some o) : W p l e (rmd 7) s m args below meth c H locs 0 0 (gE below args s D (mtys cI cS) (mcell g cI cS sa) mord g none o.2) (F0 m 0 ls []) := by
  unfold fX12_tellFits_b0 at hF
  refine lv_aload_n C.1.1 C.1.2.1 dX12_tellFits_0 rfl (lv_at hl 0 rfl) ?_
  refine lv_iconst (v := 0) C.1.1 C.1.2.1 dX12_tellFits_1 (by decide) ?_
  obtain ⟨S1, eS1, hF⟩ := lt_some hF
  refine m_p54 C O X eS1 dX12_tellFits_2 (fun H locs X => ?_)
  refine lv_iconst (v := 0) C.1.1 C.1.2.1 dX12_tellFits_5 (by decide) ?_
  refine lv_istore_n (lv' := [(1, .int 0), (0, .ref (g 99))]) C.1.1 C.1.2.1 dX12_tellFits_6 rfl hl (by decide) rfl (fun ls hl => ?_)
  exact hX12_tellFits_7 C O N _ _ _ _ _ X (lv_sub hl [1, 0] rfl) hF
noncomputable def fX12_tellFits (N : Nat) (S : gS) : Option (Int32 × gS) := fX12_tellFits_b0 N S
theorem kX12_tellFits {l : Launch} {D : va_G} {g : Nat → Nat} {cI cS : ClassId} {sa : Nat → Nat → Option Nat} {Am : (Nat → Prop) → State → Heap → Prop} (O : gO (mcell g cI cS sa) mord g) (P : gAm Am) (N : Nat) (S : gS) (o : Int32 × gS) (hF : fX12_tellFits N S = some o) : gM l yX12_tellFits cX12_tellFits 4 none 7 D (mtys cI cS) (mcell g cI cS sa) mord g Am [.ref (g 99)] S none o.2 :=
  gM_of O P (by decide) (Nat.le_of_ble_eq_true rfl) (fun p e s m args below meth c ls C X hl => bX12_tellFits_0 C O X (lv_sub hl [0] rfl) hF)
end
end

/-! part 08.m06 -/
section
/-! the reference's methods as maps of states, and their walks (printed by wip/whole/mkm.py) -/
section
variable {p : Program} {l : Launch} {e : Env} {s : State} {m : MethodId} {args : Array Value} {below : List Frame} {meth : Method} {c : Code} {D : va_G} {g : Nat → Nat} {cI cS : ClassId} {sa : Nat → Nat → Option Nat} {Am : (Nat → Prop) → State → Heap → Prop}
-- greedy
noncomputable def fX12_greedy_b73 (N : Nat) (t0 : Int32) (S : gS) : Option (Int32 × gS) := some (t0, S)
theorem bX12_greedy_73 {N : Nat} {t0 : Int32} {S : gS} {H : Heap} {locs : List Loc} {ls : Array Slot} {o : Int32 × gS} (C : gC p s m args meth c cX12_greedy 2 RX12 ((some .int)) D (mtys cI cS) mord g Am) (O : gO (mcell g cI cS sa) mord g) (X : gX D (mcell g cI cS sa) mord g S s H locs) (hl : lv_has ls 2 []) (hF : fX12_greedy_b73 N t0 S = some o) : W p l e (rmd 8) s m args below meth c H locs 0 0 (gE below args s D (mtys cI cS) (mcell g cI cS sa) mord g (some (.int o.1)) o.2) (F0 m 73 ls [.int t0]) := by
  unfold fX12_greedy_b73 at hF
  cases hF
  exact g_iret C X dX12_greedy_73
noncomputable def fX12_greedy_b67 (N : Nat) (S : gS) : Option (Int32 × gS) := fX12_greedy_b73 N (S 52 0) S
theorem bX12_greedy_67 {N : Nat} {S : gS} {H : Heap} {locs : List Loc} {ls : Array Slot} {o : Int32 × gS} (C : gC p s m args meth c cX12_greedy 2 RX12 ((some .int)) D (mtys cI cS) mord g Am) (O : gO (mcell g cI cS sa) mord g) (X : gX D (mcell g cI cS sa) mord g S s H locs) (hl : lv_has ls 2 [(0, .ref (g 99))]) (hF : fX12_greedy_b67 N S = some o) : W p l e (rmd 8) s m args below meth c H locs 0 0 (gE below args s D (mtys cI cS) (mcell g cI cS sa) mord g (some (.int o.1)) o.2) (F0 m 67 ls []) := by
  unfold fX12_greedy_b67 at hF
  refine lv_aload_n C.1.1 C.1.2.1 dX12_greedy_67 rfl (lv_at hl 0 rfl) ?_
  refine m_g52 C X dX12_greedy_68 ?_
  refine lv_iconst (v := 0) C.1.1 C.1.2.1 dX12_greedy_71 (by decide) ?_
  refine m_r52 C X (j := 0) (inb_vp (by decide)) (by decide) dX12_greedy_72 ?_
  exact bX12_greedy_73 C O X (lv_sub hl [] rfl) hF
noncomputable def fX12_greedy_b63 (N : Nat) (S : gS) : Option (Int32 × gS) := fX12_greedy_b73 N ((-1)) S
theorem bX12_greedy_63 {N : Nat} {S : gS} {H : Heap} {locs : List Loc} {ls : Array Slot} {o : Int32 × gS} (C : gC p s m args meth c cX12_greedy 2 RX12 ((some .int)) D (mtys cI cS) mord g Am) (O : gO (mcell g cI cS sa) mord g) (X : gX D (mcell g cI cS sa) mord g S s H locs) (hl : lv_has ls 2 []) (hF : fX12_greedy_b63 N S = some o) : W p l e (rmd 8) s m args below meth c H locs 0 0 (gE below args s D (mtys cI cS) (mcell g cI cS sa) mord g (some (.int o.1)) o.2) (F0 m 63 ls []) := by
  unfold fX12_greedy_b63 at hF
  refine lv_iconst (v := (-1)) C.1.1 C.1.2.1 dX12_greedy_63 (by decide) ?_
  refine lv_goto (tgt := 73) C.1.1 C.1.2.1 dX12_greedy_64 (by decide) ?_
  exact bX12_greedy_73 C O X (lv_sub hl [] rfl) hF
noncomputable def fX12_greedy_b56 (N : Nat) (S : gS) : Option (Int32 × gS) := if (S 99 54) = 0 then fX12_greedy_b63 N S else fX12_greedy_b67 N S
theorem bX12_greedy_56 {N : Nat} {S : gS} {H : Heap} {locs : List Loc} {ls : Array Slot} {o : Int32 × gS} (C : gC p s m args meth c cX12_greedy 2 RX12 ((some .int)) D (mtys cI cS) mord g Am) (O : gO (mcell g cI cS sa) mord g) (X : gX D (mcell g cI cS sa) mord g S s H locs) (hl : lv_has ls 2 [(0, .ref (g 99))]) (hF : fX12_greedy_b56 N S = some o) : W p l e (rmd 8) s m args below meth c H locs 0 0 (gE below args s D (mtys cI cS) (mcell g cI cS sa) mord g (some (.int o.1)) o.2) (F0 m 56 ls []) := by
  unfold fX12_greedy_b56 at hF
  refine lv_aload_n C.1.1 C.1.2.1 dX12_greedy_56 rfl (lv_at hl 0 rfl) ?_
  refine m_g54 C X dX12_greedy_57 ?_
  refine lv_if_ne (tgt := 67) C.1.1 C.1.2.1 dX12_greedy_60 (by decide) (fun h_z => ?_) (fun h_z => ?_)
  · rw [if_neg h_z] at hF
    exact bX12_greedy_67 C O X (lv_sub hl [0] rfl) hF
  · rw [if_pos h_z] at hF
    exact bX12_greedy_63 C O X (lv_sub hl [] rfl) hF
noncomputable def fX12_greedy_b49 (N : Nat) (S : gS) : Option (Int32 × gS) := fX12_greedy_b73 N (S 99 54) S
theorem bX12_greedy_49 {N : Nat} {S : gS} {H : Heap} {locs : List Loc} {ls : Array Slot} {o : Int32 × gS} (C : gC p s m args meth c cX12_greedy 2 RX12 ((some .int)) D (mtys cI cS) mord g Am) (O : gO (mcell g cI cS sa) mord g) (X : gX D (mcell g cI cS sa) mord g S s H locs) (hl : lv_has ls 2 [(0, .ref (g 99))]) (hF : fX12_greedy_b49 N S = some o) : W p l e (rmd 8) s m args below meth c H locs 0 0 (gE below args s D (mtys cI cS) (mcell g cI cS sa) mord g (some (.int o.1)) o.2) (F0 m 49 ls []) := by
  unfold fX12_greedy_b49 at hF
  refine lv_aload_n C.1.1 C.1.2.1 dX12_greedy_49 rfl (lv_at hl 0 rfl) ?_
  refine m_g54 C X dX12_greedy_50 ?_
  refine lv_goto (tgt := 73) C.1.1 C.1.2.1 dX12_greedy_53 (by decide) ?_
  exact bX12_greedy_73 C O X (lv_sub hl [] rfl) hF
noncomputable def fX12_greedy_b41 (N : Nat) (x1 : Int32) (S : gS) : Option (Int32 × gS) := bnd (fX12_tellFits N  S) fun q1 => (if x1 = 0 then fX12_greedy_b49 N q1.2 else fX12_greedy_b56 N q1.2)
theorem bX12_greedy_41 {N : Nat} {x1 : Int32} {S : gS} {H : Heap} {locs : List Loc} {ls : Array Slot} {o : Int32 × gS} (C : gC p s m args meth c cX12_greedy 2 RX12 ((some .int)) D (mtys cI cS) mord g Am) (O : gO (mcell g cI cS sa) mord g) (X : gX D (mcell g cI cS sa) mord g S s H locs) (hl : lv_has ls 2 [(0, .ref (g 99)), (1, .int x1)]) (hF : fX12_greedy_b41 N x1 S = some o) : W p l e (rmd 8) s m args below meth c H locs 0 0 (gE below args s D (mtys cI cS) (mcell g cI cS sa) mord g (some (.int o.1)) o.2) (F0 m 41 ls []) := by
  unfold fX12_greedy_b41 at hF
  refine lv_aload_n C.1.1 C.1.2.1 dX12_greedy_41 rfl (lv_at hl 0 rfl) ?_
  obtain ⟨q1, hq1, hF⟩ := bnd_some hF
  refine m_callV C X vX12_tellFits rfl (kX12_tellFits O C.2.2.2.2.1 N   S q1 hq1) (Nat.le_of_ble_eq_true rfl) (Nat.le_of_ble_eq_true rfl) (Nat.le_of_ble_eq_true rfl) (Nat.le_of_ble_eq_true rfl) rfl hl.1 rfl (Nat.le_of_ble_eq_true rfl) dX12_greedy_42 (fun H locs X => ?_)
  refine lv_iload_n C.1.1 C.1.2.1 dX12_greedy_45 rfl (lv_at hl 1 rfl) ?_
  refine lv_if_ne (tgt := 56) C.1.1 C.1.2.1 dX12_greedy_46 (by decide) (fun h_z => ?_) (fun h_z => ?_)
  · rw [if_neg h_z] at hF
    exact bX12_greedy_56 C O X (lv_sub hl [0] rfl) hF
  · rw [if_pos h_z] at hF
    exact bX12_greedy_49 C O X (lv_sub hl [0] rfl) hF
noncomputable def fX12_greedy_b40 (N : Nat) (t0 : Int32) (S : gS) : Option (Int32 × gS) := some (t0, S)
theorem bX12_greedy_40 {N : Nat} {t0 : Int32} {S : gS} {H : Heap} {locs : List Loc} {ls : Array Slot} {o : Int32 × gS} (C : gC p s m args meth c cX12_greedy 2 RX12 ((some .int)) D (mtys cI cS) mord g Am) (O : gO (mcell g cI cS sa) mord g) (X : gX D (mcell g cI cS sa) mord g S s H locs) (hl : lv_has ls 2 []) (hF : fX12_greedy_b40 N t0 S = some o) : W p l e (rmd 8) s m args below meth c H locs 0 0 (gE below args s D (mtys cI cS) (mcell g cI cS sa) mord g (some (.int o.1)) o.2) (F0 m 40 ls [.int t0]) := by
  unfold fX12_greedy_b40 at hF
  cases hF
  exact g_iret C X dX12_greedy_40
noncomputable def fX12_greedy_b39 (N : Nat) (S : gS) : Option (Int32 × gS) := fX12_greedy_b40 N 0 S
theorem bX12_greedy_39 {N : Nat} {S : gS} {H : Heap} {locs : List Loc} {ls : Array Slot} {o : Int32 × gS} (C : gC p s m args meth c cX12_greedy 2 RX12 ((some .int)) D (mtys cI cS) mord g Am) (O : gO (mcell g cI cS sa) mord g) (X : gX D (mcell g cI cS sa) mord g S s H locs) (hl : lv_has ls 2 []) (hF : fX12_greedy_b39 N S = some o) : W p l e (rmd 8) s m args below meth c H locs 0 0 (gE below args s D (mtys cI cS) (mcell g cI cS sa) mord g (some (.int o.1)) o.2) (F0 m 39 ls []) := by
  unfold fX12_greedy_b39 at hF
  refine lv_iconst (v := 0) C.1.1 C.1.2.1 dX12_greedy_39 (by decide) ?_
  exact bX12_greedy_40 C O X (lv_sub hl [] rfl) hF
noncomputable def fX12_greedy_b35 (N : Nat) (S : gS) : Option (Int32 × gS) := fX12_greedy_b40 N 1 S
theorem bX12_greedy_35 {N : Nat} {S : gS} {H : Heap} {locs : List Loc} {ls : Array Slot} {o : Int32 × gS} (C : gC p s m args meth c cX12_greedy 2 RX12 ((some .int)) D (mtys cI cS) mord g Am) (O : gO (mcell g cI cS sa) mord g) (X : gX D (mcell g cI cS sa) mord g S s H locs) (hl : lv_has ls 2 []) (hF : fX12_greedy_b35 N S = some o) : W p l e (rmd 8) s m args below meth c H locs 0 0 (gE below args s D (mtys cI cS) (mcell g cI cS sa) mord g (some (.int o.1)) o.2) (F0 m 35 ls []) := by
  unfold fX12_greedy_b35 at hF
  refine lv_iconst (v := 1) C.1.1 C.1.2.1 dX12_greedy_35 (by decide) ?_
  refine lv_goto (tgt := 40) C.1.1 C.1.2.1 dX12_greedy_36 (by decide) ?_
  exact bX12_greedy_40 C O X (lv_sub hl [] rfl) hF
noncomputable def fX12_greedy_b28 (N : Nat) (S : gS) : Option (Int32 × gS) := bnd (fX12_isAsSeen N  S) fun q1 => (if q1.1 = 0 then fX12_greedy_b39 N q1.2 else fX12_greedy_b35 N q1.2)
theorem bX12_greedy_28 {N : Nat} {S : gS} {H : Heap} {locs : List Loc} {ls : Array Slot} {o : Int32 × gS} (C : gC p s m args meth c cX12_greedy 2 RX12 ((some .int)) D (mtys cI cS) mord g Am) (O : gO (mcell g cI cS sa) mord g) (X : gX D (mcell g cI cS sa) mord g S s H locs) (hl : lv_has ls 2 [(0, .ref (g 99))]) (hF : fX12_greedy_b28 N S = some o) : W p l e (rmd 8) s m args below meth c H locs 0 0 (gE below args s D (mtys cI cS) (mcell g cI cS sa) mord g (some (.int o.1)) o.2) (F0 m 28 ls []) := by
  unfold fX12_greedy_b28 at hF
  refine lv_aload_n C.1.1 C.1.2.1 dX12_greedy_28 rfl (lv_at hl 0 rfl) ?_
  obtain ⟨q1, hq1, hF⟩ := bnd_some hF
  refine m_callVi C X vX12_isAsSeen rfl (kX12_isAsSeen O C.2.2.2.2.1 N   S q1 hq1) (Nat.le_of_ble_eq_true rfl) (Nat.le_of_ble_eq_true rfl) (Nat.le_of_ble_eq_true rfl) (Nat.le_of_ble_eq_true rfl) rfl hl.1 rfl (Nat.le_of_ble_eq_true rfl) dX12_greedy_29 (fun H locs X => ?_)
  refine lv_if_eq (tgt := 39) C.1.1 C.1.2.1 dX12_greedy_32 (by decide) (fun h_z => ?_) (fun h_z => ?_)
  · rw [if_pos h_z] at hF
    exact bX12_greedy_39 C O X (lv_sub hl [] rfl) hF
  · rw [if_neg h_z] at hF
    exact bX12_greedy_35 C O X (lv_sub hl [] rfl) hF
noncomputable def fX12_greedy_b23 (N : Nat) (x1 : Int32) (S : gS) : Option (Int32 × gS) := if x1 = 2 then fX12_greedy_b28 N S else fX12_greedy_b41 N x1 S
theorem bX12_greedy_23 {N : Nat} {x1 : Int32} {S : gS} {H : Heap} {locs : List Loc} {ls : Array Slot} {o : Int32 × gS} (C : gC p s m args meth c cX12_greedy 2 RX12 ((some .int)) D (mtys cI cS) mord g Am) (O : gO (mcell g cI cS sa) mord g) (X : gX D (mcell g cI cS sa) mord g S s H locs) (hl : lv_has ls 2 [(0, .ref (g 99)), (1, .int x1)]) (hF : fX12_greedy_b23 N x1 S = some o) : W p l e (rmd 8) s m args below meth c H locs 0 0 (gE below args s D (mtys cI cS) (mcell g cI cS sa) mord g (some (.int o.1)) o.2) (F0 m 23 ls []) := by
  unfold fX12_greedy_b23 at hF
  refine lv_iload_n C.1.1 C.1.2.1 dX12_greedy_23 rfl (lv_at hl 1 rfl) ?_
  refine lv_iconst (v := 2) C.1.1 C.1.2.1 dX12_greedy_24 (by decide) ?_
  refine lv_icmp_ne (tgt := 41) C.1.1 C.1.2.1 dX12_greedy_25 (by decide) (fun h_z => ?_) (fun h_z => ?_)
  · rw [if_neg h_z] at hF
    exact bX12_greedy_41 C O X (lv_sub hl [0, 1] rfl) hF
  · rw [if_pos h_z] at hF
    exact bX12_greedy_28 C O X (lv_sub hl [0] rfl) hF
noncomputable def fX12_greedy_b17 (N : Nat) (S : gS) : Option (Int32 × gS) := bnd (fX12_fail N 1 S) fun q1 => (some (q1.1, q1.2))
theorem bX12_greedy_17 {N : Nat} {S : gS} {H : Heap} {locs : List Loc} {ls : Array Slot} {o : Int32 × gS} (C : gC p s m args meth c cX12_greedy 2 RX12 ((some .int)) D (mtys cI cS) mord g Am) (O : gO (mcell g cI cS sa) mord g) (X : gX D (mcell g cI cS sa) mord g S s H locs) (hl : lv_has ls 2 [(0, .ref (g 99))]) (hF : fX12_greedy_b17 N S = some o) : W p l e (rmd 8) s m args below meth c H locs 0 0 (gE below args s D (mtys cI cS) (mcell g cI cS sa) mord g (some (.int o.1)) o.2) (F0 m 17 ls []) := by
  unfold fX12_greedy_b17 at hF
  refine lv_aload_n C.1.1 C.1.2.1 dX12_greedy_17 rfl (lv_at hl 0 rfl) ?_
  refine lv_iconst (v := 1) C.1.1 C.1.2.1 dX12_greedy_18 (by decide) ?_
  obtain ⟨q1, hq1, hF⟩ := bnd_some hF
  refine m_callVi C X vX12_fail rfl (kX12_fail O C.2.2.2.2.1 N 1  S q1 hq1) (Nat.le_of_ble_eq_true rfl) (Nat.le_of_ble_eq_true rfl) (Nat.le_of_ble_eq_true rfl) (Nat.le_of_ble_eq_true rfl) rfl hl.1 rfl (Nat.le_of_ble_eq_true rfl) dX12_greedy_19 (fun H locs X => ?_)
  cases hF
  exact g_iret C X dX12_greedy_22
noncomputable def fX12_greedy_b0 (N : Nat) (x1 : Int32) (S : gS) : Option (Int32 × gS) := lt (sU S 99 4 0) fun S1 => (bnd (fX12_isIn N (Int32.toInt64 x1) 0 2 S1) fun q1 => (if q1.1 = 0 then fX12_greedy_b17 N q1.2 else fX12_greedy_b23 N x1 q1.2))
theorem bX12_greedy_0 {N : Nat} {x1 : Int32} {S : gS} {H : Heap} {locs : List Loc} {ls : Array Slot} {o : Int32 × gS} (C : gC p s m args meth c cX12_greedy 2 RX12 ((some .int)) D (mtys cI cS) mord g Am) (O : gO (mcell g cI cS sa) mord g) (X : gX D (mcell g cI cS sa) mord g S s H locs) (hl : lv_has ls 2 [(0, .ref (g 99)), (1, .int x1)]) (hF : fX12_greedy_b0 N x1 S = some o) : W p l e (rmd 8) s m args below meth c H locs 0 0 (gE below args s D (mtys cI cS) (mcell g cI cS sa) mord g (some (.int o.1)) o.2) (F0 m 0 ls []) := by
  unfold fX12_greedy_b0 at hF
  refine lv_aload_n C.1.1 C.1.2.1 dX12_greedy_0 rfl (lv_at hl 0 rfl) ?_
  refine lv_iconst (v := 0) C.1.1 C.1.2.1 dX12_greedy_1 (by decide) ?_
  obtain ⟨S1, eS1, hF⟩ := lt_some hF
  refine m_p4 C O X eS1 dX12_greedy_2 (fun H locs X => ?_)
  refine lv_iload_n C.1.1 C.1.2.1 dX12_greedy_5 rfl (lv_at hl 1 rfl) ?_
  refine lv_i2l (v := Int32.toInt64 x1) C.1.1 C.1.2.1 dX12_greedy_6 rfl ?_
  refine lv_lconst (v := 0) C.1.1 C.1.2.1 dX12_greedy_7 (by decide) ?_
  refine lv_ldc2 C.1.1 C.1.2.1 C.1.2.2.2.1 (C.1.2.2.2.2 _ mKL461) dX12_greedy_8 ?_
  obtain ⟨q1, hq1, hF⟩ := bnd_some hF
  refine g_callSi C X vX12_isIn (kX12_isIn O C.2.2.2.2.1 N (Int32.toInt64 x1) 0 2  S1 q1 hq1) (Nat.le_of_ble_eq_true rfl) (Nat.le_of_ble_eq_true rfl) (Nat.le_of_ble_eq_true rfl) (Nat.le_of_ble_eq_true rfl) rfl hl.1 rfl (Nat.le_of_ble_eq_true rfl) dX12_greedy_11 (fun H locs X => ?_)
  refine lv_if_ne (tgt := 23) C.1.1 C.1.2.1 dX12_greedy_14 (by decide) (fun h_z => ?_) (fun h_z => ?_)
  · rw [if_neg h_z] at hF
    exact bX12_greedy_23 C O X (lv_sub hl [0, 1] rfl) hF
  · rw [if_pos h_z] at hF
    exact bX12_greedy_17 C O X (lv_sub hl [0] rfl) hF
noncomputable def fX12_greedy (N : Nat) (x1 : Int32) (S : gS) : Option (Int32 × gS) := fX12_greedy_b0 N x1 S
theorem kX12_greedy {l : Launch} {D : va_G} {g : Nat → Nat} {cI cS : ClassId} {sa : Nat → Nat → Option Nat} {Am : (Nat → Prop) → State → Heap → Prop} (O : gO (mcell g cI cS sa) mord g) (P : gAm Am) (N : Nat) (x1 : Int32) (S : gS) (o : Int32 × gS) (hF : fX12_greedy N x1 S = some o) : gM l yX12_greedy cX12_greedy 2 ((some .int)) 8 D (mtys cI cS) (mcell g cI cS sa) mord g Am [.ref (g 99), .int x1] S (some (.int o.1)) o.2 :=
  gM_of O P (by decide) (Nat.le_of_ble_eq_true rfl) (fun p e s m args below meth c ls C X hl => bX12_greedy_0 C O X (lv_sub hl [0, 1] rfl) hF)
-- unlike
noncomputable def fX12_unlike_b34 (N : Nat) (x2 : Int32) (S : gS) : Option (Int32 × gS) := bnd (fX12_bitsOf N x2 S) fun q1 => (some (q1.1, q1.2))
theorem bX12_unlike_34 {N : Nat} {x2 : Int32} {S : gS} {H : Heap} {locs : List Loc} {ls : Array Slot} {o : Int32 × gS} (C : gC p s m args meth c cX12_unlike 4 RX12 ((some .int)) D (mtys cI cS) mord g Am) (O : gO (mcell g cI cS sa) mord g) (X : gX D (mcell g cI cS sa) mord g S s H locs) (hl : lv_has ls 4 [(2, .int x2)]) (hF : fX12_unlike_b34 N x2 S = some o) : W p l e (rmd 1) s m args below meth c H locs 0 0 (gE below args s D (mtys cI cS) (mcell g cI cS sa) mord g (some (.int o.1)) o.2) (F0 m 34 ls []) := by
  unfold fX12_unlike_b34 at hF
  refine lv_iload_n C.1.1 C.1.2.1 dX12_unlike_34 rfl (lv_at hl 0 rfl) ?_
  obtain ⟨q1, hq1, hF⟩ := bnd_some hF
  refine g_callSi C X vX12_bitsOf (kX12_bitsOf O C.2.2.2.2.1 N x2  S q1 hq1) (Nat.le_of_ble_eq_true rfl) (Nat.le_of_ble_eq_true rfl) (Nat.le_of_ble_eq_true rfl) (Nat.le_of_ble_eq_true rfl) rfl hl.1 rfl (Nat.le_of_ble_eq_true rfl) dX12_unlike_35 (fun H locs X => ?_)
  cases hF
  exact g_iret C X dX12_unlike_38
noncomputable def fX12_unlike_b12 (N : Nat) (r4 : Int32 → Int32 → Int32 → gS → Option (Int32 × gS)) (x1 : Int32) (x2 : Int32) (x3 : Int32) (S : gS) : Option (Int32 × gS) := chk (inb ((((20 * x3 : Int32)) + x1 : Int32)) (1200)) (r4 x1 ((x2 ||| (((1 : Int32) <<< ((S 53 (Int32.toNatClampNeg ((((20 * x3 : Int32)) + x1 : Int32)))) &&& 31) : Int32)) : Int32)) ((x3 + 1 : Int32)) S)
theorem bX12_unlike_12 {N : Nat} {r4 : Int32 → Int32 → Int32 → gS → Option (Int32 × gS)} {x1 : Int32} {x2 : Int32} {x3 : Int32} {S : gS} {H : Heap} {locs : List Loc} {ls : Array Slot} {o : Int32 × gS} (C : gC p s m args meth c cX12_unlike 4 RX12 ((some .int)) D (mtys cI cS) mord g Am) (O : gO (mcell g cI cS sa) mord g) (K4 : ∀ (x1 : Int32) (x2 : Int32) (x3 : Int32) (S : gS) (H : Heap) (locs : List Loc) (ls : Array Slot), gX D (mcell g cI cS sa) mord g S s H locs → lv_has ls 4 [(0, .ref (g 99)), (1, .int x1), (2, .int x2), (3, .int x3)] → r4 x1 x2 x3 S = some o → W p l e (rmd 1) s m args below meth c H locs 0 0 (gE below args s D (mtys cI cS) (mcell g cI cS sa) mord g (some (.int o.1)) o.2) (F0 m 4 ls [])) (X : gX D (mcell g cI cS sa) mord g S s H locs) (hl : lv_has ls 4 [(0, .ref (g 99)), (1, .int x1), (2, .int x2), (3, .int x3)]) (hF : fX12_unlike_b12 N r4 x1 x2 x3 S = some o) : W p l e (rmd 1) s m args below meth c H locs 0 0 (gE below args s D (mtys cI cS) (mcell g cI cS sa) mord g (some (.int o.1)) o.2) (F0 m 12 ls []) := by
  unfold fX12_unlike_b12 at hF
  refine lv_iload_n C.1.1 C.1.2.1 dX12_unlike_12 rfl (lv_at hl 2 rfl) ?_
  refine lv_iconst (v := 1) C.1.1 C.1.2.1 dX12_unlike_13 (by decide) ?_
  refine lv_aload_n C.1.1 C.1.2.1 dX12_unlike_14 rfl (lv_at hl 0 rfl) ?_
  refine m_g53 C X dX12_unlike_15 ?_
  refine lv_bipush (v := 20) C.1.1 C.1.2.1 dX12_unlike_18 (by decide) ?_
  refine lv_iload_n C.1.1 C.1.2.1 dX12_unlike_20 rfl (lv_at hl 3 rfl) ?_
  refine lv_imul C.1.1 C.1.2.1 dX12_unlike_21 ?_
  refine lv_iload_n C.1.1 C.1.2.1 dX12_unlike_22 rfl (lv_at hl 1 rfl) ?_
  refine lv_iadd C.1.1 C.1.2.1 dX12_unlike_23 ?_
  obtain ⟨h_1, hF⟩ := chk_some hF
  refine m_r53 C X  (inb_vp h_1) rfl dX12_unlike_24 ?_
  refine lv_ishl C.1.1 C.1.2.1 dX12_unlike_25 ?_
  refine lv_ior C.1.1 C.1.2.1 dX12_unlike_26 ?_
  refine lv_istore_n (lv' := [(2, .int ((x2 ||| (((1 : Int32) <<< ((S 53 (Int32.toNatClampNeg ((((20 * x3 : Int32)) + x1 : Int32)))) &&& 31) : Int32)) : Int32))), (0, .ref (g 99)), (1, .int x1), (3, .int x3)]) C.1.1 C.1.2.1 dX12_unlike_27 rfl hl (by decide) rfl (fun ls hl => ?_)
  refine lv_iinc (v := (x3 + 1 : Int32)) (lv' := [(3, .int ((x3 + 1 : Int32))), (2, .int ((x2 ||| (((1 : Int32) <<< ((S 53 (Int32.toNatClampNeg ((((20 * x3 : Int32)) + x1 : Int32)))) &&& 31) : Int32)) : Int32))), (0, .ref (g 99)), (1, .int x1)]) C.1.1 C.1.2.1 dX12_unlike_28 hl (k := 3) rfl rfl (by decide) rfl (fun ls hl => ?_)
  refine lv_goto (tgt := 4) C.1.1 C.1.2.1 dX12_unlike_31 (by decide) ?_
  exact K4 _ _ _ _ _ _ _ X (lv_sub hl [2, 3, 1, 0] rfl) hF
noncomputable def fX12_unlike_b4 (N : Nat) (r4 : Int32 → Int32 → Int32 → gS → Option (Int32 × gS)) (x1 : Int32) (x2 : Int32) (x3 : Int32) (S : gS) : Option (Int32 × gS) := if (S 99 54) ≤ x3 then fX12_unlike_b34 N x2 S else fX12_unlike_b12 N r4 x1 x2 x3 S
theorem bX12_unlike_4 {N : Nat} {r4 : Int32 → Int32 → Int32 → gS → Option (Int32 × gS)} {x1 : Int32} {x2 : Int32} {x3 : Int32} {S : gS} {H : Heap} {locs : List Loc} {ls : Array Slot} {o : Int32 × gS} (C : gC p s m args meth c cX12_unlike 4 RX12 ((some .int)) D (mtys cI cS) mord g Am) (O : gO (mcell g cI cS sa) mord g) (K4 : ∀ (x1 : Int32) (x2 : Int32) (x3 : Int32) (S : gS) (H : Heap) (locs : List Loc) (ls : Array Slot), gX D (mcell g cI cS sa) mord g S s H locs → lv_has ls 4 [(0, .ref (g 99)), (1, .int x1), (2, .int x2), (3, .int x3)] → r4 x1 x2 x3 S = some o → W p l e (rmd 1) s m args below meth c H locs 0 0 (gE below args s D (mtys cI cS) (mcell g cI cS sa) mord g (some (.int o.1)) o.2) (F0 m 4 ls [])) (X : gX D (mcell g cI cS sa) mord g S s H locs) (hl : lv_has ls 4 [(0, .ref (g 99)), (1, .int x1), (2, .int x2), (3, .int x3)]) (hF : fX12_unlike_b4 N r4 x1 x2 x3 S = some o) : W p l e (rmd 1) s m args below meth c H locs 0 0 (gE below args s D (mtys cI cS) (mcell g cI cS sa) mord g (some (.int o.1)) o.2) (F0 m 4 ls []) := by
  unfold fX12_unlike_b4 at hF
  refine lv_iload_n C.1.1 C.1.2.1 dX12_unlike_4 rfl (lv_at hl 3 rfl) ?_
  refine lv_aload_n C.1.1 C.1.2.1 dX12_unlike_5 rfl (lv_at hl 0 rfl) ?_
  refine m_g54 C X dX12_unlike_6 ?_
  refine lv_icmp_ge (tgt := 34) C.1.1 C.1.2.1 dX12_unlike_9 (by decide) (fun h_z => ?_) (fun h_z => ?_)
  · rw [if_pos h_z] at hF
    exact bX12_unlike_34 C O X (lv_sub hl [2] rfl) hF
  · rw [if_neg h_z] at hF
    exact bX12_unlike_12 C O K4 X (lv_sub hl [0, 1, 2, 3] rfl) hF
noncomputable def fX12_unlike_h4 (N : Nat) : Nat → Int32 → Int32 → Int32 → gS → Option (Int32 × gS)
  | 0, _, _, _, _ => none
  | n + 1, x1, x2, x3, S => fX12_unlike_b4 N (fX12_unlike_h4 N n) x1 x2 x3 S
theorem hX12_unlike_4 {N : Nat} {o : Int32 × gS} (C : gC p s m args meth c cX12_unlike 4 RX12 ((some .int)) D (mtys cI cS) mord g Am) (O : gO (mcell g cI cS sa) mord g) : ∀ (n : Nat) (x1 : Int32) (x2 : Int32) (x3 : Int32) (S : gS) (H : Heap) (locs : List Loc) (ls : Array Slot), gX D (mcell g cI cS sa) mord g S s H locs → lv_has ls 4 [(0, .ref (g 99)), (1, .int x1), (2, .int x2), (3, .int x3)] → fX12_unlike_h4 N n x1 x2 x3 S = some o → W p l e (rmd 1) s m args below meth c H locs 0 0 (gE below args s D (mtys cI cS) (mcell g cI cS sa) mord g (some (.int o.1)) o.2) (F0 m 4 ls []) := by
  intro n
  induction n with
  | zero =>
    intro x1 x2 x3 S H locs ls X hl hF
    exact absurd (show (none : Option (Int32 × gS)) = some o from hF) (by simp)
  | succ n ih =>
    intro x1 x2 x3 S H locs ls X hl hF
    have hF : fX12_unlike_b4 N (fX12_unlike_h4 N n) x1 x2 x3 S = some o := hF
    exact bX12_unlike_4 C O ih X hl hF
noncomputable def fX12_unlike_b0 (N : Nat) (x1 : Int32) (S : gS) : Option (Int32 × gS) := fX12_unlike_h4 N N x1 0 0 S
theorem bX12_unlike_0 {N : Nat} {x1 : Int32} {S : gS} {H : Heap} {locs : List Loc} {ls : Array Slot} {o : Int32 × gS} (C : gC p s m args meth c cX12_unlike 4 RX12 ((some .int)) D (mtys cI cS) mord g Am) (O : gO (mcell g cI cS sa) mord g) (X : gX D (mcell g cI cS sa) mord g S s H locs) (hl : lv_has ls 4 [(0, .ref (g 99)), (1, .int x1)]) (hF : fX12_unlike_b0 N x1 S = some o) : W p l e (rmd 1) s m args below meth c H locs 0 0 (gE below args s D (mtys cI cS) (mcell g cI cS sa) mord g (some (.int o.1)) o.2) (F0 m 0 ls []) := by
  unfold fX12_unlike_b0 at hF
  refine lv_iconst (v := 0) C.1.1 C.1.2.1 dX12_unlike_0 (by decide) ?_
  refine lv_istore_n (lv' := [(2, .int 0), (0, .ref (g 99)), (1, .int x1)]) C.1.1 C.1.2.1 dX12_unlike_1 rfl hl (by decide) rfl (fun ls hl => ?_)
  refine lv_iconst (v := 0) C.1.1 C.1.2.1 dX12_unlike_2 (by decide) ?_
  refine lv_istore_n (lv' := [(3, .int 0), (2, .int 0), (0, .ref (g 99)), (1, .int x1)]) C.1.1 C.1.2.1 dX12_unlike_3 rfl hl (by decide) rfl (fun ls hl => ?_)
  exact hX12_unlike_4 C O N _ _ _ _ _ _ _ X (lv_sub hl [2, 3, 1, 0] rfl) hF
noncomputable def fX12_unlike (N : Nat) (x1 : Int32) (S : gS) : Option (Int32 × gS) := fX12_unlike_b0 N x1 S
theorem kX12_unlike {l : Launch} {D : va_G} {g : Nat → Nat} {cI cS : ClassId} {sa : Nat → Nat → Option Nat} {Am : (Nat → Prop) → State → Heap → Prop} (O : gO (mcell g cI cS sa) mord g) (P : gAm Am) (N : Nat) (x1 : Int32) (S : gS) (o : Int32 × gS) (hF : fX12_unlike N x1 S = some o) : gM l yX12_unlike cX12_unlike 4 ((some .int)) 1 D (mtys cI cS) (mcell g cI cS sa) mord g Am [.ref (g 99), .int x1] S (some (.int o.1)) o.2 :=
  gM_of O P (by decide) (Nat.le_of_ble_eq_true rfl) (fun p e s m args below meth c ls C X hl => bX12_unlike_0 C O X (lv_sub hl [0, 1] rfl) hF)
-- look
noncomputable def fX12_look_b193 (N : Nat) (t0 : Int32) (S : gS) : Option (Int32 × gS) := some (t0, S)
theorem bX12_look_193 {N : Nat} {t0 : Int32} {S : gS} {H : Heap} {locs : List Loc} {ls : Array Slot} {o : Int32 × gS} (C : gC p s m args meth c cX12_look 6 RX12 ((some .int)) D (mtys cI cS) mord g Am) (O : gO (mcell g cI cS sa) mord g) (X : gX D (mcell g cI cS sa) mord g S s H locs) (hl : lv_has ls 6 []) (hF : fX12_look_b193 N t0 S = some o) : W p l e (rmd 8) s m args below meth c H locs 0 0 (gE below args s D (mtys cI cS) (mcell g cI cS sa) mord g (some (.int o.1)) o.2) (F0 m 193 ls [.int t0]) := by
  unfold fX12_look_b193 at hF
  cases hF
  exact g_iret C X dX12_look_193
noncomputable def fX12_look_b192 (N : Nat) (x3 : Int32) (S : gS) : Option (Int32 × gS) := fX12_look_b193 N x3 S
theorem bX12_look_192 {N : Nat} {x3 : Int32} {S : gS} {H : Heap} {locs : List Loc} {ls : Array Slot} {o : Int32 × gS} (C : gC p s m args meth c cX12_look 6 RX12 ((some .int)) D (mtys cI cS) mord g Am) (O : gO (mcell g cI cS sa) mord g) (X : gX D (mcell g cI cS sa) mord g S s H locs) (hl : lv_has ls 6 [(3, .int x3)]) (hF : fX12_look_b192 N x3 S = some o) : W p l e (rmd 8) s m args below meth c H locs 0 0 (gE below args s D (mtys cI cS) (mcell g cI cS sa) mord g (some (.int o.1)) o.2) (F0 m 192 ls []) := by
  unfold fX12_look_b192 at hF
  refine lv_iload_n C.1.1 C.1.2.1 dX12_look_192 rfl (lv_at hl 0 rfl) ?_
  exact bX12_look_193 C O X (lv_sub hl [] rfl) hF
noncomputable def fX12_look_b188 (N : Nat) (x2 : Int32) (S : gS) : Option (Int32 × gS) := fX12_look_b193 N x2 S
theorem bX12_look_188 {N : Nat} {x2 : Int32} {S : gS} {H : Heap} {locs : List Loc} {ls : Array Slot} {o : Int32 × gS} (C : gC p s m args meth c cX12_look 6 RX12 ((some .int)) D (mtys cI cS) mord g Am) (O : gO (mcell g cI cS sa) mord g) (X : gX D (mcell g cI cS sa) mord g S s H locs) (hl : lv_has ls 6 [(2, .int x2)]) (hF : fX12_look_b188 N x2 S = some o) : W p l e (rmd 8) s m args below meth c H locs 0 0 (gE below args s D (mtys cI cS) (mcell g cI cS sa) mord g (some (.int o.1)) o.2) (F0 m 188 ls []) := by
  unfold fX12_look_b188 at hF
  refine lv_iload_n C.1.1 C.1.2.1 dX12_look_188 rfl (lv_at hl 0 rfl) ?_
  refine lv_goto (tgt := 193) C.1.1 C.1.2.1 dX12_look_189 (by decide) ?_
  exact bX12_look_193 C O X (lv_sub hl [] rfl) hF
noncomputable def fX12_look_b184 (N : Nat) (x1 : Int32) (x2 : Int32) (x3 : Int32) (S : gS) : Option (Int32 × gS) := if x1 = 0 then fX12_look_b188 N x2 S else fX12_look_b192 N x3 S
theorem bX12_look_184 {N : Nat} {x1 : Int32} {x2 : Int32} {x3 : Int32} {S : gS} {H : Heap} {locs : List Loc} {ls : Array Slot} {o : Int32 × gS} (C : gC p s m args meth c cX12_look 6 RX12 ((some .int)) D (mtys cI cS) mord g Am) (O : gO (mcell g cI cS sa) mord g) (X : gX D (mcell g cI cS sa) mord g S s H locs) (hl : lv_has ls 6 [(1, .int x1), (2, .int x2), (3, .int x3)]) (hF : fX12_look_b184 N x1 x2 x3 S = some o) : W p l e (rmd 8) s m args below meth c H locs 0 0 (gE below args s D (mtys cI cS) (mcell g cI cS sa) mord g (some (.int o.1)) o.2) (F0 m 184 ls []) := by
  unfold fX12_look_b184 at hF
  refine lv_iload_n C.1.1 C.1.2.1 dX12_look_184 rfl (lv_at hl 0 rfl) ?_
  refine lv_if_ne (tgt := 192) C.1.1 C.1.2.1 dX12_look_185 (by decide) (fun h_z => ?_) (fun h_z => ?_)
  · rw [if_neg h_z] at hF
    exact bX12_look_192 C O X (lv_sub hl [2] rfl) hF
  · rw [if_pos h_z] at hF
    exact bX12_look_188 C O X (lv_sub hl [1] rfl) hF
noncomputable def fX12_look_b178 (N : Nat) (r146 : Int32 → Int32 → Int32 → Int32 → gS → Option (Int32 × gS)) (x1 : Int32) (x2 : Int32) (x3 : Int32) (x4 : Int32) (S : gS) : Option (Int32 × gS) := r146 x1 x2 x3 ((x4 + 1 : Int32)) S
theorem bX12_look_178 {N : Nat} {r146 : Int32 → Int32 → Int32 → Int32 → gS → Option (Int32 × gS)} {x1 : Int32} {x2 : Int32} {x3 : Int32} {x4 : Int32} {S : gS} {H : Heap} {locs : List Loc} {ls : Array Slot} {o : Int32 × gS} (C : gC p s m args meth c cX12_look 6 RX12 ((some .int)) D (mtys cI cS) mord g Am) (O : gO (mcell g cI cS sa) mord g) (K146 : ∀ (x1 : Int32) (x2 : Int32) (x3 : Int32) (x4 : Int32) (S : gS) (H : Heap) (locs : List Loc) (ls : Array Slot), gX D (mcell g cI cS sa) mord g S s H locs → lv_has ls 6 [(0, .ref (g 99)), (1, .int x1), (2, .int x2), (3, .int x3), (4, .int x4)] → r146 x1 x2 x3 x4 S = some o → W p l e (rmd 8) s m args below meth c H locs 0 0 (gE below args s D (mtys cI cS) (mcell g cI cS sa) mord g (some (.int o.1)) o.2) (F0 m 146 ls [])) (X : gX D (mcell g cI cS sa) mord g S s H locs) (hl : lv_has ls 6 [(0, .ref (g 99)), (1, .int x1), (2, .int x2), (3, .int x3), (4, .int x4)]) (hF : fX12_look_b178 N r146 x1 x2 x3 x4 S = some o) : W p l e (rmd 8) s m args below meth c H locs 0 0 (gE below args s D (mtys cI cS) (mcell g cI cS sa) mord g (some (.int o.1)) o.2) (F0 m 178 ls []) := by
  unfold fX12_look_b178 at hF
  refine lv_iinc (v := (x4 + 1 : Int32)) (lv' := [(4, .int ((x4 + 1 : Int32))), (0, .ref (g 99)), (1, .int x1), (2, .int x2), (3, .int x3)]) C.1.1 C.1.2.1 dX12_look_178 hl (k := 4) rfl rfl (by decide) rfl (fun ls hl => ?_)
  refine lv_goto (tgt := 146) C.1.1 C.1.2.1 dX12_look_181 (by decide) ?_
  exact K146 _ _ _ _ _ _ _ _ X (lv_sub hl [1, 2, 3, 4, 0] rfl) hF
noncomputable def fX12_look_b170 (N : Nat) (r146 : Int32 → Int32 → Int32 → Int32 → gS → Option (Int32 × gS)) (x1 : Int32) (x4 : Int32) (x5 : Int32) (S : gS) : Option (Int32 × gS) := fX12_look_b178 N r146 x1 ((x4 + 1 : Int32)) x5 x4 S
theorem bX12_look_170 {N : Nat} {r146 : Int32 → Int32 → Int32 → Int32 → gS → Option (Int32 × gS)} {x1 : Int32} {x4 : Int32} {x5 : Int32} {S : gS} {H : Heap} {locs : List Loc} {ls : Array Slot} {o : Int32 × gS} (C : gC p s m args meth c cX12_look 6 RX12 ((some .int)) D (mtys cI cS) mord g Am) (O : gO (mcell g cI cS sa) mord g) (K146 : ∀ (x1 : Int32) (x2 : Int32) (x3 : Int32) (x4 : Int32) (S : gS) (H : Heap) (locs : List Loc) (ls : Array Slot), gX D (mcell g cI cS sa) mord g S s H locs → lv_has ls 6 [(0, .ref (g 99)), (1, .int x1), (2, .int x2), (3, .int x3), (4, .int x4)] → r146 x1 x2 x3 x4 S = some o → W p l e (rmd 8) s m args below meth c H locs 0 0 (gE below args s D (mtys cI cS) (mcell g cI cS sa) mord g (some (.int o.1)) o.2) (F0 m 146 ls [])) (X : gX D (mcell g cI cS sa) mord g S s H locs) (hl : lv_has ls 6 [(0, .ref (g 99)), (1, .int x1), (4, .int x4), (5, .int x5)]) (hF : fX12_look_b170 N r146 x1 x4 x5 S = some o) : W p l e (rmd 8) s m args below meth c H locs 0 0 (gE below args s D (mtys cI cS) (mcell g cI cS sa) mord g (some (.int o.1)) o.2) (F0 m 170 ls []) := by
  unfold fX12_look_b170 at hF
  refine lv_iload C.1.1 C.1.2.1 dX12_look_170 (lv_at hl 2 rfl) ?_
  refine lv_iconst (v := 1) C.1.1 C.1.2.1 dX12_look_172 (by decide) ?_
  refine lv_iadd C.1.1 C.1.2.1 dX12_look_173 ?_
  refine lv_istore_n (lv' := [(2, .int ((x4 + 1 : Int32))), (0, .ref (g 99)), (1, .int x1), (4, .int x4), (5, .int x5)]) C.1.1 C.1.2.1 dX12_look_174 rfl hl (by decide) rfl (fun ls hl => ?_)
  refine lv_iload C.1.1 C.1.2.1 dX12_look_175 (lv_at hl 4 rfl) ?_
  refine lv_istore_n (lv' := [(3, .int x5), (2, .int ((x4 + 1 : Int32))), (0, .ref (g 99)), (1, .int x1), (4, .int x4), (5, .int x5)]) C.1.1 C.1.2.1 dX12_look_177 rfl hl (by decide) rfl (fun ls hl => ?_)
  exact bX12_look_178 C O K146 X (lv_sub hl [2, 3, 1, 0, 4] rfl) hF
noncomputable def fX12_look_b167 (N : Nat) (r146 : Int32 → Int32 → Int32 → Int32 → gS → Option (Int32 × gS)) (x1 : Int32) (x2 : Int32) (x3 : Int32) (x4 : Int32) (S : gS) : Option (Int32 × gS) := fX12_look_b178 N r146 x1 x2 x3 x4 S
theorem bX12_look_167 {N : Nat} {r146 : Int32 → Int32 → Int32 → Int32 → gS → Option (Int32 × gS)} {x1 : Int32} {x2 : Int32} {x3 : Int32} {x4 : Int32} {S : gS} {H : Heap} {locs : List Loc} {ls : Array Slot} {o : Int32 × gS} (C : gC p s m args meth c cX12_look 6 RX12 ((some .int)) D (mtys cI cS) mord g Am) (O : gO (mcell g cI cS sa) mord g) (K146 : ∀ (x1 : Int32) (x2 : Int32) (x3 : Int32) (x4 : Int32) (S : gS) (H : Heap) (locs : List Loc) (ls : Array Slot), gX D (mcell g cI cS sa) mord g S s H locs → lv_has ls 6 [(0, .ref (g 99)), (1, .int x1), (2, .int x2), (3, .int x3), (4, .int x4)] → r146 x1 x2 x3 x4 S = some o → W p l e (rmd 8) s m args below meth c H locs 0 0 (gE below args s D (mtys cI cS) (mcell g cI cS sa) mord g (some (.int o.1)) o.2) (F0 m 146 ls [])) (X : gX D (mcell g cI cS sa) mord g S s H locs) (hl : lv_has ls 6 [(0, .ref (g 99)), (1, .int x1), (2, .int x2), (3, .int x3), (4, .int x4)]) (hF : fX12_look_b167 N r146 x1 x2 x3 x4 S = some o) : W p l e (rmd 8) s m args below meth c H locs 0 0 (gE below args s D (mtys cI cS) (mcell g cI cS sa) mord g (some (.int o.1)) o.2) (F0 m 167 ls []) := by
  unfold fX12_look_b167 at hF
  refine lv_goto (tgt := 178) C.1.1 C.1.2.1 dX12_look_167 (by decide) ?_
  exact bX12_look_178 C O K146 X (lv_sub hl [0, 1, 2, 3, 4] rfl) hF
noncomputable def fX12_look_b153 (N : Nat) (r146 : Int32 → Int32 → Int32 → Int32 → gS → Option (Int32 × gS)) (x1 : Int32) (x2 : Int32) (x3 : Int32) (x4 : Int32) (S : gS) : Option (Int32 × gS) := bnd (fX12_unlike N x4 S) fun q1 => (if x3 < q1.1 then fX12_look_b170 N r146 x1 x4 q1.1 q1.2 else fX12_look_b167 N r146 x1 x2 x3 x4 q1.2)
theorem bX12_look_153 {N : Nat} {r146 : Int32 → Int32 → Int32 → Int32 → gS → Option (Int32 × gS)} {x1 : Int32} {x2 : Int32} {x3 : Int32} {x4 : Int32} {S : gS} {H : Heap} {locs : List Loc} {ls : Array Slot} {o : Int32 × gS} (C : gC p s m args meth c cX12_look 6 RX12 ((some .int)) D (mtys cI cS) mord g Am) (O : gO (mcell g cI cS sa) mord g) (K146 : ∀ (x1 : Int32) (x2 : Int32) (x3 : Int32) (x4 : Int32) (S : gS) (H : Heap) (locs : List Loc) (ls : Array Slot), gX D (mcell g cI cS sa) mord g S s H locs → lv_has ls 6 [(0, .ref (g 99)), (1, .int x1), (2, .int x2), (3, .int x3), (4, .int x4)] → r146 x1 x2 x3 x4 S = some o → W p l e (rmd 8) s m args below meth c H locs 0 0 (gE below args s D (mtys cI cS) (mcell g cI cS sa) mord g (some (.int o.1)) o.2) (F0 m 146 ls [])) (X : gX D (mcell g cI cS sa) mord g S s H locs) (hl : lv_has ls 6 [(0, .ref (g 99)), (1, .int x1), (2, .int x2), (3, .int x3), (4, .int x4)]) (hF : fX12_look_b153 N r146 x1 x2 x3 x4 S = some o) : W p l e (rmd 8) s m args below meth c H locs 0 0 (gE below args s D (mtys cI cS) (mcell g cI cS sa) mord g (some (.int o.1)) o.2) (F0 m 153 ls []) := by
  unfold fX12_look_b153 at hF
  refine lv_aload_n C.1.1 C.1.2.1 dX12_look_153 rfl (lv_at hl 0 rfl) ?_
  refine lv_iload C.1.1 C.1.2.1 dX12_look_154 (lv_at hl 4 rfl) ?_
  obtain ⟨q1, hq1, hF⟩ := bnd_some hF
  refine m_callVi C X vX12_unlike rfl (kX12_unlike O C.2.2.2.2.1 N x4  S q1 hq1) (Nat.le_of_ble_eq_true rfl) (Nat.le_of_ble_eq_true rfl) (Nat.le_of_ble_eq_true rfl) (Nat.le_of_ble_eq_true rfl) rfl hl.1 rfl (Nat.le_of_ble_eq_true rfl) dX12_look_156 (fun H locs X => ?_)
  refine lv_istore (lv' := [(5, .int q1.1), (0, .ref (g 99)), (1, .int x1), (2, .int x2), (3, .int x3), (4, .int x4)]) C.1.1 C.1.2.1 dX12_look_159 hl (by decide) rfl (fun ls hl => ?_)
  refine lv_iload C.1.1 C.1.2.1 dX12_look_161 (lv_at hl 0 rfl) ?_
  refine lv_iload_n C.1.1 C.1.2.1 dX12_look_163 rfl (lv_at hl 4 rfl) ?_
  refine lv_icmp_gt (tgt := 170) C.1.1 C.1.2.1 dX12_look_164 (by decide) (fun h_z => ?_) (fun h_z => ?_)
  · rw [if_pos h_z] at hF
    exact bX12_look_170 C O K146 X (lv_sub hl [1, 2, 5, 0] rfl) hF
  · rw [if_neg h_z] at hF
    exact bX12_look_167 C O K146 X (lv_sub hl [1, 2, 3, 4, 5] rfl) hF
noncomputable def fX12_look_b146 (N : Nat) (r146 : Int32 → Int32 → Int32 → Int32 → gS → Option (Int32 × gS)) (x1 : Int32) (x2 : Int32) (x3 : Int32) (x4 : Int32) (S : gS) : Option (Int32 × gS) := if 20 ≤ x4 then fX12_look_b184 N x1 x2 x3 S else fX12_look_b153 N r146 x1 x2 x3 x4 S
theorem bX12_look_146 {N : Nat} {r146 : Int32 → Int32 → Int32 → Int32 → gS → Option (Int32 × gS)} {x1 : Int32} {x2 : Int32} {x3 : Int32} {x4 : Int32} {S : gS} {H : Heap} {locs : List Loc} {ls : Array Slot} {o : Int32 × gS} (C : gC p s m args meth c cX12_look 6 RX12 ((some .int)) D (mtys cI cS) mord g Am) (O : gO (mcell g cI cS sa) mord g) (K146 : ∀ (x1 : Int32) (x2 : Int32) (x3 : Int32) (x4 : Int32) (S : gS) (H : Heap) (locs : List Loc) (ls : Array Slot), gX D (mcell g cI cS sa) mord g S s H locs → lv_has ls 6 [(0, .ref (g 99)), (1, .int x1), (2, .int x2), (3, .int x3), (4, .int x4)] → r146 x1 x2 x3 x4 S = some o → W p l e (rmd 8) s m args below meth c H locs 0 0 (gE below args s D (mtys cI cS) (mcell g cI cS sa) mord g (some (.int o.1)) o.2) (F0 m 146 ls [])) (X : gX D (mcell g cI cS sa) mord g S s H locs) (hl : lv_has ls 6 [(0, .ref (g 99)), (1, .int x1), (2, .int x2), (3, .int x3), (4, .int x4)]) (hF : fX12_look_b146 N r146 x1 x2 x3 x4 S = some o) : W p l e (rmd 8) s m args below meth c H locs 0 0 (gE below args s D (mtys cI cS) (mcell g cI cS sa) mord g (some (.int o.1)) o.2) (F0 m 146 ls []) := by
  unfold fX12_look_b146 at hF
  refine lv_iload C.1.1 C.1.2.1 dX12_look_146 (lv_at hl 4 rfl) ?_
  refine lv_bipush (v := 20) C.1.1 C.1.2.1 dX12_look_148 (by decide) ?_
  refine lv_icmp_ge (tgt := 184) C.1.1 C.1.2.1 dX12_look_150 (by decide) (fun h_z => ?_) (fun h_z => ?_)
  · rw [if_pos h_z] at hF
    exact bX12_look_184 C O X (lv_sub hl [1, 2, 3] rfl) hF
  · rw [if_neg h_z] at hF
    exact bX12_look_153 C O K146 X (lv_sub hl [0, 1, 2, 3, 4] rfl) hF
noncomputable def fX12_look_h146 (N : Nat) : Nat → Int32 → Int32 → Int32 → Int32 → gS → Option (Int32 × gS)
  | 0, _, _, _, _, _ => none
  | n + 1, x1, x2, x3, x4, S => fX12_look_b146 N (fX12_look_h146 N n) x1 x2 x3 x4 S
theorem hX12_look_146 {N : Nat} {o : Int32 × gS} (C : gC p s m args meth c cX12_look 6 RX12 ((some .int)) D (mtys cI cS) mord g Am) (O : gO (mcell g cI cS sa) mord g) : ∀ (n : Nat) (x1 : Int32) (x2 : Int32) (x3 : Int32) (x4 : Int32) (S : gS) (H : Heap) (locs : List Loc) (ls : Array Slot), gX D (mcell g cI cS sa) mord g S s H locs → lv_has ls 6 [(0, .ref (g 99)), (1, .int x1), (2, .int x2), (3, .int x3), (4, .int x4)] → fX12_look_h146 N n x1 x2 x3 x4 S = some o → W p l e (rmd 8) s m args below meth c H locs 0 0 (gE below args s D (mtys cI cS) (mcell g cI cS sa) mord g (some (.int o.1)) o.2) (F0 m 146 ls []) := by
  intro n
  induction n with
  | zero =>
    intro x1 x2 x3 x4 S H locs ls X hl hF
    exact absurd (show (none : Option (Int32 × gS)) = some o from hF) (by simp)
  | succ n ih =>
    intro x1 x2 x3 x4 S H locs ls X hl hF
    have hF : fX12_look_b146 N (fX12_look_h146 N n) x1 x2 x3 x4 S = some o := hF
    exact bX12_look_146 C O ih X hl hF
noncomputable def fX12_look_b139 (N : Nat) (x1 : Int32) (S : gS) : Option (Int32 × gS) := fX12_look_h146 N N x1 ((-1)) 0 0 S
theorem bX12_look_139 {N : Nat} {x1 : Int32} {S : gS} {H : Heap} {locs : List Loc} {ls : Array Slot} {o : Int32 × gS} (C : gC p s m args meth c cX12_look 6 RX12 ((some .int)) D (mtys cI cS) mord g Am) (O : gO (mcell g cI cS sa) mord g) (X : gX D (mcell g cI cS sa) mord g S s H locs) (hl : lv_has ls 6 [(0, .ref (g 99)), (1, .int x1)]) (hF : fX12_look_b139 N x1 S = some o) : W p l e (rmd 8) s m args below meth c H locs 0 0 (gE below args s D (mtys cI cS) (mcell g cI cS sa) mord g (some (.int o.1)) o.2) (F0 m 139 ls []) := by
  unfold fX12_look_b139 at hF
  refine lv_iconst (v := (-1)) C.1.1 C.1.2.1 dX12_look_139 (by decide) ?_
  refine lv_istore_n (lv' := [(2, .int ((-1))), (0, .ref (g 99)), (1, .int x1)]) C.1.1 C.1.2.1 dX12_look_140 rfl hl (by decide) rfl (fun ls hl => ?_)
  refine lv_iconst (v := 0) C.1.1 C.1.2.1 dX12_look_141 (by decide) ?_
  refine lv_istore_n (lv' := [(3, .int 0), (2, .int ((-1))), (0, .ref (g 99)), (1, .int x1)]) C.1.1 C.1.2.1 dX12_look_142 rfl hl (by decide) rfl (fun ls hl => ?_)
  refine lv_iconst (v := 0) C.1.1 C.1.2.1 dX12_look_143 (by decide) ?_
  refine lv_istore (lv' := [(4, .int 0), (3, .int 0), (2, .int ((-1))), (0, .ref (g 99)), (1, .int x1)]) C.1.1 C.1.2.1 dX12_look_144 hl (by decide) rfl (fun ls hl => ?_)
  exact hX12_look_146 C O N _ _ _ _ _ _ _ _ X (lv_sub hl [3, 4, 2, 1, 0] rfl) hF
noncomputable def fX12_look_b116 (N : Nat) (r35 : Int32 → Int32 → gS → Option (Int32 × gS)) (x1 : Int32) (x2 : Int32) (x3 : Int32) (x4 : Int32) (S : gS) : Option (Int32 × gS) := chk (inb x3 (6)) (lt (sU S 18 (Int32.toNatClampNeg x3) x4) fun S1 => (bnd (fX12_unpack N 46 0 S1) fun q1 => (r35 x1 ((x2 + 1 : Int32)) q1.2)))
theorem bX12_look_116 {N : Nat} {r35 : Int32 → Int32 → gS → Option (Int32 × gS)} {x1 : Int32} {x2 : Int32} {x3 : Int32} {x4 : Int32} {S : gS} {H : Heap} {locs : List Loc} {ls : Array Slot} {o : Int32 × gS} (C : gC p s m args meth c cX12_look 6 RX12 ((some .int)) D (mtys cI cS) mord g Am) (O : gO (mcell g cI cS sa) mord g) (K35 : ∀ (x1 : Int32) (x2 : Int32) (S : gS) (H : Heap) (locs : List Loc) (ls : Array Slot), gX D (mcell g cI cS sa) mord g S s H locs → lv_has ls 6 [(0, .ref (g 99)), (1, .int x1), (2, .int x2)] → r35 x1 x2 S = some o → W p l e (rmd 8) s m args below meth c H locs 0 0 (gE below args s D (mtys cI cS) (mcell g cI cS sa) mord g (some (.int o.1)) o.2) (F0 m 35 ls [])) (X : gX D (mcell g cI cS sa) mord g S s H locs) (hl : lv_has ls 6 [(0, .ref (g 99)), (1, .int x1), (2, .int x2), (3, .int x3), (4, .int x4)]) (hF : fX12_look_b116 N r35 x1 x2 x3 x4 S = some o) : W p l e (rmd 8) s m args below meth c H locs 0 0 (gE below args s D (mtys cI cS) (mcell g cI cS sa) mord g (some (.int o.1)) o.2) (F0 m 116 ls []) := by
  unfold fX12_look_b116 at hF
  refine lv_aload_n C.1.1 C.1.2.1 dX12_look_116 rfl (lv_at hl 0 rfl) ?_
  refine m_g18 C X dX12_look_117 ?_
  refine lv_iload_n C.1.1 C.1.2.1 dX12_look_120 rfl (lv_at hl 3 rfl) ?_
  refine lv_iload C.1.1 C.1.2.1 dX12_look_121 (lv_at hl 4 rfl) ?_
  obtain ⟨h_1, hF⟩ := chk_some hF
  obtain ⟨S1, eS1, hF⟩ := lt_some hF
  refine m_w18 C O X  (inb_vp h_1) rfl eS1 dX12_look_123 (fun H locs X => ?_)
  refine lv_aload_n C.1.1 C.1.2.1 dX12_look_124 rfl (lv_at hl 0 rfl) ?_
  refine lv_aload_n C.1.1 C.1.2.1 dX12_look_125 rfl (lv_at hl 0 rfl) ?_
  refine m_g46 C X dX12_look_126 ?_
  refine lv_iconst (v := 0) C.1.1 C.1.2.1 dX12_look_129 (by decide) ?_
  obtain ⟨q1, hq1, hF⟩ := bnd_some hF
  refine m_callV C X vX12_unpack rfl (kX12_unpack O C.2.2.2.2.1 N 46 0 (rfl : mI 46 = true) S1 q1 hq1) (Nat.le_of_ble_eq_true rfl) (Nat.le_of_ble_eq_true rfl) (Nat.le_of_ble_eq_true rfl) (Nat.le_of_ble_eq_true rfl) rfl hl.1 rfl (Nat.le_of_ble_eq_true rfl) dX12_look_130 (fun H locs X => ?_)
  refine lv_iinc (v := (x2 + 1 : Int32)) (lv' := [(2, .int ((x2 + 1 : Int32))), (0, .ref (g 99)), (1, .int x1), (3, .int x3), (4, .int x4)]) C.1.1 C.1.2.1 dX12_look_133 hl (k := 2) rfl rfl (by decide) rfl (fun ls hl => ?_)
  refine lv_goto (tgt := 35) C.1.1 C.1.2.1 dX12_look_136 (by decide) ?_
  exact K35 _ _ _ _ _ _ X (lv_sub hl [1, 2, 0] rfl) hF
noncomputable def fX12_look_b86 (N : Nat) (r35 : Int32 → Int32 → gS → Option (Int32 × gS)) (r79 : Int32 → Int32 → Int32 → Int32 → Int32 → gS → Option (Int32 × gS)) (x1 : Int32) (x2 : Int32) (x3 : Int32) (x4 : Int32) (x5 : Int32) (S : gS) : Option (Int32 × gS) := bnd (fX12_anHour N  S) fun q1 => (bnd (fX12_greatest N 32 q1.2) fun q2 => (chk (inb ((((20 * x2 : Int32)) + x5 : Int32)) (1200)) (lt (sU q2.2 53 (Int32.toNatClampNeg ((((20 * x2 : Int32)) + x5 : Int32))) q2.1) fun S3 => (r79 x1 x2 x3 x4 ((x5 + 1 : Int32)) S3))))
theorem bX12_look_86 {N : Nat} {r35 : Int32 → Int32 → gS → Option (Int32 × gS)} {r79 : Int32 → Int32 → Int32 → Int32 → Int32 → gS → Option (Int32 × gS)} {x1 : Int32} {x2 : Int32} {x3 : Int32} {x4 : Int32} {x5 : Int32} {S : gS} {H : Heap} {locs : List Loc} {ls : Array Slot} {o : Int32 × gS} (C : gC p s m args meth c cX12_look 6 RX12 ((some .int)) D (mtys cI cS) mord g Am) (O : gO (mcell g cI cS sa) mord g) (K35 : ∀ (x1 : Int32) (x2 : Int32) (S : gS) (H : Heap) (locs : List Loc) (ls : Array Slot), gX D (mcell g cI cS sa) mord g S s H locs → lv_has ls 6 [(0, .ref (g 99)), (1, .int x1), (2, .int x2)] → r35 x1 x2 S = some o → W p l e (rmd 8) s m args below meth c H locs 0 0 (gE below args s D (mtys cI cS) (mcell g cI cS sa) mord g (some (.int o.1)) o.2) (F0 m 35 ls [])) (K79 : ∀ (x1 : Int32) (x2 : Int32) (x3 : Int32) (x4 : Int32) (x5 : Int32) (S : gS) (H : Heap) (locs : List Loc) (ls : Array Slot), gX D (mcell g cI cS sa) mord g S s H locs → lv_has ls 6 [(0, .ref (g 99)), (1, .int x1), (2, .int x2), (3, .int x3), (4, .int x4), (5, .int x5)] → r79 x1 x2 x3 x4 x5 S = some o → W p l e (rmd 8) s m args below meth c H locs 0 0 (gE below args s D (mtys cI cS) (mcell g cI cS sa) mord g (some (.int o.1)) o.2) (F0 m 79 ls [])) (X : gX D (mcell g cI cS sa) mord g S s H locs) (hl : lv_has ls 6 [(0, .ref (g 99)), (1, .int x1), (2, .int x2), (3, .int x3), (4, .int x4), (5, .int x5)]) (hF : fX12_look_b86 N r35 r79 x1 x2 x3 x4 x5 S = some o) : W p l e (rmd 8) s m args below meth c H locs 0 0 (gE below args s D (mtys cI cS) (mcell g cI cS sa) mord g (some (.int o.1)) o.2) (F0 m 86 ls []) := by
  unfold fX12_look_b86 at hF
  refine lv_aload_n C.1.1 C.1.2.1 dX12_look_86 rfl (lv_at hl 0 rfl) ?_
  obtain ⟨q1, hq1, hF⟩ := bnd_some hF
  refine m_callV C X vX12_anHour rfl (kX12_anHour O C.2.2.2.2.1 N   S q1 hq1) (Nat.le_of_ble_eq_true rfl) (Nat.le_of_ble_eq_true rfl) (Nat.le_of_ble_eq_true rfl) (Nat.le_of_ble_eq_true rfl) rfl hl.1 rfl (Nat.le_of_ble_eq_true rfl) dX12_look_87 (fun H locs X => ?_)
  refine lv_aload_n C.1.1 C.1.2.1 dX12_look_90 rfl (lv_at hl 0 rfl) ?_
  refine m_g53 C X dX12_look_91 ?_
  refine lv_bipush (v := 20) C.1.1 C.1.2.1 dX12_look_94 (by decide) ?_
  refine lv_iload_n C.1.1 C.1.2.1 dX12_look_96 rfl (lv_at hl 2 rfl) ?_
  refine lv_imul C.1.1 C.1.2.1 dX12_look_97 ?_
  refine lv_iload C.1.1 C.1.2.1 dX12_look_98 (lv_at hl 5 rfl) ?_
  refine lv_iadd C.1.1 C.1.2.1 dX12_look_100 ?_
  refine lv_aload_n C.1.1 C.1.2.1 dX12_look_101 rfl (lv_at hl 0 rfl) ?_
  refine lv_aload_n C.1.1 C.1.2.1 dX12_look_102 rfl (lv_at hl 0 rfl) ?_
  refine m_g32 C X dX12_look_103 ?_
  obtain ⟨q2, hq2, hF⟩ := bnd_some hF
  refine m_callVi C X vX12_greatest rfl (kX12_greatest O C.2.2.2.2.1 N 32 (rfl : mI 32 = true) q1.2 q2 hq2) (Nat.le_of_ble_eq_true rfl) (Nat.le_of_ble_eq_true rfl) (Nat.le_of_ble_eq_true rfl) (Nat.le_of_ble_eq_true rfl) rfl hl.1 rfl (Nat.le_of_ble_eq_true rfl) dX12_look_106 (fun H locs X => ?_)
  obtain ⟨h_1, hF⟩ := chk_some hF
  obtain ⟨S3, eS3, hF⟩ := lt_some hF
  refine m_w53 C O X  (inb_vp h_1) rfl eS3 dX12_look_109 (fun H locs X => ?_)
  refine lv_iinc (v := (x5 + 1 : Int32)) (lv' := [(5, .int ((x5 + 1 : Int32))), (0, .ref (g 99)), (1, .int x1), (2, .int x2), (3, .int x3), (4, .int x4)]) C.1.1 C.1.2.1 dX12_look_110 hl (k := 5) rfl rfl (by decide) rfl (fun ls hl => ?_)
  refine lv_goto (tgt := 79) C.1.1 C.1.2.1 dX12_look_113 (by decide) ?_
  exact K79 _ _ _ _ _ _ _ _ _ X (lv_sub hl [1, 2, 3, 4, 5, 0] rfl) hF
noncomputable def fX12_look_b79 (N : Nat) (r35 : Int32 → Int32 → gS → Option (Int32 × gS)) (r79 : Int32 → Int32 → Int32 → Int32 → Int32 → gS → Option (Int32 × gS)) (x1 : Int32) (x2 : Int32) (x3 : Int32) (x4 : Int32) (x5 : Int32) (S : gS) : Option (Int32 × gS) := if 20 ≤ x5 then fX12_look_b116 N r35 x1 x2 x3 x4 S else fX12_look_b86 N r35 r79 x1 x2 x3 x4 x5 S
theorem bX12_look_79 {N : Nat} {r35 : Int32 → Int32 → gS → Option (Int32 × gS)} {r79 : Int32 → Int32 → Int32 → Int32 → Int32 → gS → Option (Int32 × gS)} {x1 : Int32} {x2 : Int32} {x3 : Int32} {x4 : Int32} {x5 : Int32} {S : gS} {H : Heap} {locs : List Loc} {ls : Array Slot} {o : Int32 × gS} (C : gC p s m args meth c cX12_look 6 RX12 ((some .int)) D (mtys cI cS) mord g Am) (O : gO (mcell g cI cS sa) mord g) (K35 : ∀ (x1 : Int32) (x2 : Int32) (S : gS) (H : Heap) (locs : List Loc) (ls : Array Slot), gX D (mcell g cI cS sa) mord g S s H locs → lv_has ls 6 [(0, .ref (g 99)), (1, .int x1), (2, .int x2)] → r35 x1 x2 S = some o → W p l e (rmd 8) s m args below meth c H locs 0 0 (gE below args s D (mtys cI cS) (mcell g cI cS sa) mord g (some (.int o.1)) o.2) (F0 m 35 ls [])) (K79 : ∀ (x1 : Int32) (x2 : Int32) (x3 : Int32) (x4 : Int32) (x5 : Int32) (S : gS) (H : Heap) (locs : List Loc) (ls : Array Slot), gX D (mcell g cI cS sa) mord g S s H locs → lv_has ls 6 [(0, .ref (g 99)), (1, .int x1), (2, .int x2), (3, .int x3), (4, .int x4), (5, .int x5)] → r79 x1 x2 x3 x4 x5 S = some o → W p l e (rmd 8) s m args below meth c H locs 0 0 (gE below args s D (mtys cI cS) (mcell g cI cS sa) mord g (some (.int o.1)) o.2) (F0 m 79 ls [])) (X : gX D (mcell g cI cS sa) mord g S s H locs) (hl : lv_has ls 6 [(0, .ref (g 99)), (1, .int x1), (2, .int x2), (3, .int x3), (4, .int x4), (5, .int x5)]) (hF : fX12_look_b79 N r35 r79 x1 x2 x3 x4 x5 S = some o) : W p l e (rmd 8) s m args below meth c H locs 0 0 (gE below args s D (mtys cI cS) (mcell g cI cS sa) mord g (some (.int o.1)) o.2) (F0 m 79 ls []) := by
  unfold fX12_look_b79 at hF
  refine lv_iload C.1.1 C.1.2.1 dX12_look_79 (lv_at hl 5 rfl) ?_
  refine lv_bipush (v := 20) C.1.1 C.1.2.1 dX12_look_81 (by decide) ?_
  refine lv_icmp_ge (tgt := 116) C.1.1 C.1.2.1 dX12_look_83 (by decide) (fun h_z => ?_) (fun h_z => ?_)
  · rw [if_pos h_z] at hF
    exact bX12_look_116 C O K35 X (lv_sub hl [0, 1, 2, 3, 4] rfl) hF
  · rw [if_neg h_z] at hF
    exact bX12_look_86 C O K35 K79 X (lv_sub hl [0, 1, 2, 3, 4, 5] rfl) hF
noncomputable def fX12_look_h79 (N : Nat) (r35 : Int32 → Int32 → gS → Option (Int32 × gS)) : Nat → Int32 → Int32 → Int32 → Int32 → Int32 → gS → Option (Int32 × gS)
  | 0, _, _, _, _, _, _ => none
  | n + 1, x1, x2, x3, x4, x5, S => fX12_look_b79 N r35 (fX12_look_h79 N r35 n) x1 x2 x3 x4 x5 S
theorem hX12_look_79 {N : Nat} {r35 : Int32 → Int32 → gS → Option (Int32 × gS)} {o : Int32 × gS} (C : gC p s m args meth c cX12_look 6 RX12 ((some .int)) D (mtys cI cS) mord g Am) (O : gO (mcell g cI cS sa) mord g) (K35 : ∀ (x1 : Int32) (x2 : Int32) (S : gS) (H : Heap) (locs : List Loc) (ls : Array Slot), gX D (mcell g cI cS sa) mord g S s H locs → lv_has ls 6 [(0, .ref (g 99)), (1, .int x1), (2, .int x2)] → r35 x1 x2 S = some o → W p l e (rmd 8) s m args below meth c H locs 0 0 (gE below args s D (mtys cI cS) (mcell g cI cS sa) mord g (some (.int o.1)) o.2) (F0 m 35 ls [])) : ∀ (n : Nat) (x1 : Int32) (x2 : Int32) (x3 : Int32) (x4 : Int32) (x5 : Int32) (S : gS) (H : Heap) (locs : List Loc) (ls : Array Slot), gX D (mcell g cI cS sa) mord g S s H locs → lv_has ls 6 [(0, .ref (g 99)), (1, .int x1), (2, .int x2), (3, .int x3), (4, .int x4), (5, .int x5)] → fX12_look_h79 N r35 n x1 x2 x3 x4 x5 S = some o → W p l e (rmd 8) s m args below meth c H locs 0 0 (gE below args s D (mtys cI cS) (mcell g cI cS sa) mord g (some (.int o.1)) o.2) (F0 m 79 ls []) := by
  intro n
  induction n with
  | zero =>
    intro x1 x2 x3 x4 x5 S H locs ls X hl hF
    exact absurd (show (none : Option (Int32 × gS)) = some o from hF) (by simp)
  | succ n ih =>
    intro x1 x2 x3 x4 x5 S H locs ls X hl hF
    have hF : fX12_look_b79 N r35 (fX12_look_h79 N r35 n) x1 x2 x3 x4 x5 S = some o := hF
    exact bX12_look_79 C O K35 ih X hl hF
noncomputable def fX12_look_b43 (N : Nat) (r35 : Int32 → Int32 → gS → Option (Int32 × gS)) (x1 : Int32) (x2 : Int32) (S : gS) : Option (Int32 × gS) := chk (inb x2 (60)) (chk (inb (((S 52 (Int32.toNatClampNeg x2)) / 10 : Int32)) (6)) (chk (inb x2 (60)) (chk (inb (((S 52 (Int32.toNatClampNeg x2)) / 10 : Int32)) (6)) (lt (sU S 18 (Int32.toNatClampNeg (((S 52 (Int32.toNatClampNeg x2)) / 10 : Int32))) (((S 52 (Int32.toNatClampNeg x2)) - (S 52 (Int32.toNatClampNeg x2)) / 10 * 10 : Int32))) fun S1 => (fX12_look_h79 N r35 N x1 x2 (((S 52 (Int32.toNatClampNeg x2)) / 10 : Int32)) (S 18 (Int32.toNatClampNeg (((S 52 (Int32.toNatClampNeg x2)) / 10 : Int32)))) 0 S1)))))
theorem bX12_look_43 {N : Nat} {r35 : Int32 → Int32 → gS → Option (Int32 × gS)} {x1 : Int32} {x2 : Int32} {S : gS} {H : Heap} {locs : List Loc} {ls : Array Slot} {o : Int32 × gS} (C : gC p s m args meth c cX12_look 6 RX12 ((some .int)) D (mtys cI cS) mord g Am) (O : gO (mcell g cI cS sa) mord g) (K35 : ∀ (x1 : Int32) (x2 : Int32) (S : gS) (H : Heap) (locs : List Loc) (ls : Array Slot), gX D (mcell g cI cS sa) mord g S s H locs → lv_has ls 6 [(0, .ref (g 99)), (1, .int x1), (2, .int x2)] → r35 x1 x2 S = some o → W p l e (rmd 8) s m args below meth c H locs 0 0 (gE below args s D (mtys cI cS) (mcell g cI cS sa) mord g (some (.int o.1)) o.2) (F0 m 35 ls [])) (X : gX D (mcell g cI cS sa) mord g S s H locs) (hl : lv_has ls 6 [(0, .ref (g 99)), (1, .int x1), (2, .int x2)]) (hF : fX12_look_b43 N r35 x1 x2 S = some o) : W p l e (rmd 8) s m args below meth c H locs 0 0 (gE below args s D (mtys cI cS) (mcell g cI cS sa) mord g (some (.int o.1)) o.2) (F0 m 43 ls []) := by
  unfold fX12_look_b43 at hF
  refine lv_aload_n C.1.1 C.1.2.1 dX12_look_43 rfl (lv_at hl 0 rfl) ?_
  refine m_g52 C X dX12_look_44 ?_
  refine lv_iload_n C.1.1 C.1.2.1 dX12_look_47 rfl (lv_at hl 2 rfl) ?_
  obtain ⟨h_1, hF⟩ := chk_some hF
  refine m_r52 C X  (inb_vp h_1) rfl dX12_look_48 ?_
  refine lv_bipush (v := 10) C.1.1 C.1.2.1 dX12_look_49 (by decide) ?_
  refine lv_idiv C.1.1 C.1.2.1 dX12_look_51 (by decide) ?_
  refine lv_istore_n (lv' := [(3, .int (((S 52 (Int32.toNatClampNeg x2)) / 10 : Int32))), (0, .ref (g 99)), (1, .int x1), (2, .int x2)]) C.1.1 C.1.2.1 dX12_look_52 rfl hl (by decide) rfl (fun ls hl => ?_)
  refine lv_aload_n C.1.1 C.1.2.1 dX12_look_53 rfl (lv_at hl 1 rfl) ?_
  refine m_g18 C X dX12_look_54 ?_
  refine lv_iload_n C.1.1 C.1.2.1 dX12_look_57 rfl (lv_at hl 0 rfl) ?_
  obtain ⟨h_2, hF⟩ := chk_some hF
  refine m_r18 C X  (inb_vp h_2) rfl dX12_look_58 ?_
  refine lv_istore (lv' := [(4, .int (S 18 (Int32.toNatClampNeg (((S 52 (Int32.toNatClampNeg x2)) / 10 : Int32))))), (3, .int (((S 52 (Int32.toNatClampNeg x2)) / 10 : Int32))), (0, .ref (g 99)), (1, .int x1), (2, .int x2)]) C.1.1 C.1.2.1 dX12_look_59 hl (by decide) rfl (fun ls hl => ?_)
  refine lv_aload_n C.1.1 C.1.2.1 dX12_look_61 rfl (lv_at hl 2 rfl) ?_
  refine m_g18 C X dX12_look_62 ?_
  refine lv_iload_n C.1.1 C.1.2.1 dX12_look_65 rfl (lv_at hl 1 rfl) ?_
  refine lv_aload_n C.1.1 C.1.2.1 dX12_look_66 rfl (lv_at hl 2 rfl) ?_
  refine m_g52 C X dX12_look_67 ?_
  refine lv_iload_n C.1.1 C.1.2.1 dX12_look_70 rfl (lv_at hl 4 rfl) ?_
  obtain ⟨h_3, hF⟩ := chk_some hF
  refine m_r52 C X  (inb_vp h_3) rfl dX12_look_71 ?_
  refine lv_bipush (v := 10) C.1.1 C.1.2.1 dX12_look_72 (by decide) ?_
  refine lv_irem C.1.1 C.1.2.1 dX12_look_74 (by decide) ?_
  obtain ⟨h_4, hF⟩ := chk_some hF
  obtain ⟨S1, eS1, hF⟩ := lt_some hF
  refine m_w18 C O X  (inb_vp h_4) rfl eS1 dX12_look_75 (fun H locs X => ?_)
  refine lv_iconst (v := 0) C.1.1 C.1.2.1 dX12_look_76 (by decide) ?_
  refine lv_istore (lv' := [(5, .int 0), (4, .int (S 18 (Int32.toNatClampNeg (((S 52 (Int32.toNatClampNeg x2)) / 10 : Int32))))), (3, .int (((S 52 (Int32.toNatClampNeg x2)) / 10 : Int32))), (0, .ref (g 99)), (1, .int x1), (2, .int x2)]) C.1.1 C.1.2.1 dX12_look_77 hl (by decide) rfl (fun ls hl => ?_)
  exact hX12_look_79 C O K35 N _ _ _ _ _ _ _ _ _ X (lv_sub hl [3, 4, 5, 2, 1, 0] rfl) hF
noncomputable def fX12_look_b35 (N : Nat) (r35 : Int32 → Int32 → gS → Option (Int32 × gS)) (x1 : Int32) (x2 : Int32) (S : gS) : Option (Int32 × gS) := if (S 99 54) ≤ x2 then fX12_look_b139 N x1 S else fX12_look_b43 N r35 x1 x2 S
theorem bX12_look_35 {N : Nat} {r35 : Int32 → Int32 → gS → Option (Int32 × gS)} {x1 : Int32} {x2 : Int32} {S : gS} {H : Heap} {locs : List Loc} {ls : Array Slot} {o : Int32 × gS} (C : gC p s m args meth c cX12_look 6 RX12 ((some .int)) D (mtys cI cS) mord g Am) (O : gO (mcell g cI cS sa) mord g) (K35 : ∀ (x1 : Int32) (x2 : Int32) (S : gS) (H : Heap) (locs : List Loc) (ls : Array Slot), gX D (mcell g cI cS sa) mord g S s H locs → lv_has ls 6 [(0, .ref (g 99)), (1, .int x1), (2, .int x2)] → r35 x1 x2 S = some o → W p l e (rmd 8) s m args below meth c H locs 0 0 (gE below args s D (mtys cI cS) (mcell g cI cS sa) mord g (some (.int o.1)) o.2) (F0 m 35 ls [])) (X : gX D (mcell g cI cS sa) mord g S s H locs) (hl : lv_has ls 6 [(0, .ref (g 99)), (1, .int x1), (2, .int x2)]) (hF : fX12_look_b35 N r35 x1 x2 S = some o) : W p l e (rmd 8) s m args below meth c H locs 0 0 (gE below args s D (mtys cI cS) (mcell g cI cS sa) mord g (some (.int o.1)) o.2) (F0 m 35 ls []) := by
  unfold fX12_look_b35 at hF
  refine lv_iload_n C.1.1 C.1.2.1 dX12_look_35 rfl (lv_at hl 2 rfl) ?_
  refine lv_aload_n C.1.1 C.1.2.1 dX12_look_36 rfl (lv_at hl 0 rfl) ?_
  refine m_g54 C X dX12_look_37 ?_
  refine lv_icmp_ge (tgt := 139) C.1.1 C.1.2.1 dX12_look_40 (by decide) (fun h_z => ?_) (fun h_z => ?_)
  · rw [if_pos h_z] at hF
    exact bX12_look_139 C O X (lv_sub hl [0, 1] rfl) hF
  · rw [if_neg h_z] at hF
    exact bX12_look_43 C O K35 X (lv_sub hl [0, 1, 2] rfl) hF
noncomputable def fX12_look_h35 (N : Nat) : Nat → Int32 → Int32 → gS → Option (Int32 × gS)
  | 0, _, _, _ => none
  | n + 1, x1, x2, S => fX12_look_b35 N (fX12_look_h35 N n) x1 x2 S
theorem hX12_look_35 {N : Nat} {o : Int32 × gS} (C : gC p s m args meth c cX12_look 6 RX12 ((some .int)) D (mtys cI cS) mord g Am) (O : gO (mcell g cI cS sa) mord g) : ∀ (n : Nat) (x1 : Int32) (x2 : Int32) (S : gS) (H : Heap) (locs : List Loc) (ls : Array Slot), gX D (mcell g cI cS sa) mord g S s H locs → lv_has ls 6 [(0, .ref (g 99)), (1, .int x1), (2, .int x2)] → fX12_look_h35 N n x1 x2 S = some o → W p l e (rmd 8) s m args below meth c H locs 0 0 (gE below args s D (mtys cI cS) (mcell g cI cS sa) mord g (some (.int o.1)) o.2) (F0 m 35 ls []) := by
  intro n
  induction n with
  | zero =>
    intro x1 x2 S H locs ls X hl hF
    exact absurd (show (none : Option (Int32 × gS)) = some o from hF) (by simp)
  | succ n ih =>
    intro x1 x2 S H locs ls X hl hF
    have hF : fX12_look_b35 N (fX12_look_h35 N n) x1 x2 S = some o := hF
    exact bX12_look_35 C O ih X hl hF
noncomputable def fX12_look_b20 (N : Nat) (x1 : Int32) (S : gS) : Option (Int32 × gS) := bnd (fX12_tellFits N  S) fun q1 => (bnd (fX12_pack N 46 0 q1.2) fun q2 => (fX12_look_h35 N N x1 0 q2.2))
theorem bX12_look_20 {N : Nat} {x1 : Int32} {S : gS} {H : Heap} {locs : List Loc} {ls : Array Slot} {o : Int32 × gS} (C : gC p s m args meth c cX12_look 6 RX12 ((some .int)) D (mtys cI cS) mord g Am) (O : gO (mcell g cI cS sa) mord g) (X : gX D (mcell g cI cS sa) mord g S s H locs) (hl : lv_has ls 6 [(0, .ref (g 99)), (1, .int x1)]) (hF : fX12_look_b20 N x1 S = some o) : W p l e (rmd 8) s m args below meth c H locs 0 0 (gE below args s D (mtys cI cS) (mcell g cI cS sa) mord g (some (.int o.1)) o.2) (F0 m 20 ls []) := by
  unfold fX12_look_b20 at hF
  refine lv_aload_n C.1.1 C.1.2.1 dX12_look_20 rfl (lv_at hl 0 rfl) ?_
  obtain ⟨q1, hq1, hF⟩ := bnd_some hF
  refine m_callV C X vX12_tellFits rfl (kX12_tellFits O C.2.2.2.2.1 N   S q1 hq1) (Nat.le_of_ble_eq_true rfl) (Nat.le_of_ble_eq_true rfl) (Nat.le_of_ble_eq_true rfl) (Nat.le_of_ble_eq_true rfl) rfl hl.1 rfl (Nat.le_of_ble_eq_true rfl) dX12_look_21 (fun H locs X => ?_)
  refine lv_aload_n C.1.1 C.1.2.1 dX12_look_24 rfl (lv_at hl 0 rfl) ?_
  refine lv_aload_n C.1.1 C.1.2.1 dX12_look_25 rfl (lv_at hl 0 rfl) ?_
  refine m_g46 C X dX12_look_26 ?_
  refine lv_iconst (v := 0) C.1.1 C.1.2.1 dX12_look_29 (by decide) ?_
  obtain ⟨q2, hq2, hF⟩ := bnd_some hF
  refine m_callV C X vX12_pack rfl (kX12_pack O C.2.2.2.2.1 N 46 0 (rfl : mI 46 = true) q1.2 q2 hq2) (Nat.le_of_ble_eq_true rfl) (Nat.le_of_ble_eq_true rfl) (Nat.le_of_ble_eq_true rfl) (Nat.le_of_ble_eq_true rfl) rfl hl.1 rfl (Nat.le_of_ble_eq_true rfl) dX12_look_30 (fun H locs X => ?_)
  refine lv_iconst (v := 0) C.1.1 C.1.2.1 dX12_look_33 (by decide) ?_
  refine lv_istore_n (lv' := [(2, .int 0), (0, .ref (g 99)), (1, .int x1)]) C.1.1 C.1.2.1 dX12_look_34 rfl hl (by decide) rfl (fun ls hl => ?_)
  exact hX12_look_35 C O N _ _ _ _ _ _ X (lv_sub hl [1, 2, 0] rfl) hF
noncomputable def fX12_look_b14 (N : Nat) (S : gS) : Option (Int32 × gS) := bnd (fX12_fail N 1 S) fun q1 => (some (q1.1, q1.2))
theorem bX12_look_14 {N : Nat} {S : gS} {H : Heap} {locs : List Loc} {ls : Array Slot} {o : Int32 × gS} (C : gC p s m args meth c cX12_look 6 RX12 ((some .int)) D (mtys cI cS) mord g Am) (O : gO (mcell g cI cS sa) mord g) (X : gX D (mcell g cI cS sa) mord g S s H locs) (hl : lv_has ls 6 [(0, .ref (g 99))]) (hF : fX12_look_b14 N S = some o) : W p l e (rmd 8) s m args below meth c H locs 0 0 (gE below args s D (mtys cI cS) (mcell g cI cS sa) mord g (some (.int o.1)) o.2) (F0 m 14 ls []) := by
  unfold fX12_look_b14 at hF
  refine lv_aload_n C.1.1 C.1.2.1 dX12_look_14 rfl (lv_at hl 0 rfl) ?_
  refine lv_iconst (v := 1) C.1.1 C.1.2.1 dX12_look_15 (by decide) ?_
  obtain ⟨q1, hq1, hF⟩ := bnd_some hF
  refine m_callVi C X vX12_fail rfl (kX12_fail O C.2.2.2.2.1 N 1  S q1 hq1) (Nat.le_of_ble_eq_true rfl) (Nat.le_of_ble_eq_true rfl) (Nat.le_of_ble_eq_true rfl) (Nat.le_of_ble_eq_true rfl) rfl hl.1 rfl (Nat.le_of_ble_eq_true rfl) dX12_look_16 (fun H locs X => ?_)
  cases hF
  exact g_iret C X dX12_look_19
noncomputable def fX12_look_b9 (N : Nat) (x1 : Int32) (S : gS) : Option (Int32 × gS) := if x1 ≤ 1 then fX12_look_b20 N x1 S else fX12_look_b14 N S
theorem bX12_look_9 {N : Nat} {x1 : Int32} {S : gS} {H : Heap} {locs : List Loc} {ls : Array Slot} {o : Int32 × gS} (C : gC p s m args meth c cX12_look 6 RX12 ((some .int)) D (mtys cI cS) mord g Am) (O : gO (mcell g cI cS sa) mord g) (X : gX D (mcell g cI cS sa) mord g S s H locs) (hl : lv_has ls 6 [(0, .ref (g 99)), (1, .int x1)]) (hF : fX12_look_b9 N x1 S = some o) : W p l e (rmd 8) s m args below meth c H locs 0 0 (gE below args s D (mtys cI cS) (mcell g cI cS sa) mord g (some (.int o.1)) o.2) (F0 m 9 ls []) := by
  unfold fX12_look_b9 at hF
  refine lv_iload_n C.1.1 C.1.2.1 dX12_look_9 rfl (lv_at hl 1 rfl) ?_
  refine lv_iconst (v := 1) C.1.1 C.1.2.1 dX12_look_10 (by decide) ?_
  refine lv_icmp_le (tgt := 20) C.1.1 C.1.2.1 dX12_look_11 (by decide) (fun h_z => ?_) (fun h_z => ?_)
  · rw [if_pos h_z] at hF
    exact bX12_look_20 C O X (lv_sub hl [0, 1] rfl) hF
  · rw [if_neg h_z] at hF
    exact bX12_look_14 C O X (lv_sub hl [0] rfl) hF
noncomputable def fX12_look_b0 (N : Nat) (x1 : Int32) (S : gS) : Option (Int32 × gS) := lt (sU S 99 4 0) fun S1 => (if x1 < 0 then fX12_look_b14 N S1 else fX12_look_b9 N x1 S1)
theorem bX12_look_0 {N : Nat} {x1 : Int32} {S : gS} {H : Heap} {locs : List Loc} {ls : Array Slot} {o : Int32 × gS} (C : gC p s m args meth c cX12_look 6 RX12 ((some .int)) D (mtys cI cS) mord g Am) (O : gO (mcell g cI cS sa) mord g) (X : gX D (mcell g cI cS sa) mord g S s H locs) (hl : lv_has ls 6 [(0, .ref (g 99)), (1, .int x1)]) (hF : fX12_look_b0 N x1 S = some o) : W p l e (rmd 8) s m args below meth c H locs 0 0 (gE below args s D (mtys cI cS) (mcell g cI cS sa) mord g (some (.int o.1)) o.2) (F0 m 0 ls []) := by
  unfold fX12_look_b0 at hF
  refine lv_aload_n C.1.1 C.1.2.1 dX12_look_0 rfl (lv_at hl 0 rfl) ?_
  refine lv_iconst (v := 0) C.1.1 C.1.2.1 dX12_look_1 (by decide) ?_
  obtain ⟨S1, eS1, hF⟩ := lt_some hF
  refine m_p4 C O X eS1 dX12_look_2 (fun H locs X => ?_)
  refine lv_iload_n C.1.1 C.1.2.1 dX12_look_5 rfl (lv_at hl 1 rfl) ?_
  refine lv_if_lt (tgt := 14) C.1.1 C.1.2.1 dX12_look_6 (by decide) (fun h_z => ?_) (fun h_z => ?_)
  · rw [if_pos h_z] at hF
    exact bX12_look_14 C O X (lv_sub hl [0] rfl) hF
  · rw [if_neg h_z] at hF
    exact bX12_look_9 C O X (lv_sub hl [0, 1] rfl) hF
noncomputable def fX12_look (N : Nat) (x1 : Int32) (S : gS) : Option (Int32 × gS) := fX12_look_b0 N x1 S
theorem kX12_look {l : Launch} {D : va_G} {g : Nat → Nat} {cI cS : ClassId} {sa : Nat → Nat → Option Nat} {Am : (Nat → Prop) → State → Heap → Prop} (O : gO (mcell g cI cS sa) mord g) (P : gAm Am) (N : Nat) (x1 : Int32) (S : gS) (o : Int32 × gS) (hF : fX12_look N x1 S = some o) : gM l yX12_look cX12_look 6 ((some .int)) 8 D (mtys cI cS) (mcell g cI cS sa) mord g Am [.ref (g 99), .int x1] S (some (.int o.1)) o.2 :=
  gM_of O P (by decide) (Nat.le_of_ble_eq_true rfl) (fun p e s m args below meth c ls C X hl => bX12_look_0 C O X (lv_sub hl [0, 1] rfl) hF)
-- forget
noncomputable def fX12_forget_b0 (N : Nat) (S : gS) : Option (Int32 × gS) := lt (sU S 99 4 0) fun S1 => (lt (sU S1 99 40 0) fun S2 => (some (0, S2)))
theorem bX12_forget_0 {N : Nat} {S : gS} {H : Heap} {locs : List Loc} {ls : Array Slot} {o : Int32 × gS} (C : gC p s m args meth c cX12_forget 1 RX12 none D (mtys cI cS) mord g Am) (O : gO (mcell g cI cS sa) mord g) (X : gX D (mcell g cI cS sa) mord g S s H locs) (hl : lv_has ls 1 [(0, .ref (g 99))]) (hF : fX12_forget_b0 N S = some o) : W p l e (rmd 0) s m args below meth c H locs 0 0 (gE below args s D (mtys cI cS) (mcell g cI cS sa) mord g none o.2) (F0 m 0 ls []) := by
  unfold fX12_forget_b0 at hF
  refine lv_aload_n C.1.1 C.1.2.1 dX12_forget_0 rfl (lv_at hl 0 rfl) ?_
  refine lv_iconst (v := 0) C.1.1 C.1.2.1 dX12_forget_1 (by decide) ?_
  obtain ⟨S1, eS1, hF⟩ := lt_some hF
  refine m_p4 C O X eS1 dX12_forget_2 (fun H locs X => ?_)
  refine lv_aload_n C.1.1 C.1.2.1 dX12_forget_5 rfl (lv_at hl 0 rfl) ?_
  refine lv_iconst (v := 0) C.1.1 C.1.2.1 dX12_forget_6 (by decide) ?_
  obtain ⟨S2, eS2, hF⟩ := lt_some hF
  refine m_p40 C O X eS2 dX12_forget_7 (fun H locs X => ?_)
  cases hF
  exact g_vret C X dX12_forget_10
noncomputable def fX12_forget (N : Nat) (S : gS) : Option (Int32 × gS) := fX12_forget_b0 N S
theorem kX12_forget {l : Launch} {D : va_G} {g : Nat → Nat} {cI cS : ClassId} {sa : Nat → Nat → Option Nat} {Am : (Nat → Prop) → State → Heap → Prop} (O : gO (mcell g cI cS sa) mord g) (P : gAm Am) (N : Nat) (S : gS) (o : Int32 × gS) (hF : fX12_forget N S = some o) : gM l yX12_forget cX12_forget 1 none 0 D (mtys cI cS) (mcell g cI cS sa) mord g Am [.ref (g 99)] S none o.2 :=
  gM_of O P (by decide) (Nat.le_of_ble_eq_true rfl) (fun p e s m args below meth c ls C X hl => bX12_forget_0 C O X (lv_sub hl [0] rfl) hF)
-- drought
noncomputable def fX12_drought_b182 (N : Nat) (x4 : Int32) (S : gS) : Option (Int32 × gS) := lt (sU S 99 41 ((-1))) fun S1 => (some (x4, S1))
theorem bX12_drought_182 {N : Nat} {x4 : Int32} {S : gS} {H : Heap} {locs : List Loc} {ls : Array Slot} {o : Int32 × gS} (C : gC p s m args meth c cX12_drought 9 RX12 ((some .int)) D (mtys cI cS) mord g Am) (O : gO (mcell g cI cS sa) mord g) (X : gX D (mcell g cI cS sa) mord g S s H locs) (hl : lv_has ls 9 [(0, .ref (g 99)), (4, .int x4)]) (hF : fX12_drought_b182 N x4 S = some o) : W p l e (rmd 6) s m args below meth c H locs 0 0 (gE below args s D (mtys cI cS) (mcell g cI cS sa) mord g (some (.int o.1)) o.2) (F0 m 182 ls []) := by
  unfold fX12_drought_b182 at hF
  refine lv_aload_n C.1.1 C.1.2.1 dX12_drought_182 rfl (lv_at hl 0 rfl) ?_
  refine lv_iconst (v := (-1)) C.1.1 C.1.2.1 dX12_drought_183 (by decide) ?_
  obtain ⟨S1, eS1, hF⟩ := lt_some hF
  refine m_p41 C O X eS1 dX12_drought_184 (fun H locs X => ?_)
  refine lv_iload C.1.1 C.1.2.1 dX12_drought_187 (lv_at hl 1 rfl) ?_
  cases hF
  exact g_iret C X dX12_drought_189
noncomputable def fX12_drought_b164 (N : Nat) (r72 : Int32 → Int32 → Int32 → Int32 → Int32 → Int32 → gS → Option (Int32 × gS)) (x1 : Int32) (x2 : Int32) (x3 : Int32) (x5 : Int32) (x6 : Int32) (t0 : Int32) (t1 : Int32) (S : gS) : Option (Int32 × gS) := bnd (fX12_unpack N 46 0 S) fun q1 => (r72 x1 x2 x3 ((t0 + t1 : Int32)) x5 ((x6 + 1 : Int32)) q1.2)
theorem bX12_drought_164 {N : Nat} {r72 : Int32 → Int32 → Int32 → Int32 → Int32 → Int32 → gS → Option (Int32 × gS)} {x1 : Int32} {x2 : Int32} {x3 : Int32} {x5 : Int32} {x6 : Int32} {t0 : Int32} {t1 : Int32} {S : gS} {H : Heap} {locs : List Loc} {ls : Array Slot} {o : Int32 × gS} (C : gC p s m args meth c cX12_drought 9 RX12 ((some .int)) D (mtys cI cS) mord g Am) (O : gO (mcell g cI cS sa) mord g) (K72 : ∀ (x1 : Int32) (x2 : Int32) (x3 : Int32) (x4 : Int32) (x5 : Int32) (x6 : Int32) (S : gS) (H : Heap) (locs : List Loc) (ls : Array Slot), gX D (mcell g cI cS sa) mord g S s H locs → lv_has ls 9 [(0, .ref (g 99)), (1, .int x1), (2, .int x2), (3, .int x3), (4, .int x4), (5, .int x5), (6, .int x6)] → r72 x1 x2 x3 x4 x5 x6 S = some o → W p l e (rmd 6) s m args below meth c H locs 0 0 (gE below args s D (mtys cI cS) (mcell g cI cS sa) mord g (some (.int o.1)) o.2) (F0 m 72 ls [])) (X : gX D (mcell g cI cS sa) mord g S s H locs) (hl : lv_has ls 9 [(0, .ref (g 99)), (1, .int x1), (2, .int x2), (3, .int x3), (5, .int x5), (6, .int x6)]) (hF : fX12_drought_b164 N r72 x1 x2 x3 x5 x6 t0 t1 S = some o) : W p l e (rmd 6) s m args below meth c H locs 0 0 (gE below args s D (mtys cI cS) (mcell g cI cS sa) mord g (some (.int o.1)) o.2) (F0 m 164 ls [.int t1, .int t0]) := by
  unfold fX12_drought_b164 at hF
  refine lv_iadd C.1.1 C.1.2.1 dX12_drought_164 ?_
  refine lv_istore (lv' := [(4, .int ((t0 + t1 : Int32))), (0, .ref (g 99)), (1, .int x1), (2, .int x2), (3, .int x3), (5, .int x5), (6, .int x6)]) C.1.1 C.1.2.1 dX12_drought_165 hl (by decide) rfl (fun ls hl => ?_)
  refine lv_aload_n C.1.1 C.1.2.1 dX12_drought_167 rfl (lv_at hl 1 rfl) ?_
  refine lv_aload_n C.1.1 C.1.2.1 dX12_drought_168 rfl (lv_at hl 1 rfl) ?_
  refine m_g46 C X dX12_drought_169 ?_
  refine lv_iconst (v := 0) C.1.1 C.1.2.1 dX12_drought_172 (by decide) ?_
  obtain ⟨q1, hq1, hF⟩ := bnd_some hF
  refine m_callV C X vX12_unpack rfl (kX12_unpack O C.2.2.2.2.1 N 46 0 (rfl : mI 46 = true) S q1 hq1) (Nat.le_of_ble_eq_true rfl) (Nat.le_of_ble_eq_true rfl) (Nat.le_of_ble_eq_true rfl) (Nat.le_of_ble_eq_true rfl) rfl hl.1 rfl (Nat.le_of_ble_eq_true rfl) dX12_drought_173 (fun H locs X => ?_)
  refine lv_iinc (v := (x6 + 1 : Int32)) (lv' := [(6, .int ((x6 + 1 : Int32))), (4, .int ((t0 + t1 : Int32))), (0, .ref (g 99)), (1, .int x1), (2, .int x2), (3, .int x3), (5, .int x5)]) C.1.1 C.1.2.1 dX12_drought_176 hl (k := 6) rfl rfl (by decide) rfl (fun ls hl => ?_)
  refine lv_goto (tgt := 72) C.1.1 C.1.2.1 dX12_drought_179 (by decide) ?_
  exact K72 _ _ _ _ _ _ _ _ _ _ X (lv_sub hl [2, 3, 4, 5, 1, 6, 0] rfl) hF
noncomputable def fX12_drought_b163 (N : Nat) (r72 : Int32 → Int32 → Int32 → Int32 → Int32 → Int32 → gS → Option (Int32 × gS)) (x1 : Int32) (x2 : Int32) (x3 : Int32) (x5 : Int32) (x6 : Int32) (t0 : Int32) (S : gS) : Option (Int32 × gS) := fX12_drought_b164 N r72 x1 x2 x3 x5 x6 t0 0 S
theorem bX12_drought_163 {N : Nat} {r72 : Int32 → Int32 → Int32 → Int32 → Int32 → Int32 → gS → Option (Int32 × gS)} {x1 : Int32} {x2 : Int32} {x3 : Int32} {x5 : Int32} {x6 : Int32} {t0 : Int32} {S : gS} {H : Heap} {locs : List Loc} {ls : Array Slot} {o : Int32 × gS} (C : gC p s m args meth c cX12_drought 9 RX12 ((some .int)) D (mtys cI cS) mord g Am) (O : gO (mcell g cI cS sa) mord g) (K72 : ∀ (x1 : Int32) (x2 : Int32) (x3 : Int32) (x4 : Int32) (x5 : Int32) (x6 : Int32) (S : gS) (H : Heap) (locs : List Loc) (ls : Array Slot), gX D (mcell g cI cS sa) mord g S s H locs → lv_has ls 9 [(0, .ref (g 99)), (1, .int x1), (2, .int x2), (3, .int x3), (4, .int x4), (5, .int x5), (6, .int x6)] → r72 x1 x2 x3 x4 x5 x6 S = some o → W p l e (rmd 6) s m args below meth c H locs 0 0 (gE below args s D (mtys cI cS) (mcell g cI cS sa) mord g (some (.int o.1)) o.2) (F0 m 72 ls [])) (X : gX D (mcell g cI cS sa) mord g S s H locs) (hl : lv_has ls 9 [(0, .ref (g 99)), (1, .int x1), (2, .int x2), (3, .int x3), (5, .int x5), (6, .int x6)]) (hF : fX12_drought_b163 N r72 x1 x2 x3 x5 x6 t0 S = some o) : W p l e (rmd 6) s m args below meth c H locs 0 0 (gE below args s D (mtys cI cS) (mcell g cI cS sa) mord g (some (.int o.1)) o.2) (F0 m 163 ls [.int t0]) := by
  unfold fX12_drought_b163 at hF
  refine lv_iconst (v := 0) C.1.1 C.1.2.1 dX12_drought_163 (by decide) ?_
  exact bX12_drought_164 C O K72 X (lv_sub hl [0, 1, 2, 3, 4, 5] rfl) hF
noncomputable def fX12_drought_b158 (N : Nat) (r72 : Int32 → Int32 → Int32 → Int32 → Int32 → Int32 → gS → Option (Int32 × gS)) (x1 : Int32) (x2 : Int32) (x3 : Int32) (x5 : Int32) (x6 : Int32) (x7 : Int32) (t0 : Int32) (S : gS) : Option (Int32 × gS) := fX12_drought_b164 N r72 x1 x2 x3 x5 x6 t0 x7 S
theorem bX12_drought_158 {N : Nat} {r72 : Int32 → Int32 → Int32 → Int32 → Int32 → Int32 → gS → Option (Int32 × gS)} {x1 : Int32} {x2 : Int32} {x3 : Int32} {x5 : Int32} {x6 : Int32} {x7 : Int32} {t0 : Int32} {S : gS} {H : Heap} {locs : List Loc} {ls : Array Slot} {o : Int32 × gS} (C : gC p s m args meth c cX12_drought 9 RX12 ((some .int)) D (mtys cI cS) mord g Am) (O : gO (mcell g cI cS sa) mord g) (K72 : ∀ (x1 : Int32) (x2 : Int32) (x3 : Int32) (x4 : Int32) (x5 : Int32) (x6 : Int32) (S : gS) (H : Heap) (locs : List Loc) (ls : Array Slot), gX D (mcell g cI cS sa) mord g S s H locs → lv_has ls 9 [(0, .ref (g 99)), (1, .int x1), (2, .int x2), (3, .int x3), (4, .int x4), (5, .int x5), (6, .int x6)] → r72 x1 x2 x3 x4 x5 x6 S = some o → W p l e (rmd 6) s m args below meth c H locs 0 0 (gE below args s D (mtys cI cS) (mcell g cI cS sa) mord g (some (.int o.1)) o.2) (F0 m 72 ls [])) (X : gX D (mcell g cI cS sa) mord g S s H locs) (hl : lv_has ls 9 [(0, .ref (g 99)), (1, .int x1), (2, .int x2), (3, .int x3), (5, .int x5), (6, .int x6), (7, .int x7)]) (hF : fX12_drought_b158 N r72 x1 x2 x3 x5 x6 x7 t0 S = some o) : W p l e (rmd 6) s m args below meth c H locs 0 0 (gE below args s D (mtys cI cS) (mcell g cI cS sa) mord g (some (.int o.1)) o.2) (F0 m 158 ls [.int t0]) := by
  unfold fX12_drought_b158 at hF
  refine lv_iload C.1.1 C.1.2.1 dX12_drought_158 (lv_at hl 6 rfl) ?_
  refine lv_goto (tgt := 164) C.1.1 C.1.2.1 dX12_drought_160 (by decide) ?_
  exact bX12_drought_164 C O K72 X (lv_sub hl [0, 1, 2, 3, 4, 5] rfl) hF
noncomputable def fX12_drought_b145 (N : Nat) (r72 : Int32 → Int32 → Int32 → Int32 → Int32 → Int32 → gS → Option (Int32 × gS)) (x1 : Int32) (x2 : Int32) (x3 : Int32) (x4 : Int32) (x5 : Int32) (x6 : Int32) (x7 : Int32) (S : gS) : Option (Int32 × gS) := chk (inb x1 (6)) (if (S 34 (Int32.toNatClampNeg x1)) ≤ x5 then fX12_drought_b163 N r72 x1 x2 x3 x5 x6 x4 S else fX12_drought_b158 N r72 x1 x2 x3 x5 x6 x7 x4 S)
theorem bX12_drought_145 {N : Nat} {r72 : Int32 → Int32 → Int32 → Int32 → Int32 → Int32 → gS → Option (Int32 × gS)} {x1 : Int32} {x2 : Int32} {x3 : Int32} {x4 : Int32} {x5 : Int32} {x6 : Int32} {x7 : Int32} {S : gS} {H : Heap} {locs : List Loc} {ls : Array Slot} {o : Int32 × gS} (C : gC p s m args meth c cX12_drought 9 RX12 ((some .int)) D (mtys cI cS) mord g Am) (O : gO (mcell g cI cS sa) mord g) (K72 : ∀ (x1 : Int32) (x2 : Int32) (x3 : Int32) (x4 : Int32) (x5 : Int32) (x6 : Int32) (S : gS) (H : Heap) (locs : List Loc) (ls : Array Slot), gX D (mcell g cI cS sa) mord g S s H locs → lv_has ls 9 [(0, .ref (g 99)), (1, .int x1), (2, .int x2), (3, .int x3), (4, .int x4), (5, .int x5), (6, .int x6)] → r72 x1 x2 x3 x4 x5 x6 S = some o → W p l e (rmd 6) s m args below meth c H locs 0 0 (gE below args s D (mtys cI cS) (mcell g cI cS sa) mord g (some (.int o.1)) o.2) (F0 m 72 ls [])) (X : gX D (mcell g cI cS sa) mord g S s H locs) (hl : lv_has ls 9 [(0, .ref (g 99)), (1, .int x1), (2, .int x2), (3, .int x3), (4, .int x4), (5, .int x5), (6, .int x6), (7, .int x7)]) (hF : fX12_drought_b145 N r72 x1 x2 x3 x4 x5 x6 x7 S = some o) : W p l e (rmd 6) s m args below meth c H locs 0 0 (gE below args s D (mtys cI cS) (mcell g cI cS sa) mord g (some (.int o.1)) o.2) (F0 m 145 ls []) := by
  unfold fX12_drought_b145 at hF
  refine lv_iload C.1.1 C.1.2.1 dX12_drought_145 (lv_at hl 4 rfl) ?_
  refine lv_aload_n C.1.1 C.1.2.1 dX12_drought_147 rfl (lv_at hl 0 rfl) ?_
  refine m_g34 C X dX12_drought_148 ?_
  refine lv_iload_n C.1.1 C.1.2.1 dX12_drought_151 rfl (lv_at hl 1 rfl) ?_
  obtain ⟨h_1, hF⟩ := chk_some hF
  refine m_r34 C X  (inb_vp h_1) rfl dX12_drought_152 ?_
  refine lv_iload C.1.1 C.1.2.1 dX12_drought_153 (lv_at hl 5 rfl) ?_
  refine lv_icmp_le (tgt := 163) C.1.1 C.1.2.1 dX12_drought_155 (by decide) (fun h_z => ?_) (fun h_z => ?_)
  · rw [if_pos h_z] at hF
    exact bX12_drought_163 C O K72 X (lv_sub hl [0, 1, 2, 3, 5, 6] rfl) hF
  · rw [if_neg h_z] at hF
    exact bX12_drought_158 C O K72 X (lv_sub hl [0, 1, 2, 3, 5, 6, 7] rfl) hF
noncomputable def fX12_drought_b132 (N : Nat) (r72 : Int32 → Int32 → Int32 → Int32 → Int32 → Int32 → gS → Option (Int32 × gS)) (r86 : Int32 → Int32 → Int32 → Int32 → Int32 → Int32 → Int32 → Int32 → gS → Option (Int32 × gS)) (x1 : Int32) (x2 : Int32) (x3 : Int32) (x4 : Int32) (x5 : Int32) (x6 : Int32) (x8 : Int32) (t0 : Int32) (t1 : Int32) (S : gS) : Option (Int32 × gS) := bnd (fX12_anHour N  S) fun q1 => (r86 x1 x2 x3 x4 x5 x6 ((t0 * t1 : Int32)) ((x8 + 1 : Int32)) q1.2)
theorem bX12_drought_132 {N : Nat} {r72 : Int32 → Int32 → Int32 → Int32 → Int32 → Int32 → gS → Option (Int32 × gS)} {r86 : Int32 → Int32 → Int32 → Int32 → Int32 → Int32 → Int32 → Int32 → gS → Option (Int32 × gS)} {x1 : Int32} {x2 : Int32} {x3 : Int32} {x4 : Int32} {x5 : Int32} {x6 : Int32} {x8 : Int32} {t0 : Int32} {t1 : Int32} {S : gS} {H : Heap} {locs : List Loc} {ls : Array Slot} {o : Int32 × gS} (C : gC p s m args meth c cX12_drought 9 RX12 ((some .int)) D (mtys cI cS) mord g Am) (O : gO (mcell g cI cS sa) mord g) (K72 : ∀ (x1 : Int32) (x2 : Int32) (x3 : Int32) (x4 : Int32) (x5 : Int32) (x6 : Int32) (S : gS) (H : Heap) (locs : List Loc) (ls : Array Slot), gX D (mcell g cI cS sa) mord g S s H locs → lv_has ls 9 [(0, .ref (g 99)), (1, .int x1), (2, .int x2), (3, .int x3), (4, .int x4), (5, .int x5), (6, .int x6)] → r72 x1 x2 x3 x4 x5 x6 S = some o → W p l e (rmd 6) s m args below meth c H locs 0 0 (gE below args s D (mtys cI cS) (mcell g cI cS sa) mord g (some (.int o.1)) o.2) (F0 m 72 ls [])) (K86 : ∀ (x1 : Int32) (x2 : Int32) (x3 : Int32) (x4 : Int32) (x5 : Int32) (x6 : Int32) (x7 : Int32) (x8 : Int32) (S : gS) (H : Heap) (locs : List Loc) (ls : Array Slot), gX D (mcell g cI cS sa) mord g S s H locs → lv_has ls 9 [(0, .ref (g 99)), (1, .int x1), (2, .int x2), (3, .int x3), (4, .int x4), (5, .int x5), (6, .int x6), (7, .int x7), (8, .int x8)] → r86 x1 x2 x3 x4 x5 x6 x7 x8 S = some o → W p l e (rmd 6) s m args below meth c H locs 0 0 (gE below args s D (mtys cI cS) (mcell g cI cS sa) mord g (some (.int o.1)) o.2) (F0 m 86 ls [])) (X : gX D (mcell g cI cS sa) mord g S s H locs) (hl : lv_has ls 9 [(0, .ref (g 99)), (1, .int x1), (2, .int x2), (3, .int x3), (4, .int x4), (5, .int x5), (6, .int x6), (8, .int x8)]) (hF : fX12_drought_b132 N r72 r86 x1 x2 x3 x4 x5 x6 x8 t0 t1 S = some o) : W p l e (rmd 6) s m args below meth c H locs 0 0 (gE below args s D (mtys cI cS) (mcell g cI cS sa) mord g (some (.int o.1)) o.2) (F0 m 132 ls [.int t1, .int t0]) := by
  unfold fX12_drought_b132 at hF
  refine lv_imul C.1.1 C.1.2.1 dX12_drought_132 ?_
  refine lv_istore (lv' := [(7, .int ((t0 * t1 : Int32))), (0, .ref (g 99)), (1, .int x1), (2, .int x2), (3, .int x3), (4, .int x4), (5, .int x5), (6, .int x6), (8, .int x8)]) C.1.1 C.1.2.1 dX12_drought_133 hl (by decide) rfl (fun ls hl => ?_)
  refine lv_aload_n C.1.1 C.1.2.1 dX12_drought_135 rfl (lv_at hl 1 rfl) ?_
  obtain ⟨q1, hq1, hF⟩ := bnd_some hF
  refine m_callV C X vX12_anHour rfl (kX12_anHour O C.2.2.2.2.1 N   S q1 hq1) (Nat.le_of_ble_eq_true rfl) (Nat.le_of_ble_eq_true rfl) (Nat.le_of_ble_eq_true rfl) (Nat.le_of_ble_eq_true rfl) rfl hl.1 rfl (Nat.le_of_ble_eq_true rfl) dX12_drought_136 (fun H locs X => ?_)
  refine lv_iinc (v := (x8 + 1 : Int32)) (lv' := [(8, .int ((x8 + 1 : Int32))), (7, .int ((t0 * t1 : Int32))), (0, .ref (g 99)), (1, .int x1), (2, .int x2), (3, .int x3), (4, .int x4), (5, .int x5), (6, .int x6)]) C.1.1 C.1.2.1 dX12_drought_139 hl (k := 8) rfl rfl (by decide) rfl (fun ls hl => ?_)
  refine lv_goto (tgt := 86) C.1.1 C.1.2.1 dX12_drought_142 (by decide) ?_
  exact K86 _ _ _ _ _ _ _ _ _ _ _ _ X (lv_sub hl [2, 3, 4, 5, 6, 7, 8, 1, 0] rfl) hF
noncomputable def fX12_drought_b128 (N : Nat) (r72 : Int32 → Int32 → Int32 → Int32 → Int32 → Int32 → gS → Option (Int32 × gS)) (r86 : Int32 → Int32 → Int32 → Int32 → Int32 → Int32 → Int32 → Int32 → gS → Option (Int32 × gS)) (x1 : Int32) (x2 : Int32) (x3 : Int32) (x4 : Int32) (x5 : Int32) (x6 : Int32) (x8 : Int32) (t0 : Int32) (S : gS) : Option (Int32 × gS) := fX12_drought_b132 N r72 r86 x1 x2 x3 x4 x5 x6 x8 t0 ((10 - x3 : Int32)) S
theorem bX12_drought_128 {N : Nat} {r72 : Int32 → Int32 → Int32 → Int32 → Int32 → Int32 → gS → Option (Int32 × gS)} {r86 : Int32 → Int32 → Int32 → Int32 → Int32 → Int32 → Int32 → Int32 → gS → Option (Int32 × gS)} {x1 : Int32} {x2 : Int32} {x3 : Int32} {x4 : Int32} {x5 : Int32} {x6 : Int32} {x8 : Int32} {t0 : Int32} {S : gS} {H : Heap} {locs : List Loc} {ls : Array Slot} {o : Int32 × gS} (C : gC p s m args meth c cX12_drought 9 RX12 ((some .int)) D (mtys cI cS) mord g Am) (O : gO (mcell g cI cS sa) mord g) (K72 : ∀ (x1 : Int32) (x2 : Int32) (x3 : Int32) (x4 : Int32) (x5 : Int32) (x6 : Int32) (S : gS) (H : Heap) (locs : List Loc) (ls : Array Slot), gX D (mcell g cI cS sa) mord g S s H locs → lv_has ls 9 [(0, .ref (g 99)), (1, .int x1), (2, .int x2), (3, .int x3), (4, .int x4), (5, .int x5), (6, .int x6)] → r72 x1 x2 x3 x4 x5 x6 S = some o → W p l e (rmd 6) s m args below meth c H locs 0 0 (gE below args s D (mtys cI cS) (mcell g cI cS sa) mord g (some (.int o.1)) o.2) (F0 m 72 ls [])) (K86 : ∀ (x1 : Int32) (x2 : Int32) (x3 : Int32) (x4 : Int32) (x5 : Int32) (x6 : Int32) (x7 : Int32) (x8 : Int32) (S : gS) (H : Heap) (locs : List Loc) (ls : Array Slot), gX D (mcell g cI cS sa) mord g S s H locs → lv_has ls 9 [(0, .ref (g 99)), (1, .int x1), (2, .int x2), (3, .int x3), (4, .int x4), (5, .int x5), (6, .int x6), (7, .int x7), (8, .int x8)] → r86 x1 x2 x3 x4 x5 x6 x7 x8 S = some o → W p l e (rmd 6) s m args below meth c H locs 0 0 (gE below args s D (mtys cI cS) (mcell g cI cS sa) mord g (some (.int o.1)) o.2) (F0 m 86 ls [])) (X : gX D (mcell g cI cS sa) mord g S s H locs) (hl : lv_has ls 9 [(0, .ref (g 99)), (1, .int x1), (2, .int x2), (3, .int x3), (4, .int x4), (5, .int x5), (6, .int x6), (8, .int x8)]) (hF : fX12_drought_b128 N r72 r86 x1 x2 x3 x4 x5 x6 x8 t0 S = some o) : W p l e (rmd 6) s m args below meth c H locs 0 0 (gE below args s D (mtys cI cS) (mcell g cI cS sa) mord g (some (.int o.1)) o.2) (F0 m 128 ls [.int t0]) := by
  unfold fX12_drought_b128 at hF
  refine lv_bipush (v := 10) C.1.1 C.1.2.1 dX12_drought_128 (by decide) ?_
  refine lv_iload_n C.1.1 C.1.2.1 dX12_drought_130 rfl (lv_at hl 3 rfl) ?_
  refine lv_isub C.1.1 C.1.2.1 dX12_drought_131 ?_
  exact bX12_drought_132 C O K72 K86 X (lv_sub hl [0, 1, 2, 3, 4, 5, 6, 7] rfl) hF
noncomputable def fX12_drought_b124 (N : Nat) (r72 : Int32 → Int32 → Int32 → Int32 → Int32 → Int32 → gS → Option (Int32 × gS)) (r86 : Int32 → Int32 → Int32 → Int32 → Int32 → Int32 → Int32 → Int32 → gS → Option (Int32 × gS)) (x1 : Int32) (x2 : Int32) (x3 : Int32) (x4 : Int32) (x5 : Int32) (x6 : Int32) (x8 : Int32) (t0 : Int32) (S : gS) : Option (Int32 × gS) := fX12_drought_b132 N r72 r86 x1 x2 x3 x4 x5 x6 x8 t0 x3 S
theorem bX12_drought_124 {N : Nat} {r72 : Int32 → Int32 → Int32 → Int32 → Int32 → Int32 → gS → Option (Int32 × gS)} {r86 : Int32 → Int32 → Int32 → Int32 → Int32 → Int32 → Int32 → Int32 → gS → Option (Int32 × gS)} {x1 : Int32} {x2 : Int32} {x3 : Int32} {x4 : Int32} {x5 : Int32} {x6 : Int32} {x8 : Int32} {t0 : Int32} {S : gS} {H : Heap} {locs : List Loc} {ls : Array Slot} {o : Int32 × gS} (C : gC p s m args meth c cX12_drought 9 RX12 ((some .int)) D (mtys cI cS) mord g Am) (O : gO (mcell g cI cS sa) mord g) (K72 : ∀ (x1 : Int32) (x2 : Int32) (x3 : Int32) (x4 : Int32) (x5 : Int32) (x6 : Int32) (S : gS) (H : Heap) (locs : List Loc) (ls : Array Slot), gX D (mcell g cI cS sa) mord g S s H locs → lv_has ls 9 [(0, .ref (g 99)), (1, .int x1), (2, .int x2), (3, .int x3), (4, .int x4), (5, .int x5), (6, .int x6)] → r72 x1 x2 x3 x4 x5 x6 S = some o → W p l e (rmd 6) s m args below meth c H locs 0 0 (gE below args s D (mtys cI cS) (mcell g cI cS sa) mord g (some (.int o.1)) o.2) (F0 m 72 ls [])) (K86 : ∀ (x1 : Int32) (x2 : Int32) (x3 : Int32) (x4 : Int32) (x5 : Int32) (x6 : Int32) (x7 : Int32) (x8 : Int32) (S : gS) (H : Heap) (locs : List Loc) (ls : Array Slot), gX D (mcell g cI cS sa) mord g S s H locs → lv_has ls 9 [(0, .ref (g 99)), (1, .int x1), (2, .int x2), (3, .int x3), (4, .int x4), (5, .int x5), (6, .int x6), (7, .int x7), (8, .int x8)] → r86 x1 x2 x3 x4 x5 x6 x7 x8 S = some o → W p l e (rmd 6) s m args below meth c H locs 0 0 (gE below args s D (mtys cI cS) (mcell g cI cS sa) mord g (some (.int o.1)) o.2) (F0 m 86 ls [])) (X : gX D (mcell g cI cS sa) mord g S s H locs) (hl : lv_has ls 9 [(0, .ref (g 99)), (1, .int x1), (2, .int x2), (3, .int x3), (4, .int x4), (5, .int x5), (6, .int x6), (8, .int x8)]) (hF : fX12_drought_b124 N r72 r86 x1 x2 x3 x4 x5 x6 x8 t0 S = some o) : W p l e (rmd 6) s m args below meth c H locs 0 0 (gE below args s D (mtys cI cS) (mcell g cI cS sa) mord g (some (.int o.1)) o.2) (F0 m 124 ls [.int t0]) := by
  unfold fX12_drought_b124 at hF
  refine lv_iload_n C.1.1 C.1.2.1 dX12_drought_124 rfl (lv_at hl 3 rfl) ?_
  refine lv_goto (tgt := 132) C.1.1 C.1.2.1 dX12_drought_125 (by decide) ?_
  exact bX12_drought_132 C O K72 K86 X (lv_sub hl [0, 1, 2, 3, 4, 5, 6, 7] rfl) hF
noncomputable def fX12_drought_b109 (N : Nat) (r72 : Int32 → Int32 → Int32 → Int32 → Int32 → Int32 → gS → Option (Int32 × gS)) (r86 : Int32 → Int32 → Int32 → Int32 → Int32 → Int32 → Int32 → Int32 → gS → Option (Int32 × gS)) (x1 : Int32) (x2 : Int32) (x3 : Int32) (x4 : Int32) (x5 : Int32) (x6 : Int32) (x7 : Int32) (x8 : Int32) (t1 : Int32) (S : gS) : Option (Int32 × gS) := lt (sU S 99 41 t1) fun S1 => (bnd (fX12_isOf N x6 x8 S1) fun q1 => (if q1.1 = 0 then fX12_drought_b128 N r72 r86 x1 x2 x3 x4 x5 x6 x8 x7 q1.2 else fX12_drought_b124 N r72 r86 x1 x2 x3 x4 x5 x6 x8 x7 q1.2))
theorem bX12_drought_109 {N : Nat} {r72 : Int32 → Int32 → Int32 → Int32 → Int32 → Int32 → gS → Option (Int32 × gS)} {r86 : Int32 → Int32 → Int32 → Int32 → Int32 → Int32 → Int32 → Int32 → gS → Option (Int32 × gS)} {x1 : Int32} {x2 : Int32} {x3 : Int32} {x4 : Int32} {x5 : Int32} {x6 : Int32} {x7 : Int32} {x8 : Int32} {t1 : Int32} {S : gS} {H : Heap} {locs : List Loc} {ls : Array Slot} {o : Int32 × gS} (C : gC p s m args meth c cX12_drought 9 RX12 ((some .int)) D (mtys cI cS) mord g Am) (O : gO (mcell g cI cS sa) mord g) (K72 : ∀ (x1 : Int32) (x2 : Int32) (x3 : Int32) (x4 : Int32) (x5 : Int32) (x6 : Int32) (S : gS) (H : Heap) (locs : List Loc) (ls : Array Slot), gX D (mcell g cI cS sa) mord g S s H locs → lv_has ls 9 [(0, .ref (g 99)), (1, .int x1), (2, .int x2), (3, .int x3), (4, .int x4), (5, .int x5), (6, .int x6)] → r72 x1 x2 x3 x4 x5 x6 S = some o → W p l e (rmd 6) s m args below meth c H locs 0 0 (gE below args s D (mtys cI cS) (mcell g cI cS sa) mord g (some (.int o.1)) o.2) (F0 m 72 ls [])) (K86 : ∀ (x1 : Int32) (x2 : Int32) (x3 : Int32) (x4 : Int32) (x5 : Int32) (x6 : Int32) (x7 : Int32) (x8 : Int32) (S : gS) (H : Heap) (locs : List Loc) (ls : Array Slot), gX D (mcell g cI cS sa) mord g S s H locs → lv_has ls 9 [(0, .ref (g 99)), (1, .int x1), (2, .int x2), (3, .int x3), (4, .int x4), (5, .int x5), (6, .int x6), (7, .int x7), (8, .int x8)] → r86 x1 x2 x3 x4 x5 x6 x7 x8 S = some o → W p l e (rmd 6) s m args below meth c H locs 0 0 (gE below args s D (mtys cI cS) (mcell g cI cS sa) mord g (some (.int o.1)) o.2) (F0 m 86 ls [])) (X : gX D (mcell g cI cS sa) mord g S s H locs) (hl : lv_has ls 9 [(0, .ref (g 99)), (1, .int x1), (2, .int x2), (3, .int x3), (4, .int x4), (5, .int x5), (6, .int x6), (7, .int x7), (8, .int x8)]) (hF : fX12_drought_b109 N r72 r86 x1 x2 x3 x4 x5 x6 x7 x8 t1 S = some o) : W p l e (rmd 6) s m args below meth c H locs 0 0 (gE below args s D (mtys cI cS) (mcell g cI cS sa) mord g (some (.int o.1)) o.2) (F0 m 109 ls [.int t1, .ref (g 99)]) := by
  unfold fX12_drought_b109 at hF
  obtain ⟨S1, eS1, hF⟩ := lt_some hF
  refine m_p41 C O X eS1 dX12_drought_109 (fun H locs X => ?_)
  refine lv_iload C.1.1 C.1.2.1 dX12_drought_112 (lv_at hl 7 rfl) ?_
  refine lv_iload C.1.1 C.1.2.1 dX12_drought_114 (lv_at hl 6 rfl) ?_
  refine lv_iload C.1.1 C.1.2.1 dX12_drought_116 (lv_at hl 8 rfl) ?_
  obtain ⟨q1, hq1, hF⟩ := bnd_some hF
  refine g_callSi C X vX12_isOf (kX12_isOf O C.2.2.2.2.1 N x6 x8  S1 q1 hq1) (Nat.le_of_ble_eq_true rfl) (Nat.le_of_ble_eq_true rfl) (Nat.le_of_ble_eq_true rfl) (Nat.le_of_ble_eq_true rfl) rfl hl.1 rfl (Nat.le_of_ble_eq_true rfl) dX12_drought_118 (fun H locs X => ?_)
  refine lv_if_eq (tgt := 128) C.1.1 C.1.2.1 dX12_drought_121 (by decide) (fun h_z => ?_) (fun h_z => ?_)
  · rw [if_pos h_z] at hF
    exact bX12_drought_128 C O K72 K86 X (lv_sub hl [0, 1, 2, 3, 4, 5, 6, 8] rfl) hF
  · rw [if_neg h_z] at hF
    exact bX12_drought_124 C O K72 K86 X (lv_sub hl [0, 1, 2, 3, 4, 5, 6, 8] rfl) hF
noncomputable def fX12_drought_b107 (N : Nat) (r72 : Int32 → Int32 → Int32 → Int32 → Int32 → Int32 → gS → Option (Int32 × gS)) (r86 : Int32 → Int32 → Int32 → Int32 → Int32 → Int32 → Int32 → Int32 → gS → Option (Int32 × gS)) (x1 : Int32) (x2 : Int32) (x3 : Int32) (x4 : Int32) (x5 : Int32) (x6 : Int32) (x7 : Int32) (x8 : Int32) (S : gS) : Option (Int32 × gS) := fX12_drought_b109 N r72 r86 x1 x2 x3 x4 x5 x6 x7 x8 9 S
theorem bX12_drought_107 {N : Nat} {r72 : Int32 → Int32 → Int32 → Int32 → Int32 → Int32 → gS → Option (Int32 × gS)} {r86 : Int32 → Int32 → Int32 → Int32 → Int32 → Int32 → Int32 → Int32 → gS → Option (Int32 × gS)} {x1 : Int32} {x2 : Int32} {x3 : Int32} {x4 : Int32} {x5 : Int32} {x6 : Int32} {x7 : Int32} {x8 : Int32} {S : gS} {H : Heap} {locs : List Loc} {ls : Array Slot} {o : Int32 × gS} (C : gC p s m args meth c cX12_drought 9 RX12 ((some .int)) D (mtys cI cS) mord g Am) (O : gO (mcell g cI cS sa) mord g) (K72 : ∀ (x1 : Int32) (x2 : Int32) (x3 : Int32) (x4 : Int32) (x5 : Int32) (x6 : Int32) (S : gS) (H : Heap) (locs : List Loc) (ls : Array Slot), gX D (mcell g cI cS sa) mord g S s H locs → lv_has ls 9 [(0, .ref (g 99)), (1, .int x1), (2, .int x2), (3, .int x3), (4, .int x4), (5, .int x5), (6, .int x6)] → r72 x1 x2 x3 x4 x5 x6 S = some o → W p l e (rmd 6) s m args below meth c H locs 0 0 (gE below args s D (mtys cI cS) (mcell g cI cS sa) mord g (some (.int o.1)) o.2) (F0 m 72 ls [])) (K86 : ∀ (x1 : Int32) (x2 : Int32) (x3 : Int32) (x4 : Int32) (x5 : Int32) (x6 : Int32) (x7 : Int32) (x8 : Int32) (S : gS) (H : Heap) (locs : List Loc) (ls : Array Slot), gX D (mcell g cI cS sa) mord g S s H locs → lv_has ls 9 [(0, .ref (g 99)), (1, .int x1), (2, .int x2), (3, .int x3), (4, .int x4), (5, .int x5), (6, .int x6), (7, .int x7), (8, .int x8)] → r86 x1 x2 x3 x4 x5 x6 x7 x8 S = some o → W p l e (rmd 6) s m args below meth c H locs 0 0 (gE below args s D (mtys cI cS) (mcell g cI cS sa) mord g (some (.int o.1)) o.2) (F0 m 86 ls [])) (X : gX D (mcell g cI cS sa) mord g S s H locs) (hl : lv_has ls 9 [(0, .ref (g 99)), (1, .int x1), (2, .int x2), (3, .int x3), (4, .int x4), (5, .int x5), (6, .int x6), (7, .int x7), (8, .int x8)]) (hF : fX12_drought_b107 N r72 r86 x1 x2 x3 x4 x5 x6 x7 x8 S = some o) : W p l e (rmd 6) s m args below meth c H locs 0 0 (gE below args s D (mtys cI cS) (mcell g cI cS sa) mord g (some (.int o.1)) o.2) (F0 m 107 ls [.ref (g 99)]) := by
  unfold fX12_drought_b107 at hF
  refine lv_bipush (v := 9) C.1.1 C.1.2.1 dX12_drought_107 (by decide) ?_
  exact bX12_drought_109 C O K72 K86 X (lv_sub hl [0, 1, 2, 3, 4, 5, 6, 7, 8] rfl) hF
noncomputable def fX12_drought_b103 (N : Nat) (r72 : Int32 → Int32 → Int32 → Int32 → Int32 → Int32 → gS → Option (Int32 × gS)) (r86 : Int32 → Int32 → Int32 → Int32 → Int32 → Int32 → Int32 → Int32 → gS → Option (Int32 × gS)) (x1 : Int32) (x2 : Int32) (x3 : Int32) (x4 : Int32) (x5 : Int32) (x6 : Int32) (x7 : Int32) (x8 : Int32) (S : gS) : Option (Int32 × gS) := fX12_drought_b109 N r72 r86 x1 x2 x3 x4 x5 x6 x7 x8 0 S
theorem bX12_drought_103 {N : Nat} {r72 : Int32 → Int32 → Int32 → Int32 → Int32 → Int32 → gS → Option (Int32 × gS)} {r86 : Int32 → Int32 → Int32 → Int32 → Int32 → Int32 → Int32 → Int32 → gS → Option (Int32 × gS)} {x1 : Int32} {x2 : Int32} {x3 : Int32} {x4 : Int32} {x5 : Int32} {x6 : Int32} {x7 : Int32} {x8 : Int32} {S : gS} {H : Heap} {locs : List Loc} {ls : Array Slot} {o : Int32 × gS} (C : gC p s m args meth c cX12_drought 9 RX12 ((some .int)) D (mtys cI cS) mord g Am) (O : gO (mcell g cI cS sa) mord g) (K72 : ∀ (x1 : Int32) (x2 : Int32) (x3 : Int32) (x4 : Int32) (x5 : Int32) (x6 : Int32) (S : gS) (H : Heap) (locs : List Loc) (ls : Array Slot), gX D (mcell g cI cS sa) mord g S s H locs → lv_has ls 9 [(0, .ref (g 99)), (1, .int x1), (2, .int x2), (3, .int x3), (4, .int x4), (5, .int x5), (6, .int x6)] → r72 x1 x2 x3 x4 x5 x6 S = some o → W p l e (rmd 6) s m args below meth c H locs 0 0 (gE below args s D (mtys cI cS) (mcell g cI cS sa) mord g (some (.int o.1)) o.2) (F0 m 72 ls [])) (K86 : ∀ (x1 : Int32) (x2 : Int32) (x3 : Int32) (x4 : Int32) (x5 : Int32) (x6 : Int32) (x7 : Int32) (x8 : Int32) (S : gS) (H : Heap) (locs : List Loc) (ls : Array Slot), gX D (mcell g cI cS sa) mord g S s H locs → lv_has ls 9 [(0, .ref (g 99)), (1, .int x1), (2, .int x2), (3, .int x3), (4, .int x4), (5, .int x5), (6, .int x6), (7, .int x7), (8, .int x8)] → r86 x1 x2 x3 x4 x5 x6 x7 x8 S = some o → W p l e (rmd 6) s m args below meth c H locs 0 0 (gE below args s D (mtys cI cS) (mcell g cI cS sa) mord g (some (.int o.1)) o.2) (F0 m 86 ls [])) (X : gX D (mcell g cI cS sa) mord g S s H locs) (hl : lv_has ls 9 [(0, .ref (g 99)), (1, .int x1), (2, .int x2), (3, .int x3), (4, .int x4), (5, .int x5), (6, .int x6), (7, .int x7), (8, .int x8)]) (hF : fX12_drought_b103 N r72 r86 x1 x2 x3 x4 x5 x6 x7 x8 S = some o) : W p l e (rmd 6) s m args below meth c H locs 0 0 (gE below args s D (mtys cI cS) (mcell g cI cS sa) mord g (some (.int o.1)) o.2) (F0 m 103 ls [.ref (g 99)]) := by
  unfold fX12_drought_b103 at hF
  refine lv_iconst (v := 0) C.1.1 C.1.2.1 dX12_drought_103 (by decide) ?_
  refine lv_goto (tgt := 109) C.1.1 C.1.2.1 dX12_drought_104 (by decide) ?_
  exact bX12_drought_109 C O K72 K86 X (lv_sub hl [0, 1, 2, 3, 4, 5, 6, 7, 8] rfl) hF
noncomputable def fX12_drought_b92 (N : Nat) (r72 : Int32 → Int32 → Int32 → Int32 → Int32 → Int32 → gS → Option (Int32 × gS)) (r86 : Int32 → Int32 → Int32 → Int32 → Int32 → Int32 → Int32 → Int32 → gS → Option (Int32 × gS)) (x1 : Int32) (x2 : Int32) (x3 : Int32) (x4 : Int32) (x5 : Int32) (x6 : Int32) (x7 : Int32) (x8 : Int32) (S : gS) : Option (Int32 × gS) := bnd (fX12_isOf N x6 x8 S) fun q1 => (if q1.1 = 0 then fX12_drought_b107 N r72 r86 x1 x2 x3 x4 x5 x6 x7 x8 q1.2 else fX12_drought_b103 N r72 r86 x1 x2 x3 x4 x5 x6 x7 x8 q1.2)
theorem bX12_drought_92 {N : Nat} {r72 : Int32 → Int32 → Int32 → Int32 → Int32 → Int32 → gS → Option (Int32 × gS)} {r86 : Int32 → Int32 → Int32 → Int32 → Int32 → Int32 → Int32 → Int32 → gS → Option (Int32 × gS)} {x1 : Int32} {x2 : Int32} {x3 : Int32} {x4 : Int32} {x5 : Int32} {x6 : Int32} {x7 : Int32} {x8 : Int32} {S : gS} {H : Heap} {locs : List Loc} {ls : Array Slot} {o : Int32 × gS} (C : gC p s m args meth c cX12_drought 9 RX12 ((some .int)) D (mtys cI cS) mord g Am) (O : gO (mcell g cI cS sa) mord g) (K72 : ∀ (x1 : Int32) (x2 : Int32) (x3 : Int32) (x4 : Int32) (x5 : Int32) (x6 : Int32) (S : gS) (H : Heap) (locs : List Loc) (ls : Array Slot), gX D (mcell g cI cS sa) mord g S s H locs → lv_has ls 9 [(0, .ref (g 99)), (1, .int x1), (2, .int x2), (3, .int x3), (4, .int x4), (5, .int x5), (6, .int x6)] → r72 x1 x2 x3 x4 x5 x6 S = some o → W p l e (rmd 6) s m args below meth c H locs 0 0 (gE below args s D (mtys cI cS) (mcell g cI cS sa) mord g (some (.int o.1)) o.2) (F0 m 72 ls [])) (K86 : ∀ (x1 : Int32) (x2 : Int32) (x3 : Int32) (x4 : Int32) (x5 : Int32) (x6 : Int32) (x7 : Int32) (x8 : Int32) (S : gS) (H : Heap) (locs : List Loc) (ls : Array Slot), gX D (mcell g cI cS sa) mord g S s H locs → lv_has ls 9 [(0, .ref (g 99)), (1, .int x1), (2, .int x2), (3, .int x3), (4, .int x4), (5, .int x5), (6, .int x6), (7, .int x7), (8, .int x8)] → r86 x1 x2 x3 x4 x5 x6 x7 x8 S = some o → W p l e (rmd 6) s m args below meth c H locs 0 0 (gE below args s D (mtys cI cS) (mcell g cI cS sa) mord g (some (.int o.1)) o.2) (F0 m 86 ls [])) (X : gX D (mcell g cI cS sa) mord g S s H locs) (hl : lv_has ls 9 [(0, .ref (g 99)), (1, .int x1), (2, .int x2), (3, .int x3), (4, .int x4), (5, .int x5), (6, .int x6), (7, .int x7), (8, .int x8)]) (hF : fX12_drought_b92 N r72 r86 x1 x2 x3 x4 x5 x6 x7 x8 S = some o) : W p l e (rmd 6) s m args below meth c H locs 0 0 (gE below args s D (mtys cI cS) (mcell g cI cS sa) mord g (some (.int o.1)) o.2) (F0 m 92 ls []) := by
  unfold fX12_drought_b92 at hF
  refine lv_aload_n C.1.1 C.1.2.1 dX12_drought_92 rfl (lv_at hl 0 rfl) ?_
  refine lv_iload C.1.1 C.1.2.1 dX12_drought_93 (lv_at hl 6 rfl) ?_
  refine lv_iload C.1.1 C.1.2.1 dX12_drought_95 (lv_at hl 8 rfl) ?_
  obtain ⟨q1, hq1, hF⟩ := bnd_some hF
  refine g_callSi C X vX12_isOf (kX12_isOf O C.2.2.2.2.1 N x6 x8  S q1 hq1) (Nat.le_of_ble_eq_true rfl) (Nat.le_of_ble_eq_true rfl) (Nat.le_of_ble_eq_true rfl) (Nat.le_of_ble_eq_true rfl) rfl hl.1 rfl (Nat.le_of_ble_eq_true rfl) dX12_drought_97 (fun H locs X => ?_)
  refine lv_if_eq (tgt := 107) C.1.1 C.1.2.1 dX12_drought_100 (by decide) (fun h_z => ?_) (fun h_z => ?_)
  · rw [if_pos h_z] at hF
    exact bX12_drought_107 C O K72 K86 X (lv_sub hl [0, 1, 2, 3, 4, 5, 6, 7, 8] rfl) hF
  · rw [if_neg h_z] at hF
    exact bX12_drought_103 C O K72 K86 X (lv_sub hl [0, 1, 2, 3, 4, 5, 6, 7, 8] rfl) hF
noncomputable def fX12_drought_b86 (N : Nat) (r72 : Int32 → Int32 → Int32 → Int32 → Int32 → Int32 → gS → Option (Int32 × gS)) (r86 : Int32 → Int32 → Int32 → Int32 → Int32 → Int32 → Int32 → Int32 → gS → Option (Int32 × gS)) (x1 : Int32) (x2 : Int32) (x3 : Int32) (x4 : Int32) (x5 : Int32) (x6 : Int32) (x7 : Int32) (x8 : Int32) (S : gS) : Option (Int32 × gS) := if x2 ≤ x8 then fX12_drought_b145 N r72 x1 x2 x3 x4 x5 x6 x7 S else fX12_drought_b92 N r72 r86 x1 x2 x3 x4 x5 x6 x7 x8 S
theorem bX12_drought_86 {N : Nat} {r72 : Int32 → Int32 → Int32 → Int32 → Int32 → Int32 → gS → Option (Int32 × gS)} {r86 : Int32 → Int32 → Int32 → Int32 → Int32 → Int32 → Int32 → Int32 → gS → Option (Int32 × gS)} {x1 : Int32} {x2 : Int32} {x3 : Int32} {x4 : Int32} {x5 : Int32} {x6 : Int32} {x7 : Int32} {x8 : Int32} {S : gS} {H : Heap} {locs : List Loc} {ls : Array Slot} {o : Int32 × gS} (C : gC p s m args meth c cX12_drought 9 RX12 ((some .int)) D (mtys cI cS) mord g Am) (O : gO (mcell g cI cS sa) mord g) (K72 : ∀ (x1 : Int32) (x2 : Int32) (x3 : Int32) (x4 : Int32) (x5 : Int32) (x6 : Int32) (S : gS) (H : Heap) (locs : List Loc) (ls : Array Slot), gX D (mcell g cI cS sa) mord g S s H locs → lv_has ls 9 [(0, .ref (g 99)), (1, .int x1), (2, .int x2), (3, .int x3), (4, .int x4), (5, .int x5), (6, .int x6)] → r72 x1 x2 x3 x4 x5 x6 S = some o → W p l e (rmd 6) s m args below meth c H locs 0 0 (gE below args s D (mtys cI cS) (mcell g cI cS sa) mord g (some (.int o.1)) o.2) (F0 m 72 ls [])) (K86 : ∀ (x1 : Int32) (x2 : Int32) (x3 : Int32) (x4 : Int32) (x5 : Int32) (x6 : Int32) (x7 : Int32) (x8 : Int32) (S : gS) (H : Heap) (locs : List Loc) (ls : Array Slot), gX D (mcell g cI cS sa) mord g S s H locs → lv_has ls 9 [(0, .ref (g 99)), (1, .int x1), (2, .int x2), (3, .int x3), (4, .int x4), (5, .int x5), (6, .int x6), (7, .int x7), (8, .int x8)] → r86 x1 x2 x3 x4 x5 x6 x7 x8 S = some o → W p l e (rmd 6) s m args below meth c H locs 0 0 (gE below args s D (mtys cI cS) (mcell g cI cS sa) mord g (some (.int o.1)) o.2) (F0 m 86 ls [])) (X : gX D (mcell g cI cS sa) mord g S s H locs) (hl : lv_has ls 9 [(0, .ref (g 99)), (1, .int x1), (2, .int x2), (3, .int x3), (4, .int x4), (5, .int x5), (6, .int x6), (7, .int x7), (8, .int x8)]) (hF : fX12_drought_b86 N r72 r86 x1 x2 x3 x4 x5 x6 x7 x8 S = some o) : W p l e (rmd 6) s m args below meth c H locs 0 0 (gE below args s D (mtys cI cS) (mcell g cI cS sa) mord g (some (.int o.1)) o.2) (F0 m 86 ls []) := by
  unfold fX12_drought_b86 at hF
  refine lv_iload C.1.1 C.1.2.1 dX12_drought_86 (lv_at hl 8 rfl) ?_
  refine lv_iload_n C.1.1 C.1.2.1 dX12_drought_88 rfl (lv_at hl 2 rfl) ?_
  refine lv_icmp_ge (tgt := 145) C.1.1 C.1.2.1 dX12_drought_89 (by decide) (fun h_z => ?_) (fun h_z => ?_)
  · rw [if_pos h_z] at hF
    exact bX12_drought_145 C O K72 X (lv_sub hl [0, 1, 2, 3, 4, 5, 6, 7] rfl) hF
  · rw [if_neg h_z] at hF
    exact bX12_drought_92 C O K72 K86 X (lv_sub hl [0, 1, 2, 3, 4, 5, 6, 7, 8] rfl) hF
noncomputable def fX12_drought_h86 (N : Nat) (r72 : Int32 → Int32 → Int32 → Int32 → Int32 → Int32 → gS → Option (Int32 × gS)) : Nat → Int32 → Int32 → Int32 → Int32 → Int32 → Int32 → Int32 → Int32 → gS → Option (Int32 × gS)
  | 0, _, _, _, _, _, _, _, _, _ => none
  | n + 1, x1, x2, x3, x4, x5, x6, x7, x8, S => fX12_drought_b86 N r72 (fX12_drought_h86 N r72 n) x1 x2 x3 x4 x5 x6 x7 x8 S
theorem hX12_drought_86 {N : Nat} {r72 : Int32 → Int32 → Int32 → Int32 → Int32 → Int32 → gS → Option (Int32 × gS)} {o : Int32 × gS} (C : gC p s m args meth c cX12_drought 9 RX12 ((some .int)) D (mtys cI cS) mord g Am) (O : gO (mcell g cI cS sa) mord g) (K72 : ∀ (x1 : Int32) (x2 : Int32) (x3 : Int32) (x4 : Int32) (x5 : Int32) (x6 : Int32) (S : gS) (H : Heap) (locs : List Loc) (ls : Array Slot), gX D (mcell g cI cS sa) mord g S s H locs → lv_has ls 9 [(0, .ref (g 99)), (1, .int x1), (2, .int x2), (3, .int x3), (4, .int x4), (5, .int x5), (6, .int x6)] → r72 x1 x2 x3 x4 x5 x6 S = some o → W p l e (rmd 6) s m args below meth c H locs 0 0 (gE below args s D (mtys cI cS) (mcell g cI cS sa) mord g (some (.int o.1)) o.2) (F0 m 72 ls [])) : ∀ (n : Nat) (x1 : Int32) (x2 : Int32) (x3 : Int32) (x4 : Int32) (x5 : Int32) (x6 : Int32) (x7 : Int32) (x8 : Int32) (S : gS) (H : Heap) (locs : List Loc) (ls : Array Slot), gX D (mcell g cI cS sa) mord g S s H locs → lv_has ls 9 [(0, .ref (g 99)), (1, .int x1), (2, .int x2), (3, .int x3), (4, .int x4), (5, .int x5), (6, .int x6), (7, .int x7), (8, .int x8)] → fX12_drought_h86 N r72 n x1 x2 x3 x4 x5 x6 x7 x8 S = some o → W p l e (rmd 6) s m args below meth c H locs 0 0 (gE below args s D (mtys cI cS) (mcell g cI cS sa) mord g (some (.int o.1)) o.2) (F0 m 86 ls []) := by
  intro n
  induction n with
  | zero =>
    intro x1 x2 x3 x4 x5 x6 x7 x8 S H locs ls X hl hF
    exact absurd (show (none : Option (Int32 × gS)) = some o from hF) (by simp)
  | succ n ih =>
    intro x1 x2 x3 x4 x5 x6 x7 x8 S H locs ls X hl hF
    have hF : fX12_drought_b86 N r72 (fX12_drought_h86 N r72 n) x1 x2 x3 x4 x5 x6 x7 x8 S = some o := hF
    exact bX12_drought_86 C O K72 ih X hl hF
noncomputable def fX12_drought_b80 (N : Nat) (r72 : Int32 → Int32 → Int32 → Int32 → Int32 → Int32 → gS → Option (Int32 × gS)) (x1 : Int32) (x2 : Int32) (x3 : Int32) (x4 : Int32) (x5 : Int32) (x6 : Int32) (S : gS) : Option (Int32 × gS) := fX12_drought_h86 N r72 N x1 x2 x3 x4 x5 x6 1 0 S
theorem bX12_drought_80 {N : Nat} {r72 : Int32 → Int32 → Int32 → Int32 → Int32 → Int32 → gS → Option (Int32 × gS)} {x1 : Int32} {x2 : Int32} {x3 : Int32} {x4 : Int32} {x5 : Int32} {x6 : Int32} {S : gS} {H : Heap} {locs : List Loc} {ls : Array Slot} {o : Int32 × gS} (C : gC p s m args meth c cX12_drought 9 RX12 ((some .int)) D (mtys cI cS) mord g Am) (O : gO (mcell g cI cS sa) mord g) (K72 : ∀ (x1 : Int32) (x2 : Int32) (x3 : Int32) (x4 : Int32) (x5 : Int32) (x6 : Int32) (S : gS) (H : Heap) (locs : List Loc) (ls : Array Slot), gX D (mcell g cI cS sa) mord g S s H locs → lv_has ls 9 [(0, .ref (g 99)), (1, .int x1), (2, .int x2), (3, .int x3), (4, .int x4), (5, .int x5), (6, .int x6)] → r72 x1 x2 x3 x4 x5 x6 S = some o → W p l e (rmd 6) s m args below meth c H locs 0 0 (gE below args s D (mtys cI cS) (mcell g cI cS sa) mord g (some (.int o.1)) o.2) (F0 m 72 ls [])) (X : gX D (mcell g cI cS sa) mord g S s H locs) (hl : lv_has ls 9 [(0, .ref (g 99)), (1, .int x1), (2, .int x2), (3, .int x3), (4, .int x4), (5, .int x5), (6, .int x6)]) (hF : fX12_drought_b80 N r72 x1 x2 x3 x4 x5 x6 S = some o) : W p l e (rmd 6) s m args below meth c H locs 0 0 (gE below args s D (mtys cI cS) (mcell g cI cS sa) mord g (some (.int o.1)) o.2) (F0 m 80 ls []) := by
  unfold fX12_drought_b80 at hF
  refine lv_iconst (v := 1) C.1.1 C.1.2.1 dX12_drought_80 (by decide) ?_
  refine lv_istore (lv' := [(7, .int 1), (0, .ref (g 99)), (1, .int x1), (2, .int x2), (3, .int x3), (4, .int x4), (5, .int x5), (6, .int x6)]) C.1.1 C.1.2.1 dX12_drought_81 hl (by decide) rfl (fun ls hl => ?_)
  refine lv_iconst (v := 0) C.1.1 C.1.2.1 dX12_drought_83 (by decide) ?_
  refine lv_istore (lv' := [(8, .int 0), (7, .int 1), (0, .ref (g 99)), (1, .int x1), (2, .int x2), (3, .int x3), (4, .int x4), (5, .int x5), (6, .int x6)]) C.1.1 C.1.2.1 dX12_drought_84 hl (by decide) rfl (fun ls hl => ?_)
  exact hX12_drought_86 C O K72 N _ _ _ _ _ _ _ _ _ _ _ _ X (lv_sub hl [2, 3, 4, 5, 6, 7, 8, 1, 0] rfl) hF
noncomputable def fX12_drought_b72 (N : Nat) (r72 : Int32 → Int32 → Int32 → Int32 → Int32 → Int32 → gS → Option (Int32 × gS)) (x1 : Int32) (x2 : Int32) (x3 : Int32) (x4 : Int32) (x5 : Int32) (x6 : Int32) (S : gS) : Option (Int32 × gS) := if (((1 : Int32) <<< (x2 &&& 31) : Int32)) ≤ x6 then fX12_drought_b182 N x4 S else fX12_drought_b80 N r72 x1 x2 x3 x4 x5 x6 S
theorem bX12_drought_72 {N : Nat} {r72 : Int32 → Int32 → Int32 → Int32 → Int32 → Int32 → gS → Option (Int32 × gS)} {x1 : Int32} {x2 : Int32} {x3 : Int32} {x4 : Int32} {x5 : Int32} {x6 : Int32} {S : gS} {H : Heap} {locs : List Loc} {ls : Array Slot} {o : Int32 × gS} (C : gC p s m args meth c cX12_drought 9 RX12 ((some .int)) D (mtys cI cS) mord g Am) (O : gO (mcell g cI cS sa) mord g) (K72 : ∀ (x1 : Int32) (x2 : Int32) (x3 : Int32) (x4 : Int32) (x5 : Int32) (x6 : Int32) (S : gS) (H : Heap) (locs : List Loc) (ls : Array Slot), gX D (mcell g cI cS sa) mord g S s H locs → lv_has ls 9 [(0, .ref (g 99)), (1, .int x1), (2, .int x2), (3, .int x3), (4, .int x4), (5, .int x5), (6, .int x6)] → r72 x1 x2 x3 x4 x5 x6 S = some o → W p l e (rmd 6) s m args below meth c H locs 0 0 (gE below args s D (mtys cI cS) (mcell g cI cS sa) mord g (some (.int o.1)) o.2) (F0 m 72 ls [])) (X : gX D (mcell g cI cS sa) mord g S s H locs) (hl : lv_has ls 9 [(0, .ref (g 99)), (1, .int x1), (2, .int x2), (3, .int x3), (4, .int x4), (5, .int x5), (6, .int x6)]) (hF : fX12_drought_b72 N r72 x1 x2 x3 x4 x5 x6 S = some o) : W p l e (rmd 6) s m args below meth c H locs 0 0 (gE below args s D (mtys cI cS) (mcell g cI cS sa) mord g (some (.int o.1)) o.2) (F0 m 72 ls []) := by
  unfold fX12_drought_b72 at hF
  refine lv_iload C.1.1 C.1.2.1 dX12_drought_72 (lv_at hl 6 rfl) ?_
  refine lv_iconst (v := 1) C.1.1 C.1.2.1 dX12_drought_74 (by decide) ?_
  refine lv_iload_n C.1.1 C.1.2.1 dX12_drought_75 rfl (lv_at hl 2 rfl) ?_
  refine lv_ishl C.1.1 C.1.2.1 dX12_drought_76 ?_
  refine lv_icmp_ge (tgt := 182) C.1.1 C.1.2.1 dX12_drought_77 (by decide) (fun h_z => ?_) (fun h_z => ?_)
  · rw [if_pos h_z] at hF
    exact bX12_drought_182 C O X (lv_sub hl [0, 4] rfl) hF
  · rw [if_neg h_z] at hF
    exact bX12_drought_80 C O K72 X (lv_sub hl [0, 1, 2, 3, 4, 5, 6] rfl) hF
noncomputable def fX12_drought_h72 (N : Nat) : Nat → Int32 → Int32 → Int32 → Int32 → Int32 → Int32 → gS → Option (Int32 × gS)
  | 0, _, _, _, _, _, _, _ => none
  | n + 1, x1, x2, x3, x4, x5, x6, S => fX12_drought_b72 N (fX12_drought_h72 N n) x1 x2 x3 x4 x5 x6 S
theorem hX12_drought_72 {N : Nat} {o : Int32 × gS} (C : gC p s m args meth c cX12_drought 9 RX12 ((some .int)) D (mtys cI cS) mord g Am) (O : gO (mcell g cI cS sa) mord g) : ∀ (n : Nat) (x1 : Int32) (x2 : Int32) (x3 : Int32) (x4 : Int32) (x5 : Int32) (x6 : Int32) (S : gS) (H : Heap) (locs : List Loc) (ls : Array Slot), gX D (mcell g cI cS sa) mord g S s H locs → lv_has ls 9 [(0, .ref (g 99)), (1, .int x1), (2, .int x2), (3, .int x3), (4, .int x4), (5, .int x5), (6, .int x6)] → fX12_drought_h72 N n x1 x2 x3 x4 x5 x6 S = some o → W p l e (rmd 6) s m args below meth c H locs 0 0 (gE below args s D (mtys cI cS) (mcell g cI cS sa) mord g (some (.int o.1)) o.2) (F0 m 72 ls []) := by
  intro n
  induction n with
  | zero =>
    intro x1 x2 x3 x4 x5 x6 S H locs ls X hl hF
    exact absurd (show (none : Option (Int32 × gS)) = some o from hF) (by simp)
  | succ n ih =>
    intro x1 x2 x3 x4 x5 x6 S H locs ls X hl hF
    have hF : fX12_drought_b72 N (fX12_drought_h72 N n) x1 x2 x3 x4 x5 x6 S = some o := hF
    exact bX12_drought_72 C O ih X hl hF
noncomputable def fX12_drought_b49 (N : Nat) (x1 : Int32) (x2 : Int32) (x3 : Int32) (S : gS) : Option (Int32 × gS) := chk (inb x1 (6)) (bnd (fX12_pack N 46 0 S) fun q1 => (fX12_drought_h72 N N x1 x2 x3 0 (S 34 (Int32.toNatClampNeg x1)) 0 q1.2))
theorem bX12_drought_49 {N : Nat} {x1 : Int32} {x2 : Int32} {x3 : Int32} {S : gS} {H : Heap} {locs : List Loc} {ls : Array Slot} {o : Int32 × gS} (C : gC p s m args meth c cX12_drought 9 RX12 ((some .int)) D (mtys cI cS) mord g Am) (O : gO (mcell g cI cS sa) mord g) (X : gX D (mcell g cI cS sa) mord g S s H locs) (hl : lv_has ls 9 [(0, .ref (g 99)), (1, .int x1), (2, .int x2), (3, .int x3)]) (hF : fX12_drought_b49 N x1 x2 x3 S = some o) : W p l e (rmd 6) s m args below meth c H locs 0 0 (gE below args s D (mtys cI cS) (mcell g cI cS sa) mord g (some (.int o.1)) o.2) (F0 m 49 ls []) := by
  unfold fX12_drought_b49 at hF
  refine lv_iconst (v := 0) C.1.1 C.1.2.1 dX12_drought_49 (by decide) ?_
  refine lv_istore (lv' := [(4, .int 0), (0, .ref (g 99)), (1, .int x1), (2, .int x2), (3, .int x3)]) C.1.1 C.1.2.1 dX12_drought_50 hl (by decide) rfl (fun ls hl => ?_)
  refine lv_aload_n C.1.1 C.1.2.1 dX12_drought_52 rfl (lv_at hl 1 rfl) ?_
  refine m_g34 C X dX12_drought_53 ?_
  refine lv_iload_n C.1.1 C.1.2.1 dX12_drought_56 rfl (lv_at hl 2 rfl) ?_
  obtain ⟨h_1, hF⟩ := chk_some hF
  refine m_r34 C X  (inb_vp h_1) rfl dX12_drought_57 ?_
  refine lv_istore (lv' := [(5, .int (S 34 (Int32.toNatClampNeg x1))), (4, .int 0), (0, .ref (g 99)), (1, .int x1), (2, .int x2), (3, .int x3)]) C.1.1 C.1.2.1 dX12_drought_58 hl (by decide) rfl (fun ls hl => ?_)
  refine lv_aload_n C.1.1 C.1.2.1 dX12_drought_60 rfl (lv_at hl 2 rfl) ?_
  refine lv_aload_n C.1.1 C.1.2.1 dX12_drought_61 rfl (lv_at hl 2 rfl) ?_
  refine m_g46 C X dX12_drought_62 ?_
  refine lv_iconst (v := 0) C.1.1 C.1.2.1 dX12_drought_65 (by decide) ?_
  obtain ⟨q1, hq1, hF⟩ := bnd_some hF
  refine m_callV C X vX12_pack rfl (kX12_pack O C.2.2.2.2.1 N 46 0 (rfl : mI 46 = true) S q1 hq1) (Nat.le_of_ble_eq_true rfl) (Nat.le_of_ble_eq_true rfl) (Nat.le_of_ble_eq_true rfl) (Nat.le_of_ble_eq_true rfl) rfl hl.1 rfl (Nat.le_of_ble_eq_true rfl) dX12_drought_66 (fun H locs X => ?_)
  refine lv_iconst (v := 0) C.1.1 C.1.2.1 dX12_drought_69 (by decide) ?_
  refine lv_istore (lv' := [(6, .int 0), (5, .int (S 34 (Int32.toNatClampNeg x1))), (4, .int 0), (0, .ref (g 99)), (1, .int x1), (2, .int x2), (3, .int x3)]) C.1.1 C.1.2.1 dX12_drought_70 hl (by decide) rfl (fun ls hl => ?_)
  exact hX12_drought_72 C O N _ _ _ _ _ _ _ _ _ _ X (lv_sub hl [3, 4, 5, 6, 2, 1, 0] rfl) hF
noncomputable def fX12_drought_b43 (N : Nat) (S : gS) : Option (Int32 × gS) := bnd (fX12_fail N 2 S) fun q1 => (some (q1.1, q1.2))
theorem bX12_drought_43 {N : Nat} {S : gS} {H : Heap} {locs : List Loc} {ls : Array Slot} {o : Int32 × gS} (C : gC p s m args meth c cX12_drought 9 RX12 ((some .int)) D (mtys cI cS) mord g Am) (O : gO (mcell g cI cS sa) mord g) (X : gX D (mcell g cI cS sa) mord g S s H locs) (hl : lv_has ls 9 [(0, .ref (g 99))]) (hF : fX12_drought_b43 N S = some o) : W p l e (rmd 6) s m args below meth c H locs 0 0 (gE below args s D (mtys cI cS) (mcell g cI cS sa) mord g (some (.int o.1)) o.2) (F0 m 43 ls []) := by
  unfold fX12_drought_b43 at hF
  refine lv_aload_n C.1.1 C.1.2.1 dX12_drought_43 rfl (lv_at hl 0 rfl) ?_
  refine lv_iconst (v := 2) C.1.1 C.1.2.1 dX12_drought_44 (by decide) ?_
  obtain ⟨q1, hq1, hF⟩ := bnd_some hF
  refine m_callVi C X vX12_fail rfl (kX12_fail O C.2.2.2.2.1 N 2  S q1 hq1) (Nat.le_of_ble_eq_true rfl) (Nat.le_of_ble_eq_true rfl) (Nat.le_of_ble_eq_true rfl) (Nat.le_of_ble_eq_true rfl) rfl hl.1 rfl (Nat.le_of_ble_eq_true rfl) dX12_drought_45 (fun H locs X => ?_)
  cases hF
  exact g_iret C X dX12_drought_48
noncomputable def fX12_drought_b31 (N : Nat) (x1 : Int32) (x2 : Int32) (x3 : Int32) (S : gS) : Option (Int32 × gS) := bnd (fX12_isIn N (Int32.toInt64 x3) 0 10 S) fun q1 => (if q1.1 = 0 then fX12_drought_b43 N q1.2 else fX12_drought_b49 N x1 x2 x3 q1.2)
theorem bX12_drought_31 {N : Nat} {x1 : Int32} {x2 : Int32} {x3 : Int32} {S : gS} {H : Heap} {locs : List Loc} {ls : Array Slot} {o : Int32 × gS} (C : gC p s m args meth c cX12_drought 9 RX12 ((some .int)) D (mtys cI cS) mord g Am) (O : gO (mcell g cI cS sa) mord g) (X : gX D (mcell g cI cS sa) mord g S s H locs) (hl : lv_has ls 9 [(0, .ref (g 99)), (1, .int x1), (2, .int x2), (3, .int x3)]) (hF : fX12_drought_b31 N x1 x2 x3 S = some o) : W p l e (rmd 6) s m args below meth c H locs 0 0 (gE below args s D (mtys cI cS) (mcell g cI cS sa) mord g (some (.int o.1)) o.2) (F0 m 31 ls []) := by
  unfold fX12_drought_b31 at hF
  refine lv_iload_n C.1.1 C.1.2.1 dX12_drought_31 rfl (lv_at hl 3 rfl) ?_
  refine lv_i2l (v := Int32.toInt64 x3) C.1.1 C.1.2.1 dX12_drought_32 rfl ?_
  refine lv_lconst (v := 0) C.1.1 C.1.2.1 dX12_drought_33 (by decide) ?_
  refine lv_ldc2 C.1.1 C.1.2.1 C.1.2.2.2.1 (C.1.2.2.2.2 _ mKL471) dX12_drought_34 ?_
  obtain ⟨q1, hq1, hF⟩ := bnd_some hF
  refine g_callSi C X vX12_isIn (kX12_isIn O C.2.2.2.2.1 N (Int32.toInt64 x3) 0 10  S q1 hq1) (Nat.le_of_ble_eq_true rfl) (Nat.le_of_ble_eq_true rfl) (Nat.le_of_ble_eq_true rfl) (Nat.le_of_ble_eq_true rfl) rfl hl.1 rfl (Nat.le_of_ble_eq_true rfl) dX12_drought_37 (fun H locs X => ?_)
  refine lv_if_ne (tgt := 49) C.1.1 C.1.2.1 dX12_drought_40 (by decide) (fun h_z => ?_) (fun h_z => ?_)
  · rw [if_neg h_z] at hF
    exact bX12_drought_49 C O X (lv_sub hl [0, 1, 2, 3] rfl) hF
  · rw [if_pos h_z] at hF
    exact bX12_drought_43 C O X (lv_sub hl [0] rfl) hF
noncomputable def fX12_drought_b19 (N : Nat) (x1 : Int32) (x2 : Int32) (x3 : Int32) (S : gS) : Option (Int32 × gS) := bnd (fX12_isIn N (Int32.toInt64 x2) 1 5 S) fun q1 => (if q1.1 = 0 then fX12_drought_b43 N q1.2 else fX12_drought_b31 N x1 x2 x3 q1.2)
theorem bX12_drought_19 {N : Nat} {x1 : Int32} {x2 : Int32} {x3 : Int32} {S : gS} {H : Heap} {locs : List Loc} {ls : Array Slot} {o : Int32 × gS} (C : gC p s m args meth c cX12_drought 9 RX12 ((some .int)) D (mtys cI cS) mord g Am) (O : gO (mcell g cI cS sa) mord g) (X : gX D (mcell g cI cS sa) mord g S s H locs) (hl : lv_has ls 9 [(0, .ref (g 99)), (1, .int x1), (2, .int x2), (3, .int x3)]) (hF : fX12_drought_b19 N x1 x2 x3 S = some o) : W p l e (rmd 6) s m args below meth c H locs 0 0 (gE below args s D (mtys cI cS) (mcell g cI cS sa) mord g (some (.int o.1)) o.2) (F0 m 19 ls []) := by
  unfold fX12_drought_b19 at hF
  refine lv_iload_n C.1.1 C.1.2.1 dX12_drought_19 rfl (lv_at hl 2 rfl) ?_
  refine lv_i2l (v := Int32.toInt64 x2) C.1.1 C.1.2.1 dX12_drought_20 rfl ?_
  refine lv_lconst (v := 1) C.1.1 C.1.2.1 dX12_drought_21 (by decide) ?_
  refine lv_ldc2 C.1.1 C.1.2.1 C.1.2.2.2.1 (C.1.2.2.2.2 _ mKL469) dX12_drought_22 ?_
  obtain ⟨q1, hq1, hF⟩ := bnd_some hF
  refine g_callSi C X vX12_isIn (kX12_isIn O C.2.2.2.2.1 N (Int32.toInt64 x2) 1 5  S q1 hq1) (Nat.le_of_ble_eq_true rfl) (Nat.le_of_ble_eq_true rfl) (Nat.le_of_ble_eq_true rfl) (Nat.le_of_ble_eq_true rfl) rfl hl.1 rfl (Nat.le_of_ble_eq_true rfl) dX12_drought_25 (fun H locs X => ?_)
  refine lv_if_eq (tgt := 43) C.1.1 C.1.2.1 dX12_drought_28 (by decide) (fun h_z => ?_) (fun h_z => ?_)
  · rw [if_pos h_z] at hF
    exact bX12_drought_43 C O X (lv_sub hl [0] rfl) hF
  · rw [if_neg h_z] at hF
    exact bX12_drought_31 C O X (lv_sub hl [0, 1, 2, 3] rfl) hF
noncomputable def fX12_drought_b13 (N : Nat) (S : gS) : Option (Int32 × gS) := bnd (fX12_fail N 1 S) fun q1 => (some (q1.1, q1.2))
theorem bX12_drought_13 {N : Nat} {S : gS} {H : Heap} {locs : List Loc} {ls : Array Slot} {o : Int32 × gS} (C : gC p s m args meth c cX12_drought 9 RX12 ((some .int)) D (mtys cI cS) mord g Am) (O : gO (mcell g cI cS sa) mord g) (X : gX D (mcell g cI cS sa) mord g S s H locs) (hl : lv_has ls 9 [(0, .ref (g 99))]) (hF : fX12_drought_b13 N S = some o) : W p l e (rmd 6) s m args below meth c H locs 0 0 (gE below args s D (mtys cI cS) (mcell g cI cS sa) mord g (some (.int o.1)) o.2) (F0 m 13 ls []) := by
  unfold fX12_drought_b13 at hF
  refine lv_aload_n C.1.1 C.1.2.1 dX12_drought_13 rfl (lv_at hl 0 rfl) ?_
  refine lv_iconst (v := 1) C.1.1 C.1.2.1 dX12_drought_14 (by decide) ?_
  obtain ⟨q1, hq1, hF⟩ := bnd_some hF
  refine m_callVi C X vX12_fail rfl (kX12_fail O C.2.2.2.2.1 N 1  S q1 hq1) (Nat.le_of_ble_eq_true rfl) (Nat.le_of_ble_eq_true rfl) (Nat.le_of_ble_eq_true rfl) (Nat.le_of_ble_eq_true rfl) rfl hl.1 rfl (Nat.le_of_ble_eq_true rfl) dX12_drought_15 (fun H locs X => ?_)
  cases hF
  exact g_iret C X dX12_drought_18
noncomputable def fX12_drought_b0 (N : Nat) (x1 : Int32) (x2 : Int32) (x3 : Int32) (S : gS) : Option (Int32 × gS) := lt (sU S 99 4 0) fun S1 => (bnd (fX12_isGuild N x1 S1) fun q1 => (if q1.1 = 0 then fX12_drought_b13 N q1.2 else fX12_drought_b19 N x1 x2 x3 q1.2))
theorem bX12_drought_0 {N : Nat} {x1 : Int32} {x2 : Int32} {x3 : Int32} {S : gS} {H : Heap} {locs : List Loc} {ls : Array Slot} {o : Int32 × gS} (C : gC p s m args meth c cX12_drought 9 RX12 ((some .int)) D (mtys cI cS) mord g Am) (O : gO (mcell g cI cS sa) mord g) (X : gX D (mcell g cI cS sa) mord g S s H locs) (hl : lv_has ls 9 [(0, .ref (g 99)), (1, .int x1), (2, .int x2), (3, .int x3)]) (hF : fX12_drought_b0 N x1 x2 x3 S = some o) : W p l e (rmd 6) s m args below meth c H locs 0 0 (gE below args s D (mtys cI cS) (mcell g cI cS sa) mord g (some (.int o.1)) o.2) (F0 m 0 ls []) := by
  unfold fX12_drought_b0 at hF
  refine lv_aload_n C.1.1 C.1.2.1 dX12_drought_0 rfl (lv_at hl 0 rfl) ?_
  refine lv_iconst (v := 0) C.1.1 C.1.2.1 dX12_drought_1 (by decide) ?_
  obtain ⟨S1, eS1, hF⟩ := lt_some hF
  refine m_p4 C O X eS1 dX12_drought_2 (fun H locs X => ?_)
  refine lv_aload_n C.1.1 C.1.2.1 dX12_drought_5 rfl (lv_at hl 0 rfl) ?_
  refine lv_iload_n C.1.1 C.1.2.1 dX12_drought_6 rfl (lv_at hl 1 rfl) ?_
  obtain ⟨q1, hq1, hF⟩ := bnd_some hF
  refine m_callVi C X vX12_isGuild rfl (kX12_isGuild O C.2.2.2.2.1 N x1  S1 q1 hq1) (Nat.le_of_ble_eq_true rfl) (Nat.le_of_ble_eq_true rfl) (Nat.le_of_ble_eq_true rfl) (Nat.le_of_ble_eq_true rfl) rfl hl.1 rfl (Nat.le_of_ble_eq_true rfl) dX12_drought_7 (fun H locs X => ?_)
  refine lv_if_ne (tgt := 19) C.1.1 C.1.2.1 dX12_drought_10 (by decide) (fun h_z => ?_) (fun h_z => ?_)
  · rw [if_neg h_z] at hF
    exact bX12_drought_19 C O X (lv_sub hl [0, 1, 2, 3] rfl) hF
  · rw [if_pos h_z] at hF
    exact bX12_drought_13 C O X (lv_sub hl [0] rfl) hF
noncomputable def fX12_drought (N : Nat) (x1 : Int32) (x2 : Int32) (x3 : Int32) (S : gS) : Option (Int32 × gS) := fX12_drought_b0 N x1 x2 x3 S
theorem kX12_drought {l : Launch} {D : va_G} {g : Nat → Nat} {cI cS : ClassId} {sa : Nat → Nat → Option Nat} {Am : (Nat → Prop) → State → Heap → Prop} (O : gO (mcell g cI cS sa) mord g) (P : gAm Am) (N : Nat) (x1 : Int32) (x2 : Int32) (x3 : Int32) (S : gS) (o : Int32 × gS) (hF : fX12_drought N x1 x2 x3 S = some o) : gM l yX12_drought cX12_drought 9 ((some .int)) 6 D (mtys cI cS) (mcell g cI cS sa) mord g Am [.ref (g 99), .int x1, .int x2, .int x3] S (some (.int o.1)) o.2 :=
  gM_of O P (by decide) (Nat.le_of_ble_eq_true rfl) (fun p e s m args below meth c ls C X hl => bX12_drought_0 C O X (lv_sub hl [0, 1, 2, 3] rfl) hF)
-- tellGains
noncomputable def fX12_tellGains_b173 (N : Nat) (S : gS) : Option (Int32 × gS) := some (0, S)
theorem bX12_tellGains_173 {N : Nat} {S : gS} {H : Heap} {locs : List Loc} {ls : Array Slot} {o : Int32 × gS} (C : gC p s m args meth c cX12_tellGains 7 RX12 none D (mtys cI cS) mord g Am) (O : gO (mcell g cI cS sa) mord g) (X : gX D (mcell g cI cS sa) mord g S s H locs) (hl : lv_has ls 7 []) (hF : fX12_tellGains_b173 N S = some o) : W p l e (rmd 6) s m args below meth c H locs 0 0 (gE below args s D (mtys cI cS) (mcell g cI cS sa) mord g none o.2) (F0 m 173 ls []) := by
  unfold fX12_tellGains_b173 at hF
  cases hF
  exact g_vret C X dX12_tellGains_173
noncomputable def fX12_tellGains_b108 (N : Nat) (r11 : Int32 → Int32 → Int32 → gS → Option (Int32 × gS)) (x1 : Int32) (x2 : Int32) (x3 : Int32) (x4 : Int32) (x5 : Int32) (S : gS) : Option (Int32 × gS) := chk (inb ((2 * x3 : Int32)) (8)) (lt (sU S 55 (Int32.toNatClampNeg ((2 * x3 : Int32))) ((((((5 * x4 : Int32)) - ((3 * x5 : Int32)) : Int32)) - ((6 * ((x3 / 2 : Int32)) : Int32)) : Int32))) fun S1 => (chk (inb ((((2 * x3 : Int32)) + 1 : Int32)) (8)) (lt (sU S1 55 (Int32.toNatClampNeg ((((2 * x3 : Int32)) + 1 : Int32))) ((((((5 * x5 : Int32)) - ((3 * x4 : Int32)) : Int32)) - ((6 * ((x3 - x3 / 2 * 2 : Int32)) : Int32)) : Int32))) fun S2 => (bnd (fX12_unpack N 46 0 S2) fun q1 => (r11 x1 x2 ((x3 + 1 : Int32)) q1.2)))))
theorem bX12_tellGains_108 {N : Nat} {r11 : Int32 → Int32 → Int32 → gS → Option (Int32 × gS)} {x1 : Int32} {x2 : Int32} {x3 : Int32} {x4 : Int32} {x5 : Int32} {S : gS} {H : Heap} {locs : List Loc} {ls : Array Slot} {o : Int32 × gS} (C : gC p s m args meth c cX12_tellGains 7 RX12 none D (mtys cI cS) mord g Am) (O : gO (mcell g cI cS sa) mord g) (K11 : ∀ (x1 : Int32) (x2 : Int32) (x3 : Int32) (S : gS) (H : Heap) (locs : List Loc) (ls : Array Slot), gX D (mcell g cI cS sa) mord g S s H locs → lv_has ls 7 [(0, .ref (g 99)), (1, .int x1), (2, .int x2), (3, .int x3)] → r11 x1 x2 x3 S = some o → W p l e (rmd 6) s m args below meth c H locs 0 0 (gE below args s D (mtys cI cS) (mcell g cI cS sa) mord g none o.2) (F0 m 11 ls [])) (X : gX D (mcell g cI cS sa) mord g S s H locs) (hl : lv_has ls 7 [(0, .ref (g 99)), (1, .int x1), (2, .int x2), (3, .int x3), (4, .int x4), (5, .int x5)]) (hF : fX12_tellGains_b108 N r11 x1 x2 x3 x4 x5 S = some o) : W p l e (rmd 6) s m args below meth c H locs 0 0 (gE below args s D (mtys cI cS) (mcell g cI cS sa) mord g none o.2) (F0 m 108 ls []) := by
  unfold fX12_tellGains_b108 at hF
  refine lv_aload_n C.1.1 C.1.2.1 dX12_tellGains_108 rfl (lv_at hl 0 rfl) ?_
  refine m_g55 C X dX12_tellGains_109 ?_
  refine lv_iconst (v := 2) C.1.1 C.1.2.1 dX12_tellGains_112 (by decide) ?_
  refine lv_iload_n C.1.1 C.1.2.1 dX12_tellGains_113 rfl (lv_at hl 3 rfl) ?_
  refine lv_imul C.1.1 C.1.2.1 dX12_tellGains_114 ?_
  refine lv_iconst (v := 5) C.1.1 C.1.2.1 dX12_tellGains_115 (by decide) ?_
  refine lv_iload C.1.1 C.1.2.1 dX12_tellGains_116 (lv_at hl 4 rfl) ?_
  refine lv_imul C.1.1 C.1.2.1 dX12_tellGains_118 ?_
  refine lv_iconst (v := 3) C.1.1 C.1.2.1 dX12_tellGains_119 (by decide) ?_
  refine lv_iload C.1.1 C.1.2.1 dX12_tellGains_120 (lv_at hl 5 rfl) ?_
  refine lv_imul C.1.1 C.1.2.1 dX12_tellGains_122 ?_
  refine lv_isub C.1.1 C.1.2.1 dX12_tellGains_123 ?_
  refine lv_bipush (v := 6) C.1.1 C.1.2.1 dX12_tellGains_124 (by decide) ?_
  refine lv_iload_n C.1.1 C.1.2.1 dX12_tellGains_126 rfl (lv_at hl 3 rfl) ?_
  refine lv_iconst (v := 2) C.1.1 C.1.2.1 dX12_tellGains_127 (by decide) ?_
  refine lv_idiv C.1.1 C.1.2.1 dX12_tellGains_128 (by decide) ?_
  refine lv_imul C.1.1 C.1.2.1 dX12_tellGains_129 ?_
  refine lv_isub C.1.1 C.1.2.1 dX12_tellGains_130 ?_
  obtain ⟨h_1, hF⟩ := chk_some hF
  obtain ⟨S1, eS1, hF⟩ := lt_some hF
  refine m_w55 C O X  (inb_vp h_1) rfl eS1 dX12_tellGains_131 (fun H locs X => ?_)
  refine lv_aload_n C.1.1 C.1.2.1 dX12_tellGains_132 rfl (lv_at hl 0 rfl) ?_
  refine m_g55 C X dX12_tellGains_133 ?_
  refine lv_iconst (v := 2) C.1.1 C.1.2.1 dX12_tellGains_136 (by decide) ?_
  refine lv_iload_n C.1.1 C.1.2.1 dX12_tellGains_137 rfl (lv_at hl 3 rfl) ?_
  refine lv_imul C.1.1 C.1.2.1 dX12_tellGains_138 ?_
  refine lv_iconst (v := 1) C.1.1 C.1.2.1 dX12_tellGains_139 (by decide) ?_
  refine lv_iadd C.1.1 C.1.2.1 dX12_tellGains_140 ?_
  refine lv_iconst (v := 5) C.1.1 C.1.2.1 dX12_tellGains_141 (by decide) ?_
  refine lv_iload C.1.1 C.1.2.1 dX12_tellGains_142 (lv_at hl 5 rfl) ?_
  refine lv_imul C.1.1 C.1.2.1 dX12_tellGains_144 ?_
  refine lv_iconst (v := 3) C.1.1 C.1.2.1 dX12_tellGains_145 (by decide) ?_
  refine lv_iload C.1.1 C.1.2.1 dX12_tellGains_146 (lv_at hl 4 rfl) ?_
  refine lv_imul C.1.1 C.1.2.1 dX12_tellGains_148 ?_
  refine lv_isub C.1.1 C.1.2.1 dX12_tellGains_149 ?_
  refine lv_bipush (v := 6) C.1.1 C.1.2.1 dX12_tellGains_150 (by decide) ?_
  refine lv_iload_n C.1.1 C.1.2.1 dX12_tellGains_152 rfl (lv_at hl 3 rfl) ?_
  refine lv_iconst (v := 2) C.1.1 C.1.2.1 dX12_tellGains_153 (by decide) ?_
  refine lv_irem C.1.1 C.1.2.1 dX12_tellGains_154 (by decide) ?_
  refine lv_imul C.1.1 C.1.2.1 dX12_tellGains_155 ?_
  refine lv_isub C.1.1 C.1.2.1 dX12_tellGains_156 ?_
  obtain ⟨h_2, hF⟩ := chk_some hF
  obtain ⟨S2, eS2, hF⟩ := lt_some hF
  refine m_w55 C O X  (inb_vp h_2) rfl eS2 dX12_tellGains_157 (fun H locs X => ?_)
  refine lv_aload_n C.1.1 C.1.2.1 dX12_tellGains_158 rfl (lv_at hl 0 rfl) ?_
  refine lv_aload_n C.1.1 C.1.2.1 dX12_tellGains_159 rfl (lv_at hl 0 rfl) ?_
  refine m_g46 C X dX12_tellGains_160 ?_
  refine lv_iconst (v := 0) C.1.1 C.1.2.1 dX12_tellGains_163 (by decide) ?_
  obtain ⟨q1, hq1, hF⟩ := bnd_some hF
  refine m_callV C X vX12_unpack rfl (kX12_unpack O C.2.2.2.2.1 N 46 0 (rfl : mI 46 = true) S2 q1 hq1) (Nat.le_of_ble_eq_true rfl) (Nat.le_of_ble_eq_true rfl) (Nat.le_of_ble_eq_true rfl) (Nat.le_of_ble_eq_true rfl) rfl hl.1 rfl (Nat.le_of_ble_eq_true rfl) dX12_tellGains_164 (fun H locs X => ?_)
  refine lv_iinc (v := (x3 + 1 : Int32)) (lv' := [(3, .int ((x3 + 1 : Int32))), (0, .ref (g 99)), (1, .int x1), (2, .int x2), (4, .int x4), (5, .int x5)]) C.1.1 C.1.2.1 dX12_tellGains_167 hl (k := 3) rfl rfl (by decide) rfl (fun ls hl => ?_)
  refine lv_goto (tgt := 11) C.1.1 C.1.2.1 dX12_tellGains_170 (by decide) ?_
  exact K11 _ _ _ _ _ _ _ X (lv_sub hl [1, 2, 3, 0] rfl) hF
noncomputable def fX12_tellGains_b99 (N : Nat) (r11 : Int32 → Int32 → Int32 → gS → Option (Int32 × gS)) (r49 : Int32 → Int32 → Int32 → Int32 → Int32 → Int32 → gS → Option (Int32 × gS)) (x1 : Int32) (x2 : Int32) (x3 : Int32) (x4 : Int32) (x6 : Int32) (t0 : Int32) (t1 : Int32) (S : gS) : Option (Int32 × gS) := r49 x1 x2 x3 x4 ((t0 + t1 : Int32)) ((x6 + 1 : Int32)) S
theorem bX12_tellGains_99 {N : Nat} {r11 : Int32 → Int32 → Int32 → gS → Option (Int32 × gS)} {r49 : Int32 → Int32 → Int32 → Int32 → Int32 → Int32 → gS → Option (Int32 × gS)} {x1 : Int32} {x2 : Int32} {x3 : Int32} {x4 : Int32} {x6 : Int32} {t0 : Int32} {t1 : Int32} {S : gS} {H : Heap} {locs : List Loc} {ls : Array Slot} {o : Int32 × gS} (C : gC p s m args meth c cX12_tellGains 7 RX12 none D (mtys cI cS) mord g Am) (O : gO (mcell g cI cS sa) mord g) (K11 : ∀ (x1 : Int32) (x2 : Int32) (x3 : Int32) (S : gS) (H : Heap) (locs : List Loc) (ls : Array Slot), gX D (mcell g cI cS sa) mord g S s H locs → lv_has ls 7 [(0, .ref (g 99)), (1, .int x1), (2, .int x2), (3, .int x3)] → r11 x1 x2 x3 S = some o → W p l e (rmd 6) s m args below meth c H locs 0 0 (gE below args s D (mtys cI cS) (mcell g cI cS sa) mord g none o.2) (F0 m 11 ls [])) (K49 : ∀ (x1 : Int32) (x2 : Int32) (x3 : Int32) (x4 : Int32) (x5 : Int32) (x6 : Int32) (S : gS) (H : Heap) (locs : List Loc) (ls : Array Slot), gX D (mcell g cI cS sa) mord g S s H locs → lv_has ls 7 [(0, .ref (g 99)), (1, .int x1), (2, .int x2), (3, .int x3), (4, .int x4), (5, .int x5), (6, .int x6)] → r49 x1 x2 x3 x4 x5 x6 S = some o → W p l e (rmd 6) s m args below meth c H locs 0 0 (gE below args s D (mtys cI cS) (mcell g cI cS sa) mord g none o.2) (F0 m 49 ls [])) (X : gX D (mcell g cI cS sa) mord g S s H locs) (hl : lv_has ls 7 [(0, .ref (g 99)), (1, .int x1), (2, .int x2), (3, .int x3), (4, .int x4), (6, .int x6)]) (hF : fX12_tellGains_b99 N r11 r49 x1 x2 x3 x4 x6 t0 t1 S = some o) : W p l e (rmd 6) s m args below meth c H locs 0 0 (gE below args s D (mtys cI cS) (mcell g cI cS sa) mord g none o.2) (F0 m 99 ls [.int t1, .int t0]) := by
  unfold fX12_tellGains_b99 at hF
  refine lv_iadd C.1.1 C.1.2.1 dX12_tellGains_99 ?_
  refine lv_istore (lv' := [(5, .int ((t0 + t1 : Int32))), (0, .ref (g 99)), (1, .int x1), (2, .int x2), (3, .int x3), (4, .int x4), (6, .int x6)]) C.1.1 C.1.2.1 dX12_tellGains_100 hl (by decide) rfl (fun ls hl => ?_)
  refine lv_iinc (v := (x6 + 1 : Int32)) (lv' := [(6, .int ((x6 + 1 : Int32))), (5, .int ((t0 + t1 : Int32))), (0, .ref (g 99)), (1, .int x1), (2, .int x2), (3, .int x3), (4, .int x4)]) C.1.1 C.1.2.1 dX12_tellGains_102 hl (k := 6) rfl rfl (by decide) rfl (fun ls hl => ?_)
  refine lv_goto (tgt := 49) C.1.1 C.1.2.1 dX12_tellGains_105 (by decide) ?_
  exact K49 _ _ _ _ _ _ _ _ _ _ X (lv_sub hl [2, 3, 4, 5, 6, 1, 0] rfl) hF
noncomputable def fX12_tellGains_b98 (N : Nat) (r11 : Int32 → Int32 → Int32 → gS → Option (Int32 × gS)) (r49 : Int32 → Int32 → Int32 → Int32 → Int32 → Int32 → gS → Option (Int32 × gS)) (x1 : Int32) (x2 : Int32) (x3 : Int32) (x4 : Int32) (x6 : Int32) (t0 : Int32) (S : gS) : Option (Int32 × gS) := fX12_tellGains_b99 N r11 r49 x1 x2 x3 x4 x6 t0 1 S
theorem bX12_tellGains_98 {N : Nat} {r11 : Int32 → Int32 → Int32 → gS → Option (Int32 × gS)} {r49 : Int32 → Int32 → Int32 → Int32 → Int32 → Int32 → gS → Option (Int32 × gS)} {x1 : Int32} {x2 : Int32} {x3 : Int32} {x4 : Int32} {x6 : Int32} {t0 : Int32} {S : gS} {H : Heap} {locs : List Loc} {ls : Array Slot} {o : Int32 × gS} (C : gC p s m args meth c cX12_tellGains 7 RX12 none D (mtys cI cS) mord g Am) (O : gO (mcell g cI cS sa) mord g) (K11 : ∀ (x1 : Int32) (x2 : Int32) (x3 : Int32) (S : gS) (H : Heap) (locs : List Loc) (ls : Array Slot), gX D (mcell g cI cS sa) mord g S s H locs → lv_has ls 7 [(0, .ref (g 99)), (1, .int x1), (2, .int x2), (3, .int x3)] → r11 x1 x2 x3 S = some o → W p l e (rmd 6) s m args below meth c H locs 0 0 (gE below args s D (mtys cI cS) (mcell g cI cS sa) mord g none o.2) (F0 m 11 ls [])) (K49 : ∀ (x1 : Int32) (x2 : Int32) (x3 : Int32) (x4 : Int32) (x5 : Int32) (x6 : Int32) (S : gS) (H : Heap) (locs : List Loc) (ls : Array Slot), gX D (mcell g cI cS sa) mord g S s H locs → lv_has ls 7 [(0, .ref (g 99)), (1, .int x1), (2, .int x2), (3, .int x3), (4, .int x4), (5, .int x5), (6, .int x6)] → r49 x1 x2 x3 x4 x5 x6 S = some o → W p l e (rmd 6) s m args below meth c H locs 0 0 (gE below args s D (mtys cI cS) (mcell g cI cS sa) mord g none o.2) (F0 m 49 ls [])) (X : gX D (mcell g cI cS sa) mord g S s H locs) (hl : lv_has ls 7 [(0, .ref (g 99)), (1, .int x1), (2, .int x2), (3, .int x3), (4, .int x4), (6, .int x6)]) (hF : fX12_tellGains_b98 N r11 r49 x1 x2 x3 x4 x6 t0 S = some o) : W p l e (rmd 6) s m args below meth c H locs 0 0 (gE below args s D (mtys cI cS) (mcell g cI cS sa) mord g none o.2) (F0 m 98 ls [.int t0]) := by
  unfold fX12_tellGains_b98 at hF
  refine lv_iconst (v := 1) C.1.1 C.1.2.1 dX12_tellGains_98 (by decide) ?_
  exact bX12_tellGains_99 C O K11 K49 X (lv_sub hl [0, 1, 2, 3, 4, 5] rfl) hF
noncomputable def fX12_tellGains_b94 (N : Nat) (r11 : Int32 → Int32 → Int32 → gS → Option (Int32 × gS)) (r49 : Int32 → Int32 → Int32 → Int32 → Int32 → Int32 → gS → Option (Int32 × gS)) (x1 : Int32) (x2 : Int32) (x3 : Int32) (x4 : Int32) (x6 : Int32) (t0 : Int32) (S : gS) : Option (Int32 × gS) := fX12_tellGains_b99 N r11 r49 x1 x2 x3 x4 x6 t0 0 S
theorem bX12_tellGains_94 {N : Nat} {r11 : Int32 → Int32 → Int32 → gS → Option (Int32 × gS)} {r49 : Int32 → Int32 → Int32 → Int32 → Int32 → Int32 → gS → Option (Int32 × gS)} {x1 : Int32} {x2 : Int32} {x3 : Int32} {x4 : Int32} {x6 : Int32} {t0 : Int32} {S : gS} {H : Heap} {locs : List Loc} {ls : Array Slot} {o : Int32 × gS} (C : gC p s m args meth c cX12_tellGains 7 RX12 none D (mtys cI cS) mord g Am) (O : gO (mcell g cI cS sa) mord g) (K11 : ∀ (x1 : Int32) (x2 : Int32) (x3 : Int32) (S : gS) (H : Heap) (locs : List Loc) (ls : Array Slot), gX D (mcell g cI cS sa) mord g S s H locs → lv_has ls 7 [(0, .ref (g 99)), (1, .int x1), (2, .int x2), (3, .int x3)] → r11 x1 x2 x3 S = some o → W p l e (rmd 6) s m args below meth c H locs 0 0 (gE below args s D (mtys cI cS) (mcell g cI cS sa) mord g none o.2) (F0 m 11 ls [])) (K49 : ∀ (x1 : Int32) (x2 : Int32) (x3 : Int32) (x4 : Int32) (x5 : Int32) (x6 : Int32) (S : gS) (H : Heap) (locs : List Loc) (ls : Array Slot), gX D (mcell g cI cS sa) mord g S s H locs → lv_has ls 7 [(0, .ref (g 99)), (1, .int x1), (2, .int x2), (3, .int x3), (4, .int x4), (5, .int x5), (6, .int x6)] → r49 x1 x2 x3 x4 x5 x6 S = some o → W p l e (rmd 6) s m args below meth c H locs 0 0 (gE below args s D (mtys cI cS) (mcell g cI cS sa) mord g none o.2) (F0 m 49 ls [])) (X : gX D (mcell g cI cS sa) mord g S s H locs) (hl : lv_has ls 7 [(0, .ref (g 99)), (1, .int x1), (2, .int x2), (3, .int x3), (4, .int x4), (6, .int x6)]) (hF : fX12_tellGains_b94 N r11 r49 x1 x2 x3 x4 x6 t0 S = some o) : W p l e (rmd 6) s m args below meth c H locs 0 0 (gE below args s D (mtys cI cS) (mcell g cI cS sa) mord g none o.2) (F0 m 94 ls [.int t0]) := by
  unfold fX12_tellGains_b94 at hF
  refine lv_iconst (v := 0) C.1.1 C.1.2.1 dX12_tellGains_94 (by decide) ?_
  refine lv_goto (tgt := 99) C.1.1 C.1.2.1 dX12_tellGains_95 (by decide) ?_
  exact bX12_tellGains_99 C O K11 K49 X (lv_sub hl [0, 1, 2, 3, 4, 5] rfl) hF
noncomputable def fX12_tellGains_b78 (N : Nat) (r11 : Int32 → Int32 → Int32 → gS → Option (Int32 × gS)) (r49 : Int32 → Int32 → Int32 → Int32 → Int32 → Int32 → gS → Option (Int32 × gS)) (x1 : Int32) (x2 : Int32) (x3 : Int32) (x5 : Int32) (x6 : Int32) (t0 : Int32) (t1 : Int32) (S : gS) : Option (Int32 × gS) := bnd (fX12_isOf N (S 99 45) x2 S) fun q1 => (if q1.1 = 0 then fX12_tellGains_b98 N r11 r49 x1 x2 x3 ((t0 + t1 : Int32)) x6 x5 q1.2 else fX12_tellGains_b94 N r11 r49 x1 x2 x3 ((t0 + t1 : Int32)) x6 x5 q1.2)
theorem bX12_tellGains_78 {N : Nat} {r11 : Int32 → Int32 → Int32 → gS → Option (Int32 × gS)} {r49 : Int32 → Int32 → Int32 → Int32 → Int32 → Int32 → gS → Option (Int32 × gS)} {x1 : Int32} {x2 : Int32} {x3 : Int32} {x5 : Int32} {x6 : Int32} {t0 : Int32} {t1 : Int32} {S : gS} {H : Heap} {locs : List Loc} {ls : Array Slot} {o : Int32 × gS} (C : gC p s m args meth c cX12_tellGains 7 RX12 none D (mtys cI cS) mord g Am) (O : gO (mcell g cI cS sa) mord g) (K11 : ∀ (x1 : Int32) (x2 : Int32) (x3 : Int32) (S : gS) (H : Heap) (locs : List Loc) (ls : Array Slot), gX D (mcell g cI cS sa) mord g S s H locs → lv_has ls 7 [(0, .ref (g 99)), (1, .int x1), (2, .int x2), (3, .int x3)] → r11 x1 x2 x3 S = some o → W p l e (rmd 6) s m args below meth c H locs 0 0 (gE below args s D (mtys cI cS) (mcell g cI cS sa) mord g none o.2) (F0 m 11 ls [])) (K49 : ∀ (x1 : Int32) (x2 : Int32) (x3 : Int32) (x4 : Int32) (x5 : Int32) (x6 : Int32) (S : gS) (H : Heap) (locs : List Loc) (ls : Array Slot), gX D (mcell g cI cS sa) mord g S s H locs → lv_has ls 7 [(0, .ref (g 99)), (1, .int x1), (2, .int x2), (3, .int x3), (4, .int x4), (5, .int x5), (6, .int x6)] → r49 x1 x2 x3 x4 x5 x6 S = some o → W p l e (rmd 6) s m args below meth c H locs 0 0 (gE below args s D (mtys cI cS) (mcell g cI cS sa) mord g none o.2) (F0 m 49 ls [])) (X : gX D (mcell g cI cS sa) mord g S s H locs) (hl : lv_has ls 7 [(0, .ref (g 99)), (1, .int x1), (2, .int x2), (3, .int x3), (5, .int x5), (6, .int x6)]) (hF : fX12_tellGains_b78 N r11 r49 x1 x2 x3 x5 x6 t0 t1 S = some o) : W p l e (rmd 6) s m args below meth c H locs 0 0 (gE below args s D (mtys cI cS) (mcell g cI cS sa) mord g none o.2) (F0 m 78 ls [.int t1, .int t0]) := by
  unfold fX12_tellGains_b78 at hF
  refine lv_iadd C.1.1 C.1.2.1 dX12_tellGains_78 ?_
  refine lv_istore (lv' := [(4, .int ((t0 + t1 : Int32))), (0, .ref (g 99)), (1, .int x1), (2, .int x2), (3, .int x3), (5, .int x5), (6, .int x6)]) C.1.1 C.1.2.1 dX12_tellGains_79 hl (by decide) rfl (fun ls hl => ?_)
  refine lv_iload C.1.1 C.1.2.1 dX12_tellGains_81 (lv_at hl 5 rfl) ?_
  refine lv_aload_n C.1.1 C.1.2.1 dX12_tellGains_83 rfl (lv_at hl 1 rfl) ?_
  refine m_g45 C X dX12_tellGains_84 ?_
  refine lv_iload_n C.1.1 C.1.2.1 dX12_tellGains_87 rfl (lv_at hl 3 rfl) ?_
  obtain ⟨q1, hq1, hF⟩ := bnd_some hF
  refine g_callSi C X vX12_isOf (kX12_isOf O C.2.2.2.2.1 N (S 99 45) x2  S q1 hq1) (Nat.le_of_ble_eq_true rfl) (Nat.le_of_ble_eq_true rfl) (Nat.le_of_ble_eq_true rfl) (Nat.le_of_ble_eq_true rfl) rfl hl.1 rfl (Nat.le_of_ble_eq_true rfl) dX12_tellGains_88 (fun H locs X => ?_)
  refine lv_if_eq (tgt := 98) C.1.1 C.1.2.1 dX12_tellGains_91 (by decide) (fun h_z => ?_) (fun h_z => ?_)
  · rw [if_pos h_z] at hF
    exact bX12_tellGains_98 C O K11 K49 X (lv_sub hl [1, 2, 3, 4, 0, 6] rfl) hF
  · rw [if_neg h_z] at hF
    exact bX12_tellGains_94 C O K11 K49 X (lv_sub hl [1, 2, 3, 4, 0, 6] rfl) hF
noncomputable def fX12_tellGains_b77 (N : Nat) (r11 : Int32 → Int32 → Int32 → gS → Option (Int32 × gS)) (r49 : Int32 → Int32 → Int32 → Int32 → Int32 → Int32 → gS → Option (Int32 × gS)) (x1 : Int32) (x2 : Int32) (x3 : Int32) (x5 : Int32) (x6 : Int32) (t0 : Int32) (S : gS) : Option (Int32 × gS) := fX12_tellGains_b78 N r11 r49 x1 x2 x3 x5 x6 t0 1 S
theorem bX12_tellGains_77 {N : Nat} {r11 : Int32 → Int32 → Int32 → gS → Option (Int32 × gS)} {r49 : Int32 → Int32 → Int32 → Int32 → Int32 → Int32 → gS → Option (Int32 × gS)} {x1 : Int32} {x2 : Int32} {x3 : Int32} {x5 : Int32} {x6 : Int32} {t0 : Int32} {S : gS} {H : Heap} {locs : List Loc} {ls : Array Slot} {o : Int32 × gS} (C : gC p s m args meth c cX12_tellGains 7 RX12 none D (mtys cI cS) mord g Am) (O : gO (mcell g cI cS sa) mord g) (K11 : ∀ (x1 : Int32) (x2 : Int32) (x3 : Int32) (S : gS) (H : Heap) (locs : List Loc) (ls : Array Slot), gX D (mcell g cI cS sa) mord g S s H locs → lv_has ls 7 [(0, .ref (g 99)), (1, .int x1), (2, .int x2), (3, .int x3)] → r11 x1 x2 x3 S = some o → W p l e (rmd 6) s m args below meth c H locs 0 0 (gE below args s D (mtys cI cS) (mcell g cI cS sa) mord g none o.2) (F0 m 11 ls [])) (K49 : ∀ (x1 : Int32) (x2 : Int32) (x3 : Int32) (x4 : Int32) (x5 : Int32) (x6 : Int32) (S : gS) (H : Heap) (locs : List Loc) (ls : Array Slot), gX D (mcell g cI cS sa) mord g S s H locs → lv_has ls 7 [(0, .ref (g 99)), (1, .int x1), (2, .int x2), (3, .int x3), (4, .int x4), (5, .int x5), (6, .int x6)] → r49 x1 x2 x3 x4 x5 x6 S = some o → W p l e (rmd 6) s m args below meth c H locs 0 0 (gE below args s D (mtys cI cS) (mcell g cI cS sa) mord g none o.2) (F0 m 49 ls [])) (X : gX D (mcell g cI cS sa) mord g S s H locs) (hl : lv_has ls 7 [(0, .ref (g 99)), (1, .int x1), (2, .int x2), (3, .int x3), (5, .int x5), (6, .int x6)]) (hF : fX12_tellGains_b77 N r11 r49 x1 x2 x3 x5 x6 t0 S = some o) : W p l e (rmd 6) s m args below meth c H locs 0 0 (gE below args s D (mtys cI cS) (mcell g cI cS sa) mord g none o.2) (F0 m 77 ls [.int t0]) := by
  unfold fX12_tellGains_b77 at hF
  refine lv_iconst (v := 1) C.1.1 C.1.2.1 dX12_tellGains_77 (by decide) ?_
  exact bX12_tellGains_78 C O K11 K49 X (lv_sub hl [0, 1, 2, 3, 4, 5] rfl) hF
noncomputable def fX12_tellGains_b73 (N : Nat) (r11 : Int32 → Int32 → Int32 → gS → Option (Int32 × gS)) (r49 : Int32 → Int32 → Int32 → Int32 → Int32 → Int32 → gS → Option (Int32 × gS)) (x1 : Int32) (x2 : Int32) (x3 : Int32) (x5 : Int32) (x6 : Int32) (t0 : Int32) (S : gS) : Option (Int32 × gS) := fX12_tellGains_b78 N r11 r49 x1 x2 x3 x5 x6 t0 0 S
theorem bX12_tellGains_73 {N : Nat} {r11 : Int32 → Int32 → Int32 → gS → Option (Int32 × gS)} {r49 : Int32 → Int32 → Int32 → Int32 → Int32 → Int32 → gS → Option (Int32 × gS)} {x1 : Int32} {x2 : Int32} {x3 : Int32} {x5 : Int32} {x6 : Int32} {t0 : Int32} {S : gS} {H : Heap} {locs : List Loc} {ls : Array Slot} {o : Int32 × gS} (C : gC p s m args meth c cX12_tellGains 7 RX12 none D (mtys cI cS) mord g Am) (O : gO (mcell g cI cS sa) mord g) (K11 : ∀ (x1 : Int32) (x2 : Int32) (x3 : Int32) (S : gS) (H : Heap) (locs : List Loc) (ls : Array Slot), gX D (mcell g cI cS sa) mord g S s H locs → lv_has ls 7 [(0, .ref (g 99)), (1, .int x1), (2, .int x2), (3, .int x3)] → r11 x1 x2 x3 S = some o → W p l e (rmd 6) s m args below meth c H locs 0 0 (gE below args s D (mtys cI cS) (mcell g cI cS sa) mord g none o.2) (F0 m 11 ls [])) (K49 : ∀ (x1 : Int32) (x2 : Int32) (x3 : Int32) (x4 : Int32) (x5 : Int32) (x6 : Int32) (S : gS) (H : Heap) (locs : List Loc) (ls : Array Slot), gX D (mcell g cI cS sa) mord g S s H locs → lv_has ls 7 [(0, .ref (g 99)), (1, .int x1), (2, .int x2), (3, .int x3), (4, .int x4), (5, .int x5), (6, .int x6)] → r49 x1 x2 x3 x4 x5 x6 S = some o → W p l e (rmd 6) s m args below meth c H locs 0 0 (gE below args s D (mtys cI cS) (mcell g cI cS sa) mord g none o.2) (F0 m 49 ls [])) (X : gX D (mcell g cI cS sa) mord g S s H locs) (hl : lv_has ls 7 [(0, .ref (g 99)), (1, .int x1), (2, .int x2), (3, .int x3), (5, .int x5), (6, .int x6)]) (hF : fX12_tellGains_b73 N r11 r49 x1 x2 x3 x5 x6 t0 S = some o) : W p l e (rmd 6) s m args below meth c H locs 0 0 (gE below args s D (mtys cI cS) (mcell g cI cS sa) mord g none o.2) (F0 m 73 ls [.int t0]) := by
  unfold fX12_tellGains_b73 at hF
  refine lv_iconst (v := 0) C.1.1 C.1.2.1 dX12_tellGains_73 (by decide) ?_
  refine lv_goto (tgt := 78) C.1.1 C.1.2.1 dX12_tellGains_74 (by decide) ?_
  exact bX12_tellGains_78 C O K11 K49 X (lv_sub hl [0, 1, 2, 3, 4, 5] rfl) hF
noncomputable def fX12_tellGains_b56 (N : Nat) (r11 : Int32 → Int32 → Int32 → gS → Option (Int32 × gS)) (r49 : Int32 → Int32 → Int32 → Int32 → Int32 → Int32 → gS → Option (Int32 × gS)) (x1 : Int32) (x2 : Int32) (x3 : Int32) (x4 : Int32) (x5 : Int32) (x6 : Int32) (S : gS) : Option (Int32 × gS) := bnd (fX12_anHour N  S) fun q1 => (bnd (fX12_isOf N (q1.2 99 45) x1 q1.2) fun q2 => (if q2.1 = 0 then fX12_tellGains_b77 N r11 r49 x1 x2 x3 x5 x6 x4 q2.2 else fX12_tellGains_b73 N r11 r49 x1 x2 x3 x5 x6 x4 q2.2))
theorem bX12_tellGains_56 {N : Nat} {r11 : Int32 → Int32 → Int32 → gS → Option (Int32 × gS)} {r49 : Int32 → Int32 → Int32 → Int32 → Int32 → Int32 → gS → Option (Int32 × gS)} {x1 : Int32} {x2 : Int32} {x3 : Int32} {x4 : Int32} {x5 : Int32} {x6 : Int32} {S : gS} {H : Heap} {locs : List Loc} {ls : Array Slot} {o : Int32 × gS} (C : gC p s m args meth c cX12_tellGains 7 RX12 none D (mtys cI cS) mord g Am) (O : gO (mcell g cI cS sa) mord g) (K11 : ∀ (x1 : Int32) (x2 : Int32) (x3 : Int32) (S : gS) (H : Heap) (locs : List Loc) (ls : Array Slot), gX D (mcell g cI cS sa) mord g S s H locs → lv_has ls 7 [(0, .ref (g 99)), (1, .int x1), (2, .int x2), (3, .int x3)] → r11 x1 x2 x3 S = some o → W p l e (rmd 6) s m args below meth c H locs 0 0 (gE below args s D (mtys cI cS) (mcell g cI cS sa) mord g none o.2) (F0 m 11 ls [])) (K49 : ∀ (x1 : Int32) (x2 : Int32) (x3 : Int32) (x4 : Int32) (x5 : Int32) (x6 : Int32) (S : gS) (H : Heap) (locs : List Loc) (ls : Array Slot), gX D (mcell g cI cS sa) mord g S s H locs → lv_has ls 7 [(0, .ref (g 99)), (1, .int x1), (2, .int x2), (3, .int x3), (4, .int x4), (5, .int x5), (6, .int x6)] → r49 x1 x2 x3 x4 x5 x6 S = some o → W p l e (rmd 6) s m args below meth c H locs 0 0 (gE below args s D (mtys cI cS) (mcell g cI cS sa) mord g none o.2) (F0 m 49 ls [])) (X : gX D (mcell g cI cS sa) mord g S s H locs) (hl : lv_has ls 7 [(0, .ref (g 99)), (1, .int x1), (2, .int x2), (3, .int x3), (4, .int x4), (5, .int x5), (6, .int x6)]) (hF : fX12_tellGains_b56 N r11 r49 x1 x2 x3 x4 x5 x6 S = some o) : W p l e (rmd 6) s m args below meth c H locs 0 0 (gE below args s D (mtys cI cS) (mcell g cI cS sa) mord g none o.2) (F0 m 56 ls []) := by
  unfold fX12_tellGains_b56 at hF
  refine lv_aload_n C.1.1 C.1.2.1 dX12_tellGains_56 rfl (lv_at hl 0 rfl) ?_
  obtain ⟨q1, hq1, hF⟩ := bnd_some hF
  refine m_callV C X vX12_anHour rfl (kX12_anHour O C.2.2.2.2.1 N   S q1 hq1) (Nat.le_of_ble_eq_true rfl) (Nat.le_of_ble_eq_true rfl) (Nat.le_of_ble_eq_true rfl) (Nat.le_of_ble_eq_true rfl) rfl hl.1 rfl (Nat.le_of_ble_eq_true rfl) dX12_tellGains_57 (fun H locs X => ?_)
  refine lv_iload C.1.1 C.1.2.1 dX12_tellGains_60 (lv_at hl 4 rfl) ?_
  refine lv_aload_n C.1.1 C.1.2.1 dX12_tellGains_62 rfl (lv_at hl 0 rfl) ?_
  refine m_g45 C X dX12_tellGains_63 ?_
  refine lv_iload_n C.1.1 C.1.2.1 dX12_tellGains_66 rfl (lv_at hl 1 rfl) ?_
  obtain ⟨q2, hq2, hF⟩ := bnd_some hF
  refine g_callSi C X vX12_isOf (kX12_isOf O C.2.2.2.2.1 N (q1.2 99 45) x1  q1.2 q2 hq2) (Nat.le_of_ble_eq_true rfl) (Nat.le_of_ble_eq_true rfl) (Nat.le_of_ble_eq_true rfl) (Nat.le_of_ble_eq_true rfl) rfl hl.1 rfl (Nat.le_of_ble_eq_true rfl) dX12_tellGains_67 (fun H locs X => ?_)
  refine lv_if_eq (tgt := 77) C.1.1 C.1.2.1 dX12_tellGains_70 (by decide) (fun h_z => ?_) (fun h_z => ?_)
  · rw [if_pos h_z] at hF
    exact bX12_tellGains_77 C O K11 K49 X (lv_sub hl [0, 1, 2, 3, 5, 6] rfl) hF
  · rw [if_neg h_z] at hF
    exact bX12_tellGains_73 C O K11 K49 X (lv_sub hl [0, 1, 2, 3, 5, 6] rfl) hF
noncomputable def fX12_tellGains_b49 (N : Nat) (r11 : Int32 → Int32 → Int32 → gS → Option (Int32 × gS)) (r49 : Int32 → Int32 → Int32 → Int32 → Int32 → Int32 → gS → Option (Int32 × gS)) (x1 : Int32) (x2 : Int32) (x3 : Int32) (x4 : Int32) (x5 : Int32) (x6 : Int32) (S : gS) : Option (Int32 × gS) := if 8 ≤ x6 then fX12_tellGains_b108 N r11 x1 x2 x3 x4 x5 S else fX12_tellGains_b56 N r11 r49 x1 x2 x3 x4 x5 x6 S
theorem bX12_tellGains_49 {N : Nat} {r11 : Int32 → Int32 → Int32 → gS → Option (Int32 × gS)} {r49 : Int32 → Int32 → Int32 → Int32 → Int32 → Int32 → gS → Option (Int32 × gS)} {x1 : Int32} {x2 : Int32} {x3 : Int32} {x4 : Int32} {x5 : Int32} {x6 : Int32} {S : gS} {H : Heap} {locs : List Loc} {ls : Array Slot} {o : Int32 × gS} (C : gC p s m args meth c cX12_tellGains 7 RX12 none D (mtys cI cS) mord g Am) (O : gO (mcell g cI cS sa) mord g) (K11 : ∀ (x1 : Int32) (x2 : Int32) (x3 : Int32) (S : gS) (H : Heap) (locs : List Loc) (ls : Array Slot), gX D (mcell g cI cS sa) mord g S s H locs → lv_has ls 7 [(0, .ref (g 99)), (1, .int x1), (2, .int x2), (3, .int x3)] → r11 x1 x2 x3 S = some o → W p l e (rmd 6) s m args below meth c H locs 0 0 (gE below args s D (mtys cI cS) (mcell g cI cS sa) mord g none o.2) (F0 m 11 ls [])) (K49 : ∀ (x1 : Int32) (x2 : Int32) (x3 : Int32) (x4 : Int32) (x5 : Int32) (x6 : Int32) (S : gS) (H : Heap) (locs : List Loc) (ls : Array Slot), gX D (mcell g cI cS sa) mord g S s H locs → lv_has ls 7 [(0, .ref (g 99)), (1, .int x1), (2, .int x2), (3, .int x3), (4, .int x4), (5, .int x5), (6, .int x6)] → r49 x1 x2 x3 x4 x5 x6 S = some o → W p l e (rmd 6) s m args below meth c H locs 0 0 (gE below args s D (mtys cI cS) (mcell g cI cS sa) mord g none o.2) (F0 m 49 ls [])) (X : gX D (mcell g cI cS sa) mord g S s H locs) (hl : lv_has ls 7 [(0, .ref (g 99)), (1, .int x1), (2, .int x2), (3, .int x3), (4, .int x4), (5, .int x5), (6, .int x6)]) (hF : fX12_tellGains_b49 N r11 r49 x1 x2 x3 x4 x5 x6 S = some o) : W p l e (rmd 6) s m args below meth c H locs 0 0 (gE below args s D (mtys cI cS) (mcell g cI cS sa) mord g none o.2) (F0 m 49 ls []) := by
  unfold fX12_tellGains_b49 at hF
  refine lv_iload C.1.1 C.1.2.1 dX12_tellGains_49 (lv_at hl 6 rfl) ?_
  refine lv_bipush (v := 8) C.1.1 C.1.2.1 dX12_tellGains_51 (by decide) ?_
  refine lv_icmp_ge (tgt := 108) C.1.1 C.1.2.1 dX12_tellGains_53 (by decide) (fun h_z => ?_) (fun h_z => ?_)
  · rw [if_pos h_z] at hF
    exact bX12_tellGains_108 C O K11 X (lv_sub hl [0, 1, 2, 3, 4, 5] rfl) hF
  · rw [if_neg h_z] at hF
    exact bX12_tellGains_56 C O K11 K49 X (lv_sub hl [0, 1, 2, 3, 4, 5, 6] rfl) hF
noncomputable def fX12_tellGains_h49 (N : Nat) (r11 : Int32 → Int32 → Int32 → gS → Option (Int32 × gS)) : Nat → Int32 → Int32 → Int32 → Int32 → Int32 → Int32 → gS → Option (Int32 × gS)
  | 0, _, _, _, _, _, _, _ => none
  | n + 1, x1, x2, x3, x4, x5, x6, S => fX12_tellGains_b49 N r11 (fX12_tellGains_h49 N r11 n) x1 x2 x3 x4 x5 x6 S
theorem hX12_tellGains_49 {N : Nat} {r11 : Int32 → Int32 → Int32 → gS → Option (Int32 × gS)} {o : Int32 × gS} (C : gC p s m args meth c cX12_tellGains 7 RX12 none D (mtys cI cS) mord g Am) (O : gO (mcell g cI cS sa) mord g) (K11 : ∀ (x1 : Int32) (x2 : Int32) (x3 : Int32) (S : gS) (H : Heap) (locs : List Loc) (ls : Array Slot), gX D (mcell g cI cS sa) mord g S s H locs → lv_has ls 7 [(0, .ref (g 99)), (1, .int x1), (2, .int x2), (3, .int x3)] → r11 x1 x2 x3 S = some o → W p l e (rmd 6) s m args below meth c H locs 0 0 (gE below args s D (mtys cI cS) (mcell g cI cS sa) mord g none o.2) (F0 m 11 ls [])) : ∀ (n : Nat) (x1 : Int32) (x2 : Int32) (x3 : Int32) (x4 : Int32) (x5 : Int32) (x6 : Int32) (S : gS) (H : Heap) (locs : List Loc) (ls : Array Slot), gX D (mcell g cI cS sa) mord g S s H locs → lv_has ls 7 [(0, .ref (g 99)), (1, .int x1), (2, .int x2), (3, .int x3), (4, .int x4), (5, .int x5), (6, .int x6)] → fX12_tellGains_h49 N r11 n x1 x2 x3 x4 x5 x6 S = some o → W p l e (rmd 6) s m args below meth c H locs 0 0 (gE below args s D (mtys cI cS) (mcell g cI cS sa) mord g none o.2) (F0 m 49 ls []) := by
  intro n
  induction n with
  | zero =>
    intro x1 x2 x3 x4 x5 x6 S H locs ls X hl hF
    exact absurd (show (none : Option (Int32 × gS)) = some o from hF) (by simp)
  | succ n ih =>
    intro x1 x2 x3 x4 x5 x6 S H locs ls X hl hF
    have hF : fX12_tellGains_b49 N r11 (fX12_tellGains_h49 N r11 n) x1 x2 x3 x4 x5 x6 S = some o := hF
    exact bX12_tellGains_49 C O K11 ih X hl hF
noncomputable def fX12_tellGains_b40 (N : Nat) (r11 : Int32 → Int32 → Int32 → gS → Option (Int32 × gS)) (x1 : Int32) (x2 : Int32) (x3 : Int32) (S : gS) : Option (Int32 × gS) := fX12_tellGains_h49 N r11 N x1 x2 x3 0 0 0 S
theorem bX12_tellGains_40 {N : Nat} {r11 : Int32 → Int32 → Int32 → gS → Option (Int32 × gS)} {x1 : Int32} {x2 : Int32} {x3 : Int32} {S : gS} {H : Heap} {locs : List Loc} {ls : Array Slot} {o : Int32 × gS} (C : gC p s m args meth c cX12_tellGains 7 RX12 none D (mtys cI cS) mord g Am) (O : gO (mcell g cI cS sa) mord g) (K11 : ∀ (x1 : Int32) (x2 : Int32) (x3 : Int32) (S : gS) (H : Heap) (locs : List Loc) (ls : Array Slot), gX D (mcell g cI cS sa) mord g S s H locs → lv_has ls 7 [(0, .ref (g 99)), (1, .int x1), (2, .int x2), (3, .int x3)] → r11 x1 x2 x3 S = some o → W p l e (rmd 6) s m args below meth c H locs 0 0 (gE below args s D (mtys cI cS) (mcell g cI cS sa) mord g none o.2) (F0 m 11 ls [])) (X : gX D (mcell g cI cS sa) mord g S s H locs) (hl : lv_has ls 7 [(0, .ref (g 99)), (1, .int x1), (2, .int x2), (3, .int x3)]) (hF : fX12_tellGains_b40 N r11 x1 x2 x3 S = some o) : W p l e (rmd 6) s m args below meth c H locs 0 0 (gE below args s D (mtys cI cS) (mcell g cI cS sa) mord g none o.2) (F0 m 40 ls []) := by
  unfold fX12_tellGains_b40 at hF
  refine lv_iconst (v := 0) C.1.1 C.1.2.1 dX12_tellGains_40 (by decide) ?_
  refine lv_istore (lv' := [(4, .int 0), (0, .ref (g 99)), (1, .int x1), (2, .int x2), (3, .int x3)]) C.1.1 C.1.2.1 dX12_tellGains_41 hl (by decide) rfl (fun ls hl => ?_)
  refine lv_iconst (v := 0) C.1.1 C.1.2.1 dX12_tellGains_43 (by decide) ?_
  refine lv_istore (lv' := [(5, .int 0), (4, .int 0), (0, .ref (g 99)), (1, .int x1), (2, .int x2), (3, .int x3)]) C.1.1 C.1.2.1 dX12_tellGains_44 hl (by decide) rfl (fun ls hl => ?_)
  refine lv_iconst (v := 0) C.1.1 C.1.2.1 dX12_tellGains_46 (by decide) ?_
  refine lv_istore (lv' := [(6, .int 0), (5, .int 0), (4, .int 0), (0, .ref (g 99)), (1, .int x1), (2, .int x2), (3, .int x3)]) C.1.1 C.1.2.1 dX12_tellGains_47 hl (by decide) rfl (fun ls hl => ?_)
  exact hX12_tellGains_49 C O K11 N _ _ _ _ _ _ _ _ _ _ X (lv_sub hl [3, 4, 5, 6, 2, 1, 0] rfl) hF
noncomputable def fX12_tellGains_b35 (N : Nat) (r11 : Int32 → Int32 → Int32 → gS → Option (Int32 × gS)) (x1 : Int32) (x2 : Int32) (x3 : Int32) (S : gS) : Option (Int32 × gS) := bnd (fX12_doConfess N x2 S) fun q1 => (fX12_tellGains_b40 N r11 x1 x2 x3 q1.2)
theorem bX12_tellGains_35 {N : Nat} {r11 : Int32 → Int32 → Int32 → gS → Option (Int32 × gS)} {x1 : Int32} {x2 : Int32} {x3 : Int32} {S : gS} {H : Heap} {locs : List Loc} {ls : Array Slot} {o : Int32 × gS} (C : gC p s m args meth c cX12_tellGains 7 RX12 none D (mtys cI cS) mord g Am) (O : gO (mcell g cI cS sa) mord g) (K11 : ∀ (x1 : Int32) (x2 : Int32) (x3 : Int32) (S : gS) (H : Heap) (locs : List Loc) (ls : Array Slot), gX D (mcell g cI cS sa) mord g S s H locs → lv_has ls 7 [(0, .ref (g 99)), (1, .int x1), (2, .int x2), (3, .int x3)] → r11 x1 x2 x3 S = some o → W p l e (rmd 6) s m args below meth c H locs 0 0 (gE below args s D (mtys cI cS) (mcell g cI cS sa) mord g none o.2) (F0 m 11 ls [])) (X : gX D (mcell g cI cS sa) mord g S s H locs) (hl : lv_has ls 7 [(0, .ref (g 99)), (1, .int x1), (2, .int x2), (3, .int x3)]) (hF : fX12_tellGains_b35 N r11 x1 x2 x3 S = some o) : W p l e (rmd 6) s m args below meth c H locs 0 0 (gE below args s D (mtys cI cS) (mcell g cI cS sa) mord g none o.2) (F0 m 35 ls []) := by
  unfold fX12_tellGains_b35 at hF
  refine lv_aload_n C.1.1 C.1.2.1 dX12_tellGains_35 rfl (lv_at hl 0 rfl) ?_
  refine lv_iload_n C.1.1 C.1.2.1 dX12_tellGains_36 rfl (lv_at hl 2 rfl) ?_
  obtain ⟨q1, hq1, hF⟩ := bnd_some hF
  refine m_callV C X vX12_doConfess rfl (kX12_doConfess O C.2.2.2.2.1 N x2  S q1 hq1) (Nat.le_of_ble_eq_true rfl) (Nat.le_of_ble_eq_true rfl) (Nat.le_of_ble_eq_true rfl) (Nat.le_of_ble_eq_true rfl) rfl hl.1 rfl (Nat.le_of_ble_eq_true rfl) dX12_tellGains_37 (fun H locs X => ?_)
  exact bX12_tellGains_40 C O K11 X (lv_sub hl [0, 1, 2, 3] rfl) hF
noncomputable def fX12_tellGains_b28 (N : Nat) (r11 : Int32 → Int32 → Int32 → gS → Option (Int32 × gS)) (x1 : Int32) (x2 : Int32) (x3 : Int32) (S : gS) : Option (Int32 × gS) := if ((x3 - x3 / 2 * 2 : Int32)) = 1 then fX12_tellGains_b35 N r11 x1 x2 x3 S else fX12_tellGains_b40 N r11 x1 x2 x3 S
theorem bX12_tellGains_28 {N : Nat} {r11 : Int32 → Int32 → Int32 → gS → Option (Int32 × gS)} {x1 : Int32} {x2 : Int32} {x3 : Int32} {S : gS} {H : Heap} {locs : List Loc} {ls : Array Slot} {o : Int32 × gS} (C : gC p s m args meth c cX12_tellGains 7 RX12 none D (mtys cI cS) mord g Am) (O : gO (mcell g cI cS sa) mord g) (K11 : ∀ (x1 : Int32) (x2 : Int32) (x3 : Int32) (S : gS) (H : Heap) (locs : List Loc) (ls : Array Slot), gX D (mcell g cI cS sa) mord g S s H locs → lv_has ls 7 [(0, .ref (g 99)), (1, .int x1), (2, .int x2), (3, .int x3)] → r11 x1 x2 x3 S = some o → W p l e (rmd 6) s m args below meth c H locs 0 0 (gE below args s D (mtys cI cS) (mcell g cI cS sa) mord g none o.2) (F0 m 11 ls [])) (X : gX D (mcell g cI cS sa) mord g S s H locs) (hl : lv_has ls 7 [(0, .ref (g 99)), (1, .int x1), (2, .int x2), (3, .int x3)]) (hF : fX12_tellGains_b28 N r11 x1 x2 x3 S = some o) : W p l e (rmd 6) s m args below meth c H locs 0 0 (gE below args s D (mtys cI cS) (mcell g cI cS sa) mord g none o.2) (F0 m 28 ls []) := by
  unfold fX12_tellGains_b28 at hF
  refine lv_iload_n C.1.1 C.1.2.1 dX12_tellGains_28 rfl (lv_at hl 3 rfl) ?_
  refine lv_iconst (v := 2) C.1.1 C.1.2.1 dX12_tellGains_29 (by decide) ?_
  refine lv_irem C.1.1 C.1.2.1 dX12_tellGains_30 (by decide) ?_
  refine lv_iconst (v := 1) C.1.1 C.1.2.1 dX12_tellGains_31 (by decide) ?_
  refine lv_icmp_ne (tgt := 40) C.1.1 C.1.2.1 dX12_tellGains_32 (by decide) (fun h_z => ?_) (fun h_z => ?_)
  · rw [if_neg h_z] at hF
    exact bX12_tellGains_40 C O K11 X (lv_sub hl [0, 1, 2, 3] rfl) hF
  · rw [if_pos h_z] at hF
    exact bX12_tellGains_35 C O K11 X (lv_sub hl [0, 1, 2, 3] rfl) hF
noncomputable def fX12_tellGains_b23 (N : Nat) (r11 : Int32 → Int32 → Int32 → gS → Option (Int32 × gS)) (x1 : Int32) (x2 : Int32) (x3 : Int32) (S : gS) : Option (Int32 × gS) := bnd (fX12_doConfess N x1 S) fun q1 => (fX12_tellGains_b28 N r11 x1 x2 x3 q1.2)
theorem bX12_tellGains_23 {N : Nat} {r11 : Int32 → Int32 → Int32 → gS → Option (Int32 × gS)} {x1 : Int32} {x2 : Int32} {x3 : Int32} {S : gS} {H : Heap} {locs : List Loc} {ls : Array Slot} {o : Int32 × gS} (C : gC p s m args meth c cX12_tellGains 7 RX12 none D (mtys cI cS) mord g Am) (O : gO (mcell g cI cS sa) mord g) (K11 : ∀ (x1 : Int32) (x2 : Int32) (x3 : Int32) (S : gS) (H : Heap) (locs : List Loc) (ls : Array Slot), gX D (mcell g cI cS sa) mord g S s H locs → lv_has ls 7 [(0, .ref (g 99)), (1, .int x1), (2, .int x2), (3, .int x3)] → r11 x1 x2 x3 S = some o → W p l e (rmd 6) s m args below meth c H locs 0 0 (gE below args s D (mtys cI cS) (mcell g cI cS sa) mord g none o.2) (F0 m 11 ls [])) (X : gX D (mcell g cI cS sa) mord g S s H locs) (hl : lv_has ls 7 [(0, .ref (g 99)), (1, .int x1), (2, .int x2), (3, .int x3)]) (hF : fX12_tellGains_b23 N r11 x1 x2 x3 S = some o) : W p l e (rmd 6) s m args below meth c H locs 0 0 (gE below args s D (mtys cI cS) (mcell g cI cS sa) mord g none o.2) (F0 m 23 ls []) := by
  unfold fX12_tellGains_b23 at hF
  refine lv_aload_n C.1.1 C.1.2.1 dX12_tellGains_23 rfl (lv_at hl 0 rfl) ?_
  refine lv_iload_n C.1.1 C.1.2.1 dX12_tellGains_24 rfl (lv_at hl 1 rfl) ?_
  obtain ⟨q1, hq1, hF⟩ := bnd_some hF
  refine m_callV C X vX12_doConfess rfl (kX12_doConfess O C.2.2.2.2.1 N x1  S q1 hq1) (Nat.le_of_ble_eq_true rfl) (Nat.le_of_ble_eq_true rfl) (Nat.le_of_ble_eq_true rfl) (Nat.le_of_ble_eq_true rfl) rfl hl.1 rfl (Nat.le_of_ble_eq_true rfl) dX12_tellGains_25 (fun H locs X => ?_)
  exact bX12_tellGains_28 C O K11 X (lv_sub hl [0, 1, 2, 3] rfl) hF
noncomputable def fX12_tellGains_b16 (N : Nat) (r11 : Int32 → Int32 → Int32 → gS → Option (Int32 × gS)) (x1 : Int32) (x2 : Int32) (x3 : Int32) (S : gS) : Option (Int32 × gS) := if ((x3 / 2 : Int32)) = 1 then fX12_tellGains_b23 N r11 x1 x2 x3 S else fX12_tellGains_b28 N r11 x1 x2 x3 S
theorem bX12_tellGains_16 {N : Nat} {r11 : Int32 → Int32 → Int32 → gS → Option (Int32 × gS)} {x1 : Int32} {x2 : Int32} {x3 : Int32} {S : gS} {H : Heap} {locs : List Loc} {ls : Array Slot} {o : Int32 × gS} (C : gC p s m args meth c cX12_tellGains 7 RX12 none D (mtys cI cS) mord g Am) (O : gO (mcell g cI cS sa) mord g) (K11 : ∀ (x1 : Int32) (x2 : Int32) (x3 : Int32) (S : gS) (H : Heap) (locs : List Loc) (ls : Array Slot), gX D (mcell g cI cS sa) mord g S s H locs → lv_has ls 7 [(0, .ref (g 99)), (1, .int x1), (2, .int x2), (3, .int x3)] → r11 x1 x2 x3 S = some o → W p l e (rmd 6) s m args below meth c H locs 0 0 (gE below args s D (mtys cI cS) (mcell g cI cS sa) mord g none o.2) (F0 m 11 ls [])) (X : gX D (mcell g cI cS sa) mord g S s H locs) (hl : lv_has ls 7 [(0, .ref (g 99)), (1, .int x1), (2, .int x2), (3, .int x3)]) (hF : fX12_tellGains_b16 N r11 x1 x2 x3 S = some o) : W p l e (rmd 6) s m args below meth c H locs 0 0 (gE below args s D (mtys cI cS) (mcell g cI cS sa) mord g none o.2) (F0 m 16 ls []) := by
  unfold fX12_tellGains_b16 at hF
  refine lv_iload_n C.1.1 C.1.2.1 dX12_tellGains_16 rfl (lv_at hl 3 rfl) ?_
  refine lv_iconst (v := 2) C.1.1 C.1.2.1 dX12_tellGains_17 (by decide) ?_
  refine lv_idiv C.1.1 C.1.2.1 dX12_tellGains_18 (by decide) ?_
  refine lv_iconst (v := 1) C.1.1 C.1.2.1 dX12_tellGains_19 (by decide) ?_
  refine lv_icmp_ne (tgt := 28) C.1.1 C.1.2.1 dX12_tellGains_20 (by decide) (fun h_z => ?_) (fun h_z => ?_)
  · rw [if_neg h_z] at hF
    exact bX12_tellGains_28 C O K11 X (lv_sub hl [0, 1, 2, 3] rfl) hF
  · rw [if_pos h_z] at hF
    exact bX12_tellGains_23 C O K11 X (lv_sub hl [0, 1, 2, 3] rfl) hF
noncomputable def fX12_tellGains_b11 (N : Nat) (r11 : Int32 → Int32 → Int32 → gS → Option (Int32 × gS)) (x1 : Int32) (x2 : Int32) (x3 : Int32) (S : gS) : Option (Int32 × gS) := if 4 ≤ x3 then fX12_tellGains_b173 N S else fX12_tellGains_b16 N r11 x1 x2 x3 S
theorem bX12_tellGains_11 {N : Nat} {r11 : Int32 → Int32 → Int32 → gS → Option (Int32 × gS)} {x1 : Int32} {x2 : Int32} {x3 : Int32} {S : gS} {H : Heap} {locs : List Loc} {ls : Array Slot} {o : Int32 × gS} (C : gC p s m args meth c cX12_tellGains 7 RX12 none D (mtys cI cS) mord g Am) (O : gO (mcell g cI cS sa) mord g) (K11 : ∀ (x1 : Int32) (x2 : Int32) (x3 : Int32) (S : gS) (H : Heap) (locs : List Loc) (ls : Array Slot), gX D (mcell g cI cS sa) mord g S s H locs → lv_has ls 7 [(0, .ref (g 99)), (1, .int x1), (2, .int x2), (3, .int x3)] → r11 x1 x2 x3 S = some o → W p l e (rmd 6) s m args below meth c H locs 0 0 (gE below args s D (mtys cI cS) (mcell g cI cS sa) mord g none o.2) (F0 m 11 ls [])) (X : gX D (mcell g cI cS sa) mord g S s H locs) (hl : lv_has ls 7 [(0, .ref (g 99)), (1, .int x1), (2, .int x2), (3, .int x3)]) (hF : fX12_tellGains_b11 N r11 x1 x2 x3 S = some o) : W p l e (rmd 6) s m args below meth c H locs 0 0 (gE below args s D (mtys cI cS) (mcell g cI cS sa) mord g none o.2) (F0 m 11 ls []) := by
  unfold fX12_tellGains_b11 at hF
  refine lv_iload_n C.1.1 C.1.2.1 dX12_tellGains_11 rfl (lv_at hl 3 rfl) ?_
  refine lv_iconst (v := 4) C.1.1 C.1.2.1 dX12_tellGains_12 (by decide) ?_
  refine lv_icmp_ge (tgt := 173) C.1.1 C.1.2.1 dX12_tellGains_13 (by decide) (fun h_z => ?_) (fun h_z => ?_)
  · rw [if_pos h_z] at hF
    exact bX12_tellGains_173 C O X (lv_sub hl [] rfl) hF
  · rw [if_neg h_z] at hF
    exact bX12_tellGains_16 C O K11 X (lv_sub hl [0, 1, 2, 3] rfl) hF
noncomputable def fX12_tellGains_h11 (N : Nat) : Nat → Int32 → Int32 → Int32 → gS → Option (Int32 × gS)
  | 0, _, _, _, _ => none
  | n + 1, x1, x2, x3, S => fX12_tellGains_b11 N (fX12_tellGains_h11 N n) x1 x2 x3 S
theorem hX12_tellGains_11 {N : Nat} {o : Int32 × gS} (C : gC p s m args meth c cX12_tellGains 7 RX12 none D (mtys cI cS) mord g Am) (O : gO (mcell g cI cS sa) mord g) : ∀ (n : Nat) (x1 : Int32) (x2 : Int32) (x3 : Int32) (S : gS) (H : Heap) (locs : List Loc) (ls : Array Slot), gX D (mcell g cI cS sa) mord g S s H locs → lv_has ls 7 [(0, .ref (g 99)), (1, .int x1), (2, .int x2), (3, .int x3)] → fX12_tellGains_h11 N n x1 x2 x3 S = some o → W p l e (rmd 6) s m args below meth c H locs 0 0 (gE below args s D (mtys cI cS) (mcell g cI cS sa) mord g none o.2) (F0 m 11 ls []) := by
  intro n
  induction n with
  | zero =>
    intro x1 x2 x3 S H locs ls X hl hF
    exact absurd (show (none : Option (Int32 × gS)) = some o from hF) (by simp)
  | succ n ih =>
    intro x1 x2 x3 S H locs ls X hl hF
    have hF : fX12_tellGains_b11 N (fX12_tellGains_h11 N n) x1 x2 x3 S = some o := hF
    exact bX12_tellGains_11 C O ih X hl hF
noncomputable def fX12_tellGains_b0 (N : Nat) (x1 : Int32) (x2 : Int32) (S : gS) : Option (Int32 × gS) := bnd (fX12_pack N 46 0 S) fun q1 => (fX12_tellGains_h11 N N x1 x2 0 q1.2)
theorem bX12_tellGains_0 {N : Nat} {x1 : Int32} {x2 : Int32} {S : gS} {H : Heap} {locs : List Loc} {ls : Array Slot} {o : Int32 × gS} (C : gC p s m args meth c cX12_tellGains 7 RX12 none D (mtys cI cS) mord g Am) (O : gO (mcell g cI cS sa) mord g) (X : gX D (mcell g cI cS sa) mord g S s H locs) (hl : lv_has ls 7 [(0, .ref (g 99)), (1, .int x1), (2, .int x2)]) (hF : fX12_tellGains_b0 N x1 x2 S = some o) : W p l e (rmd 6) s m args below meth c H locs 0 0 (gE below args s D (mtys cI cS) (mcell g cI cS sa) mord g none o.2) (F0 m 0 ls []) := by
  unfold fX12_tellGains_b0 at hF
  refine lv_aload_n C.1.1 C.1.2.1 dX12_tellGains_0 rfl (lv_at hl 0 rfl) ?_
  refine lv_aload_n C.1.1 C.1.2.1 dX12_tellGains_1 rfl (lv_at hl 0 rfl) ?_
  refine m_g46 C X dX12_tellGains_2 ?_
  refine lv_iconst (v := 0) C.1.1 C.1.2.1 dX12_tellGains_5 (by decide) ?_
  obtain ⟨q1, hq1, hF⟩ := bnd_some hF
  refine m_callV C X vX12_pack rfl (kX12_pack O C.2.2.2.2.1 N 46 0 (rfl : mI 46 = true) S q1 hq1) (Nat.le_of_ble_eq_true rfl) (Nat.le_of_ble_eq_true rfl) (Nat.le_of_ble_eq_true rfl) (Nat.le_of_ble_eq_true rfl) rfl hl.1 rfl (Nat.le_of_ble_eq_true rfl) dX12_tellGains_6 (fun H locs X => ?_)
  refine lv_iconst (v := 0) C.1.1 C.1.2.1 dX12_tellGains_9 (by decide) ?_
  refine lv_istore_n (lv' := [(3, .int 0), (0, .ref (g 99)), (1, .int x1), (2, .int x2)]) C.1.1 C.1.2.1 dX12_tellGains_10 rfl hl (by decide) rfl (fun ls hl => ?_)
  exact hX12_tellGains_11 C O N _ _ _ _ _ _ _ X (lv_sub hl [1, 2, 3, 0] rfl) hF
noncomputable def fX12_tellGains (N : Nat) (x1 : Int32) (x2 : Int32) (S : gS) : Option (Int32 × gS) := fX12_tellGains_b0 N x1 x2 S
theorem kX12_tellGains {l : Launch} {D : va_G} {g : Nat → Nat} {cI cS : ClassId} {sa : Nat → Nat → Option Nat} {Am : (Nat → Prop) → State → Heap → Prop} (O : gO (mcell g cI cS sa) mord g) (P : gAm Am) (N : Nat) (x1 : Int32) (x2 : Int32) (S : gS) (o : Int32 × gS) (hF : fX12_tellGains N x1 x2 S = some o) : gM l yX12_tellGains cX12_tellGains 7 none 6 D (mtys cI cS) (mcell g cI cS sa) mord g Am [.ref (g 99), .int x1, .int x2] S none o.2 :=
  gM_of O P (by decide) (Nat.le_of_ble_eq_true rfl) (fun p e s m args below meth c ls C X hl => bX12_tellGains_0 C O X (lv_sub hl [0, 1, 2] rfl) hF)
-- game
noncomputable def fX12_game_b219 (N : Nat) (t0 : Int32) (S : gS) : Option (Int32 × gS) := some (t0, S)
theorem bX12_game_219 {N : Nat} {t0 : Int32} {S : gS} {H : Heap} {locs : List Loc} {ls : Array Slot} {o : Int32 × gS} (C : gC p s m args meth c cX12_game 9 RX12 ((some .int)) D (mtys cI cS) mord g Am) (O : gO (mcell g cI cS sa) mord g) (X : gX D (mcell g cI cS sa) mord g S s H locs) (hl : lv_has ls 9 []) (hF : fX12_game_b219 N t0 S = some o) : W p l e (rmd 7) s m args below meth c H locs 0 0 (gE below args s D (mtys cI cS) (mcell g cI cS sa) mord g (some (.int o.1)) o.2) (F0 m 219 ls [.int t0]) := by
  unfold fX12_game_b219 at hF
  cases hF
  exact g_iret C X dX12_game_219
noncomputable def fX12_game_b217 (N : Nat) (x7 : Int32) (S : gS) : Option (Int32 × gS) := fX12_game_b219 N x7 S
theorem bX12_game_217 {N : Nat} {x7 : Int32} {S : gS} {H : Heap} {locs : List Loc} {ls : Array Slot} {o : Int32 × gS} (C : gC p s m args meth c cX12_game 9 RX12 ((some .int)) D (mtys cI cS) mord g Am) (O : gO (mcell g cI cS sa) mord g) (X : gX D (mcell g cI cS sa) mord g S s H locs) (hl : lv_has ls 9 [(7, .int x7)]) (hF : fX12_game_b217 N x7 S = some o) : W p l e (rmd 7) s m args below meth c H locs 0 0 (gE below args s D (mtys cI cS) (mcell g cI cS sa) mord g (some (.int o.1)) o.2) (F0 m 217 ls []) := by
  unfold fX12_game_b217 at hF
  refine lv_iload C.1.1 C.1.2.1 dX12_game_217 (lv_at hl 0 rfl) ?_
  exact bX12_game_219 C O X (lv_sub hl [] rfl) hF
noncomputable def fX12_game_b212 (N : Nat) (x6 : Int32) (S : gS) : Option (Int32 × gS) := fX12_game_b219 N x6 S
theorem bX12_game_212 {N : Nat} {x6 : Int32} {S : gS} {H : Heap} {locs : List Loc} {ls : Array Slot} {o : Int32 × gS} (C : gC p s m args meth c cX12_game 9 RX12 ((some .int)) D (mtys cI cS) mord g Am) (O : gO (mcell g cI cS sa) mord g) (X : gX D (mcell g cI cS sa) mord g S s H locs) (hl : lv_has ls 9 [(6, .int x6)]) (hF : fX12_game_b212 N x6 S = some o) : W p l e (rmd 7) s m args below meth c H locs 0 0 (gE below args s D (mtys cI cS) (mcell g cI cS sa) mord g (some (.int o.1)) o.2) (F0 m 212 ls []) := by
  unfold fX12_game_b212 at hF
  refine lv_iload C.1.1 C.1.2.1 dX12_game_212 (lv_at hl 0 rfl) ?_
  refine lv_goto (tgt := 219) C.1.1 C.1.2.1 dX12_game_214 (by decide) ?_
  exact bX12_game_219 C O X (lv_sub hl [] rfl) hF
noncomputable def fX12_game_b208 (N : Nat) (x3 : Int32) (x6 : Int32) (x7 : Int32) (S : gS) : Option (Int32 × gS) := if x3 = 0 then fX12_game_b212 N x6 S else fX12_game_b217 N x7 S
theorem bX12_game_208 {N : Nat} {x3 : Int32} {x6 : Int32} {x7 : Int32} {S : gS} {H : Heap} {locs : List Loc} {ls : Array Slot} {o : Int32 × gS} (C : gC p s m args meth c cX12_game 9 RX12 ((some .int)) D (mtys cI cS) mord g Am) (O : gO (mcell g cI cS sa) mord g) (X : gX D (mcell g cI cS sa) mord g S s H locs) (hl : lv_has ls 9 [(3, .int x3), (6, .int x6), (7, .int x7)]) (hF : fX12_game_b208 N x3 x6 x7 S = some o) : W p l e (rmd 7) s m args below meth c H locs 0 0 (gE below args s D (mtys cI cS) (mcell g cI cS sa) mord g (some (.int o.1)) o.2) (F0 m 208 ls []) := by
  unfold fX12_game_b208 at hF
  refine lv_iload_n C.1.1 C.1.2.1 dX12_game_208 rfl (lv_at hl 0 rfl) ?_
  refine lv_if_ne (tgt := 217) C.1.1 C.1.2.1 dX12_game_209 (by decide) (fun h_z => ?_) (fun h_z => ?_)
  · rw [if_neg h_z] at hF
    exact bX12_game_217 C O X (lv_sub hl [2] rfl) hF
  · rw [if_pos h_z] at hF
    exact bX12_game_212 C O X (lv_sub hl [1] rfl) hF
noncomputable def fX12_game_b202 (N : Nat) (r76 : Int32 → Int32 → Int32 → Int32 → Int32 → Int32 → gS → Option (Int32 × gS)) (x3 : Int32) (x4 : Int32) (x5 : Int32) (x6 : Int32) (x7 : Int32) (x8 : Int32) (S : gS) : Option (Int32 × gS) := r76 x3 x4 x5 x6 x7 ((x8 + 1 : Int32)) S
theorem bX12_game_202 {N : Nat} {r76 : Int32 → Int32 → Int32 → Int32 → Int32 → Int32 → gS → Option (Int32 × gS)} {x3 : Int32} {x4 : Int32} {x5 : Int32} {x6 : Int32} {x7 : Int32} {x8 : Int32} {S : gS} {H : Heap} {locs : List Loc} {ls : Array Slot} {o : Int32 × gS} (C : gC p s m args meth c cX12_game 9 RX12 ((some .int)) D (mtys cI cS) mord g Am) (O : gO (mcell g cI cS sa) mord g) (K76 : ∀ (x3 : Int32) (x4 : Int32) (x5 : Int32) (x6 : Int32) (x7 : Int32) (x8 : Int32) (S : gS) (H : Heap) (locs : List Loc) (ls : Array Slot), gX D (mcell g cI cS sa) mord g S s H locs → lv_has ls 9 [(0, .ref (g 99)), (3, .int x3), (4, .int x4), (5, .int x5), (6, .int x6), (7, .int x7), (8, .int x8)] → r76 x3 x4 x5 x6 x7 x8 S = some o → W p l e (rmd 7) s m args below meth c H locs 0 0 (gE below args s D (mtys cI cS) (mcell g cI cS sa) mord g (some (.int o.1)) o.2) (F0 m 76 ls [])) (X : gX D (mcell g cI cS sa) mord g S s H locs) (hl : lv_has ls 9 [(0, .ref (g 99)), (3, .int x3), (4, .int x4), (5, .int x5), (6, .int x6), (7, .int x7), (8, .int x8)]) (hF : fX12_game_b202 N r76 x3 x4 x5 x6 x7 x8 S = some o) : W p l e (rmd 7) s m args below meth c H locs 0 0 (gE below args s D (mtys cI cS) (mcell g cI cS sa) mord g (some (.int o.1)) o.2) (F0 m 202 ls []) := by
  unfold fX12_game_b202 at hF
  refine lv_iinc (v := (x8 + 1 : Int32)) (lv' := [(8, .int ((x8 + 1 : Int32))), (0, .ref (g 99)), (3, .int x3), (4, .int x4), (5, .int x5), (6, .int x6), (7, .int x7)]) C.1.1 C.1.2.1 dX12_game_202 hl (k := 6) rfl rfl (by decide) rfl (fun ls hl => ?_)
  refine lv_goto (tgt := 76) C.1.1 C.1.2.1 dX12_game_205 (by decide) ?_
  exact K76 _ _ _ _ _ _ _ _ _ _ X (lv_sub hl [1, 2, 3, 4, 5, 6, 0] rfl) hF
noncomputable def fX12_game_b200 (N : Nat) (r76 : Int32 → Int32 → Int32 → Int32 → Int32 → Int32 → gS → Option (Int32 × gS)) (x3 : Int32) (x4 : Int32) (x5 : Int32) (x6 : Int32) (x8 : Int32) (t0 : Int32) (S : gS) : Option (Int32 × gS) := fX12_game_b202 N r76 x3 x4 x5 x6 t0 x8 S
theorem bX12_game_200 {N : Nat} {r76 : Int32 → Int32 → Int32 → Int32 → Int32 → Int32 → gS → Option (Int32 × gS)} {x3 : Int32} {x4 : Int32} {x5 : Int32} {x6 : Int32} {x8 : Int32} {t0 : Int32} {S : gS} {H : Heap} {locs : List Loc} {ls : Array Slot} {o : Int32 × gS} (C : gC p s m args meth c cX12_game 9 RX12 ((some .int)) D (mtys cI cS) mord g Am) (O : gO (mcell g cI cS sa) mord g) (K76 : ∀ (x3 : Int32) (x4 : Int32) (x5 : Int32) (x6 : Int32) (x7 : Int32) (x8 : Int32) (S : gS) (H : Heap) (locs : List Loc) (ls : Array Slot), gX D (mcell g cI cS sa) mord g S s H locs → lv_has ls 9 [(0, .ref (g 99)), (3, .int x3), (4, .int x4), (5, .int x5), (6, .int x6), (7, .int x7), (8, .int x8)] → r76 x3 x4 x5 x6 x7 x8 S = some o → W p l e (rmd 7) s m args below meth c H locs 0 0 (gE below args s D (mtys cI cS) (mcell g cI cS sa) mord g (some (.int o.1)) o.2) (F0 m 76 ls [])) (X : gX D (mcell g cI cS sa) mord g S s H locs) (hl : lv_has ls 9 [(0, .ref (g 99)), (3, .int x3), (4, .int x4), (5, .int x5), (6, .int x6), (8, .int x8)]) (hF : fX12_game_b200 N r76 x3 x4 x5 x6 x8 t0 S = some o) : W p l e (rmd 7) s m args below meth c H locs 0 0 (gE below args s D (mtys cI cS) (mcell g cI cS sa) mord g (some (.int o.1)) o.2) (F0 m 200 ls [.int t0]) := by
  unfold fX12_game_b200 at hF
  refine lv_istore (lv' := [(7, .int t0), (0, .ref (g 99)), (3, .int x3), (4, .int x4), (5, .int x5), (6, .int x6), (8, .int x8)]) C.1.1 C.1.2.1 dX12_game_200 hl (by decide) rfl (fun ls hl => ?_)
  exact bX12_game_202 C O K76 X (lv_sub hl [1, 2, 3, 4, 5, 0, 6] rfl) hF
noncomputable def fX12_game_b198 (N : Nat) (r76 : Int32 → Int32 → Int32 → Int32 → Int32 → Int32 → gS → Option (Int32 × gS)) (x3 : Int32) (x4 : Int32) (x5 : Int32) (x6 : Int32) (x7 : Int32) (x8 : Int32) (S : gS) : Option (Int32 × gS) := fX12_game_b200 N r76 x3 x4 x5 x6 x8 x7 S
theorem bX12_game_198 {N : Nat} {r76 : Int32 → Int32 → Int32 → Int32 → Int32 → Int32 → gS → Option (Int32 × gS)} {x3 : Int32} {x4 : Int32} {x5 : Int32} {x6 : Int32} {x7 : Int32} {x8 : Int32} {S : gS} {H : Heap} {locs : List Loc} {ls : Array Slot} {o : Int32 × gS} (C : gC p s m args meth c cX12_game 9 RX12 ((some .int)) D (mtys cI cS) mord g Am) (O : gO (mcell g cI cS sa) mord g) (K76 : ∀ (x3 : Int32) (x4 : Int32) (x5 : Int32) (x6 : Int32) (x7 : Int32) (x8 : Int32) (S : gS) (H : Heap) (locs : List Loc) (ls : Array Slot), gX D (mcell g cI cS sa) mord g S s H locs → lv_has ls 9 [(0, .ref (g 99)), (3, .int x3), (4, .int x4), (5, .int x5), (6, .int x6), (7, .int x7), (8, .int x8)] → r76 x3 x4 x5 x6 x7 x8 S = some o → W p l e (rmd 7) s m args below meth c H locs 0 0 (gE below args s D (mtys cI cS) (mcell g cI cS sa) mord g (some (.int o.1)) o.2) (F0 m 76 ls [])) (X : gX D (mcell g cI cS sa) mord g S s H locs) (hl : lv_has ls 9 [(0, .ref (g 99)), (3, .int x3), (4, .int x4), (5, .int x5), (6, .int x6), (7, .int x7), (8, .int x8)]) (hF : fX12_game_b198 N r76 x3 x4 x5 x6 x7 x8 S = some o) : W p l e (rmd 7) s m args below meth c H locs 0 0 (gE below args s D (mtys cI cS) (mcell g cI cS sa) mord g (some (.int o.1)) o.2) (F0 m 198 ls []) := by
  unfold fX12_game_b198 at hF
  refine lv_iload C.1.1 C.1.2.1 dX12_game_198 (lv_at hl 5 rfl) ?_
  exact bX12_game_200 C O K76 X (lv_sub hl [0, 1, 2, 3, 4, 6] rfl) hF
noncomputable def fX12_game_b183 (N : Nat) (r76 : Int32 → Int32 → Int32 → Int32 → Int32 → Int32 → gS → Option (Int32 × gS)) (x3 : Int32) (x4 : Int32) (x5 : Int32) (x6 : Int32) (x8 : Int32) (S : gS) : Option (Int32 × gS) := fX12_game_b200 N r76 x3 x4 x5 x6 x8 ((((10 * ((x8 / 2 : Int32)) : Int32)) + ((x8 - x8 / 2 * 2 : Int32)) : Int32)) S
theorem bX12_game_183 {N : Nat} {r76 : Int32 → Int32 → Int32 → Int32 → Int32 → Int32 → gS → Option (Int32 × gS)} {x3 : Int32} {x4 : Int32} {x5 : Int32} {x6 : Int32} {x8 : Int32} {S : gS} {H : Heap} {locs : List Loc} {ls : Array Slot} {o : Int32 × gS} (C : gC p s m args meth c cX12_game 9 RX12 ((some .int)) D (mtys cI cS) mord g Am) (O : gO (mcell g cI cS sa) mord g) (K76 : ∀ (x3 : Int32) (x4 : Int32) (x5 : Int32) (x6 : Int32) (x7 : Int32) (x8 : Int32) (S : gS) (H : Heap) (locs : List Loc) (ls : Array Slot), gX D (mcell g cI cS sa) mord g S s H locs → lv_has ls 9 [(0, .ref (g 99)), (3, .int x3), (4, .int x4), (5, .int x5), (6, .int x6), (7, .int x7), (8, .int x8)] → r76 x3 x4 x5 x6 x7 x8 S = some o → W p l e (rmd 7) s m args below meth c H locs 0 0 (gE below args s D (mtys cI cS) (mcell g cI cS sa) mord g (some (.int o.1)) o.2) (F0 m 76 ls [])) (X : gX D (mcell g cI cS sa) mord g S s H locs) (hl : lv_has ls 9 [(0, .ref (g 99)), (3, .int x3), (4, .int x4), (5, .int x5), (6, .int x6), (8, .int x8)]) (hF : fX12_game_b183 N r76 x3 x4 x5 x6 x8 S = some o) : W p l e (rmd 7) s m args below meth c H locs 0 0 (gE below args s D (mtys cI cS) (mcell g cI cS sa) mord g (some (.int o.1)) o.2) (F0 m 183 ls []) := by
  unfold fX12_game_b183 at hF
  refine lv_bipush (v := 10) C.1.1 C.1.2.1 dX12_game_183 (by decide) ?_
  refine lv_iload C.1.1 C.1.2.1 dX12_game_185 (lv_at hl 5 rfl) ?_
  refine lv_iconst (v := 2) C.1.1 C.1.2.1 dX12_game_187 (by decide) ?_
  refine lv_idiv C.1.1 C.1.2.1 dX12_game_188 (by decide) ?_
  refine lv_imul C.1.1 C.1.2.1 dX12_game_189 ?_
  refine lv_iload C.1.1 C.1.2.1 dX12_game_190 (lv_at hl 5 rfl) ?_
  refine lv_iconst (v := 2) C.1.1 C.1.2.1 dX12_game_192 (by decide) ?_
  refine lv_irem C.1.1 C.1.2.1 dX12_game_193 (by decide) ?_
  refine lv_iadd C.1.1 C.1.2.1 dX12_game_194 ?_
  refine lv_goto (tgt := 200) C.1.1 C.1.2.1 dX12_game_195 (by decide) ?_
  exact bX12_game_200 C O K76 X (lv_sub hl [0, 1, 2, 3, 4, 5] rfl) hF
noncomputable def fX12_game_b174 (N : Nat) (r76 : Int32 → Int32 → Int32 → Int32 → Int32 → Int32 → gS → Option (Int32 × gS)) (x3 : Int32) (x4 : Int32) (x5 : Int32) (x6 : Int32) (x7 : Int32) (x8 : Int32) (S : gS) : Option (Int32 × gS) := if x7 = ((-1)) then fX12_game_b183 N r76 x3 x4 x5 ((x6 + 1 : Int32)) x8 S else fX12_game_b198 N r76 x3 x4 x5 ((x6 + 1 : Int32)) x7 x8 S
theorem bX12_game_174 {N : Nat} {r76 : Int32 → Int32 → Int32 → Int32 → Int32 → Int32 → gS → Option (Int32 × gS)} {x3 : Int32} {x4 : Int32} {x5 : Int32} {x6 : Int32} {x7 : Int32} {x8 : Int32} {S : gS} {H : Heap} {locs : List Loc} {ls : Array Slot} {o : Int32 × gS} (C : gC p s m args meth c cX12_game 9 RX12 ((some .int)) D (mtys cI cS) mord g Am) (O : gO (mcell g cI cS sa) mord g) (K76 : ∀ (x3 : Int32) (x4 : Int32) (x5 : Int32) (x6 : Int32) (x7 : Int32) (x8 : Int32) (S : gS) (H : Heap) (locs : List Loc) (ls : Array Slot), gX D (mcell g cI cS sa) mord g S s H locs → lv_has ls 9 [(0, .ref (g 99)), (3, .int x3), (4, .int x4), (5, .int x5), (6, .int x6), (7, .int x7), (8, .int x8)] → r76 x3 x4 x5 x6 x7 x8 S = some o → W p l e (rmd 7) s m args below meth c H locs 0 0 (gE below args s D (mtys cI cS) (mcell g cI cS sa) mord g (some (.int o.1)) o.2) (F0 m 76 ls [])) (X : gX D (mcell g cI cS sa) mord g S s H locs) (hl : lv_has ls 9 [(0, .ref (g 99)), (3, .int x3), (4, .int x4), (5, .int x5), (6, .int x6), (7, .int x7), (8, .int x8)]) (hF : fX12_game_b174 N r76 x3 x4 x5 x6 x7 x8 S = some o) : W p l e (rmd 7) s m args below meth c H locs 0 0 (gE below args s D (mtys cI cS) (mcell g cI cS sa) mord g (some (.int o.1)) o.2) (F0 m 174 ls []) := by
  unfold fX12_game_b174 at hF
  refine lv_iinc (v := (x6 + 1 : Int32)) (lv' := [(6, .int ((x6 + 1 : Int32))), (0, .ref (g 99)), (3, .int x3), (4, .int x4), (5, .int x5), (7, .int x7), (8, .int x8)]) C.1.1 C.1.2.1 dX12_game_174 hl (k := 4) rfl rfl (by decide) rfl (fun ls hl => ?_)
  refine lv_iload C.1.1 C.1.2.1 dX12_game_177 (lv_at hl 5 rfl) ?_
  refine lv_iconst (v := (-1)) C.1.1 C.1.2.1 dX12_game_179 (by decide) ?_
  refine lv_icmp_ne (tgt := 198) C.1.1 C.1.2.1 dX12_game_180 (by decide) (fun h_z => ?_) (fun h_z => ?_)
  · rw [if_neg h_z] at hF
    exact bX12_game_198 C O K76 X (lv_sub hl [1, 2, 3, 4, 0, 5, 6] rfl) hF
  · rw [if_pos h_z] at hF
    exact bX12_game_183 C O K76 X (lv_sub hl [1, 2, 3, 4, 0, 6] rfl) hF
noncomputable def fX12_game_b171 (N : Nat) (r76 : Int32 → Int32 → Int32 → Int32 → Int32 → Int32 → gS → Option (Int32 × gS)) (x3 : Int32) (x4 : Int32) (x5 : Int32) (x6 : Int32) (x7 : Int32) (x8 : Int32) (S : gS) : Option (Int32 × gS) := fX12_game_b202 N r76 x3 x4 x5 x6 x7 x8 S
theorem bX12_game_171 {N : Nat} {r76 : Int32 → Int32 → Int32 → Int32 → Int32 → Int32 → gS → Option (Int32 × gS)} {x3 : Int32} {x4 : Int32} {x5 : Int32} {x6 : Int32} {x7 : Int32} {x8 : Int32} {S : gS} {H : Heap} {locs : List Loc} {ls : Array Slot} {o : Int32 × gS} (C : gC p s m args meth c cX12_game 9 RX12 ((some .int)) D (mtys cI cS) mord g Am) (O : gO (mcell g cI cS sa) mord g) (K76 : ∀ (x3 : Int32) (x4 : Int32) (x5 : Int32) (x6 : Int32) (x7 : Int32) (x8 : Int32) (S : gS) (H : Heap) (locs : List Loc) (ls : Array Slot), gX D (mcell g cI cS sa) mord g S s H locs → lv_has ls 9 [(0, .ref (g 99)), (3, .int x3), (4, .int x4), (5, .int x5), (6, .int x6), (7, .int x7), (8, .int x8)] → r76 x3 x4 x5 x6 x7 x8 S = some o → W p l e (rmd 7) s m args below meth c H locs 0 0 (gE below args s D (mtys cI cS) (mcell g cI cS sa) mord g (some (.int o.1)) o.2) (F0 m 76 ls [])) (X : gX D (mcell g cI cS sa) mord g S s H locs) (hl : lv_has ls 9 [(0, .ref (g 99)), (3, .int x3), (4, .int x4), (5, .int x5), (6, .int x6), (7, .int x7), (8, .int x8)]) (hF : fX12_game_b171 N r76 x3 x4 x5 x6 x7 x8 S = some o) : W p l e (rmd 7) s m args below meth c H locs 0 0 (gE below args s D (mtys cI cS) (mcell g cI cS sa) mord g (some (.int o.1)) o.2) (F0 m 171 ls []) := by
  unfold fX12_game_b171 at hF
  refine lv_goto (tgt := 202) C.1.1 C.1.2.1 dX12_game_171 (by decide) ?_
  exact bX12_game_202 C O K76 X (lv_sub hl [0, 1, 2, 3, 4, 5, 6] rfl) hF
noncomputable def fX12_game_b144 (N : Nat) (r76 : Int32 → Int32 → Int32 → Int32 → Int32 → Int32 → gS → Option (Int32 × gS)) (x3 : Int32) (x4 : Int32) (x5 : Int32) (x6 : Int32) (x7 : Int32) (x8 : Int32) (S : gS) : Option (Int32 × gS) := chk (inb ((((2 * ((x8 ^^^ 1 : Int32)) : Int32)) + 1 : Int32)) (8)) (chk (inb ((((2 * x8 : Int32)) + 1 : Int32)) (8)) (if (S 55 (Int32.toNatClampNeg ((((2 * ((x8 ^^^ 1 : Int32)) : Int32)) + 1 : Int32)))) ≤ (S 55 (Int32.toNatClampNeg ((((2 * x8 : Int32)) + 1 : Int32)))) then fX12_game_b174 N r76 x3 x4 x5 x6 x7 x8 S else fX12_game_b171 N r76 x3 x4 x5 x6 x7 x8 S))
theorem bX12_game_144 {N : Nat} {r76 : Int32 → Int32 → Int32 → Int32 → Int32 → Int32 → gS → Option (Int32 × gS)} {x3 : Int32} {x4 : Int32} {x5 : Int32} {x6 : Int32} {x7 : Int32} {x8 : Int32} {S : gS} {H : Heap} {locs : List Loc} {ls : Array Slot} {o : Int32 × gS} (C : gC p s m args meth c cX12_game 9 RX12 ((some .int)) D (mtys cI cS) mord g Am) (O : gO (mcell g cI cS sa) mord g) (K76 : ∀ (x3 : Int32) (x4 : Int32) (x5 : Int32) (x6 : Int32) (x7 : Int32) (x8 : Int32) (S : gS) (H : Heap) (locs : List Loc) (ls : Array Slot), gX D (mcell g cI cS sa) mord g S s H locs → lv_has ls 9 [(0, .ref (g 99)), (3, .int x3), (4, .int x4), (5, .int x5), (6, .int x6), (7, .int x7), (8, .int x8)] → r76 x3 x4 x5 x6 x7 x8 S = some o → W p l e (rmd 7) s m args below meth c H locs 0 0 (gE below args s D (mtys cI cS) (mcell g cI cS sa) mord g (some (.int o.1)) o.2) (F0 m 76 ls [])) (X : gX D (mcell g cI cS sa) mord g S s H locs) (hl : lv_has ls 9 [(0, .ref (g 99)), (3, .int x3), (4, .int x4), (5, .int x5), (6, .int x6), (7, .int x7), (8, .int x8)]) (hF : fX12_game_b144 N r76 x3 x4 x5 x6 x7 x8 S = some o) : W p l e (rmd 7) s m args below meth c H locs 0 0 (gE below args s D (mtys cI cS) (mcell g cI cS sa) mord g (some (.int o.1)) o.2) (F0 m 144 ls []) := by
  unfold fX12_game_b144 at hF
  refine lv_aload_n C.1.1 C.1.2.1 dX12_game_144 rfl (lv_at hl 0 rfl) ?_
  refine m_g55 C X dX12_game_145 ?_
  refine lv_iconst (v := 2) C.1.1 C.1.2.1 dX12_game_148 (by decide) ?_
  refine lv_iload C.1.1 C.1.2.1 dX12_game_149 (lv_at hl 6 rfl) ?_
  refine lv_iconst (v := 1) C.1.1 C.1.2.1 dX12_game_151 (by decide) ?_
  refine lv_ixor C.1.1 C.1.2.1 dX12_game_152 ?_
  refine lv_imul C.1.1 C.1.2.1 dX12_game_153 ?_
  refine lv_iconst (v := 1) C.1.1 C.1.2.1 dX12_game_154 (by decide) ?_
  refine lv_iadd C.1.1 C.1.2.1 dX12_game_155 ?_
  obtain ⟨h_1, hF⟩ := chk_some hF
  refine m_r55 C X  (inb_vp h_1) rfl dX12_game_156 ?_
  refine lv_aload_n C.1.1 C.1.2.1 dX12_game_157 rfl (lv_at hl 0 rfl) ?_
  refine m_g55 C X dX12_game_158 ?_
  refine lv_iconst (v := 2) C.1.1 C.1.2.1 dX12_game_161 (by decide) ?_
  refine lv_iload C.1.1 C.1.2.1 dX12_game_162 (lv_at hl 6 rfl) ?_
  refine lv_imul C.1.1 C.1.2.1 dX12_game_164 ?_
  refine lv_iconst (v := 1) C.1.1 C.1.2.1 dX12_game_165 (by decide) ?_
  refine lv_iadd C.1.1 C.1.2.1 dX12_game_166 ?_
  obtain ⟨h_2, hF⟩ := chk_some hF
  refine m_r55 C X  (inb_vp h_2) rfl dX12_game_167 ?_
  refine lv_icmp_le (tgt := 174) C.1.1 C.1.2.1 dX12_game_168 (by decide) (fun h_z => ?_) (fun h_z => ?_)
  · rw [if_pos h_z] at hF
    exact bX12_game_174 C O K76 X (lv_sub hl [0, 1, 2, 3, 4, 5, 6] rfl) hF
  · rw [if_neg h_z] at hF
    exact bX12_game_171 C O K76 X (lv_sub hl [0, 1, 2, 3, 4, 5, 6] rfl) hF
noncomputable def fX12_game_b139 (N : Nat) (r76 : Int32 → Int32 → Int32 → Int32 → Int32 → Int32 → gS → Option (Int32 × gS)) (x3 : Int32) (x4 : Int32) (x5 : Int32) (x6 : Int32) (x7 : Int32) (x8 : Int32) (S : gS) : Option (Int32 × gS) := if x5 = 0 then fX12_game_b174 N r76 x3 x4 x5 x6 x7 x8 S else fX12_game_b144 N r76 x3 x4 x5 x6 x7 x8 S
theorem bX12_game_139 {N : Nat} {r76 : Int32 → Int32 → Int32 → Int32 → Int32 → Int32 → gS → Option (Int32 × gS)} {x3 : Int32} {x4 : Int32} {x5 : Int32} {x6 : Int32} {x7 : Int32} {x8 : Int32} {S : gS} {H : Heap} {locs : List Loc} {ls : Array Slot} {o : Int32 × gS} (C : gC p s m args meth c cX12_game 9 RX12 ((some .int)) D (mtys cI cS) mord g Am) (O : gO (mcell g cI cS sa) mord g) (K76 : ∀ (x3 : Int32) (x4 : Int32) (x5 : Int32) (x6 : Int32) (x7 : Int32) (x8 : Int32) (S : gS) (H : Heap) (locs : List Loc) (ls : Array Slot), gX D (mcell g cI cS sa) mord g S s H locs → lv_has ls 9 [(0, .ref (g 99)), (3, .int x3), (4, .int x4), (5, .int x5), (6, .int x6), (7, .int x7), (8, .int x8)] → r76 x3 x4 x5 x6 x7 x8 S = some o → W p l e (rmd 7) s m args below meth c H locs 0 0 (gE below args s D (mtys cI cS) (mcell g cI cS sa) mord g (some (.int o.1)) o.2) (F0 m 76 ls [])) (X : gX D (mcell g cI cS sa) mord g S s H locs) (hl : lv_has ls 9 [(0, .ref (g 99)), (3, .int x3), (4, .int x4), (5, .int x5), (6, .int x6), (7, .int x7), (8, .int x8)]) (hF : fX12_game_b139 N r76 x3 x4 x5 x6 x7 x8 S = some o) : W p l e (rmd 7) s m args below meth c H locs 0 0 (gE below args s D (mtys cI cS) (mcell g cI cS sa) mord g (some (.int o.1)) o.2) (F0 m 139 ls []) := by
  unfold fX12_game_b139 at hF
  refine lv_iload C.1.1 C.1.2.1 dX12_game_139 (lv_at hl 3 rfl) ?_
  refine lv_if_eq (tgt := 174) C.1.1 C.1.2.1 dX12_game_141 (by decide) (fun h_z => ?_) (fun h_z => ?_)
  · rw [if_pos h_z] at hF
    exact bX12_game_174 C O K76 X (lv_sub hl [0, 1, 2, 3, 4, 5, 6] rfl) hF
  · rw [if_neg h_z] at hF
    exact bX12_game_144 C O K76 X (lv_sub hl [0, 1, 2, 3, 4, 5, 6] rfl) hF
noncomputable def fX12_game_b116 (N : Nat) (r76 : Int32 → Int32 → Int32 → Int32 → Int32 → Int32 → gS → Option (Int32 × gS)) (x3 : Int32) (x4 : Int32) (x5 : Int32) (x6 : Int32) (x7 : Int32) (x8 : Int32) (S : gS) : Option (Int32 × gS) := chk (inb ((2 * ((x8 ^^^ 2 : Int32)) : Int32)) (8)) (chk (inb ((2 * x8 : Int32)) (8)) (if (S 55 (Int32.toNatClampNeg ((2 * x8 : Int32)))) < (S 55 (Int32.toNatClampNeg ((2 * ((x8 ^^^ 2 : Int32)) : Int32)))) then fX12_game_b202 N r76 x3 x4 x5 x6 x7 x8 S else fX12_game_b139 N r76 x3 x4 x5 x6 x7 x8 S))
theorem bX12_game_116 {N : Nat} {r76 : Int32 → Int32 → Int32 → Int32 → Int32 → Int32 → gS → Option (Int32 × gS)} {x3 : Int32} {x4 : Int32} {x5 : Int32} {x6 : Int32} {x7 : Int32} {x8 : Int32} {S : gS} {H : Heap} {locs : List Loc} {ls : Array Slot} {o : Int32 × gS} (C : gC p s m args meth c cX12_game 9 RX12 ((some .int)) D (mtys cI cS) mord g Am) (O : gO (mcell g cI cS sa) mord g) (K76 : ∀ (x3 : Int32) (x4 : Int32) (x5 : Int32) (x6 : Int32) (x7 : Int32) (x8 : Int32) (S : gS) (H : Heap) (locs : List Loc) (ls : Array Slot), gX D (mcell g cI cS sa) mord g S s H locs → lv_has ls 9 [(0, .ref (g 99)), (3, .int x3), (4, .int x4), (5, .int x5), (6, .int x6), (7, .int x7), (8, .int x8)] → r76 x3 x4 x5 x6 x7 x8 S = some o → W p l e (rmd 7) s m args below meth c H locs 0 0 (gE below args s D (mtys cI cS) (mcell g cI cS sa) mord g (some (.int o.1)) o.2) (F0 m 76 ls [])) (X : gX D (mcell g cI cS sa) mord g S s H locs) (hl : lv_has ls 9 [(0, .ref (g 99)), (3, .int x3), (4, .int x4), (5, .int x5), (6, .int x6), (7, .int x7), (8, .int x8)]) (hF : fX12_game_b116 N r76 x3 x4 x5 x6 x7 x8 S = some o) : W p l e (rmd 7) s m args below meth c H locs 0 0 (gE below args s D (mtys cI cS) (mcell g cI cS sa) mord g (some (.int o.1)) o.2) (F0 m 116 ls []) := by
  unfold fX12_game_b116 at hF
  refine lv_aload_n C.1.1 C.1.2.1 dX12_game_116 rfl (lv_at hl 0 rfl) ?_
  refine m_g55 C X dX12_game_117 ?_
  refine lv_iconst (v := 2) C.1.1 C.1.2.1 dX12_game_120 (by decide) ?_
  refine lv_iload C.1.1 C.1.2.1 dX12_game_121 (lv_at hl 6 rfl) ?_
  refine lv_iconst (v := 2) C.1.1 C.1.2.1 dX12_game_123 (by decide) ?_
  refine lv_ixor C.1.1 C.1.2.1 dX12_game_124 ?_
  refine lv_imul C.1.1 C.1.2.1 dX12_game_125 ?_
  obtain ⟨h_1, hF⟩ := chk_some hF
  refine m_r55 C X  (inb_vp h_1) rfl dX12_game_126 ?_
  refine lv_aload_n C.1.1 C.1.2.1 dX12_game_127 rfl (lv_at hl 0 rfl) ?_
  refine m_g55 C X dX12_game_128 ?_
  refine lv_iconst (v := 2) C.1.1 C.1.2.1 dX12_game_131 (by decide) ?_
  refine lv_iload C.1.1 C.1.2.1 dX12_game_132 (lv_at hl 6 rfl) ?_
  refine lv_imul C.1.1 C.1.2.1 dX12_game_134 ?_
  obtain ⟨h_2, hF⟩ := chk_some hF
  refine m_r55 C X  (inb_vp h_2) rfl dX12_game_135 ?_
  refine lv_icmp_gt (tgt := 202) C.1.1 C.1.2.1 dX12_game_136 (by decide) (fun h_z => ?_) (fun h_z => ?_)
  · rw [if_pos h_z] at hF
    exact bX12_game_202 C O K76 X (lv_sub hl [0, 1, 2, 3, 4, 5, 6] rfl) hF
  · rw [if_neg h_z] at hF
    exact bX12_game_139 C O K76 X (lv_sub hl [0, 1, 2, 3, 4, 5, 6] rfl) hF
noncomputable def fX12_game_b111 (N : Nat) (r76 : Int32 → Int32 → Int32 → Int32 → Int32 → Int32 → gS → Option (Int32 × gS)) (x3 : Int32) (x4 : Int32) (x5 : Int32) (x6 : Int32) (x7 : Int32) (x8 : Int32) (S : gS) : Option (Int32 × gS) := if x4 = 0 then fX12_game_b139 N r76 x3 x4 x5 x6 x7 x8 S else fX12_game_b116 N r76 x3 x4 x5 x6 x7 x8 S
theorem bX12_game_111 {N : Nat} {r76 : Int32 → Int32 → Int32 → Int32 → Int32 → Int32 → gS → Option (Int32 × gS)} {x3 : Int32} {x4 : Int32} {x5 : Int32} {x6 : Int32} {x7 : Int32} {x8 : Int32} {S : gS} {H : Heap} {locs : List Loc} {ls : Array Slot} {o : Int32 × gS} (C : gC p s m args meth c cX12_game 9 RX12 ((some .int)) D (mtys cI cS) mord g Am) (O : gO (mcell g cI cS sa) mord g) (K76 : ∀ (x3 : Int32) (x4 : Int32) (x5 : Int32) (x6 : Int32) (x7 : Int32) (x8 : Int32) (S : gS) (H : Heap) (locs : List Loc) (ls : Array Slot), gX D (mcell g cI cS sa) mord g S s H locs → lv_has ls 9 [(0, .ref (g 99)), (3, .int x3), (4, .int x4), (5, .int x5), (6, .int x6), (7, .int x7), (8, .int x8)] → r76 x3 x4 x5 x6 x7 x8 S = some o → W p l e (rmd 7) s m args below meth c H locs 0 0 (gE below args s D (mtys cI cS) (mcell g cI cS sa) mord g (some (.int o.1)) o.2) (F0 m 76 ls [])) (X : gX D (mcell g cI cS sa) mord g S s H locs) (hl : lv_has ls 9 [(0, .ref (g 99)), (3, .int x3), (4, .int x4), (5, .int x5), (6, .int x6), (7, .int x7), (8, .int x8)]) (hF : fX12_game_b111 N r76 x3 x4 x5 x6 x7 x8 S = some o) : W p l e (rmd 7) s m args below meth c H locs 0 0 (gE below args s D (mtys cI cS) (mcell g cI cS sa) mord g (some (.int o.1)) o.2) (F0 m 111 ls []) := by
  unfold fX12_game_b111 at hF
  refine lv_iload C.1.1 C.1.2.1 dX12_game_111 (lv_at hl 2 rfl) ?_
  refine lv_if_eq (tgt := 139) C.1.1 C.1.2.1 dX12_game_113 (by decide) (fun h_z => ?_) (fun h_z => ?_)
  · rw [if_pos h_z] at hF
    exact bX12_game_139 C O K76 X (lv_sub hl [0, 1, 2, 3, 4, 5, 6] rfl) hF
  · rw [if_neg h_z] at hF
    exact bX12_game_116 C O K76 X (lv_sub hl [0, 1, 2, 3, 4, 5, 6] rfl) hF
noncomputable def fX12_game_b108 (N : Nat) (r76 : Int32 → Int32 → Int32 → Int32 → Int32 → Int32 → gS → Option (Int32 × gS)) (x3 : Int32) (x4 : Int32) (x5 : Int32) (x6 : Int32) (x7 : Int32) (x8 : Int32) (S : gS) : Option (Int32 × gS) := fX12_game_b202 N r76 x3 x4 x5 x6 x7 x8 S
theorem bX12_game_108 {N : Nat} {r76 : Int32 → Int32 → Int32 → Int32 → Int32 → Int32 → gS → Option (Int32 × gS)} {x3 : Int32} {x4 : Int32} {x5 : Int32} {x6 : Int32} {x7 : Int32} {x8 : Int32} {S : gS} {H : Heap} {locs : List Loc} {ls : Array Slot} {o : Int32 × gS} (C : gC p s m args meth c cX12_game 9 RX12 ((some .int)) D (mtys cI cS) mord g Am) (O : gO (mcell g cI cS sa) mord g) (K76 : ∀ (x3 : Int32) (x4 : Int32) (x5 : Int32) (x6 : Int32) (x7 : Int32) (x8 : Int32) (S : gS) (H : Heap) (locs : List Loc) (ls : Array Slot), gX D (mcell g cI cS sa) mord g S s H locs → lv_has ls 9 [(0, .ref (g 99)), (3, .int x3), (4, .int x4), (5, .int x5), (6, .int x6), (7, .int x7), (8, .int x8)] → r76 x3 x4 x5 x6 x7 x8 S = some o → W p l e (rmd 7) s m args below meth c H locs 0 0 (gE below args s D (mtys cI cS) (mcell g cI cS sa) mord g (some (.int o.1)) o.2) (F0 m 76 ls [])) (X : gX D (mcell g cI cS sa) mord g S s H locs) (hl : lv_has ls 9 [(0, .ref (g 99)), (3, .int x3), (4, .int x4), (5, .int x5), (6, .int x6), (7, .int x7), (8, .int x8)]) (hF : fX12_game_b108 N r76 x3 x4 x5 x6 x7 x8 S = some o) : W p l e (rmd 7) s m args below meth c H locs 0 0 (gE below args s D (mtys cI cS) (mcell g cI cS sa) mord g (some (.int o.1)) o.2) (F0 m 108 ls []) := by
  unfold fX12_game_b108 at hF
  refine lv_goto (tgt := 202) C.1.1 C.1.2.1 dX12_game_108 (by decide) ?_
  exact bX12_game_202 C O K76 X (lv_sub hl [0, 1, 2, 3, 4, 5, 6] rfl) hF
noncomputable def fX12_game_b103 (N : Nat) (r76 : Int32 → Int32 → Int32 → Int32 → Int32 → Int32 → gS → Option (Int32 × gS)) (x3 : Int32) (x4 : Int32) (x5 : Int32) (x6 : Int32) (x7 : Int32) (x8 : Int32) (S : gS) : Option (Int32 × gS) := if x5 = 0 then fX12_game_b108 N r76 x3 x4 x5 x6 x7 x8 S else fX12_game_b111 N r76 x3 x4 x5 x6 x7 x8 S
theorem bX12_game_103 {N : Nat} {r76 : Int32 → Int32 → Int32 → Int32 → Int32 → Int32 → gS → Option (Int32 × gS)} {x3 : Int32} {x4 : Int32} {x5 : Int32} {x6 : Int32} {x7 : Int32} {x8 : Int32} {S : gS} {H : Heap} {locs : List Loc} {ls : Array Slot} {o : Int32 × gS} (C : gC p s m args meth c cX12_game 9 RX12 ((some .int)) D (mtys cI cS) mord g Am) (O : gO (mcell g cI cS sa) mord g) (K76 : ∀ (x3 : Int32) (x4 : Int32) (x5 : Int32) (x6 : Int32) (x7 : Int32) (x8 : Int32) (S : gS) (H : Heap) (locs : List Loc) (ls : Array Slot), gX D (mcell g cI cS sa) mord g S s H locs → lv_has ls 9 [(0, .ref (g 99)), (3, .int x3), (4, .int x4), (5, .int x5), (6, .int x6), (7, .int x7), (8, .int x8)] → r76 x3 x4 x5 x6 x7 x8 S = some o → W p l e (rmd 7) s m args below meth c H locs 0 0 (gE below args s D (mtys cI cS) (mcell g cI cS sa) mord g (some (.int o.1)) o.2) (F0 m 76 ls [])) (X : gX D (mcell g cI cS sa) mord g S s H locs) (hl : lv_has ls 9 [(0, .ref (g 99)), (3, .int x3), (4, .int x4), (5, .int x5), (6, .int x6), (7, .int x7), (8, .int x8)]) (hF : fX12_game_b103 N r76 x3 x4 x5 x6 x7 x8 S = some o) : W p l e (rmd 7) s m args below meth c H locs 0 0 (gE below args s D (mtys cI cS) (mcell g cI cS sa) mord g (some (.int o.1)) o.2) (F0 m 103 ls []) := by
  unfold fX12_game_b103 at hF
  refine lv_iload C.1.1 C.1.2.1 dX12_game_103 (lv_at hl 3 rfl) ?_
  refine lv_if_ne (tgt := 111) C.1.1 C.1.2.1 dX12_game_105 (by decide) (fun h_z => ?_) (fun h_z => ?_)
  · rw [if_neg h_z] at hF
    exact bX12_game_111 C O K76 X (lv_sub hl [0, 1, 2, 3, 4, 5, 6] rfl) hF
  · rw [if_pos h_z] at hF
    exact bX12_game_108 C O K76 X (lv_sub hl [0, 1, 2, 3, 4, 5, 6] rfl) hF
noncomputable def fX12_game_b95 (N : Nat) (r76 : Int32 → Int32 → Int32 → Int32 → Int32 → Int32 → gS → Option (Int32 × gS)) (x3 : Int32) (x4 : Int32) (x5 : Int32) (x6 : Int32) (x7 : Int32) (x8 : Int32) (S : gS) : Option (Int32 × gS) := if ((x8 - x8 / 2 * 2 : Int32)) = 1 then fX12_game_b103 N r76 x3 x4 x5 x6 x7 x8 S else fX12_game_b111 N r76 x3 x4 x5 x6 x7 x8 S
theorem bX12_game_95 {N : Nat} {r76 : Int32 → Int32 → Int32 → Int32 → Int32 → Int32 → gS → Option (Int32 × gS)} {x3 : Int32} {x4 : Int32} {x5 : Int32} {x6 : Int32} {x7 : Int32} {x8 : Int32} {S : gS} {H : Heap} {locs : List Loc} {ls : Array Slot} {o : Int32 × gS} (C : gC p s m args meth c cX12_game 9 RX12 ((some .int)) D (mtys cI cS) mord g Am) (O : gO (mcell g cI cS sa) mord g) (K76 : ∀ (x3 : Int32) (x4 : Int32) (x5 : Int32) (x6 : Int32) (x7 : Int32) (x8 : Int32) (S : gS) (H : Heap) (locs : List Loc) (ls : Array Slot), gX D (mcell g cI cS sa) mord g S s H locs → lv_has ls 9 [(0, .ref (g 99)), (3, .int x3), (4, .int x4), (5, .int x5), (6, .int x6), (7, .int x7), (8, .int x8)] → r76 x3 x4 x5 x6 x7 x8 S = some o → W p l e (rmd 7) s m args below meth c H locs 0 0 (gE below args s D (mtys cI cS) (mcell g cI cS sa) mord g (some (.int o.1)) o.2) (F0 m 76 ls [])) (X : gX D (mcell g cI cS sa) mord g S s H locs) (hl : lv_has ls 9 [(0, .ref (g 99)), (3, .int x3), (4, .int x4), (5, .int x5), (6, .int x6), (7, .int x7), (8, .int x8)]) (hF : fX12_game_b95 N r76 x3 x4 x5 x6 x7 x8 S = some o) : W p l e (rmd 7) s m args below meth c H locs 0 0 (gE below args s D (mtys cI cS) (mcell g cI cS sa) mord g (some (.int o.1)) o.2) (F0 m 95 ls []) := by
  unfold fX12_game_b95 at hF
  refine lv_iload C.1.1 C.1.2.1 dX12_game_95 (lv_at hl 6 rfl) ?_
  refine lv_iconst (v := 2) C.1.1 C.1.2.1 dX12_game_97 (by decide) ?_
  refine lv_irem C.1.1 C.1.2.1 dX12_game_98 (by decide) ?_
  refine lv_iconst (v := 1) C.1.1 C.1.2.1 dX12_game_99 (by decide) ?_
  refine lv_icmp_ne (tgt := 111) C.1.1 C.1.2.1 dX12_game_100 (by decide) (fun h_z => ?_) (fun h_z => ?_)
  · rw [if_neg h_z] at hF
    exact bX12_game_111 C O K76 X (lv_sub hl [0, 1, 2, 3, 4, 5, 6] rfl) hF
  · rw [if_pos h_z] at hF
    exact bX12_game_103 C O K76 X (lv_sub hl [0, 1, 2, 3, 4, 5, 6] rfl) hF
noncomputable def fX12_game_b90 (N : Nat) (r76 : Int32 → Int32 → Int32 → Int32 → Int32 → Int32 → gS → Option (Int32 × gS)) (x3 : Int32) (x4 : Int32) (x5 : Int32) (x6 : Int32) (x7 : Int32) (x8 : Int32) (S : gS) : Option (Int32 × gS) := if x4 = 0 then fX12_game_b202 N r76 x3 x4 x5 x6 x7 x8 S else fX12_game_b95 N r76 x3 x4 x5 x6 x7 x8 S
theorem bX12_game_90 {N : Nat} {r76 : Int32 → Int32 → Int32 → Int32 → Int32 → Int32 → gS → Option (Int32 × gS)} {x3 : Int32} {x4 : Int32} {x5 : Int32} {x6 : Int32} {x7 : Int32} {x8 : Int32} {S : gS} {H : Heap} {locs : List Loc} {ls : Array Slot} {o : Int32 × gS} (C : gC p s m args meth c cX12_game 9 RX12 ((some .int)) D (mtys cI cS) mord g Am) (O : gO (mcell g cI cS sa) mord g) (K76 : ∀ (x3 : Int32) (x4 : Int32) (x5 : Int32) (x6 : Int32) (x7 : Int32) (x8 : Int32) (S : gS) (H : Heap) (locs : List Loc) (ls : Array Slot), gX D (mcell g cI cS sa) mord g S s H locs → lv_has ls 9 [(0, .ref (g 99)), (3, .int x3), (4, .int x4), (5, .int x5), (6, .int x6), (7, .int x7), (8, .int x8)] → r76 x3 x4 x5 x6 x7 x8 S = some o → W p l e (rmd 7) s m args below meth c H locs 0 0 (gE below args s D (mtys cI cS) (mcell g cI cS sa) mord g (some (.int o.1)) o.2) (F0 m 76 ls [])) (X : gX D (mcell g cI cS sa) mord g S s H locs) (hl : lv_has ls 9 [(0, .ref (g 99)), (3, .int x3), (4, .int x4), (5, .int x5), (6, .int x6), (7, .int x7), (8, .int x8)]) (hF : fX12_game_b90 N r76 x3 x4 x5 x6 x7 x8 S = some o) : W p l e (rmd 7) s m args below meth c H locs 0 0 (gE below args s D (mtys cI cS) (mcell g cI cS sa) mord g (some (.int o.1)) o.2) (F0 m 90 ls []) := by
  unfold fX12_game_b90 at hF
  refine lv_iload C.1.1 C.1.2.1 dX12_game_90 (lv_at hl 2 rfl) ?_
  refine lv_if_eq (tgt := 202) C.1.1 C.1.2.1 dX12_game_92 (by decide) (fun h_z => ?_) (fun h_z => ?_)
  · rw [if_pos h_z] at hF
    exact bX12_game_202 C O K76 X (lv_sub hl [0, 1, 2, 3, 4, 5, 6] rfl) hF
  · rw [if_neg h_z] at hF
    exact bX12_game_95 C O K76 X (lv_sub hl [0, 1, 2, 3, 4, 5, 6] rfl) hF
noncomputable def fX12_game_b82 (N : Nat) (r76 : Int32 → Int32 → Int32 → Int32 → Int32 → Int32 → gS → Option (Int32 × gS)) (x3 : Int32) (x4 : Int32) (x5 : Int32) (x6 : Int32) (x7 : Int32) (x8 : Int32) (S : gS) : Option (Int32 × gS) := if ((x8 / 2 : Int32)) = 1 then fX12_game_b90 N r76 x3 x4 x5 x6 x7 x8 S else fX12_game_b95 N r76 x3 x4 x5 x6 x7 x8 S
theorem bX12_game_82 {N : Nat} {r76 : Int32 → Int32 → Int32 → Int32 → Int32 → Int32 → gS → Option (Int32 × gS)} {x3 : Int32} {x4 : Int32} {x5 : Int32} {x6 : Int32} {x7 : Int32} {x8 : Int32} {S : gS} {H : Heap} {locs : List Loc} {ls : Array Slot} {o : Int32 × gS} (C : gC p s m args meth c cX12_game 9 RX12 ((some .int)) D (mtys cI cS) mord g Am) (O : gO (mcell g cI cS sa) mord g) (K76 : ∀ (x3 : Int32) (x4 : Int32) (x5 : Int32) (x6 : Int32) (x7 : Int32) (x8 : Int32) (S : gS) (H : Heap) (locs : List Loc) (ls : Array Slot), gX D (mcell g cI cS sa) mord g S s H locs → lv_has ls 9 [(0, .ref (g 99)), (3, .int x3), (4, .int x4), (5, .int x5), (6, .int x6), (7, .int x7), (8, .int x8)] → r76 x3 x4 x5 x6 x7 x8 S = some o → W p l e (rmd 7) s m args below meth c H locs 0 0 (gE below args s D (mtys cI cS) (mcell g cI cS sa) mord g (some (.int o.1)) o.2) (F0 m 76 ls [])) (X : gX D (mcell g cI cS sa) mord g S s H locs) (hl : lv_has ls 9 [(0, .ref (g 99)), (3, .int x3), (4, .int x4), (5, .int x5), (6, .int x6), (7, .int x7), (8, .int x8)]) (hF : fX12_game_b82 N r76 x3 x4 x5 x6 x7 x8 S = some o) : W p l e (rmd 7) s m args below meth c H locs 0 0 (gE below args s D (mtys cI cS) (mcell g cI cS sa) mord g (some (.int o.1)) o.2) (F0 m 82 ls []) := by
  unfold fX12_game_b82 at hF
  refine lv_iload C.1.1 C.1.2.1 dX12_game_82 (lv_at hl 6 rfl) ?_
  refine lv_iconst (v := 2) C.1.1 C.1.2.1 dX12_game_84 (by decide) ?_
  refine lv_idiv C.1.1 C.1.2.1 dX12_game_85 (by decide) ?_
  refine lv_iconst (v := 1) C.1.1 C.1.2.1 dX12_game_86 (by decide) ?_
  refine lv_icmp_ne (tgt := 95) C.1.1 C.1.2.1 dX12_game_87 (by decide) (fun h_z => ?_) (fun h_z => ?_)
  · rw [if_neg h_z] at hF
    exact bX12_game_95 C O K76 X (lv_sub hl [0, 1, 2, 3, 4, 5, 6] rfl) hF
  · rw [if_pos h_z] at hF
    exact bX12_game_90 C O K76 X (lv_sub hl [0, 1, 2, 3, 4, 5, 6] rfl) hF
noncomputable def fX12_game_b76 (N : Nat) (r76 : Int32 → Int32 → Int32 → Int32 → Int32 → Int32 → gS → Option (Int32 × gS)) (x3 : Int32) (x4 : Int32) (x5 : Int32) (x6 : Int32) (x7 : Int32) (x8 : Int32) (S : gS) : Option (Int32 × gS) := if 4 ≤ x8 then fX12_game_b208 N x3 x6 x7 S else fX12_game_b82 N r76 x3 x4 x5 x6 x7 x8 S
theorem bX12_game_76 {N : Nat} {r76 : Int32 → Int32 → Int32 → Int32 → Int32 → Int32 → gS → Option (Int32 × gS)} {x3 : Int32} {x4 : Int32} {x5 : Int32} {x6 : Int32} {x7 : Int32} {x8 : Int32} {S : gS} {H : Heap} {locs : List Loc} {ls : Array Slot} {o : Int32 × gS} (C : gC p s m args meth c cX12_game 9 RX12 ((some .int)) D (mtys cI cS) mord g Am) (O : gO (mcell g cI cS sa) mord g) (K76 : ∀ (x3 : Int32) (x4 : Int32) (x5 : Int32) (x6 : Int32) (x7 : Int32) (x8 : Int32) (S : gS) (H : Heap) (locs : List Loc) (ls : Array Slot), gX D (mcell g cI cS sa) mord g S s H locs → lv_has ls 9 [(0, .ref (g 99)), (3, .int x3), (4, .int x4), (5, .int x5), (6, .int x6), (7, .int x7), (8, .int x8)] → r76 x3 x4 x5 x6 x7 x8 S = some o → W p l e (rmd 7) s m args below meth c H locs 0 0 (gE below args s D (mtys cI cS) (mcell g cI cS sa) mord g (some (.int o.1)) o.2) (F0 m 76 ls [])) (X : gX D (mcell g cI cS sa) mord g S s H locs) (hl : lv_has ls 9 [(0, .ref (g 99)), (3, .int x3), (4, .int x4), (5, .int x5), (6, .int x6), (7, .int x7), (8, .int x8)]) (hF : fX12_game_b76 N r76 x3 x4 x5 x6 x7 x8 S = some o) : W p l e (rmd 7) s m args below meth c H locs 0 0 (gE below args s D (mtys cI cS) (mcell g cI cS sa) mord g (some (.int o.1)) o.2) (F0 m 76 ls []) := by
  unfold fX12_game_b76 at hF
  refine lv_iload C.1.1 C.1.2.1 dX12_game_76 (lv_at hl 6 rfl) ?_
  refine lv_iconst (v := 4) C.1.1 C.1.2.1 dX12_game_78 (by decide) ?_
  refine lv_icmp_ge (tgt := 208) C.1.1 C.1.2.1 dX12_game_79 (by decide) (fun h_z => ?_) (fun h_z => ?_)
  · rw [if_pos h_z] at hF
    exact bX12_game_208 C O X (lv_sub hl [1, 4, 5] rfl) hF
  · rw [if_neg h_z] at hF
    exact bX12_game_82 C O K76 X (lv_sub hl [0, 1, 2, 3, 4, 5, 6] rfl) hF
noncomputable def fX12_game_h76 (N : Nat) : Nat → Int32 → Int32 → Int32 → Int32 → Int32 → Int32 → gS → Option (Int32 × gS)
  | 0, _, _, _, _, _, _, _ => none
  | n + 1, x3, x4, x5, x6, x7, x8, S => fX12_game_b76 N (fX12_game_h76 N n) x3 x4 x5 x6 x7 x8 S
theorem hX12_game_76 {N : Nat} {o : Int32 × gS} (C : gC p s m args meth c cX12_game 9 RX12 ((some .int)) D (mtys cI cS) mord g Am) (O : gO (mcell g cI cS sa) mord g) : ∀ (n : Nat) (x3 : Int32) (x4 : Int32) (x5 : Int32) (x6 : Int32) (x7 : Int32) (x8 : Int32) (S : gS) (H : Heap) (locs : List Loc) (ls : Array Slot), gX D (mcell g cI cS sa) mord g S s H locs → lv_has ls 9 [(0, .ref (g 99)), (3, .int x3), (4, .int x4), (5, .int x5), (6, .int x6), (7, .int x7), (8, .int x8)] → fX12_game_h76 N n x3 x4 x5 x6 x7 x8 S = some o → W p l e (rmd 7) s m args below meth c H locs 0 0 (gE below args s D (mtys cI cS) (mcell g cI cS sa) mord g (some (.int o.1)) o.2) (F0 m 76 ls []) := by
  intro n
  induction n with
  | zero =>
    intro x3 x4 x5 x6 x7 x8 S H locs ls X hl hF
    exact absurd (show (none : Option (Int32 × gS)) = some o from hF) (by simp)
  | succ n ih =>
    intro x3 x4 x5 x6 x7 x8 S H locs ls X hl hF
    have hF : fX12_game_b76 N (fX12_game_h76 N n) x3 x4 x5 x6 x7 x8 S = some o := hF
    exact bX12_game_76 C O ih X hl hF
noncomputable def fX12_game_b47 (N : Nat) (x1 : Int32) (x2 : Int32) (x3 : Int32) (S : gS) : Option (Int32 × gS) := bnd (fX12_canConfess N x1 S) fun q1 => (bnd (fX12_canConfess N x2 q1.2) fun q2 => (bnd (fX12_tellGains N x1 x2 q2.2) fun q3 => (fX12_game_h76 N N x3 q1.1 q2.1 0 ((-1)) 0 q3.2)))
theorem bX12_game_47 {N : Nat} {x1 : Int32} {x2 : Int32} {x3 : Int32} {S : gS} {H : Heap} {locs : List Loc} {ls : Array Slot} {o : Int32 × gS} (C : gC p s m args meth c cX12_game 9 RX12 ((some .int)) D (mtys cI cS) mord g Am) (O : gO (mcell g cI cS sa) mord g) (X : gX D (mcell g cI cS sa) mord g S s H locs) (hl : lv_has ls 9 [(0, .ref (g 99)), (1, .int x1), (2, .int x2), (3, .int x3)]) (hF : fX12_game_b47 N x1 x2 x3 S = some o) : W p l e (rmd 7) s m args below meth c H locs 0 0 (gE below args s D (mtys cI cS) (mcell g cI cS sa) mord g (some (.int o.1)) o.2) (F0 m 47 ls []) := by
  unfold fX12_game_b47 at hF
  refine lv_aload_n C.1.1 C.1.2.1 dX12_game_47 rfl (lv_at hl 0 rfl) ?_
  refine lv_iload_n C.1.1 C.1.2.1 dX12_game_48 rfl (lv_at hl 1 rfl) ?_
  obtain ⟨q1, hq1, hF⟩ := bnd_some hF
  refine m_callVi C X vX12_canConfess rfl (kX12_canConfess O C.2.2.2.2.1 N x1  S q1 hq1) (Nat.le_of_ble_eq_true rfl) (Nat.le_of_ble_eq_true rfl) (Nat.le_of_ble_eq_true rfl) (Nat.le_of_ble_eq_true rfl) rfl hl.1 rfl (Nat.le_of_ble_eq_true rfl) dX12_game_49 (fun H locs X => ?_)
  refine lv_istore (lv' := [(4, .int q1.1), (0, .ref (g 99)), (1, .int x1), (2, .int x2), (3, .int x3)]) C.1.1 C.1.2.1 dX12_game_52 hl (by decide) rfl (fun ls hl => ?_)
  refine lv_aload_n C.1.1 C.1.2.1 dX12_game_54 rfl (lv_at hl 1 rfl) ?_
  refine lv_iload_n C.1.1 C.1.2.1 dX12_game_55 rfl (lv_at hl 3 rfl) ?_
  obtain ⟨q2, hq2, hF⟩ := bnd_some hF
  refine m_callVi C X vX12_canConfess rfl (kX12_canConfess O C.2.2.2.2.1 N x2  q1.2 q2 hq2) (Nat.le_of_ble_eq_true rfl) (Nat.le_of_ble_eq_true rfl) (Nat.le_of_ble_eq_true rfl) (Nat.le_of_ble_eq_true rfl) rfl hl.1 rfl (Nat.le_of_ble_eq_true rfl) dX12_game_56 (fun H locs X => ?_)
  refine lv_istore (lv' := [(5, .int q2.1), (4, .int q1.1), (0, .ref (g 99)), (1, .int x1), (2, .int x2), (3, .int x3)]) C.1.1 C.1.2.1 dX12_game_59 hl (by decide) rfl (fun ls hl => ?_)
  refine lv_aload_n C.1.1 C.1.2.1 dX12_game_61 rfl (lv_at hl 2 rfl) ?_
  refine lv_iload_n C.1.1 C.1.2.1 dX12_game_62 rfl (lv_at hl 3 rfl) ?_
  refine lv_iload_n C.1.1 C.1.2.1 dX12_game_63 rfl (lv_at hl 4 rfl) ?_
  obtain ⟨q3, hq3, hF⟩ := bnd_some hF
  refine m_callV C X vX12_tellGains rfl (kX12_tellGains O C.2.2.2.2.1 N x1 x2  q2.2 q3 hq3) (Nat.le_of_ble_eq_true rfl) (Nat.le_of_ble_eq_true rfl) (Nat.le_of_ble_eq_true rfl) (Nat.le_of_ble_eq_true rfl) rfl hl.1 rfl (Nat.le_of_ble_eq_true rfl) dX12_game_64 (fun H locs X => ?_)
  refine lv_iconst (v := 0) C.1.1 C.1.2.1 dX12_game_67 (by decide) ?_
  refine lv_istore (lv' := [(6, .int 0), (5, .int q2.1), (4, .int q1.1), (0, .ref (g 99)), (1, .int x1), (2, .int x2), (3, .int x3)]) C.1.1 C.1.2.1 dX12_game_68 hl (by decide) rfl (fun ls hl => ?_)
  refine lv_iconst (v := (-1)) C.1.1 C.1.2.1 dX12_game_70 (by decide) ?_
  refine lv_istore (lv' := [(7, .int ((-1))), (6, .int 0), (5, .int q2.1), (4, .int q1.1), (0, .ref (g 99)), (1, .int x1), (2, .int x2), (3, .int x3)]) C.1.1 C.1.2.1 dX12_game_71 hl (by decide) rfl (fun ls hl => ?_)
  refine lv_iconst (v := 0) C.1.1 C.1.2.1 dX12_game_73 (by decide) ?_
  refine lv_istore (lv' := [(8, .int 0), (7, .int ((-1))), (6, .int 0), (5, .int q2.1), (4, .int q1.1), (0, .ref (g 99)), (1, .int x1), (2, .int x2), (3, .int x3)]) C.1.1 C.1.2.1 dX12_game_74 hl (by decide) rfl (fun ls hl => ?_)
  exact hX12_game_76 C O N _ _ _ _ _ _ _ _ _ _ X (lv_sub hl [5, 8, 4, 3, 2, 1, 0] rfl) hF
noncomputable def fX12_game_b41 (N : Nat) (S : gS) : Option (Int32 × gS) := bnd (fX12_fail N 2 S) fun q1 => (some (q1.1, q1.2))
theorem bX12_game_41 {N : Nat} {S : gS} {H : Heap} {locs : List Loc} {ls : Array Slot} {o : Int32 × gS} (C : gC p s m args meth c cX12_game 9 RX12 ((some .int)) D (mtys cI cS) mord g Am) (O : gO (mcell g cI cS sa) mord g) (X : gX D (mcell g cI cS sa) mord g S s H locs) (hl : lv_has ls 9 [(0, .ref (g 99))]) (hF : fX12_game_b41 N S = some o) : W p l e (rmd 7) s m args below meth c H locs 0 0 (gE below args s D (mtys cI cS) (mcell g cI cS sa) mord g (some (.int o.1)) o.2) (F0 m 41 ls []) := by
  unfold fX12_game_b41 at hF
  refine lv_aload_n C.1.1 C.1.2.1 dX12_game_41 rfl (lv_at hl 0 rfl) ?_
  refine lv_iconst (v := 2) C.1.1 C.1.2.1 dX12_game_42 (by decide) ?_
  obtain ⟨q1, hq1, hF⟩ := bnd_some hF
  refine m_callVi C X vX12_fail rfl (kX12_fail O C.2.2.2.2.1 N 2  S q1 hq1) (Nat.le_of_ble_eq_true rfl) (Nat.le_of_ble_eq_true rfl) (Nat.le_of_ble_eq_true rfl) (Nat.le_of_ble_eq_true rfl) rfl hl.1 rfl (Nat.le_of_ble_eq_true rfl) dX12_game_43 (fun H locs X => ?_)
  cases hF
  exact g_iret C X dX12_game_46
noncomputable def fX12_game_b36 (N : Nat) (x1 : Int32) (x2 : Int32) (x3 : Int32) (S : gS) : Option (Int32 × gS) := if x1 = x2 then fX12_game_b41 N S else fX12_game_b47 N x1 x2 x3 S
theorem bX12_game_36 {N : Nat} {x1 : Int32} {x2 : Int32} {x3 : Int32} {S : gS} {H : Heap} {locs : List Loc} {ls : Array Slot} {o : Int32 × gS} (C : gC p s m args meth c cX12_game 9 RX12 ((some .int)) D (mtys cI cS) mord g Am) (O : gO (mcell g cI cS sa) mord g) (X : gX D (mcell g cI cS sa) mord g S s H locs) (hl : lv_has ls 9 [(0, .ref (g 99)), (1, .int x1), (2, .int x2), (3, .int x3)]) (hF : fX12_game_b36 N x1 x2 x3 S = some o) : W p l e (rmd 7) s m args below meth c H locs 0 0 (gE below args s D (mtys cI cS) (mcell g cI cS sa) mord g (some (.int o.1)) o.2) (F0 m 36 ls []) := by
  unfold fX12_game_b36 at hF
  refine lv_iload_n C.1.1 C.1.2.1 dX12_game_36 rfl (lv_at hl 1 rfl) ?_
  refine lv_iload_n C.1.1 C.1.2.1 dX12_game_37 rfl (lv_at hl 2 rfl) ?_
  refine lv_icmp_ne (tgt := 47) C.1.1 C.1.2.1 dX12_game_38 (by decide) (fun h_z => ?_) (fun h_z => ?_)
  · rw [if_neg h_z] at hF
    exact bX12_game_47 C O X (lv_sub hl [0, 1, 2, 3] rfl) hF
  · rw [if_pos h_z] at hF
    exact bX12_game_41 C O X (lv_sub hl [0] rfl) hF
noncomputable def fX12_game_b30 (N : Nat) (S : gS) : Option (Int32 × gS) := bnd (fX12_fail N 1 S) fun q1 => (some (q1.1, q1.2))
theorem bX12_game_30 {N : Nat} {S : gS} {H : Heap} {locs : List Loc} {ls : Array Slot} {o : Int32 × gS} (C : gC p s m args meth c cX12_game 9 RX12 ((some .int)) D (mtys cI cS) mord g Am) (O : gO (mcell g cI cS sa) mord g) (X : gX D (mcell g cI cS sa) mord g S s H locs) (hl : lv_has ls 9 [(0, .ref (g 99))]) (hF : fX12_game_b30 N S = some o) : W p l e (rmd 7) s m args below meth c H locs 0 0 (gE below args s D (mtys cI cS) (mcell g cI cS sa) mord g (some (.int o.1)) o.2) (F0 m 30 ls []) := by
  unfold fX12_game_b30 at hF
  refine lv_aload_n C.1.1 C.1.2.1 dX12_game_30 rfl (lv_at hl 0 rfl) ?_
  refine lv_iconst (v := 1) C.1.1 C.1.2.1 dX12_game_31 (by decide) ?_
  obtain ⟨q1, hq1, hF⟩ := bnd_some hF
  refine m_callVi C X vX12_fail rfl (kX12_fail O C.2.2.2.2.1 N 1  S q1 hq1) (Nat.le_of_ble_eq_true rfl) (Nat.le_of_ble_eq_true rfl) (Nat.le_of_ble_eq_true rfl) (Nat.le_of_ble_eq_true rfl) rfl hl.1 rfl (Nat.le_of_ble_eq_true rfl) dX12_game_32 (fun H locs X => ?_)
  cases hF
  exact g_iret C X dX12_game_35
noncomputable def fX12_game_b25 (N : Nat) (x1 : Int32) (x2 : Int32) (x3 : Int32) (S : gS) : Option (Int32 × gS) := if x3 ≤ 1 then fX12_game_b36 N x1 x2 x3 S else fX12_game_b30 N S
theorem bX12_game_25 {N : Nat} {x1 : Int32} {x2 : Int32} {x3 : Int32} {S : gS} {H : Heap} {locs : List Loc} {ls : Array Slot} {o : Int32 × gS} (C : gC p s m args meth c cX12_game 9 RX12 ((some .int)) D (mtys cI cS) mord g Am) (O : gO (mcell g cI cS sa) mord g) (X : gX D (mcell g cI cS sa) mord g S s H locs) (hl : lv_has ls 9 [(0, .ref (g 99)), (1, .int x1), (2, .int x2), (3, .int x3)]) (hF : fX12_game_b25 N x1 x2 x3 S = some o) : W p l e (rmd 7) s m args below meth c H locs 0 0 (gE below args s D (mtys cI cS) (mcell g cI cS sa) mord g (some (.int o.1)) o.2) (F0 m 25 ls []) := by
  unfold fX12_game_b25 at hF
  refine lv_iload_n C.1.1 C.1.2.1 dX12_game_25 rfl (lv_at hl 3 rfl) ?_
  refine lv_iconst (v := 1) C.1.1 C.1.2.1 dX12_game_26 (by decide) ?_
  refine lv_icmp_le (tgt := 36) C.1.1 C.1.2.1 dX12_game_27 (by decide) (fun h_z => ?_) (fun h_z => ?_)
  · rw [if_pos h_z] at hF
    exact bX12_game_36 C O X (lv_sub hl [0, 1, 2, 3] rfl) hF
  · rw [if_neg h_z] at hF
    exact bX12_game_30 C O X (lv_sub hl [0] rfl) hF
noncomputable def fX12_game_b21 (N : Nat) (x1 : Int32) (x2 : Int32) (x3 : Int32) (S : gS) : Option (Int32 × gS) := if x3 < 0 then fX12_game_b30 N S else fX12_game_b25 N x1 x2 x3 S
theorem bX12_game_21 {N : Nat} {x1 : Int32} {x2 : Int32} {x3 : Int32} {S : gS} {H : Heap} {locs : List Loc} {ls : Array Slot} {o : Int32 × gS} (C : gC p s m args meth c cX12_game 9 RX12 ((some .int)) D (mtys cI cS) mord g Am) (O : gO (mcell g cI cS sa) mord g) (X : gX D (mcell g cI cS sa) mord g S s H locs) (hl : lv_has ls 9 [(0, .ref (g 99)), (1, .int x1), (2, .int x2), (3, .int x3)]) (hF : fX12_game_b21 N x1 x2 x3 S = some o) : W p l e (rmd 7) s m args below meth c H locs 0 0 (gE below args s D (mtys cI cS) (mcell g cI cS sa) mord g (some (.int o.1)) o.2) (F0 m 21 ls []) := by
  unfold fX12_game_b21 at hF
  refine lv_iload_n C.1.1 C.1.2.1 dX12_game_21 rfl (lv_at hl 3 rfl) ?_
  refine lv_if_lt (tgt := 30) C.1.1 C.1.2.1 dX12_game_22 (by decide) (fun h_z => ?_) (fun h_z => ?_)
  · rw [if_pos h_z] at hF
    exact bX12_game_30 C O X (lv_sub hl [0] rfl) hF
  · rw [if_neg h_z] at hF
    exact bX12_game_25 C O X (lv_sub hl [0, 1, 2, 3] rfl) hF
noncomputable def fX12_game_b13 (N : Nat) (x1 : Int32) (x2 : Int32) (x3 : Int32) (S : gS) : Option (Int32 × gS) := bnd (fX12_isGuild N x2 S) fun q1 => (if q1.1 = 0 then fX12_game_b30 N q1.2 else fX12_game_b21 N x1 x2 x3 q1.2)
theorem bX12_game_13 {N : Nat} {x1 : Int32} {x2 : Int32} {x3 : Int32} {S : gS} {H : Heap} {locs : List Loc} {ls : Array Slot} {o : Int32 × gS} (C : gC p s m args meth c cX12_game 9 RX12 ((some .int)) D (mtys cI cS) mord g Am) (O : gO (mcell g cI cS sa) mord g) (X : gX D (mcell g cI cS sa) mord g S s H locs) (hl : lv_has ls 9 [(0, .ref (g 99)), (1, .int x1), (2, .int x2), (3, .int x3)]) (hF : fX12_game_b13 N x1 x2 x3 S = some o) : W p l e (rmd 7) s m args below meth c H locs 0 0 (gE below args s D (mtys cI cS) (mcell g cI cS sa) mord g (some (.int o.1)) o.2) (F0 m 13 ls []) := by
  unfold fX12_game_b13 at hF
  refine lv_aload_n C.1.1 C.1.2.1 dX12_game_13 rfl (lv_at hl 0 rfl) ?_
  refine lv_iload_n C.1.1 C.1.2.1 dX12_game_14 rfl (lv_at hl 2 rfl) ?_
  obtain ⟨q1, hq1, hF⟩ := bnd_some hF
  refine m_callVi C X vX12_isGuild rfl (kX12_isGuild O C.2.2.2.2.1 N x2  S q1 hq1) (Nat.le_of_ble_eq_true rfl) (Nat.le_of_ble_eq_true rfl) (Nat.le_of_ble_eq_true rfl) (Nat.le_of_ble_eq_true rfl) rfl hl.1 rfl (Nat.le_of_ble_eq_true rfl) dX12_game_15 (fun H locs X => ?_)
  refine lv_if_eq (tgt := 30) C.1.1 C.1.2.1 dX12_game_18 (by decide) (fun h_z => ?_) (fun h_z => ?_)
  · rw [if_pos h_z] at hF
    exact bX12_game_30 C O X (lv_sub hl [0] rfl) hF
  · rw [if_neg h_z] at hF
    exact bX12_game_21 C O X (lv_sub hl [0, 1, 2, 3] rfl) hF
noncomputable def fX12_game_b0 (N : Nat) (x1 : Int32) (x2 : Int32) (x3 : Int32) (S : gS) : Option (Int32 × gS) := lt (sU S 99 4 0) fun S1 => (bnd (fX12_isGuild N x1 S1) fun q1 => (if q1.1 = 0 then fX12_game_b30 N q1.2 else fX12_game_b13 N x1 x2 x3 q1.2))
theorem bX12_game_0 {N : Nat} {x1 : Int32} {x2 : Int32} {x3 : Int32} {S : gS} {H : Heap} {locs : List Loc} {ls : Array Slot} {o : Int32 × gS} (C : gC p s m args meth c cX12_game 9 RX12 ((some .int)) D (mtys cI cS) mord g Am) (O : gO (mcell g cI cS sa) mord g) (X : gX D (mcell g cI cS sa) mord g S s H locs) (hl : lv_has ls 9 [(0, .ref (g 99)), (1, .int x1), (2, .int x2), (3, .int x3)]) (hF : fX12_game_b0 N x1 x2 x3 S = some o) : W p l e (rmd 7) s m args below meth c H locs 0 0 (gE below args s D (mtys cI cS) (mcell g cI cS sa) mord g (some (.int o.1)) o.2) (F0 m 0 ls []) := by
  unfold fX12_game_b0 at hF
  refine lv_aload_n C.1.1 C.1.2.1 dX12_game_0 rfl (lv_at hl 0 rfl) ?_
  refine lv_iconst (v := 0) C.1.1 C.1.2.1 dX12_game_1 (by decide) ?_
  obtain ⟨S1, eS1, hF⟩ := lt_some hF
  refine m_p4 C O X eS1 dX12_game_2 (fun H locs X => ?_)
  refine lv_aload_n C.1.1 C.1.2.1 dX12_game_5 rfl (lv_at hl 0 rfl) ?_
  refine lv_iload_n C.1.1 C.1.2.1 dX12_game_6 rfl (lv_at hl 1 rfl) ?_
  obtain ⟨q1, hq1, hF⟩ := bnd_some hF
  refine m_callVi C X vX12_isGuild rfl (kX12_isGuild O C.2.2.2.2.1 N x1  S1 q1 hq1) (Nat.le_of_ble_eq_true rfl) (Nat.le_of_ble_eq_true rfl) (Nat.le_of_ble_eq_true rfl) (Nat.le_of_ble_eq_true rfl) rfl hl.1 rfl (Nat.le_of_ble_eq_true rfl) dX12_game_7 (fun H locs X => ?_)
  refine lv_if_eq (tgt := 30) C.1.1 C.1.2.1 dX12_game_10 (by decide) (fun h_z => ?_) (fun h_z => ?_)
  · rw [if_pos h_z] at hF
    exact bX12_game_30 C O X (lv_sub hl [0] rfl) hF
  · rw [if_neg h_z] at hF
    exact bX12_game_13 C O X (lv_sub hl [0, 1, 2, 3] rfl) hF
noncomputable def fX12_game (N : Nat) (x1 : Int32) (x2 : Int32) (x3 : Int32) (S : gS) : Option (Int32 × gS) := fX12_game_b0 N x1 x2 x3 S
theorem kX12_game {l : Launch} {D : va_G} {g : Nat → Nat} {cI cS : ClassId} {sa : Nat → Nat → Option Nat} {Am : (Nat → Prop) → State → Heap → Prop} (O : gO (mcell g cI cS sa) mord g) (P : gAm Am) (N : Nat) (x1 : Int32) (x2 : Int32) (x3 : Int32) (S : gS) (o : Int32 × gS) (hF : fX12_game N x1 x2 x3 S = some o) : gM l yX12_game cX12_game 9 ((some .int)) 7 D (mtys cI cS) (mcell g cI cS sa) mord g Am [.ref (g 99), .int x1, .int x2, .int x3] S (some (.int o.1)) o.2 :=
  gM_of O P (by decide) (Nat.le_of_ble_eq_true rfl) (fun p e s m args below meth c ls C X hl => bX12_game_0 C O X (lv_sub hl [0, 1, 2, 3] rfl) hF)
-- drawOf
noncomputable def fX12_drawOf_b0 (N : Nat) (x1 : Int32) (S : gS) : Option (Int32 × gS) := lt (sU S 99 56 (((((S 99 56) * 1103515245 : Int32)) + 12345 : Int32))) fun S1 => (chk (nz x1) (some (((((((S1 99 56) >>> ((16 : Int32) &&& 31) : Int32)) &&& 32767 : Int32)) - (((((S1 99 56) >>> ((16 : Int32) &&& 31) : Int32)) &&& 32767 : Int32)) / x1 * x1 : Int32), S1)))
theorem bX12_drawOf_0 {N : Nat} {x1 : Int32} {S : gS} {H : Heap} {locs : List Loc} {ls : Array Slot} {o : Int32 × gS} (C : gC p s m args meth c cX12_drawOf 2 RX12 ((some .int)) D (mtys cI cS) mord g Am) (O : gO (mcell g cI cS sa) mord g) (X : gX D (mcell g cI cS sa) mord g S s H locs) (hl : lv_has ls 2 [(0, .ref (g 99)), (1, .int x1)]) (hF : fX12_drawOf_b0 N x1 S = some o) : W p l e (rmd 0) s m args below meth c H locs 0 0 (gE below args s D (mtys cI cS) (mcell g cI cS sa) mord g (some (.int o.1)) o.2) (F0 m 0 ls []) := by
  unfold fX12_drawOf_b0 at hF
  refine lv_aload_n C.1.1 C.1.2.1 dX12_drawOf_0 rfl (lv_at hl 0 rfl) ?_
  refine lv_aload_n C.1.1 C.1.2.1 dX12_drawOf_1 rfl (lv_at hl 0 rfl) ?_
  refine m_g56 C X dX12_drawOf_2 ?_
  refine lv_ldcw C.1.1 C.1.2.1 C.1.2.2.2.1 (C.1.2.2.2.2 _ mKI480) dX12_drawOf_5 ?_
  refine lv_imul C.1.1 C.1.2.1 dX12_drawOf_8 ?_
  refine lv_sipush (v := 12345) C.1.1 C.1.2.1 dX12_drawOf_9 (by decide) ?_
  refine lv_iadd C.1.1 C.1.2.1 dX12_drawOf_12 ?_
  obtain ⟨S1, eS1, hF⟩ := lt_some hF
  refine m_p56 C O X eS1 dX12_drawOf_13 (fun H locs X => ?_)
  refine lv_aload_n C.1.1 C.1.2.1 dX12_drawOf_16 rfl (lv_at hl 0 rfl) ?_
  refine m_g56 C X dX12_drawOf_17 ?_
  refine lv_bipush (v := 16) C.1.1 C.1.2.1 dX12_drawOf_20 (by decide) ?_
  refine lv_ishr C.1.1 C.1.2.1 dX12_drawOf_22 ?_
  refine lv_sipush (v := 32767) C.1.1 C.1.2.1 dX12_drawOf_23 (by decide) ?_
  refine lv_iand C.1.1 C.1.2.1 dX12_drawOf_26 ?_
  refine lv_iload_n C.1.1 C.1.2.1 dX12_drawOf_27 rfl (lv_at hl 1 rfl) ?_
  obtain ⟨h_1, hF⟩ := chk_some hF
  refine lv_irem C.1.1 C.1.2.1 dX12_drawOf_28 (nz_ne h_1) ?_
  cases hF
  exact g_iret C X dX12_drawOf_29
noncomputable def fX12_drawOf (N : Nat) (x1 : Int32) (S : gS) : Option (Int32 × gS) := fX12_drawOf_b0 N x1 S
theorem kX12_drawOf {l : Launch} {D : va_G} {g : Nat → Nat} {cI cS : ClassId} {sa : Nat → Nat → Option Nat} {Am : (Nat → Prop) → State → Heap → Prop} (O : gO (mcell g cI cS sa) mord g) (P : gAm Am) (N : Nat) (x1 : Int32) (S : gS) (o : Int32 × gS) (hF : fX12_drawOf N x1 S = some o) : gM l yX12_drawOf cX12_drawOf 2 ((some .int)) 0 D (mtys cI cS) (mcell g cI cS sa) mord g Am [.ref (g 99), .int x1] S (some (.int o.1)) o.2 :=
  gM_of O P (by decide) (Nat.le_of_ble_eq_true rfl) (fun p e s m args below meth c ls C X hl => bX12_drawOf_0 C O X (lv_sub hl [0, 1] rfl) hF)
-- something
noncomputable def fX12_something_b151 (N : Nat) (S : gS) : Option (Int32 × gS) := bnd (fX12_drawOf N 4 S) fun q1 => (lt (sU q1.2 99 41 q1.1) fun S2 => (some (0, S2)))
theorem bX12_something_151 {N : Nat} {S : gS} {H : Heap} {locs : List Loc} {ls : Array Slot} {o : Int32 × gS} (C : gC p s m args meth c cX12_something 5 RX12 none D (mtys cI cS) mord g Am) (O : gO (mcell g cI cS sa) mord g) (X : gX D (mcell g cI cS sa) mord g S s H locs) (hl : lv_has ls 5 [(0, .ref (g 99))]) (hF : fX12_something_b151 N S = some o) : W p l e (rmd 1) s m args below meth c H locs 0 0 (gE below args s D (mtys cI cS) (mcell g cI cS sa) mord g none o.2) (F0 m 151 ls []) := by
  unfold fX12_something_b151 at hF
  refine lv_aload_n C.1.1 C.1.2.1 dX12_something_151 rfl (lv_at hl 0 rfl) ?_
  refine lv_aload_n C.1.1 C.1.2.1 dX12_something_152 rfl (lv_at hl 0 rfl) ?_
  refine lv_iconst (v := 4) C.1.1 C.1.2.1 dX12_something_153 (by decide) ?_
  obtain ⟨q1, hq1, hF⟩ := bnd_some hF
  refine m_callVi C X vX12_drawOf rfl (kX12_drawOf O C.2.2.2.2.1 N 4  S q1 hq1) (Nat.le_of_ble_eq_true rfl) (Nat.le_of_ble_eq_true rfl) (Nat.le_of_ble_eq_true rfl) (Nat.le_of_ble_eq_true rfl) rfl hl.1 rfl (Nat.le_of_ble_eq_true rfl) dX12_something_154 (fun H locs X => ?_)
  obtain ⟨S2, eS2, hF⟩ := lt_some hF
  refine m_p41 C O X eS2 dX12_something_157 (fun H locs X => ?_)
  cases hF
  exact g_vret C X dX12_something_160
noncomputable def fX12_something_b119 (N : Nat) (S : gS) : Option (Int32 × gS) := bnd (fX12_drawOf N (S 5 1) S) fun q1 => (chk (inb q1.1 (6)) (chk (inb q1.1 (6)) (lt (sU q1.2 33 (Int32.toNatClampNeg q1.1) (if (((q1.2 33 (Int32.toNatClampNeg q1.1)) + 20 : Int32)) < 999 then (((q1.2 33 (Int32.toNatClampNeg q1.1)) + 20 : Int32)) else 999)) fun S2 => (fX12_something_b151 N S2))))
theorem bX12_something_119 {N : Nat} {S : gS} {H : Heap} {locs : List Loc} {ls : Array Slot} {o : Int32 × gS} (C : gC p s m args meth c cX12_something 5 RX12 none D (mtys cI cS) mord g Am) (O : gO (mcell g cI cS sa) mord g) (X : gX D (mcell g cI cS sa) mord g S s H locs) (hl : lv_has ls 5 [(0, .ref (g 99))]) (hF : fX12_something_b119 N S = some o) : W p l e (rmd 1) s m args below meth c H locs 0 0 (gE below args s D (mtys cI cS) (mcell g cI cS sa) mord g none o.2) (F0 m 119 ls []) := by
  unfold fX12_something_b119 at hF
  refine lv_aload_n C.1.1 C.1.2.1 dX12_something_119 rfl (lv_at hl 0 rfl) ?_
  refine lv_aload_n C.1.1 C.1.2.1 dX12_something_120 rfl (lv_at hl 0 rfl) ?_
  refine m_g5 C X dX12_something_121 ?_
  refine lv_iconst (v := 1) C.1.1 C.1.2.1 dX12_something_124 (by decide) ?_
  refine m_r5 C X (j := 1) (inb_vp (by decide)) (by decide) dX12_something_125 ?_
  obtain ⟨q1, hq1, hF⟩ := bnd_some hF
  refine m_callVi C X vX12_drawOf rfl (kX12_drawOf O C.2.2.2.2.1 N (S 5 1)  S q1 hq1) (Nat.le_of_ble_eq_true rfl) (Nat.le_of_ble_eq_true rfl) (Nat.le_of_ble_eq_true rfl) (Nat.le_of_ble_eq_true rfl) rfl hl.1 rfl (Nat.le_of_ble_eq_true rfl) dX12_something_126 (fun H locs X => ?_)
  refine lv_istore_n (lv' := [(3, .int q1.1), (0, .ref (g 99))]) C.1.1 C.1.2.1 dX12_something_129 rfl hl (by decide) rfl (fun ls hl => ?_)
  refine lv_aload_n C.1.1 C.1.2.1 dX12_something_130 rfl (lv_at hl 1 rfl) ?_
  refine m_g33 C X dX12_something_131 ?_
  refine lv_iload_n C.1.1 C.1.2.1 dX12_something_134 rfl (lv_at hl 0 rfl) ?_
  refine lv_sipush (v := 999) C.1.1 C.1.2.1 dX12_something_135 (by decide) ?_
  refine lv_aload_n C.1.1 C.1.2.1 dX12_something_138 rfl (lv_at hl 1 rfl) ?_
  refine m_g33 C X dX12_something_139 ?_
  refine lv_iload_n C.1.1 C.1.2.1 dX12_something_142 rfl (lv_at hl 0 rfl) ?_
  obtain ⟨h_1, hF⟩ := chk_some hF
  refine m_r33 C X  (inb_vp h_1) rfl dX12_something_143 ?_
  refine lv_bipush (v := 20) C.1.1 C.1.2.1 dX12_something_144 (by decide) ?_
  refine lv_iadd C.1.1 C.1.2.1 dX12_something_146 ?_
  refine g_min C hl.1 mMmin192 ⟨Nat.le_of_ble_eq_true rfl, Nat.le_of_ble_eq_true rfl⟩ (Nat.le_of_ble_eq_true rfl) (Nat.le_of_ble_eq_true rfl) dX12_something_147 ?_
  obtain ⟨h_2, hF⟩ := chk_some hF
  obtain ⟨S2, eS2, hF⟩ := lt_some hF
  refine m_w33 C O X  (inb_vp h_2) rfl eS2 dX12_something_150 (fun H locs X => ?_)
  exact bX12_something_151 C O X (lv_sub hl [1] rfl) hF
noncomputable def fX12_something_b115 (N : Nat) (x2 : Int32) (S : gS) : Option (Int32 × gS) := if x2 = 0 then fX12_something_b151 N S else fX12_something_b119 N S
theorem bX12_something_115 {N : Nat} {x2 : Int32} {S : gS} {H : Heap} {locs : List Loc} {ls : Array Slot} {o : Int32 × gS} (C : gC p s m args meth c cX12_something 5 RX12 none D (mtys cI cS) mord g Am) (O : gO (mcell g cI cS sa) mord g) (X : gX D (mcell g cI cS sa) mord g S s H locs) (hl : lv_has ls 5 [(0, .ref (g 99)), (2, .int x2)]) (hF : fX12_something_b115 N x2 S = some o) : W p l e (rmd 1) s m args below meth c H locs 0 0 (gE below args s D (mtys cI cS) (mcell g cI cS sa) mord g none o.2) (F0 m 115 ls []) := by
  unfold fX12_something_b115 at hF
  refine lv_iload_n C.1.1 C.1.2.1 dX12_something_115 rfl (lv_at hl 1 rfl) ?_
  refine lv_if_eq (tgt := 151) C.1.1 C.1.2.1 dX12_something_116 (by decide) (fun h_z => ?_) (fun h_z => ?_)
  · rw [if_pos h_z] at hF
    exact bX12_something_151 C O X (lv_sub hl [0] rfl) hF
  · rw [if_neg h_z] at hF
    exact bX12_something_119 C O X (lv_sub hl [0] rfl) hF
noncomputable def fX12_something_b110 (N : Nat) (x1 : Int32) (x2 : Int32) (S : gS) : Option (Int32 × gS) := if x1 = 2 then fX12_something_b115 N x2 S else fX12_something_b151 N S
theorem bX12_something_110 {N : Nat} {x1 : Int32} {x2 : Int32} {S : gS} {H : Heap} {locs : List Loc} {ls : Array Slot} {o : Int32 × gS} (C : gC p s m args meth c cX12_something 5 RX12 none D (mtys cI cS) mord g Am) (O : gO (mcell g cI cS sa) mord g) (X : gX D (mcell g cI cS sa) mord g S s H locs) (hl : lv_has ls 5 [(0, .ref (g 99)), (1, .int x1), (2, .int x2)]) (hF : fX12_something_b110 N x1 x2 S = some o) : W p l e (rmd 1) s m args below meth c H locs 0 0 (gE below args s D (mtys cI cS) (mcell g cI cS sa) mord g none o.2) (F0 m 110 ls []) := by
  unfold fX12_something_b110 at hF
  refine lv_iload_n C.1.1 C.1.2.1 dX12_something_110 rfl (lv_at hl 1 rfl) ?_
  refine lv_iconst (v := 2) C.1.1 C.1.2.1 dX12_something_111 (by decide) ?_
  refine lv_icmp_ne (tgt := 151) C.1.1 C.1.2.1 dX12_something_112 (by decide) (fun h_z => ?_) (fun h_z => ?_)
  · rw [if_neg h_z] at hF
    exact bX12_something_151 C O X (lv_sub hl [0] rfl) hF
  · rw [if_pos h_z] at hF
    exact bX12_something_115 C O X (lv_sub hl [0, 2] rfl) hF
noncomputable def fX12_something_b89 (N : Nat) (x1 : Int32) (x2 : Int32) (S : gS) : Option (Int32 × gS) := bnd (fX12_drawOf N (S 5 0) S) fun q1 => (lt (sU q1.2 99 38 (((S 99 38) ^^^ (((1 : Int32) <<< (q1.1 &&& 31) : Int32)) : Int32))) fun S2 => (fX12_something_b110 N x1 x2 S2))
theorem bX12_something_89 {N : Nat} {x1 : Int32} {x2 : Int32} {S : gS} {H : Heap} {locs : List Loc} {ls : Array Slot} {o : Int32 × gS} (C : gC p s m args meth c cX12_something 5 RX12 none D (mtys cI cS) mord g Am) (O : gO (mcell g cI cS sa) mord g) (X : gX D (mcell g cI cS sa) mord g S s H locs) (hl : lv_has ls 5 [(0, .ref (g 99)), (1, .int x1), (2, .int x2)]) (hF : fX12_something_b89 N x1 x2 S = some o) : W p l e (rmd 1) s m args below meth c H locs 0 0 (gE below args s D (mtys cI cS) (mcell g cI cS sa) mord g none o.2) (F0 m 89 ls []) := by
  unfold fX12_something_b89 at hF
  refine lv_aload_n C.1.1 C.1.2.1 dX12_something_89 rfl (lv_at hl 0 rfl) ?_
  refine lv_dup C.1.1 C.1.2.1 dX12_something_90 rfl ?_
  refine m_g38 C X dX12_something_91 ?_
  refine lv_iconst (v := 1) C.1.1 C.1.2.1 dX12_something_94 (by decide) ?_
  refine lv_aload_n C.1.1 C.1.2.1 dX12_something_95 rfl (lv_at hl 0 rfl) ?_
  refine lv_aload_n C.1.1 C.1.2.1 dX12_something_96 rfl (lv_at hl 0 rfl) ?_
  refine m_g5 C X dX12_something_97 ?_
  refine lv_iconst (v := 0) C.1.1 C.1.2.1 dX12_something_100 (by decide) ?_
  refine m_r5 C X (j := 0) (inb_vp (by decide)) (by decide) dX12_something_101 ?_
  obtain ⟨q1, hq1, hF⟩ := bnd_some hF
  refine m_callVi C X vX12_drawOf rfl (kX12_drawOf O C.2.2.2.2.1 N (S 5 0)  S q1 hq1) (Nat.le_of_ble_eq_true rfl) (Nat.le_of_ble_eq_true rfl) (Nat.le_of_ble_eq_true rfl) (Nat.le_of_ble_eq_true rfl) rfl hl.1 rfl (Nat.le_of_ble_eq_true rfl) dX12_something_102 (fun H locs X => ?_)
  refine lv_ishl C.1.1 C.1.2.1 dX12_something_105 ?_
  refine lv_ixor C.1.1 C.1.2.1 dX12_something_106 ?_
  obtain ⟨S2, eS2, hF⟩ := lt_some hF
  refine m_p38 C O X eS2 dX12_something_107 (fun H locs X => ?_)
  exact bX12_something_110 C O X (lv_sub hl [0, 1, 2] rfl) hF
noncomputable def fX12_something_b85 (N : Nat) (x1 : Int32) (x2 : Int32) (S : gS) : Option (Int32 × gS) := if x2 = 0 then fX12_something_b110 N x1 x2 S else fX12_something_b89 N x1 x2 S
theorem bX12_something_85 {N : Nat} {x1 : Int32} {x2 : Int32} {S : gS} {H : Heap} {locs : List Loc} {ls : Array Slot} {o : Int32 × gS} (C : gC p s m args meth c cX12_something 5 RX12 none D (mtys cI cS) mord g Am) (O : gO (mcell g cI cS sa) mord g) (X : gX D (mcell g cI cS sa) mord g S s H locs) (hl : lv_has ls 5 [(0, .ref (g 99)), (1, .int x1), (2, .int x2)]) (hF : fX12_something_b85 N x1 x2 S = some o) : W p l e (rmd 1) s m args below meth c H locs 0 0 (gE below args s D (mtys cI cS) (mcell g cI cS sa) mord g none o.2) (F0 m 85 ls []) := by
  unfold fX12_something_b85 at hF
  refine lv_iload_n C.1.1 C.1.2.1 dX12_something_85 rfl (lv_at hl 2 rfl) ?_
  refine lv_if_eq (tgt := 110) C.1.1 C.1.2.1 dX12_something_86 (by decide) (fun h_z => ?_) (fun h_z => ?_)
  · rw [if_pos h_z] at hF
    exact bX12_something_110 C O X (lv_sub hl [0, 1, 2] rfl) hF
  · rw [if_neg h_z] at hF
    exact bX12_something_89 C O X (lv_sub hl [0, 1, 2] rfl) hF
noncomputable def fX12_something_b80 (N : Nat) (x1 : Int32) (x2 : Int32) (S : gS) : Option (Int32 × gS) := if x1 = 1 then fX12_something_b85 N x1 x2 S else fX12_something_b110 N x1 x2 S
theorem bX12_something_80 {N : Nat} {x1 : Int32} {x2 : Int32} {S : gS} {H : Heap} {locs : List Loc} {ls : Array Slot} {o : Int32 × gS} (C : gC p s m args meth c cX12_something 5 RX12 none D (mtys cI cS) mord g Am) (O : gO (mcell g cI cS sa) mord g) (X : gX D (mcell g cI cS sa) mord g S s H locs) (hl : lv_has ls 5 [(0, .ref (g 99)), (1, .int x1), (2, .int x2)]) (hF : fX12_something_b80 N x1 x2 S = some o) : W p l e (rmd 1) s m args below meth c H locs 0 0 (gE below args s D (mtys cI cS) (mcell g cI cS sa) mord g none o.2) (F0 m 80 ls []) := by
  unfold fX12_something_b80 at hF
  refine lv_iload_n C.1.1 C.1.2.1 dX12_something_80 rfl (lv_at hl 1 rfl) ?_
  refine lv_iconst (v := 1) C.1.1 C.1.2.1 dX12_something_81 (by decide) ?_
  refine lv_icmp_ne (tgt := 110) C.1.1 C.1.2.1 dX12_something_82 (by decide) (fun h_z => ?_) (fun h_z => ?_)
  · rw [if_neg h_z] at hF
    exact bX12_something_110 C O X (lv_sub hl [0, 1, 2] rfl) hF
  · rw [if_pos h_z] at hF
    exact bX12_something_85 C O X (lv_sub hl [0, 1, 2] rfl) hF
noncomputable def fX12_something_b72 (N : Nat) (x1 : Int32) (x2 : Int32) (x3 : Int32) (x4 : Int32) (S : gS) : Option (Int32 × gS) := chk (inb x3 (6)) (lt (sU S 35 (Int32.toNatClampNeg x3) x4) fun S1 => (fX12_something_b80 N x1 x2 S1))
theorem bX12_something_72 {N : Nat} {x1 : Int32} {x2 : Int32} {x3 : Int32} {x4 : Int32} {S : gS} {H : Heap} {locs : List Loc} {ls : Array Slot} {o : Int32 × gS} (C : gC p s m args meth c cX12_something 5 RX12 none D (mtys cI cS) mord g Am) (O : gO (mcell g cI cS sa) mord g) (X : gX D (mcell g cI cS sa) mord g S s H locs) (hl : lv_has ls 5 [(0, .ref (g 99)), (1, .int x1), (2, .int x2), (3, .int x3), (4, .int x4)]) (hF : fX12_something_b72 N x1 x2 x3 x4 S = some o) : W p l e (rmd 1) s m args below meth c H locs 0 0 (gE below args s D (mtys cI cS) (mcell g cI cS sa) mord g none o.2) (F0 m 72 ls []) := by
  unfold fX12_something_b72 at hF
  refine lv_aload_n C.1.1 C.1.2.1 dX12_something_72 rfl (lv_at hl 0 rfl) ?_
  refine m_g35 C X dX12_something_73 ?_
  refine lv_iload_n C.1.1 C.1.2.1 dX12_something_76 rfl (lv_at hl 3 rfl) ?_
  refine lv_iload C.1.1 C.1.2.1 dX12_something_77 (lv_at hl 4 rfl) ?_
  obtain ⟨h_1, hF⟩ := chk_some hF
  obtain ⟨S1, eS1, hF⟩ := lt_some hF
  refine m_w35 C O X  (inb_vp h_1) rfl eS1 dX12_something_79 (fun H locs X => ?_)
  exact bX12_something_80 C O X (lv_sub hl [0, 1, 2] rfl) hF
noncomputable def fX12_something_b39 (N : Nat) (x1 : Int32) (x2 : Int32) (S : gS) : Option (Int32 × gS) := bnd (fX12_drawOf N (S 5 1) S) fun q1 => (bnd (fX12_drawOf N (q1.2 5 0) q1.2) fun q2 => (bnd (fX12_hirerOf N q2.1 q2.2) fun q3 => (if q3.1 = ((-1)) then fX12_something_b72 N x1 x2 q1.1 q2.1 q3.2 else fX12_something_b80 N x1 x2 q3.2)))
theorem bX12_something_39 {N : Nat} {x1 : Int32} {x2 : Int32} {S : gS} {H : Heap} {locs : List Loc} {ls : Array Slot} {o : Int32 × gS} (C : gC p s m args meth c cX12_something 5 RX12 none D (mtys cI cS) mord g Am) (O : gO (mcell g cI cS sa) mord g) (X : gX D (mcell g cI cS sa) mord g S s H locs) (hl : lv_has ls 5 [(0, .ref (g 99)), (1, .int x1), (2, .int x2)]) (hF : fX12_something_b39 N x1 x2 S = some o) : W p l e (rmd 1) s m args below meth c H locs 0 0 (gE below args s D (mtys cI cS) (mcell g cI cS sa) mord g none o.2) (F0 m 39 ls []) := by
  unfold fX12_something_b39 at hF
  refine lv_aload_n C.1.1 C.1.2.1 dX12_something_39 rfl (lv_at hl 0 rfl) ?_
  refine lv_aload_n C.1.1 C.1.2.1 dX12_something_40 rfl (lv_at hl 0 rfl) ?_
  refine m_g5 C X dX12_something_41 ?_
  refine lv_iconst (v := 1) C.1.1 C.1.2.1 dX12_something_44 (by decide) ?_
  refine m_r5 C X (j := 1) (inb_vp (by decide)) (by decide) dX12_something_45 ?_
  obtain ⟨q1, hq1, hF⟩ := bnd_some hF
  refine m_callVi C X vX12_drawOf rfl (kX12_drawOf O C.2.2.2.2.1 N (S 5 1)  S q1 hq1) (Nat.le_of_ble_eq_true rfl) (Nat.le_of_ble_eq_true rfl) (Nat.le_of_ble_eq_true rfl) (Nat.le_of_ble_eq_true rfl) rfl hl.1 rfl (Nat.le_of_ble_eq_true rfl) dX12_something_46 (fun H locs X => ?_)
  refine lv_istore_n (lv' := [(3, .int q1.1), (0, .ref (g 99)), (1, .int x1), (2, .int x2)]) C.1.1 C.1.2.1 dX12_something_49 rfl hl (by decide) rfl (fun ls hl => ?_)
  refine lv_aload_n C.1.1 C.1.2.1 dX12_something_50 rfl (lv_at hl 1 rfl) ?_
  refine lv_aload_n C.1.1 C.1.2.1 dX12_something_51 rfl (lv_at hl 1 rfl) ?_
  refine m_g5 C X dX12_something_52 ?_
  refine lv_iconst (v := 0) C.1.1 C.1.2.1 dX12_something_55 (by decide) ?_
  refine m_r5 C X (j := 0) (inb_vp (by decide)) (by decide) dX12_something_56 ?_
  obtain ⟨q2, hq2, hF⟩ := bnd_some hF
  refine m_callVi C X vX12_drawOf rfl (kX12_drawOf O C.2.2.2.2.1 N (q1.2 5 0)  q1.2 q2 hq2) (Nat.le_of_ble_eq_true rfl) (Nat.le_of_ble_eq_true rfl) (Nat.le_of_ble_eq_true rfl) (Nat.le_of_ble_eq_true rfl) rfl hl.1 rfl (Nat.le_of_ble_eq_true rfl) dX12_something_57 (fun H locs X => ?_)
  refine lv_istore (lv' := [(4, .int q2.1), (3, .int q1.1), (0, .ref (g 99)), (1, .int x1), (2, .int x2)]) C.1.1 C.1.2.1 dX12_something_60 hl (by decide) rfl (fun ls hl => ?_)
  refine lv_aload_n C.1.1 C.1.2.1 dX12_something_62 rfl (lv_at hl 2 rfl) ?_
  refine lv_iload C.1.1 C.1.2.1 dX12_something_63 (lv_at hl 0 rfl) ?_
  obtain ⟨q3, hq3, hF⟩ := bnd_some hF
  refine m_callVi C X vX12_hirerOf rfl (kX12_hirerOf O C.2.2.2.2.1 N q2.1  q2.2 q3 hq3) (Nat.le_of_ble_eq_true rfl) (Nat.le_of_ble_eq_true rfl) (Nat.le_of_ble_eq_true rfl) (Nat.le_of_ble_eq_true rfl) rfl hl.1 rfl (Nat.le_of_ble_eq_true rfl) dX12_something_65 (fun H locs X => ?_)
  refine lv_iconst (v := (-1)) C.1.1 C.1.2.1 dX12_something_68 (by decide) ?_
  refine lv_icmp_ne (tgt := 80) C.1.1 C.1.2.1 dX12_something_69 (by decide) (fun h_z => ?_) (fun h_z => ?_)
  · rw [if_neg h_z] at hF
    exact bX12_something_80 C O X (lv_sub hl [2, 3, 4] rfl) hF
  · rw [if_pos h_z] at hF
    exact bX12_something_72 C O X (lv_sub hl [2, 3, 4, 1, 0] rfl) hF
noncomputable def fX12_something_b35 (N : Nat) (x1 : Int32) (x2 : Int32) (S : gS) : Option (Int32 × gS) := if x2 = 0 then fX12_something_b80 N x1 x2 S else fX12_something_b39 N x1 x2 S
theorem bX12_something_35 {N : Nat} {x1 : Int32} {x2 : Int32} {S : gS} {H : Heap} {locs : List Loc} {ls : Array Slot} {o : Int32 × gS} (C : gC p s m args meth c cX12_something 5 RX12 none D (mtys cI cS) mord g Am) (O : gO (mcell g cI cS sa) mord g) (X : gX D (mcell g cI cS sa) mord g S s H locs) (hl : lv_has ls 5 [(0, .ref (g 99)), (1, .int x1), (2, .int x2)]) (hF : fX12_something_b35 N x1 x2 S = some o) : W p l e (rmd 1) s m args below meth c H locs 0 0 (gE below args s D (mtys cI cS) (mcell g cI cS sa) mord g none o.2) (F0 m 35 ls []) := by
  unfold fX12_something_b35 at hF
  refine lv_iload_n C.1.1 C.1.2.1 dX12_something_35 rfl (lv_at hl 2 rfl) ?_
  refine lv_if_eq (tgt := 80) C.1.1 C.1.2.1 dX12_something_36 (by decide) (fun h_z => ?_) (fun h_z => ?_)
  · rw [if_pos h_z] at hF
    exact bX12_something_80 C O X (lv_sub hl [0, 1, 2] rfl) hF
  · rw [if_neg h_z] at hF
    exact bX12_something_39 C O X (lv_sub hl [0, 1, 2] rfl) hF
noncomputable def fX12_something_b30 (N : Nat) (x1 : Int32) (t0 : Int32) (S : gS) : Option (Int32 × gS) := if x1 = 0 then fX12_something_b35 N x1 t0 S else fX12_something_b80 N x1 t0 S
theorem bX12_something_30 {N : Nat} {x1 : Int32} {t0 : Int32} {S : gS} {H : Heap} {locs : List Loc} {ls : Array Slot} {o : Int32 × gS} (C : gC p s m args meth c cX12_something 5 RX12 none D (mtys cI cS) mord g Am) (O : gO (mcell g cI cS sa) mord g) (X : gX D (mcell g cI cS sa) mord g S s H locs) (hl : lv_has ls 5 [(0, .ref (g 99)), (1, .int x1)]) (hF : fX12_something_b30 N x1 t0 S = some o) : W p l e (rmd 1) s m args below meth c H locs 0 0 (gE below args s D (mtys cI cS) (mcell g cI cS sa) mord g none o.2) (F0 m 30 ls [.int t0]) := by
  unfold fX12_something_b30 at hF
  refine lv_istore_n (lv' := [(2, .int t0), (0, .ref (g 99)), (1, .int x1)]) C.1.1 C.1.2.1 dX12_something_30 rfl hl (by decide) rfl (fun ls hl => ?_)
  refine lv_iload_n C.1.1 C.1.2.1 dX12_something_31 rfl (lv_at hl 2 rfl) ?_
  refine lv_if_ne (tgt := 80) C.1.1 C.1.2.1 dX12_something_32 (by decide) (fun h_z => ?_) (fun h_z => ?_)
  · rw [if_neg h_z] at hF
    exact bX12_something_80 C O X (lv_sub hl [1, 2, 0] rfl) hF
  · rw [if_pos h_z] at hF
    exact bX12_something_35 C O X (lv_sub hl [1, 2, 0] rfl) hF
noncomputable def fX12_something_b29 (N : Nat) (x1 : Int32) (S : gS) : Option (Int32 × gS) := fX12_something_b30 N x1 0 S
theorem bX12_something_29 {N : Nat} {x1 : Int32} {S : gS} {H : Heap} {locs : List Loc} {ls : Array Slot} {o : Int32 × gS} (C : gC p s m args meth c cX12_something 5 RX12 none D (mtys cI cS) mord g Am) (O : gO (mcell g cI cS sa) mord g) (X : gX D (mcell g cI cS sa) mord g S s H locs) (hl : lv_has ls 5 [(0, .ref (g 99)), (1, .int x1)]) (hF : fX12_something_b29 N x1 S = some o) : W p l e (rmd 1) s m args below meth c H locs 0 0 (gE below args s D (mtys cI cS) (mcell g cI cS sa) mord g none o.2) (F0 m 29 ls []) := by
  unfold fX12_something_b29 at hF
  refine lv_iconst (v := 0) C.1.1 C.1.2.1 dX12_something_29 (by decide) ?_
  exact bX12_something_30 C O X (lv_sub hl [0, 1] rfl) hF
noncomputable def fX12_something_b25 (N : Nat) (x1 : Int32) (S : gS) : Option (Int32 × gS) := fX12_something_b30 N x1 1 S
theorem bX12_something_25 {N : Nat} {x1 : Int32} {S : gS} {H : Heap} {locs : List Loc} {ls : Array Slot} {o : Int32 × gS} (C : gC p s m args meth c cX12_something 5 RX12 none D (mtys cI cS) mord g Am) (O : gO (mcell g cI cS sa) mord g) (X : gX D (mcell g cI cS sa) mord g S s H locs) (hl : lv_has ls 5 [(0, .ref (g 99)), (1, .int x1)]) (hF : fX12_something_b25 N x1 S = some o) : W p l e (rmd 1) s m args below meth c H locs 0 0 (gE below args s D (mtys cI cS) (mcell g cI cS sa) mord g none o.2) (F0 m 25 ls []) := by
  unfold fX12_something_b25 at hF
  refine lv_iconst (v := 1) C.1.1 C.1.2.1 dX12_something_25 (by decide) ?_
  refine lv_goto (tgt := 30) C.1.1 C.1.2.1 dX12_something_26 (by decide) ?_
  exact bX12_something_30 C O X (lv_sub hl [0, 1] rfl) hF
noncomputable def fX12_something_b16 (N : Nat) (x1 : Int32) (S : gS) : Option (Int32 × gS) := if (S 5 1) ≤ 0 then fX12_something_b29 N x1 S else fX12_something_b25 N x1 S
theorem bX12_something_16 {N : Nat} {x1 : Int32} {S : gS} {H : Heap} {locs : List Loc} {ls : Array Slot} {o : Int32 × gS} (C : gC p s m args meth c cX12_something 5 RX12 none D (mtys cI cS) mord g Am) (O : gO (mcell g cI cS sa) mord g) (X : gX D (mcell g cI cS sa) mord g S s H locs) (hl : lv_has ls 5 [(0, .ref (g 99)), (1, .int x1)]) (hF : fX12_something_b16 N x1 S = some o) : W p l e (rmd 1) s m args below meth c H locs 0 0 (gE below args s D (mtys cI cS) (mcell g cI cS sa) mord g none o.2) (F0 m 16 ls []) := by
  unfold fX12_something_b16 at hF
  refine lv_aload_n C.1.1 C.1.2.1 dX12_something_16 rfl (lv_at hl 0 rfl) ?_
  refine m_g5 C X dX12_something_17 ?_
  refine lv_iconst (v := 1) C.1.1 C.1.2.1 dX12_something_20 (by decide) ?_
  refine m_r5 C X (j := 1) (inb_vp (by decide)) (by decide) dX12_something_21 ?_
  refine lv_if_le (tgt := 29) C.1.1 C.1.2.1 dX12_something_22 (by decide) (fun h_z => ?_) (fun h_z => ?_)
  · rw [if_pos h_z] at hF
    exact bX12_something_29 C O X (lv_sub hl [0, 1] rfl) hF
  · rw [if_neg h_z] at hF
    exact bX12_something_25 C O X (lv_sub hl [0, 1] rfl) hF
noncomputable def fX12_something_b0 (N : Nat) (S : gS) : Option (Int32 × gS) := bnd (fX12_drawOf N 7 S) fun q1 => (if (q1.2 5 0) ≤ 0 then fX12_something_b29 N q1.1 q1.2 else fX12_something_b16 N q1.1 q1.2)
theorem bX12_something_0 {N : Nat} {S : gS} {H : Heap} {locs : List Loc} {ls : Array Slot} {o : Int32 × gS} (C : gC p s m args meth c cX12_something 5 RX12 none D (mtys cI cS) mord g Am) (O : gO (mcell g cI cS sa) mord g) (X : gX D (mcell g cI cS sa) mord g S s H locs) (hl : lv_has ls 5 [(0, .ref (g 99))]) (hF : fX12_something_b0 N S = some o) : W p l e (rmd 1) s m args below meth c H locs 0 0 (gE below args s D (mtys cI cS) (mcell g cI cS sa) mord g none o.2) (F0 m 0 ls []) := by
  unfold fX12_something_b0 at hF
  refine lv_aload_n C.1.1 C.1.2.1 dX12_something_0 rfl (lv_at hl 0 rfl) ?_
  refine lv_bipush (v := 7) C.1.1 C.1.2.1 dX12_something_1 (by decide) ?_
  obtain ⟨q1, hq1, hF⟩ := bnd_some hF
  refine m_callVi C X vX12_drawOf rfl (kX12_drawOf O C.2.2.2.2.1 N 7  S q1 hq1) (Nat.le_of_ble_eq_true rfl) (Nat.le_of_ble_eq_true rfl) (Nat.le_of_ble_eq_true rfl) (Nat.le_of_ble_eq_true rfl) rfl hl.1 rfl (Nat.le_of_ble_eq_true rfl) dX12_something_3 (fun H locs X => ?_)
  refine lv_istore_n (lv' := [(1, .int q1.1), (0, .ref (g 99))]) C.1.1 C.1.2.1 dX12_something_6 rfl hl (by decide) rfl (fun ls hl => ?_)
  refine lv_aload_n C.1.1 C.1.2.1 dX12_something_7 rfl (lv_at hl 1 rfl) ?_
  refine m_g5 C X dX12_something_8 ?_
  refine lv_iconst (v := 0) C.1.1 C.1.2.1 dX12_something_11 (by decide) ?_
  refine m_r5 C X (j := 0) (inb_vp (by decide)) (by decide) dX12_something_12 ?_
  refine lv_if_le (tgt := 29) C.1.1 C.1.2.1 dX12_something_13 (by decide) (fun h_z => ?_) (fun h_z => ?_)
  · rw [if_pos h_z] at hF
    exact bX12_something_29 C O X (lv_sub hl [1, 0] rfl) hF
  · rw [if_neg h_z] at hF
    exact bX12_something_16 C O X (lv_sub hl [1, 0] rfl) hF
noncomputable def fX12_something (N : Nat) (S : gS) : Option (Int32 × gS) := fX12_something_b0 N S
theorem kX12_something {l : Launch} {D : va_G} {g : Nat → Nat} {cI cS : ClassId} {sa : Nat → Nat → Option Nat} {Am : (Nat → Prop) → State → Heap → Prop} (O : gO (mcell g cI cS sa) mord g) (P : gAm Am) (N : Nat) (S : gS) (o : Int32 × gS) (hF : fX12_something N S = some o) : gM l yX12_something cX12_something 5 none 1 D (mtys cI cS) (mcell g cI cS sa) mord g Am [.ref (g 99)] S none o.2 :=
  gM_of O P (by decide) (Nat.le_of_ble_eq_true rfl) (fun p e s m args below meth c ls C X hl => bX12_something_0 C O X (lv_sub hl [0] rfl) hF)
-- years
noncomputable def fX12_years_b130 (N : Nat) (t0 : Int32) (S : gS) : Option (Int32 × gS) := bnd (fX12_unpack N 46 0 S) fun q1 => (some (t0, q1.2))
theorem bX12_years_130 {N : Nat} {t0 : Int32} {S : gS} {H : Heap} {locs : List Loc} {ls : Array Slot} {o : Int32 × gS} (C : gC p s m args meth c cX12_years 6 RX12 ((some .int)) D (mtys cI cS) mord g Am) (O : gO (mcell g cI cS sa) mord g) (X : gX D (mcell g cI cS sa) mord g S s H locs) (hl : lv_has ls 6 [(0, .ref (g 99))]) (hF : fX12_years_b130 N t0 S = some o) : W p l e (rmd 6) s m args below meth c H locs 0 0 (gE below args s D (mtys cI cS) (mcell g cI cS sa) mord g (some (.int o.1)) o.2) (F0 m 130 ls [.int t0]) := by
  unfold fX12_years_b130 at hF
  refine lv_istore (lv' := [(5, .int t0), (0, .ref (g 99))]) C.1.1 C.1.2.1 dX12_years_130 hl (by decide) rfl (fun ls hl => ?_)
  refine lv_aload_n C.1.1 C.1.2.1 dX12_years_132 rfl (lv_at hl 1 rfl) ?_
  refine lv_aload_n C.1.1 C.1.2.1 dX12_years_133 rfl (lv_at hl 1 rfl) ?_
  refine m_g46 C X dX12_years_134 ?_
  refine lv_iconst (v := 0) C.1.1 C.1.2.1 dX12_years_137 (by decide) ?_
  obtain ⟨q1, hq1, hF⟩ := bnd_some hF
  refine m_callV C X vX12_unpack rfl (kX12_unpack O C.2.2.2.2.1 N 46 0 (rfl : mI 46 = true) S q1 hq1) (Nat.le_of_ble_eq_true rfl) (Nat.le_of_ble_eq_true rfl) (Nat.le_of_ble_eq_true rfl) (Nat.le_of_ble_eq_true rfl) rfl hl.1 rfl (Nat.le_of_ble_eq_true rfl) dX12_years_138 (fun H locs X => ?_)
  refine lv_iload C.1.1 C.1.2.1 dX12_years_141 (lv_at hl 0 rfl) ?_
  cases hF
  exact g_iret C X dX12_years_143
noncomputable def fX12_years_b123 (N : Nat) (S : gS) : Option (Int32 × gS) := bnd (fX12_hiredNow N  S) fun q1 => (bnd (fX12_bitsOf N q1.1 q1.2) fun q2 => (fX12_years_b130 N q2.1 q2.2))
theorem bX12_years_123 {N : Nat} {S : gS} {H : Heap} {locs : List Loc} {ls : Array Slot} {o : Int32 × gS} (C : gC p s m args meth c cX12_years 6 RX12 ((some .int)) D (mtys cI cS) mord g Am) (O : gO (mcell g cI cS sa) mord g) (X : gX D (mcell g cI cS sa) mord g S s H locs) (hl : lv_has ls 6 [(0, .ref (g 99))]) (hF : fX12_years_b123 N S = some o) : W p l e (rmd 6) s m args below meth c H locs 0 0 (gE below args s D (mtys cI cS) (mcell g cI cS sa) mord g (some (.int o.1)) o.2) (F0 m 123 ls []) := by
  unfold fX12_years_b123 at hF
  refine lv_aload_n C.1.1 C.1.2.1 dX12_years_123 rfl (lv_at hl 0 rfl) ?_
  obtain ⟨q1, hq1, hF⟩ := bnd_some hF
  refine m_callVi C X vX12_hiredNow rfl (kX12_hiredNow O C.2.2.2.2.1 N   S q1 hq1) (Nat.le_of_ble_eq_true rfl) (Nat.le_of_ble_eq_true rfl) (Nat.le_of_ble_eq_true rfl) (Nat.le_of_ble_eq_true rfl) rfl hl.1 rfl (Nat.le_of_ble_eq_true rfl) dX12_years_124 (fun H locs X => ?_)
  obtain ⟨q2, hq2, hF⟩ := bnd_some hF
  refine g_callSi C X vX12_bitsOf (kX12_bitsOf O C.2.2.2.2.1 N q1.1  q1.2 q2 hq2) (Nat.le_of_ble_eq_true rfl) (Nat.le_of_ble_eq_true rfl) (Nat.le_of_ble_eq_true rfl) (Nat.le_of_ble_eq_true rfl) rfl hl.1 rfl (Nat.le_of_ble_eq_true rfl) dX12_years_127 (fun H locs X => ?_)
  exact bX12_years_130 C O X (lv_sub hl [0] rfl) hF
noncomputable def fX12_years_b112 (N : Nat) (S : gS) : Option (Int32 × gS) := bnd (fX12_sumOf N 33 S) fun q1 => (fX12_years_b130 N q1.1 q1.2)
theorem bX12_years_112 {N : Nat} {S : gS} {H : Heap} {locs : List Loc} {ls : Array Slot} {o : Int32 × gS} (C : gC p s m args meth c cX12_years 6 RX12 ((some .int)) D (mtys cI cS) mord g Am) (O : gO (mcell g cI cS sa) mord g) (X : gX D (mcell g cI cS sa) mord g S s H locs) (hl : lv_has ls 6 [(0, .ref (g 99))]) (hF : fX12_years_b112 N S = some o) : W p l e (rmd 6) s m args below meth c H locs 0 0 (gE below args s D (mtys cI cS) (mcell g cI cS sa) mord g (some (.int o.1)) o.2) (F0 m 112 ls []) := by
  unfold fX12_years_b112 at hF
  refine lv_aload_n C.1.1 C.1.2.1 dX12_years_112 rfl (lv_at hl 0 rfl) ?_
  refine lv_aload_n C.1.1 C.1.2.1 dX12_years_113 rfl (lv_at hl 0 rfl) ?_
  refine m_g33 C X dX12_years_114 ?_
  obtain ⟨q1, hq1, hF⟩ := bnd_some hF
  refine m_callVi C X vX12_sumOf rfl (kX12_sumOf O C.2.2.2.2.1 N 33 (rfl : mI 33 = true) S q1 hq1) (Nat.le_of_ble_eq_true rfl) (Nat.le_of_ble_eq_true rfl) (Nat.le_of_ble_eq_true rfl) (Nat.le_of_ble_eq_true rfl) rfl hl.1 rfl (Nat.le_of_ble_eq_true rfl) dX12_years_117 (fun H locs X => ?_)
  refine lv_goto (tgt := 130) C.1.1 C.1.2.1 dX12_years_120 (by decide) ?_
  exact bX12_years_130 C O X (lv_sub hl [0] rfl) hF
noncomputable def fX12_years_b107 (N : Nat) (x3 : Int32) (S : gS) : Option (Int32 × gS) := if x3 = 1 then fX12_years_b112 N S else fX12_years_b123 N S
theorem bX12_years_107 {N : Nat} {x3 : Int32} {S : gS} {H : Heap} {locs : List Loc} {ls : Array Slot} {o : Int32 × gS} (C : gC p s m args meth c cX12_years 6 RX12 ((some .int)) D (mtys cI cS) mord g Am) (O : gO (mcell g cI cS sa) mord g) (X : gX D (mcell g cI cS sa) mord g S s H locs) (hl : lv_has ls 6 [(0, .ref (g 99)), (3, .int x3)]) (hF : fX12_years_b107 N x3 S = some o) : W p l e (rmd 6) s m args below meth c H locs 0 0 (gE below args s D (mtys cI cS) (mcell g cI cS sa) mord g (some (.int o.1)) o.2) (F0 m 107 ls []) := by
  unfold fX12_years_b107 at hF
  refine lv_iload_n C.1.1 C.1.2.1 dX12_years_107 rfl (lv_at hl 1 rfl) ?_
  refine lv_iconst (v := 1) C.1.1 C.1.2.1 dX12_years_108 (by decide) ?_
  refine lv_icmp_ne (tgt := 123) C.1.1 C.1.2.1 dX12_years_109 (by decide) (fun h_z => ?_) (fun h_z => ?_)
  · rw [if_neg h_z] at hF
    exact bX12_years_123 C O X (lv_sub hl [0] rfl) hF
  · rw [if_pos h_z] at hF
    exact bX12_years_112 C O X (lv_sub hl [0] rfl) hF
noncomputable def fX12_years_b102 (N : Nat) (x4 : Int32) (S : gS) : Option (Int32 × gS) := fX12_years_b130 N x4 S
theorem bX12_years_102 {N : Nat} {x4 : Int32} {S : gS} {H : Heap} {locs : List Loc} {ls : Array Slot} {o : Int32 × gS} (C : gC p s m args meth c cX12_years 6 RX12 ((some .int)) D (mtys cI cS) mord g Am) (O : gO (mcell g cI cS sa) mord g) (X : gX D (mcell g cI cS sa) mord g S s H locs) (hl : lv_has ls 6 [(0, .ref (g 99)), (4, .int x4)]) (hF : fX12_years_b102 N x4 S = some o) : W p l e (rmd 6) s m args below meth c H locs 0 0 (gE below args s D (mtys cI cS) (mcell g cI cS sa) mord g (some (.int o.1)) o.2) (F0 m 102 ls []) := by
  unfold fX12_years_b102 at hF
  refine lv_iload C.1.1 C.1.2.1 dX12_years_102 (lv_at hl 1 rfl) ?_
  refine lv_goto (tgt := 130) C.1.1 C.1.2.1 dX12_years_104 (by decide) ?_
  exact bX12_years_130 C O X (lv_sub hl [0] rfl) hF
noncomputable def fX12_years_b93 (N : Nat) (x3 : Int32) (x4 : Int32) (S : gS) : Option (Int32 × gS) := lt (sU S 99 41 ((-1))) fun S1 => (if x3 = 0 then fX12_years_b102 N x4 S1 else fX12_years_b107 N x3 S1)
theorem bX12_years_93 {N : Nat} {x3 : Int32} {x4 : Int32} {S : gS} {H : Heap} {locs : List Loc} {ls : Array Slot} {o : Int32 × gS} (C : gC p s m args meth c cX12_years 6 RX12 ((some .int)) D (mtys cI cS) mord g Am) (O : gO (mcell g cI cS sa) mord g) (X : gX D (mcell g cI cS sa) mord g S s H locs) (hl : lv_has ls 6 [(0, .ref (g 99)), (3, .int x3), (4, .int x4)]) (hF : fX12_years_b93 N x3 x4 S = some o) : W p l e (rmd 6) s m args below meth c H locs 0 0 (gE below args s D (mtys cI cS) (mcell g cI cS sa) mord g (some (.int o.1)) o.2) (F0 m 93 ls []) := by
  unfold fX12_years_b93 at hF
  refine lv_aload_n C.1.1 C.1.2.1 dX12_years_93 rfl (lv_at hl 0 rfl) ?_
  refine lv_iconst (v := (-1)) C.1.1 C.1.2.1 dX12_years_94 (by decide) ?_
  obtain ⟨S1, eS1, hF⟩ := lt_some hF
  refine m_p41 C O X eS1 dX12_years_95 (fun H locs X => ?_)
  refine lv_iload_n C.1.1 C.1.2.1 dX12_years_98 rfl (lv_at hl 1 rfl) ?_
  refine lv_if_ne (tgt := 107) C.1.1 C.1.2.1 dX12_years_99 (by decide) (fun h_z => ?_) (fun h_z => ?_)
  · rw [if_neg h_z] at hF
    exact bX12_years_107 C O X (lv_sub hl [0, 1] rfl) hF
  · rw [if_pos h_z] at hF
    exact bX12_years_102 C O X (lv_sub hl [0, 2] rfl) hF
noncomputable def fX12_years_b67 (N : Nat) (r61 : Int32 → Int32 → Int32 → Int32 → gS → Option (Int32 × gS)) (x2 : Int32) (x3 : Int32) (x4 : Int32) (x5 : Int32) (S : gS) : Option (Int32 × gS) := bnd (fX12_something N  S) fun q1 => (bnd (fX12_anHour N  q1.2) fun q2 => (bnd (fX12_bitsOf N (q2.2 99 45) q2.2) fun q3 => (r61 x2 x3 ((x4 + q3.1 : Int32)) ((x5 + 1 : Int32)) q3.2)))
theorem bX12_years_67 {N : Nat} {r61 : Int32 → Int32 → Int32 → Int32 → gS → Option (Int32 × gS)} {x2 : Int32} {x3 : Int32} {x4 : Int32} {x5 : Int32} {S : gS} {H : Heap} {locs : List Loc} {ls : Array Slot} {o : Int32 × gS} (C : gC p s m args meth c cX12_years 6 RX12 ((some .int)) D (mtys cI cS) mord g Am) (O : gO (mcell g cI cS sa) mord g) (K61 : ∀ (x2 : Int32) (x3 : Int32) (x4 : Int32) (x5 : Int32) (S : gS) (H : Heap) (locs : List Loc) (ls : Array Slot), gX D (mcell g cI cS sa) mord g S s H locs → lv_has ls 6 [(0, .ref (g 99)), (2, .int x2), (3, .int x3), (4, .int x4), (5, .int x5)] → r61 x2 x3 x4 x5 S = some o → W p l e (rmd 6) s m args below meth c H locs 0 0 (gE below args s D (mtys cI cS) (mcell g cI cS sa) mord g (some (.int o.1)) o.2) (F0 m 61 ls [])) (X : gX D (mcell g cI cS sa) mord g S s H locs) (hl : lv_has ls 6 [(0, .ref (g 99)), (2, .int x2), (3, .int x3), (4, .int x4), (5, .int x5)]) (hF : fX12_years_b67 N r61 x2 x3 x4 x5 S = some o) : W p l e (rmd 6) s m args below meth c H locs 0 0 (gE below args s D (mtys cI cS) (mcell g cI cS sa) mord g (some (.int o.1)) o.2) (F0 m 67 ls []) := by
  unfold fX12_years_b67 at hF
  refine lv_aload_n C.1.1 C.1.2.1 dX12_years_67 rfl (lv_at hl 0 rfl) ?_
  obtain ⟨q1, hq1, hF⟩ := bnd_some hF
  refine m_callV C X vX12_something rfl (kX12_something O C.2.2.2.2.1 N   S q1 hq1) (Nat.le_of_ble_eq_true rfl) (Nat.le_of_ble_eq_true rfl) (Nat.le_of_ble_eq_true rfl) (Nat.le_of_ble_eq_true rfl) rfl hl.1 rfl (Nat.le_of_ble_eq_true rfl) dX12_years_68 (fun H locs X => ?_)
  refine lv_aload_n C.1.1 C.1.2.1 dX12_years_71 rfl (lv_at hl 0 rfl) ?_
  obtain ⟨q2, hq2, hF⟩ := bnd_some hF
  refine m_callV C X vX12_anHour rfl (kX12_anHour O C.2.2.2.2.1 N   q1.2 q2 hq2) (Nat.le_of_ble_eq_true rfl) (Nat.le_of_ble_eq_true rfl) (Nat.le_of_ble_eq_true rfl) (Nat.le_of_ble_eq_true rfl) rfl hl.1 rfl (Nat.le_of_ble_eq_true rfl) dX12_years_72 (fun H locs X => ?_)
  refine lv_iload C.1.1 C.1.2.1 dX12_years_75 (lv_at hl 3 rfl) ?_
  refine lv_aload_n C.1.1 C.1.2.1 dX12_years_77 rfl (lv_at hl 0 rfl) ?_
  refine m_g45 C X dX12_years_78 ?_
  obtain ⟨q3, hq3, hF⟩ := bnd_some hF
  refine g_callSi C X vX12_bitsOf (kX12_bitsOf O C.2.2.2.2.1 N (q2.2 99 45)  q2.2 q3 hq3) (Nat.le_of_ble_eq_true rfl) (Nat.le_of_ble_eq_true rfl) (Nat.le_of_ble_eq_true rfl) (Nat.le_of_ble_eq_true rfl) rfl hl.1 rfl (Nat.le_of_ble_eq_true rfl) dX12_years_81 (fun H locs X => ?_)
  refine lv_iadd C.1.1 C.1.2.1 dX12_years_84 ?_
  refine lv_istore (lv' := [(4, .int ((x4 + q3.1 : Int32))), (0, .ref (g 99)), (2, .int x2), (3, .int x3), (5, .int x5)]) C.1.1 C.1.2.1 dX12_years_85 hl (by decide) rfl (fun ls hl => ?_)
  refine lv_iinc (v := (x5 + 1 : Int32)) (lv' := [(5, .int ((x5 + 1 : Int32))), (4, .int ((x4 + q3.1 : Int32))), (0, .ref (g 99)), (2, .int x2), (3, .int x3)]) C.1.1 C.1.2.1 dX12_years_87 hl (k := 4) rfl rfl (by decide) rfl (fun ls hl => ?_)
  refine lv_goto (tgt := 61) C.1.1 C.1.2.1 dX12_years_90 (by decide) ?_
  exact K61 _ _ _ _ _ _ _ _ X (lv_sub hl [2, 3, 4, 1, 0] rfl) hF
noncomputable def fX12_years_b61 (N : Nat) (r61 : Int32 → Int32 → Int32 → Int32 → gS → Option (Int32 × gS)) (x2 : Int32) (x3 : Int32) (x4 : Int32) (x5 : Int32) (S : gS) : Option (Int32 × gS) := if x2 ≤ x5 then fX12_years_b93 N x3 x4 S else fX12_years_b67 N r61 x2 x3 x4 x5 S
theorem bX12_years_61 {N : Nat} {r61 : Int32 → Int32 → Int32 → Int32 → gS → Option (Int32 × gS)} {x2 : Int32} {x3 : Int32} {x4 : Int32} {x5 : Int32} {S : gS} {H : Heap} {locs : List Loc} {ls : Array Slot} {o : Int32 × gS} (C : gC p s m args meth c cX12_years 6 RX12 ((some .int)) D (mtys cI cS) mord g Am) (O : gO (mcell g cI cS sa) mord g) (K61 : ∀ (x2 : Int32) (x3 : Int32) (x4 : Int32) (x5 : Int32) (S : gS) (H : Heap) (locs : List Loc) (ls : Array Slot), gX D (mcell g cI cS sa) mord g S s H locs → lv_has ls 6 [(0, .ref (g 99)), (2, .int x2), (3, .int x3), (4, .int x4), (5, .int x5)] → r61 x2 x3 x4 x5 S = some o → W p l e (rmd 6) s m args below meth c H locs 0 0 (gE below args s D (mtys cI cS) (mcell g cI cS sa) mord g (some (.int o.1)) o.2) (F0 m 61 ls [])) (X : gX D (mcell g cI cS sa) mord g S s H locs) (hl : lv_has ls 6 [(0, .ref (g 99)), (2, .int x2), (3, .int x3), (4, .int x4), (5, .int x5)]) (hF : fX12_years_b61 N r61 x2 x3 x4 x5 S = some o) : W p l e (rmd 6) s m args below meth c H locs 0 0 (gE below args s D (mtys cI cS) (mcell g cI cS sa) mord g (some (.int o.1)) o.2) (F0 m 61 ls []) := by
  unfold fX12_years_b61 at hF
  refine lv_iload C.1.1 C.1.2.1 dX12_years_61 (lv_at hl 4 rfl) ?_
  refine lv_iload_n C.1.1 C.1.2.1 dX12_years_63 rfl (lv_at hl 1 rfl) ?_
  refine lv_icmp_ge (tgt := 93) C.1.1 C.1.2.1 dX12_years_64 (by decide) (fun h_z => ?_) (fun h_z => ?_)
  · rw [if_pos h_z] at hF
    exact bX12_years_93 C O X (lv_sub hl [0, 2, 3] rfl) hF
  · rw [if_neg h_z] at hF
    exact bX12_years_67 C O K61 X (lv_sub hl [0, 1, 2, 3, 4] rfl) hF
noncomputable def fX12_years_h61 (N : Nat) : Nat → Int32 → Int32 → Int32 → Int32 → gS → Option (Int32 × gS)
  | 0, _, _, _, _, _ => none
  | n + 1, x2, x3, x4, x5, S => fX12_years_b61 N (fX12_years_h61 N n) x2 x3 x4 x5 S
theorem hX12_years_61 {N : Nat} {o : Int32 × gS} (C : gC p s m args meth c cX12_years 6 RX12 ((some .int)) D (mtys cI cS) mord g Am) (O : gO (mcell g cI cS sa) mord g) : ∀ (n : Nat) (x2 : Int32) (x3 : Int32) (x4 : Int32) (x5 : Int32) (S : gS) (H : Heap) (locs : List Loc) (ls : Array Slot), gX D (mcell g cI cS sa) mord g S s H locs → lv_has ls 6 [(0, .ref (g 99)), (2, .int x2), (3, .int x3), (4, .int x4), (5, .int x5)] → fX12_years_h61 N n x2 x3 x4 x5 S = some o → W p l e (rmd 6) s m args below meth c H locs 0 0 (gE below args s D (mtys cI cS) (mcell g cI cS sa) mord g (some (.int o.1)) o.2) (F0 m 61 ls []) := by
  intro n
  induction n with
  | zero =>
    intro x2 x3 x4 x5 S H locs ls X hl hF
    exact absurd (show (none : Option (Int32 × gS)) = some o from hF) (by simp)
  | succ n ih =>
    intro x2 x3 x4 x5 S H locs ls X hl hF
    have hF : fX12_years_b61 N (fX12_years_h61 N n) x2 x3 x4 x5 S = some o := hF
    exact bX12_years_61 C O ih X hl hF
noncomputable def fX12_years_b41 (N : Nat) (x1 : Int32) (x2 : Int32) (x3 : Int32) (S : gS) : Option (Int32 × gS) := bnd (fX12_pack N 46 0 S) fun q1 => (lt (sU q1.2 99 56 x1) fun S2 => (fX12_years_h61 N N x2 x3 0 0 S2))
theorem bX12_years_41 {N : Nat} {x1 : Int32} {x2 : Int32} {x3 : Int32} {S : gS} {H : Heap} {locs : List Loc} {ls : Array Slot} {o : Int32 × gS} (C : gC p s m args meth c cX12_years 6 RX12 ((some .int)) D (mtys cI cS) mord g Am) (O : gO (mcell g cI cS sa) mord g) (X : gX D (mcell g cI cS sa) mord g S s H locs) (hl : lv_has ls 6 [(0, .ref (g 99)), (1, .int x1), (2, .int x2), (3, .int x3)]) (hF : fX12_years_b41 N x1 x2 x3 S = some o) : W p l e (rmd 6) s m args below meth c H locs 0 0 (gE below args s D (mtys cI cS) (mcell g cI cS sa) mord g (some (.int o.1)) o.2) (F0 m 41 ls []) := by
  unfold fX12_years_b41 at hF
  refine lv_aload_n C.1.1 C.1.2.1 dX12_years_41 rfl (lv_at hl 0 rfl) ?_
  refine lv_aload_n C.1.1 C.1.2.1 dX12_years_42 rfl (lv_at hl 0 rfl) ?_
  refine m_g46 C X dX12_years_43 ?_
  refine lv_iconst (v := 0) C.1.1 C.1.2.1 dX12_years_46 (by decide) ?_
  obtain ⟨q1, hq1, hF⟩ := bnd_some hF
  refine m_callV C X vX12_pack rfl (kX12_pack O C.2.2.2.2.1 N 46 0 (rfl : mI 46 = true) S q1 hq1) (Nat.le_of_ble_eq_true rfl) (Nat.le_of_ble_eq_true rfl) (Nat.le_of_ble_eq_true rfl) (Nat.le_of_ble_eq_true rfl) rfl hl.1 rfl (Nat.le_of_ble_eq_true rfl) dX12_years_47 (fun H locs X => ?_)
  refine lv_aload_n C.1.1 C.1.2.1 dX12_years_50 rfl (lv_at hl 0 rfl) ?_
  refine lv_iload_n C.1.1 C.1.2.1 dX12_years_51 rfl (lv_at hl 1 rfl) ?_
  obtain ⟨S2, eS2, hF⟩ := lt_some hF
  refine m_p56 C O X eS2 dX12_years_52 (fun H locs X => ?_)
  refine lv_iconst (v := 0) C.1.1 C.1.2.1 dX12_years_55 (by decide) ?_
  refine lv_istore (lv' := [(4, .int 0), (0, .ref (g 99)), (1, .int x1), (2, .int x2), (3, .int x3)]) C.1.1 C.1.2.1 dX12_years_56 hl (by decide) rfl (fun ls hl => ?_)
  refine lv_iconst (v := 0) C.1.1 C.1.2.1 dX12_years_58 (by decide) ?_
  refine lv_istore (lv' := [(5, .int 0), (4, .int 0), (0, .ref (g 99)), (1, .int x1), (2, .int x2), (3, .int x3)]) C.1.1 C.1.2.1 dX12_years_59 hl (by decide) rfl (fun ls hl => ?_)
  exact hX12_years_61 C O N _ _ _ _ _ _ _ _ X (lv_sub hl [2, 4, 5, 1, 0] rfl) hF
noncomputable def fX12_years_b35 (N : Nat) (S : gS) : Option (Int32 × gS) := bnd (fX12_fail N 2 S) fun q1 => (some (q1.1, q1.2))
theorem bX12_years_35 {N : Nat} {S : gS} {H : Heap} {locs : List Loc} {ls : Array Slot} {o : Int32 × gS} (C : gC p s m args meth c cX12_years 6 RX12 ((some .int)) D (mtys cI cS) mord g Am) (O : gO (mcell g cI cS sa) mord g) (X : gX D (mcell g cI cS sa) mord g S s H locs) (hl : lv_has ls 6 [(0, .ref (g 99))]) (hF : fX12_years_b35 N S = some o) : W p l e (rmd 6) s m args below meth c H locs 0 0 (gE below args s D (mtys cI cS) (mcell g cI cS sa) mord g (some (.int o.1)) o.2) (F0 m 35 ls []) := by
  unfold fX12_years_b35 at hF
  refine lv_aload_n C.1.1 C.1.2.1 dX12_years_35 rfl (lv_at hl 0 rfl) ?_
  refine lv_iconst (v := 2) C.1.1 C.1.2.1 dX12_years_36 (by decide) ?_
  obtain ⟨q1, hq1, hF⟩ := bnd_some hF
  refine m_callVi C X vX12_fail rfl (kX12_fail O C.2.2.2.2.1 N 2  S q1 hq1) (Nat.le_of_ble_eq_true rfl) (Nat.le_of_ble_eq_true rfl) (Nat.le_of_ble_eq_true rfl) (Nat.le_of_ble_eq_true rfl) rfl hl.1 rfl (Nat.le_of_ble_eq_true rfl) dX12_years_37 (fun H locs X => ?_)
  cases hF
  exact g_iret C X dX12_years_40
noncomputable def fX12_years_b23 (N : Nat) (x1 : Int32) (x2 : Int32) (x3 : Int32) (S : gS) : Option (Int32 × gS) := bnd (fX12_isIn N (Int32.toInt64 x2) 0 60 S) fun q1 => (if q1.1 = 0 then fX12_years_b35 N q1.2 else fX12_years_b41 N x1 x2 x3 q1.2)
theorem bX12_years_23 {N : Nat} {x1 : Int32} {x2 : Int32} {x3 : Int32} {S : gS} {H : Heap} {locs : List Loc} {ls : Array Slot} {o : Int32 × gS} (C : gC p s m args meth c cX12_years 6 RX12 ((some .int)) D (mtys cI cS) mord g Am) (O : gO (mcell g cI cS sa) mord g) (X : gX D (mcell g cI cS sa) mord g S s H locs) (hl : lv_has ls 6 [(0, .ref (g 99)), (1, .int x1), (2, .int x2), (3, .int x3)]) (hF : fX12_years_b23 N x1 x2 x3 S = some o) : W p l e (rmd 6) s m args below meth c H locs 0 0 (gE below args s D (mtys cI cS) (mcell g cI cS sa) mord g (some (.int o.1)) o.2) (F0 m 23 ls []) := by
  unfold fX12_years_b23 at hF
  refine lv_iload_n C.1.1 C.1.2.1 dX12_years_23 rfl (lv_at hl 2 rfl) ?_
  refine lv_i2l (v := Int32.toInt64 x2) C.1.1 C.1.2.1 dX12_years_24 rfl ?_
  refine lv_lconst (v := 0) C.1.1 C.1.2.1 dX12_years_25 (by decide) ?_
  refine lv_ldc2 C.1.1 C.1.2.1 C.1.2.2.2.1 (C.1.2.2.2.2 _ mKL432) dX12_years_26 ?_
  obtain ⟨q1, hq1, hF⟩ := bnd_some hF
  refine g_callSi C X vX12_isIn (kX12_isIn O C.2.2.2.2.1 N (Int32.toInt64 x2) 0 60  S q1 hq1) (Nat.le_of_ble_eq_true rfl) (Nat.le_of_ble_eq_true rfl) (Nat.le_of_ble_eq_true rfl) (Nat.le_of_ble_eq_true rfl) rfl hl.1 rfl (Nat.le_of_ble_eq_true rfl) dX12_years_29 (fun H locs X => ?_)
  refine lv_if_ne (tgt := 41) C.1.1 C.1.2.1 dX12_years_32 (by decide) (fun h_z => ?_) (fun h_z => ?_)
  · rw [if_neg h_z] at hF
    exact bX12_years_41 C O X (lv_sub hl [0, 1, 2, 3] rfl) hF
  · rw [if_pos h_z] at hF
    exact bX12_years_35 C O X (lv_sub hl [0] rfl) hF
noncomputable def fX12_years_b17 (N : Nat) (S : gS) : Option (Int32 × gS) := bnd (fX12_fail N 1 S) fun q1 => (some (q1.1, q1.2))
theorem bX12_years_17 {N : Nat} {S : gS} {H : Heap} {locs : List Loc} {ls : Array Slot} {o : Int32 × gS} (C : gC p s m args meth c cX12_years 6 RX12 ((some .int)) D (mtys cI cS) mord g Am) (O : gO (mcell g cI cS sa) mord g) (X : gX D (mcell g cI cS sa) mord g S s H locs) (hl : lv_has ls 6 [(0, .ref (g 99))]) (hF : fX12_years_b17 N S = some o) : W p l e (rmd 6) s m args below meth c H locs 0 0 (gE below args s D (mtys cI cS) (mcell g cI cS sa) mord g (some (.int o.1)) o.2) (F0 m 17 ls []) := by
  unfold fX12_years_b17 at hF
  refine lv_aload_n C.1.1 C.1.2.1 dX12_years_17 rfl (lv_at hl 0 rfl) ?_
  refine lv_iconst (v := 1) C.1.1 C.1.2.1 dX12_years_18 (by decide) ?_
  obtain ⟨q1, hq1, hF⟩ := bnd_some hF
  refine m_callVi C X vX12_fail rfl (kX12_fail O C.2.2.2.2.1 N 1  S q1 hq1) (Nat.le_of_ble_eq_true rfl) (Nat.le_of_ble_eq_true rfl) (Nat.le_of_ble_eq_true rfl) (Nat.le_of_ble_eq_true rfl) rfl hl.1 rfl (Nat.le_of_ble_eq_true rfl) dX12_years_19 (fun H locs X => ?_)
  cases hF
  exact g_iret C X dX12_years_22
noncomputable def fX12_years_b0 (N : Nat) (x1 : Int32) (x2 : Int32) (x3 : Int32) (S : gS) : Option (Int32 × gS) := lt (sU S 99 4 0) fun S1 => (bnd (fX12_isIn N (Int32.toInt64 x3) 0 2 S1) fun q1 => (if q1.1 = 0 then fX12_years_b17 N q1.2 else fX12_years_b23 N x1 x2 x3 q1.2))
theorem bX12_years_0 {N : Nat} {x1 : Int32} {x2 : Int32} {x3 : Int32} {S : gS} {H : Heap} {locs : List Loc} {ls : Array Slot} {o : Int32 × gS} (C : gC p s m args meth c cX12_years 6 RX12 ((some .int)) D (mtys cI cS) mord g Am) (O : gO (mcell g cI cS sa) mord g) (X : gX D (mcell g cI cS sa) mord g S s H locs) (hl : lv_has ls 6 [(0, .ref (g 99)), (1, .int x1), (2, .int x2), (3, .int x3)]) (hF : fX12_years_b0 N x1 x2 x3 S = some o) : W p l e (rmd 6) s m args below meth c H locs 0 0 (gE below args s D (mtys cI cS) (mcell g cI cS sa) mord g (some (.int o.1)) o.2) (F0 m 0 ls []) := by
  unfold fX12_years_b0 at hF
  refine lv_aload_n C.1.1 C.1.2.1 dX12_years_0 rfl (lv_at hl 0 rfl) ?_
  refine lv_iconst (v := 0) C.1.1 C.1.2.1 dX12_years_1 (by decide) ?_
  obtain ⟨S1, eS1, hF⟩ := lt_some hF
  refine m_p4 C O X eS1 dX12_years_2 (fun H locs X => ?_)
  refine lv_iload_n C.1.1 C.1.2.1 dX12_years_5 rfl (lv_at hl 3 rfl) ?_
  refine lv_i2l (v := Int32.toInt64 x3) C.1.1 C.1.2.1 dX12_years_6 rfl ?_
  refine lv_lconst (v := 0) C.1.1 C.1.2.1 dX12_years_7 (by decide) ?_
  refine lv_ldc2 C.1.1 C.1.2.1 C.1.2.2.2.1 (C.1.2.2.2.2 _ mKL461) dX12_years_8 ?_
  obtain ⟨q1, hq1, hF⟩ := bnd_some hF
  refine g_callSi C X vX12_isIn (kX12_isIn O C.2.2.2.2.1 N (Int32.toInt64 x3) 0 2  S1 q1 hq1) (Nat.le_of_ble_eq_true rfl) (Nat.le_of_ble_eq_true rfl) (Nat.le_of_ble_eq_true rfl) (Nat.le_of_ble_eq_true rfl) rfl hl.1 rfl (Nat.le_of_ble_eq_true rfl) dX12_years_11 (fun H locs X => ?_)
  refine lv_if_ne (tgt := 23) C.1.1 C.1.2.1 dX12_years_14 (by decide) (fun h_z => ?_) (fun h_z => ?_)
  · rw [if_neg h_z] at hF
    exact bX12_years_23 C O X (lv_sub hl [0, 1, 2, 3] rfl) hF
  · rw [if_pos h_z] at hF
    exact bX12_years_17 C O X (lv_sub hl [0] rfl) hF
noncomputable def fX12_years (N : Nat) (x1 : Int32) (x2 : Int32) (x3 : Int32) (S : gS) : Option (Int32 × gS) := fX12_years_b0 N x1 x2 x3 S
theorem kX12_years {l : Launch} {D : va_G} {g : Nat → Nat} {cI cS : ClassId} {sa : Nat → Nat → Option Nat} {Am : (Nat → Prop) → State → Heap → Prop} (O : gO (mcell g cI cS sa) mord g) (P : gAm Am) (N : Nat) (x1 : Int32) (x2 : Int32) (x3 : Int32) (S : gS) (o : Int32 × gS) (hF : fX12_years N x1 x2 x3 S = some o) : gM l yX12_years cX12_years 6 ((some .int)) 6 D (mtys cI cS) (mcell g cI cS sa) mord g Am [.ref (g 99), .int x1, .int x2, .int x3] S (some (.int o.1)) o.2 :=
  gM_of O P (by decide) (Nat.le_of_ble_eq_true rfl) (fun p e s m args below meth c ls C X hl => bX12_years_0 C O X (lv_sub hl [0, 1, 2, 3] rfl) hF)
-- copyTo
noncomputable def fX12_copyTo_b20 (N : Nat) (S : gS) : Option (Int32 × gS) := some (0, S)
theorem bX12_copyTo_20 {N : Nat} {S : gS} {H : Heap} {locs : List Loc} {ls : Array Slot} {o : Int32 × gS} (C : gC p s m args meth c cX12_copyTo 3 RX12 none D (mtys cI cS) mord g Am) (O : gO (mcell g cI cS sa) mord g) (X : gX D (mcell g cI cS sa) mord g S s H locs) (hl : lv_has ls 3 []) (hF : fX12_copyTo_b20 N S = some o) : W p l e (rmd 0) s m args below meth c H locs 0 0 (gE below args s D (mtys cI cS) (mcell g cI cS sa) mord g none o.2) (F0 m 20 ls []) := by
  unfold fX12_copyTo_b20 at hF
  cases hF
  exact g_vret C X dX12_copyTo_20
noncomputable def fX12_copyTo_b8 (N : Nat) (r2 : Nat → Nat → Int32 → gS → Option (Int32 × gS)) (k0 : Nat) (k1 : Nat) (x2 : Int32) (S : gS) : Option (Int32 × gS) := chk (inb x2 (mN k1)) (chk (inb x2 (mN k0)) (lt (sU S k0 (Int32.toNatClampNeg x2) (S k1 (Int32.toNatClampNeg x2))) fun S1 => (r2 k0 k1 ((x2 + 1 : Int32)) S1)))
theorem bX12_copyTo_8 {N : Nat} {r2 : Nat → Nat → Int32 → gS → Option (Int32 × gS)} {k0 : Nat} {k1 : Nat} {x2 : Int32} {S : gS} {H : Heap} {locs : List Loc} {ls : Array Slot} {o : Int32 × gS} (C : gC p s m args meth c cX12_copyTo 3 RX12 none D (mtys cI cS) mord g Am) (O : gO (mcell g cI cS sa) mord g) (K2 : ∀ (k0 : Nat) (k1 : Nat) (x2 : Int32) (hk_k0 : mI k0 = true) (hk_k1 : mI k1 = true) (S : gS) (H : Heap) (locs : List Loc) (ls : Array Slot), gX D (mcell g cI cS sa) mord g S s H locs → lv_has ls 3 [(0, .ref (g k0)), (1, .ref (g k1)), (2, .int x2)] → r2 k0 k1 x2 S = some o → W p l e (rmd 0) s m args below meth c H locs 0 0 (gE below args s D (mtys cI cS) (mcell g cI cS sa) mord g none o.2) (F0 m 2 ls [])) (hk_k0 : mI k0 = true) (hk_k1 : mI k1 = true) (X : gX D (mcell g cI cS sa) mord g S s H locs) (hl : lv_has ls 3 [(0, .ref (g k0)), (1, .ref (g k1)), (2, .int x2)]) (hF : fX12_copyTo_b8 N r2 k0 k1 x2 S = some o) : W p l e (rmd 0) s m args below meth c H locs 0 0 (gE below args s D (mtys cI cS) (mcell g cI cS sa) mord g none o.2) (F0 m 8 ls []) := by
  unfold fX12_copyTo_b8 at hF
  refine lv_aload_n C.1.1 C.1.2.1 dX12_copyTo_8 rfl (lv_at hl 0 rfl) ?_
  refine lv_iload_n C.1.1 C.1.2.1 dX12_copyTo_9 rfl (lv_at hl 2 rfl) ?_
  refine lv_aload_n C.1.1 C.1.2.1 dX12_copyTo_10 rfl (lv_at hl 1 rfl) ?_
  refine lv_iload_n C.1.1 C.1.2.1 dX12_copyTo_11 rfl (lv_at hl 2 rfl) ?_
  obtain ⟨h_1, hF⟩ := chk_some hF
  refine m_rv C X (k := k1) hk_k1  (inb_vp h_1) rfl dX12_copyTo_12 ?_
  obtain ⟨h_2, hF⟩ := chk_some hF
  obtain ⟨S1, eS1, hF⟩ := lt_some hF
  refine m_wv C O X (k := k0) hk_k0  (inb_vp h_2) rfl eS1 dX12_copyTo_13 (fun H locs X => ?_)
  refine lv_iinc (v := (x2 + 1 : Int32)) (lv' := [(2, .int ((x2 + 1 : Int32))), (0, .ref (g k0)), (1, .ref (g k1))]) C.1.1 C.1.2.1 dX12_copyTo_14 hl (k := 2) rfl rfl (by decide) rfl (fun ls hl => ?_)
  refine lv_goto (tgt := 2) C.1.1 C.1.2.1 dX12_copyTo_17 (by decide) ?_
  exact K2 _ _ _ hk_k0 hk_k1 _ _ _ _ X (lv_sub hl [1, 2, 0] rfl) hF
noncomputable def fX12_copyTo_b2 (N : Nat) (r2 : Nat → Nat → Int32 → gS → Option (Int32 × gS)) (k0 : Nat) (k1 : Nat) (x2 : Int32) (S : gS) : Option (Int32 × gS) := if (Int32.ofNat (mN k0)) ≤ x2 then fX12_copyTo_b20 N S else fX12_copyTo_b8 N r2 k0 k1 x2 S
theorem bX12_copyTo_2 {N : Nat} {r2 : Nat → Nat → Int32 → gS → Option (Int32 × gS)} {k0 : Nat} {k1 : Nat} {x2 : Int32} {S : gS} {H : Heap} {locs : List Loc} {ls : Array Slot} {o : Int32 × gS} (C : gC p s m args meth c cX12_copyTo 3 RX12 none D (mtys cI cS) mord g Am) (O : gO (mcell g cI cS sa) mord g) (K2 : ∀ (k0 : Nat) (k1 : Nat) (x2 : Int32) (hk_k0 : mI k0 = true) (hk_k1 : mI k1 = true) (S : gS) (H : Heap) (locs : List Loc) (ls : Array Slot), gX D (mcell g cI cS sa) mord g S s H locs → lv_has ls 3 [(0, .ref (g k0)), (1, .ref (g k1)), (2, .int x2)] → r2 k0 k1 x2 S = some o → W p l e (rmd 0) s m args below meth c H locs 0 0 (gE below args s D (mtys cI cS) (mcell g cI cS sa) mord g none o.2) (F0 m 2 ls [])) (hk_k0 : mI k0 = true) (hk_k1 : mI k1 = true) (X : gX D (mcell g cI cS sa) mord g S s H locs) (hl : lv_has ls 3 [(0, .ref (g k0)), (1, .ref (g k1)), (2, .int x2)]) (hF : fX12_copyTo_b2 N r2 k0 k1 x2 S = some o) : W p l e (rmd 0) s m args below meth c H locs 0 0 (gE below args s D (mtys cI cS) (mcell g cI cS sa) mord g none o.2) (F0 m 2 ls []) := by
  unfold fX12_copyTo_b2 at hF
  refine lv_iload_n C.1.1 C.1.2.1 dX12_copyTo_2 rfl (lv_at hl 2 rfl) ?_
  refine lv_aload_n C.1.1 C.1.2.1 dX12_copyTo_3 rfl (lv_at hl 0 rfl) ?_
  refine m_lv C X (k := k0) hk_k0 (x := Int32.ofNat (mN k0)) rfl dX12_copyTo_4 ?_
  refine lv_icmp_ge (tgt := 20) C.1.1 C.1.2.1 dX12_copyTo_5 (by decide) (fun h_z => ?_) (fun h_z => ?_)
  · rw [if_pos h_z] at hF
    exact bX12_copyTo_20 C O X (lv_sub hl [] rfl) hF
  · rw [if_neg h_z] at hF
    exact bX12_copyTo_8 C O K2 hk_k0 hk_k1 X (lv_sub hl [0, 1, 2] rfl) hF
noncomputable def fX12_copyTo_h2 (N : Nat) : Nat → Nat → Nat → Int32 → gS → Option (Int32 × gS)
  | 0, _, _, _, _ => none
  | n + 1, k0, k1, x2, S => fX12_copyTo_b2 N (fX12_copyTo_h2 N n) k0 k1 x2 S
theorem hX12_copyTo_2 {N : Nat} {o : Int32 × gS} (C : gC p s m args meth c cX12_copyTo 3 RX12 none D (mtys cI cS) mord g Am) (O : gO (mcell g cI cS sa) mord g) : ∀ (n : Nat) (k0 : Nat) (k1 : Nat) (x2 : Int32) (hk_k0 : mI k0 = true) (hk_k1 : mI k1 = true) (S : gS) (H : Heap) (locs : List Loc) (ls : Array Slot), gX D (mcell g cI cS sa) mord g S s H locs → lv_has ls 3 [(0, .ref (g k0)), (1, .ref (g k1)), (2, .int x2)] → fX12_copyTo_h2 N n k0 k1 x2 S = some o → W p l e (rmd 0) s m args below meth c H locs 0 0 (gE below args s D (mtys cI cS) (mcell g cI cS sa) mord g none o.2) (F0 m 2 ls []) := by
  intro n
  induction n with
  | zero =>
    intro k0 k1 x2 hk_k0 hk_k1 S H locs ls X hl hF
    exact absurd (show (none : Option (Int32 × gS)) = some o from hF) (by simp)
  | succ n ih =>
    intro k0 k1 x2 hk_k0 hk_k1 S H locs ls X hl hF
    have hF : fX12_copyTo_b2 N (fX12_copyTo_h2 N n) k0 k1 x2 S = some o := hF
    exact bX12_copyTo_2 C O ih hk_k0 hk_k1 X hl hF
noncomputable def fX12_copyTo_b0 (N : Nat) (k0 : Nat) (k1 : Nat) (S : gS) : Option (Int32 × gS) := fX12_copyTo_h2 N N k0 k1 0 S
theorem bX12_copyTo_0 {N : Nat} {k0 : Nat} {k1 : Nat} {S : gS} {H : Heap} {locs : List Loc} {ls : Array Slot} {o : Int32 × gS} (C : gC p s m args meth c cX12_copyTo 3 RX12 none D (mtys cI cS) mord g Am) (O : gO (mcell g cI cS sa) mord g) (hk_k0 : mI k0 = true) (hk_k1 : mI k1 = true) (X : gX D (mcell g cI cS sa) mord g S s H locs) (hl : lv_has ls 3 [(0, .ref (g k0)), (1, .ref (g k1))]) (hF : fX12_copyTo_b0 N k0 k1 S = some o) : W p l e (rmd 0) s m args below meth c H locs 0 0 (gE below args s D (mtys cI cS) (mcell g cI cS sa) mord g none o.2) (F0 m 0 ls []) := by
  unfold fX12_copyTo_b0 at hF
  refine lv_iconst (v := 0) C.1.1 C.1.2.1 dX12_copyTo_0 (by decide) ?_
  refine lv_istore_n (lv' := [(2, .int 0), (0, .ref (g k0)), (1, .ref (g k1))]) C.1.1 C.1.2.1 dX12_copyTo_1 rfl hl (by decide) rfl (fun ls hl => ?_)
  exact hX12_copyTo_2 C O N _ _ _ hk_k0 hk_k1 _ _ _ _ X (lv_sub hl [1, 2, 0] rfl) hF
noncomputable def fX12_copyTo (N : Nat) (k0 : Nat) (k1 : Nat) (S : gS) : Option (Int32 × gS) := fX12_copyTo_b0 N k0 k1 S
theorem kX12_copyTo {l : Launch} {D : va_G} {g : Nat → Nat} {cI cS : ClassId} {sa : Nat → Nat → Option Nat} {Am : (Nat → Prop) → State → Heap → Prop} (O : gO (mcell g cI cS sa) mord g) (P : gAm Am) (N : Nat) (k0 : Nat) (k1 : Nat) (hk_k0 : mI k0 = true) (hk_k1 : mI k1 = true) (S : gS) (o : Int32 × gS) (hF : fX12_copyTo N k0 k1 S = some o) : gM l yX12_copyTo cX12_copyTo 3 none 0 D (mtys cI cS) (mcell g cI cS sa) mord g Am [.ref (g k0), .ref (g k1)] S none o.2 :=
  gM_of O P (by decide) (Nat.le_of_ble_eq_true rfl) (fun p e s m args below meth c ls C X hl => bX12_copyTo_0 C O hk_k0 hk_k1 X (lv_sub hl [0, 1] rfl) hF)
-- image
noncomputable def fX12_image_b0 (N : Nat) (S : gS) : Option (Int32 × gS) := lt (sU S 99 4 0) fun S1 => (lt (sU S1 99 57 1) fun S2 => (lt (sU S2 99 58 (S2 99 39)) fun S3 => (lt (sU S3 99 59 (S3 99 40)) fun S4 => (bnd (fX12_pack N 60 0 S4) fun q1 => (bnd (fX12_copyTo N 61 36 q1.2) fun q2 => (bnd (fX12_copyTo N 62 48 q2.2) fun q3 => (bnd (fX12_copyTo N 63 49 q3.2) fun q4 => (bnd (fX12_copyTo N 64 50 q4.2) fun q5 => (bnd (fX12_copyTo N 65 17 q5.2) fun q6 => (some (0, q6.2)))))))))))
theorem bX12_image_0 {N : Nat} {S : gS} {H : Heap} {locs : List Loc} {ls : Array Slot} {o : Int32 × gS} (C : gC p s m args meth c cX12_image 1 RX12 none D (mtys cI cS) mord g Am) (O : gO (mcell g cI cS sa) mord g) (X : gX D (mcell g cI cS sa) mord g S s H locs) (hl : lv_has ls 1 [(0, .ref (g 99))]) (hF : fX12_image_b0 N S = some o) : W p l e (rmd 1) s m args below meth c H locs 0 0 (gE below args s D (mtys cI cS) (mcell g cI cS sa) mord g none o.2) (F0 m 0 ls []) := by
  unfold fX12_image_b0 at hF
  refine lv_aload_n C.1.1 C.1.2.1 dX12_image_0 rfl (lv_at hl 0 rfl) ?_
  refine lv_iconst (v := 0) C.1.1 C.1.2.1 dX12_image_1 (by decide) ?_
  obtain ⟨S1, eS1, hF⟩ := lt_some hF
  refine m_p4 C O X eS1 dX12_image_2 (fun H locs X => ?_)
  refine lv_aload_n C.1.1 C.1.2.1 dX12_image_5 rfl (lv_at hl 0 rfl) ?_
  refine lv_iconst (v := 1) C.1.1 C.1.2.1 dX12_image_6 (by decide) ?_
  obtain ⟨S2, eS2, hF⟩ := lt_some hF
  refine m_p57 C O X (by decide) eS2 dX12_image_7 (fun H locs X => ?_)
  refine lv_aload_n C.1.1 C.1.2.1 dX12_image_10 rfl (lv_at hl 0 rfl) ?_
  refine lv_aload_n C.1.1 C.1.2.1 dX12_image_11 rfl (lv_at hl 0 rfl) ?_
  refine m_g39 C X dX12_image_12 ?_
  obtain ⟨S3, eS3, hF⟩ := lt_some hF
  refine m_p58 C O X eS3 dX12_image_15 (fun H locs X => ?_)
  refine lv_aload_n C.1.1 C.1.2.1 dX12_image_18 rfl (lv_at hl 0 rfl) ?_
  refine lv_aload_n C.1.1 C.1.2.1 dX12_image_19 rfl (lv_at hl 0 rfl) ?_
  refine m_g40 C X dX12_image_20 ?_
  obtain ⟨S4, eS4, hF⟩ := lt_some hF
  refine m_p59 C O X eS4 dX12_image_23 (fun H locs X => ?_)
  refine lv_aload_n C.1.1 C.1.2.1 dX12_image_26 rfl (lv_at hl 0 rfl) ?_
  refine lv_aload_n C.1.1 C.1.2.1 dX12_image_27 rfl (lv_at hl 0 rfl) ?_
  refine m_g60 C X dX12_image_28 ?_
  refine lv_iconst (v := 0) C.1.1 C.1.2.1 dX12_image_31 (by decide) ?_
  obtain ⟨q1, hq1, hF⟩ := bnd_some hF
  refine m_callV C X vX12_pack rfl (kX12_pack O C.2.2.2.2.1 N 60 0 (rfl : mI 60 = true) S4 q1 hq1) (Nat.le_of_ble_eq_true rfl) (Nat.le_of_ble_eq_true rfl) (Nat.le_of_ble_eq_true rfl) (Nat.le_of_ble_eq_true rfl) rfl hl.1 rfl (Nat.le_of_ble_eq_true rfl) dX12_image_32 (fun H locs X => ?_)
  refine lv_aload_n C.1.1 C.1.2.1 dX12_image_35 rfl (lv_at hl 0 rfl) ?_
  refine m_g61 C X dX12_image_36 ?_
  refine lv_aload_n C.1.1 C.1.2.1 dX12_image_39 rfl (lv_at hl 0 rfl) ?_
  refine m_g36 C X dX12_image_40 ?_
  obtain ⟨q2, hq2, hF⟩ := bnd_some hF
  refine g_callS C X vX12_copyTo (kX12_copyTo O C.2.2.2.2.1 N 61 36 (rfl : mI 61 = true) (rfl : mI 36 = true) q1.2 q2 hq2) (Nat.le_of_ble_eq_true rfl) (Nat.le_of_ble_eq_true rfl) (Nat.le_of_ble_eq_true rfl) (Nat.le_of_ble_eq_true rfl) rfl hl.1 rfl (Nat.le_of_ble_eq_true rfl) dX12_image_43 (fun H locs X => ?_)
  refine lv_aload_n C.1.1 C.1.2.1 dX12_image_46 rfl (lv_at hl 0 rfl) ?_
  refine m_g62 C X dX12_image_47 ?_
  refine lv_aload_n C.1.1 C.1.2.1 dX12_image_50 rfl (lv_at hl 0 rfl) ?_
  refine m_g48 C X dX12_image_51 ?_
  obtain ⟨q3, hq3, hF⟩ := bnd_some hF
  refine g_callS C X vX12_copyTo (kX12_copyTo O C.2.2.2.2.1 N 62 48 (rfl : mI 62 = true) (rfl : mI 48 = true) q2.2 q3 hq3) (Nat.le_of_ble_eq_true rfl) (Nat.le_of_ble_eq_true rfl) (Nat.le_of_ble_eq_true rfl) (Nat.le_of_ble_eq_true rfl) rfl hl.1 rfl (Nat.le_of_ble_eq_true rfl) dX12_image_54 (fun H locs X => ?_)
  refine lv_aload_n C.1.1 C.1.2.1 dX12_image_57 rfl (lv_at hl 0 rfl) ?_
  refine m_g63 C X dX12_image_58 ?_
  refine lv_aload_n C.1.1 C.1.2.1 dX12_image_61 rfl (lv_at hl 0 rfl) ?_
  refine m_g49 C X dX12_image_62 ?_
  obtain ⟨q4, hq4, hF⟩ := bnd_some hF
  refine g_callS C X vX12_copyTo (kX12_copyTo O C.2.2.2.2.1 N 63 49 (rfl : mI 63 = true) (rfl : mI 49 = true) q3.2 q4 hq4) (Nat.le_of_ble_eq_true rfl) (Nat.le_of_ble_eq_true rfl) (Nat.le_of_ble_eq_true rfl) (Nat.le_of_ble_eq_true rfl) rfl hl.1 rfl (Nat.le_of_ble_eq_true rfl) dX12_image_65 (fun H locs X => ?_)
  refine lv_aload_n C.1.1 C.1.2.1 dX12_image_68 rfl (lv_at hl 0 rfl) ?_
  refine m_g64 C X dX12_image_69 ?_
  refine lv_aload_n C.1.1 C.1.2.1 dX12_image_72 rfl (lv_at hl 0 rfl) ?_
  refine m_g50 C X dX12_image_73 ?_
  obtain ⟨q5, hq5, hF⟩ := bnd_some hF
  refine g_callS C X vX12_copyTo (kX12_copyTo O C.2.2.2.2.1 N 64 50 (rfl : mI 64 = true) (rfl : mI 50 = true) q4.2 q5 hq5) (Nat.le_of_ble_eq_true rfl) (Nat.le_of_ble_eq_true rfl) (Nat.le_of_ble_eq_true rfl) (Nat.le_of_ble_eq_true rfl) rfl hl.1 rfl (Nat.le_of_ble_eq_true rfl) dX12_image_76 (fun H locs X => ?_)
  refine lv_aload_n C.1.1 C.1.2.1 dX12_image_79 rfl (lv_at hl 0 rfl) ?_
  refine m_g65 C X dX12_image_80 ?_
  refine lv_aload_n C.1.1 C.1.2.1 dX12_image_83 rfl (lv_at hl 0 rfl) ?_
  refine m_g17 C X dX12_image_84 ?_
  obtain ⟨q6, hq6, hF⟩ := bnd_some hF
  refine g_callS C X vX12_copyTo (kX12_copyTo O C.2.2.2.2.1 N 65 17 (rfl : mI 65 = true) (rfl : mI 17 = true) q5.2 q6 hq6) (Nat.le_of_ble_eq_true rfl) (Nat.le_of_ble_eq_true rfl) (Nat.le_of_ble_eq_true rfl) (Nat.le_of_ble_eq_true rfl) rfl hl.1 rfl (Nat.le_of_ble_eq_true rfl) dX12_image_87 (fun H locs X => ?_)
  cases hF
  exact g_vret C X dX12_image_90
noncomputable def fX12_image (N : Nat) (S : gS) : Option (Int32 × gS) := fX12_image_b0 N S
theorem kX12_image {l : Launch} {D : va_G} {g : Nat → Nat} {cI cS : ClassId} {sa : Nat → Nat → Option Nat} {Am : (Nat → Prop) → State → Heap → Prop} (O : gO (mcell g cI cS sa) mord g) (P : gAm Am) (N : Nat) (S : gS) (o : Int32 × gS) (hF : fX12_image N S = some o) : gM l yX12_image cX12_image 1 none 1 D (mtys cI cS) (mcell g cI cS sa) mord g Am [.ref (g 99)] S none o.2 :=
  gM_of O P (by decide) (Nat.le_of_ble_eq_true rfl) (fun p e s m args below meth c ls C X hl => bX12_image_0 C O X (lv_sub hl [0] rfl) hF)
-- restore
noncomputable def fX12_restore_b14 (N : Nat) (S : gS) : Option (Int32 × gS) := lt (sU S 99 39 (S 99 58)) fun S1 => (lt (sU S1 99 40 (S1 99 59)) fun S2 => (bnd (fX12_unpack N 60 0 S2) fun q1 => (bnd (fX12_copyTo N 36 61 q1.2) fun q2 => (bnd (fX12_copyTo N 48 62 q2.2) fun q3 => (bnd (fX12_copyTo N 49 63 q3.2) fun q4 => (bnd (fX12_copyTo N 50 64 q4.2) fun q5 => (bnd (fX12_copyTo N 17 65 q5.2) fun q6 => (some (1, q6.2)))))))))
theorem bX12_restore_14 {N : Nat} {S : gS} {H : Heap} {locs : List Loc} {ls : Array Slot} {o : Int32 × gS} (C : gC p s m args meth c cX12_restore 1 RX12 ((some .boolean)) D (mtys cI cS) mord g Am) (O : gO (mcell g cI cS sa) mord g) (X : gX D (mcell g cI cS sa) mord g S s H locs) (hl : lv_has ls 1 [(0, .ref (g 99))]) (hF : fX12_restore_b14 N S = some o) : W p l e (rmd 1) s m args below meth c H locs 0 0 (gE below args s D (mtys cI cS) (mcell g cI cS sa) mord g (some (.int o.1)) o.2) (F0 m 14 ls []) := by
  unfold fX12_restore_b14 at hF
  refine lv_aload_n C.1.1 C.1.2.1 dX12_restore_14 rfl (lv_at hl 0 rfl) ?_
  refine lv_aload_n C.1.1 C.1.2.1 dX12_restore_15 rfl (lv_at hl 0 rfl) ?_
  refine m_g58 C X dX12_restore_16 ?_
  obtain ⟨S1, eS1, hF⟩ := lt_some hF
  refine m_p39 C O X eS1 dX12_restore_19 (fun H locs X => ?_)
  refine lv_aload_n C.1.1 C.1.2.1 dX12_restore_22 rfl (lv_at hl 0 rfl) ?_
  refine lv_aload_n C.1.1 C.1.2.1 dX12_restore_23 rfl (lv_at hl 0 rfl) ?_
  refine m_g59 C X dX12_restore_24 ?_
  obtain ⟨S2, eS2, hF⟩ := lt_some hF
  refine m_p40 C O X eS2 dX12_restore_27 (fun H locs X => ?_)
  refine lv_aload_n C.1.1 C.1.2.1 dX12_restore_30 rfl (lv_at hl 0 rfl) ?_
  refine lv_aload_n C.1.1 C.1.2.1 dX12_restore_31 rfl (lv_at hl 0 rfl) ?_
  refine m_g60 C X dX12_restore_32 ?_
  refine lv_iconst (v := 0) C.1.1 C.1.2.1 dX12_restore_35 (by decide) ?_
  obtain ⟨q1, hq1, hF⟩ := bnd_some hF
  refine m_callV C X vX12_unpack rfl (kX12_unpack O C.2.2.2.2.1 N 60 0 (rfl : mI 60 = true) S2 q1 hq1) (Nat.le_of_ble_eq_true rfl) (Nat.le_of_ble_eq_true rfl) (Nat.le_of_ble_eq_true rfl) (Nat.le_of_ble_eq_true rfl) rfl hl.1 rfl (Nat.le_of_ble_eq_true rfl) dX12_restore_36 (fun H locs X => ?_)
  refine lv_aload_n C.1.1 C.1.2.1 dX12_restore_39 rfl (lv_at hl 0 rfl) ?_
  refine m_g36 C X dX12_restore_40 ?_
  refine lv_aload_n C.1.1 C.1.2.1 dX12_restore_43 rfl (lv_at hl 0 rfl) ?_
  refine m_g61 C X dX12_restore_44 ?_
  obtain ⟨q2, hq2, hF⟩ := bnd_some hF
  refine g_callS C X vX12_copyTo (kX12_copyTo O C.2.2.2.2.1 N 36 61 (rfl : mI 36 = true) (rfl : mI 61 = true) q1.2 q2 hq2) (Nat.le_of_ble_eq_true rfl) (Nat.le_of_ble_eq_true rfl) (Nat.le_of_ble_eq_true rfl) (Nat.le_of_ble_eq_true rfl) rfl hl.1 rfl (Nat.le_of_ble_eq_true rfl) dX12_restore_47 (fun H locs X => ?_)
  refine lv_aload_n C.1.1 C.1.2.1 dX12_restore_50 rfl (lv_at hl 0 rfl) ?_
  refine m_g48 C X dX12_restore_51 ?_
  refine lv_aload_n C.1.1 C.1.2.1 dX12_restore_54 rfl (lv_at hl 0 rfl) ?_
  refine m_g62 C X dX12_restore_55 ?_
  obtain ⟨q3, hq3, hF⟩ := bnd_some hF
  refine g_callS C X vX12_copyTo (kX12_copyTo O C.2.2.2.2.1 N 48 62 (rfl : mI 48 = true) (rfl : mI 62 = true) q2.2 q3 hq3) (Nat.le_of_ble_eq_true rfl) (Nat.le_of_ble_eq_true rfl) (Nat.le_of_ble_eq_true rfl) (Nat.le_of_ble_eq_true rfl) rfl hl.1 rfl (Nat.le_of_ble_eq_true rfl) dX12_restore_58 (fun H locs X => ?_)
  refine lv_aload_n C.1.1 C.1.2.1 dX12_restore_61 rfl (lv_at hl 0 rfl) ?_
  refine m_g49 C X dX12_restore_62 ?_
  refine lv_aload_n C.1.1 C.1.2.1 dX12_restore_65 rfl (lv_at hl 0 rfl) ?_
  refine m_g63 C X dX12_restore_66 ?_
  obtain ⟨q4, hq4, hF⟩ := bnd_some hF
  refine g_callS C X vX12_copyTo (kX12_copyTo O C.2.2.2.2.1 N 49 63 (rfl : mI 49 = true) (rfl : mI 63 = true) q3.2 q4 hq4) (Nat.le_of_ble_eq_true rfl) (Nat.le_of_ble_eq_true rfl) (Nat.le_of_ble_eq_true rfl) (Nat.le_of_ble_eq_true rfl) rfl hl.1 rfl (Nat.le_of_ble_eq_true rfl) dX12_restore_69 (fun H locs X => ?_)
  refine lv_aload_n C.1.1 C.1.2.1 dX12_restore_72 rfl (lv_at hl 0 rfl) ?_
  refine m_g50 C X dX12_restore_73 ?_
  refine lv_aload_n C.1.1 C.1.2.1 dX12_restore_76 rfl (lv_at hl 0 rfl) ?_
  refine m_g64 C X dX12_restore_77 ?_
  obtain ⟨q5, hq5, hF⟩ := bnd_some hF
  refine g_callS C X vX12_copyTo (kX12_copyTo O C.2.2.2.2.1 N 50 64 (rfl : mI 50 = true) (rfl : mI 64 = true) q4.2 q5 hq5) (Nat.le_of_ble_eq_true rfl) (Nat.le_of_ble_eq_true rfl) (Nat.le_of_ble_eq_true rfl) (Nat.le_of_ble_eq_true rfl) rfl hl.1 rfl (Nat.le_of_ble_eq_true rfl) dX12_restore_80 (fun H locs X => ?_)
  refine lv_aload_n C.1.1 C.1.2.1 dX12_restore_83 rfl (lv_at hl 0 rfl) ?_
  refine m_g17 C X dX12_restore_84 ?_
  refine lv_aload_n C.1.1 C.1.2.1 dX12_restore_87 rfl (lv_at hl 0 rfl) ?_
  refine m_g65 C X dX12_restore_88 ?_
  obtain ⟨q6, hq6, hF⟩ := bnd_some hF
  refine g_callS C X vX12_copyTo (kX12_copyTo O C.2.2.2.2.1 N 17 65 (rfl : mI 17 = true) (rfl : mI 65 = true) q5.2 q6 hq6) (Nat.le_of_ble_eq_true rfl) (Nat.le_of_ble_eq_true rfl) (Nat.le_of_ble_eq_true rfl) (Nat.le_of_ble_eq_true rfl) rfl hl.1 rfl (Nat.le_of_ble_eq_true rfl) dX12_restore_91 (fun H locs X => ?_)
  refine lv_iconst (v := 1) C.1.1 C.1.2.1 dX12_restore_94 (by decide) ?_
  cases hF
  exact g_zret (x := 1) C X (by decide) dX12_restore_95
noncomputable def fX12_restore_b12 (N : Nat) (S : gS) : Option (Int32 × gS) := some (0, S)
theorem bX12_restore_12 {N : Nat} {S : gS} {H : Heap} {locs : List Loc} {ls : Array Slot} {o : Int32 × gS} (C : gC p s m args meth c cX12_restore 1 RX12 ((some .boolean)) D (mtys cI cS) mord g Am) (O : gO (mcell g cI cS sa) mord g) (X : gX D (mcell g cI cS sa) mord g S s H locs) (hl : lv_has ls 1 []) (hF : fX12_restore_b12 N S = some o) : W p l e (rmd 1) s m args below meth c H locs 0 0 (gE below args s D (mtys cI cS) (mcell g cI cS sa) mord g (some (.int o.1)) o.2) (F0 m 12 ls []) := by
  unfold fX12_restore_b12 at hF
  refine lv_iconst (v := 0) C.1.1 C.1.2.1 dX12_restore_12 (by decide) ?_
  cases hF
  exact g_zret (x := 0) C X (by decide) dX12_restore_13
noncomputable def fX12_restore_b0 (N : Nat) (S : gS) : Option (Int32 × gS) := lt (sU S 99 4 0) fun S1 => (if (S1 99 57) = 0 then fX12_restore_b12 N S1 else fX12_restore_b14 N S1)
theorem bX12_restore_0 {N : Nat} {S : gS} {H : Heap} {locs : List Loc} {ls : Array Slot} {o : Int32 × gS} (C : gC p s m args meth c cX12_restore 1 RX12 ((some .boolean)) D (mtys cI cS) mord g Am) (O : gO (mcell g cI cS sa) mord g) (X : gX D (mcell g cI cS sa) mord g S s H locs) (hl : lv_has ls 1 [(0, .ref (g 99))]) (hF : fX12_restore_b0 N S = some o) : W p l e (rmd 1) s m args below meth c H locs 0 0 (gE below args s D (mtys cI cS) (mcell g cI cS sa) mord g (some (.int o.1)) o.2) (F0 m 0 ls []) := by
  unfold fX12_restore_b0 at hF
  refine lv_aload_n C.1.1 C.1.2.1 dX12_restore_0 rfl (lv_at hl 0 rfl) ?_
  refine lv_iconst (v := 0) C.1.1 C.1.2.1 dX12_restore_1 (by decide) ?_
  obtain ⟨S1, eS1, hF⟩ := lt_some hF
  refine m_p4 C O X eS1 dX12_restore_2 (fun H locs X => ?_)
  refine lv_aload_n C.1.1 C.1.2.1 dX12_restore_5 rfl (lv_at hl 0 rfl) ?_
  refine m_g57 C X dX12_restore_6 ?_
  refine lv_if_ne (tgt := 14) C.1.1 C.1.2.1 dX12_restore_9 (by decide) (fun h_z => ?_) (fun h_z => ?_)
  · rw [if_neg h_z] at hF
    exact bX12_restore_14 C O X (lv_sub hl [0] rfl) hF
  · rw [if_pos h_z] at hF
    exact bX12_restore_12 C O X (lv_sub hl [] rfl) hF
noncomputable def fX12_restore (N : Nat) (S : gS) : Option (Int32 × gS) := fX12_restore_b0 N S
theorem kX12_restore {l : Launch} {D : va_G} {g : Nat → Nat} {cI cS : ClassId} {sa : Nat → Nat → Option Nat} {Am : (Nat → Prop) → State → Heap → Prop} (O : gO (mcell g cI cS sa) mord g) (P : gAm Am) (N : Nat) (S : gS) (o : Int32 × gS) (hF : fX12_restore N S = some o) : gM l yX12_restore cX12_restore 1 ((some .boolean)) 1 D (mtys cI cS) (mcell g cI cS sa) mord g Am [.ref (g 99)] S (some (.int o.1)) o.2 :=
  gM_of O P (by decide) (Nat.le_of_ble_eq_true rfl) (fun p e s m args below meth c ls C X hl => bX12_restore_0 C O X (lv_sub hl [0] rfl) hF)
end
end

/-! part 09.xgen -/
section
/-! more general rows: fields and methods of nest mates, rows of bytes and booleans, rows of rows -/
section GEN2
variable {p : Program} {l : Launch} {e : Env} {R : Room} {s : State} {m : MethodId} {args : Array Value} {below : List Frame} {meth : Method} {c : Code} {H : Heap} {locs : List Loc} {cs sl : Nat} {Q : State → Prop} {Am : (Nat → Prop) → State → Heap → Prop}
variable {cc cy : ByteArray} {nL mL pc n index d : Nat} {own Cn host : String} {ret rt : Option FieldType} {D : va_G} {tys : List (ClassId × FieldType)} {cell : gS → Nat → Nat × va_E} {ord : List Nat} {adr : Nat → Nat} {S S' : gS} {ls : Array Slot} {rest As av : List Value} {y : MethodName} {v : Option Value}
theorem g_getN (C : gC p s m args meth c cc nL own ret D tys ord adr Am) (X : gX D cell ord adr S s H locs) {q k ci N : Nat} {T : u_T} {fs : List Value} {x : Value} (hq : ord[q]? = some k) (hc : cell S k = (adr k, .inr (ci, fs))) (hcl : vwCl[ci]? = some (Cn, T, N)) (hin : ∀ w ∈ u_ws Cn T N, w ∈ gT) (j : Nat) (hj : j < N) (hl : va_Nw (Cond.fieldLinkNest own index (T j).1 (T j).2.1 (T j).2.2.1 host) s) (hv : fs[j]? = some x) (hdg : decode cc pc = .ok (.getfield index, 3))
    (kk : W p l e R s m args below meth c H locs cs sl Q (F0 m (pc + 3) ls (x :: rest))) : W p l e R s m args below meth c H locs cs sl Q (F0 m pc ls (.ref (adr k) :: rest)) :=
  va_getN (D := D) C.1.1 C.1.2.1 C.1.2.2.2.2 hin C.1.2.2.2.1 C.2.1 X.1 q (gw_get hq hc) hcl j hj (va_Nw.use rfl hl) (fun _ h => h) hv hdg kk
theorem g_putN (C : gC p s m args meth c cc nL own ret D tys ord adr Am) (O : gO cell ord adr) (X : gX D cell ord adr S s H locs) {q k ci N : Nat} {T : u_T} {fs : List Value} {x : Value} (hq : ord[q]? = some k) (hc : cell S k = (adr k, .inr (ci, fs))) (hcl : vwCl[ci]? = some (Cn, T, N)) (hin : ∀ w ∈ u_ws Cn T N, w ∈ gT) (ty0 : Nat → FieldType) (hty : ∀ k, k < N → parseFieldDescriptor (T k).2.2.1 = some (ty0 k)) (hnm : ∀ a, a < N → ∀ b, b < N → a ≠ b → (T a).2.1 ≠ (T b).2.1) (j : Nat) (hj : j < N) (hl : va_Nw (Cond.fieldLinkNest own index (T j).1 (T j).2.1 (T j).2.2.1 host) s) (hfin : (T j).2.2.2 = false) (hn : narrow (ty0 j) x = x) (hfit : fits (ty0 j) x = true) (hlen : j < fs.length) (hS : ∀ i, i ≠ k → S' i = S i) (hc' : cell S' k = (adr k, .inr (ci, fs.set j x))) (hdg : decode cc pc = .ok (.putfield index, 3))
    (kk : ∀ (H1 : Heap) (locs1 : List Loc), gX D cell ord adr S' s H1 locs1 → W p l e R s m args below meth c H1 locs1 cs sl Q (F0 m (pc + 3) ls rest)) : W p l e R s m args below meth c H locs cs sl Q (F0 m pc ls (x :: .ref (adr k) :: rest)) :=
  va_putN (D := D) (ty := ty0 j) C.1.1 C.1.2.1 C.1.2.2.2.2 hin ty0 hty hnm C.1.2.2.2.1 C.2.1 X.1 (gw_D O S _) X.2 q (gw_get hq hc) hcl j hj (va_Nw.use rfl hl) (fun _ h => h) hfin (hty j hj) hn hfit hlen hdg (fun H1 locs1 hP hD hS1 => kk H1 locs1 ⟨by rw [gw_set O hq hc' hS] at hP; exact hP, hS1⟩)
theorem g_bald (C : gC p s m args meth c cc nL own ret D tys ord adr Am) (X : gX D cell ord adr S s H locs) {q k t0 n : Nat} {cA : ClassId} {f : Nat → Int32} (hq : ord[q]? = some k) (hc : cell S k = (adr k, .inl (cA, n, .inl f))) (ht : tys[t0]? = some (cA, .byte)) {i : Int32} {j : Nat} (hin : vp_in i n) (hj : i.toNatClampNeg = j) (hdg : decode cc pc = .ok (.baload, 1))
    (kk : W p l e R s m args below meth c H locs cs sl Q (F0 m (pc + 1) ls (.int (f j) :: rest))) : W p l e R s m args below meth c H locs cs sl Q (F0 m pc ls (.int i :: .ref (adr k) :: rest)) := by
  subst hj
  exact va_bald C.1.1 C.1.2.1 C.2.1 X.1 q t0 (gw_get hq hc) ht hin hdg kk
theorem g_zald (C : gC p s m args meth c cc nL own ret D tys ord adr Am) (X : gX D cell ord adr S s H locs) {q k t0 n : Nat} {cA : ClassId} {f : Nat → Int32} (hq : ord[q]? = some k) (hc : cell S k = (adr k, .inl (cA, n, .inl f))) (ht : tys[t0]? = some (cA, .boolean)) {i : Int32} {j : Nat} (hin : vp_in i n) (hj : i.toNatClampNeg = j) (hdg : decode cc pc = .ok (.baload, 1))
    (kk : W p l e R s m args below meth c H locs cs sl Q (F0 m (pc + 1) ls (.int (f j) :: rest))) : W p l e R s m args below meth c H locs cs sl Q (F0 m pc ls (.int i :: .ref (adr k) :: rest)) := by
  subst hj
  exact va_zald C.1.1 C.1.2.1 C.2.1 X.1 q t0 (gw_get hq hc) ht hin hdg kk
theorem g_bast (C : gC p s m args meth c cc nL own ret D tys ord adr Am) (O : gO cell ord adr) (X : gX D cell ord adr S s H locs) {q k t0 n : Nat} {cA : ClassId} {f : Nat → Int32} (hq : ord[q]? = some k) (hc : cell S k = (adr k, .inl (cA, n, .inl f))) (ht : tys[t0]? = some (cA, .byte)) {i x : Int32} {j : Nat} (hin : vp_in i n) (hj : i.toNatClampNeg = j) (hS : ∀ i, i ≠ k → S' i = S i) (hc' : cell S' k = (adr k, .inl (cA, n, .inl (upd f j (vp_nar .byte x))))) (hdg : decode cc pc = .ok (.bastore, 1))
    (kk : ∀ (H1 : Heap) (locs1 : List Loc), gX D cell ord adr S' s H1 locs1 → W p l e R s m args below meth c H1 locs1 cs sl Q (F0 m (pc + 1) ls rest)) : W p l e R s m args below meth c H locs cs sl Q (F0 m pc ls (.int x :: .int i :: .ref (adr k) :: rest)) := by
  subst hj
  exact va_bast C.1.1 C.1.2.1 C.2.1 X.1 (gw_D O S _) X.2 q t0 (gw_get hq hc) ht hin hdg (fun H1 locs1 hP hD hS1 => kk H1 locs1 ⟨by rw [gw_set O hq hc' hS] at hP; exact hP, hS1⟩)
theorem g_zast (C : gC p s m args meth c cc nL own ret D tys ord adr Am) (O : gO cell ord adr) (X : gX D cell ord adr S s H locs) {q k t0 n : Nat} {cA : ClassId} {f : Nat → Int32} (hq : ord[q]? = some k) (hc : cell S k = (adr k, .inl (cA, n, .inl f))) (ht : tys[t0]? = some (cA, .boolean)) {i x : Int32} {j : Nat} (hin : vp_in i n) (hj : i.toNatClampNeg = j) (hS : ∀ i, i ≠ k → S' i = S i) (hc' : cell S' k = (adr k, .inl (cA, n, .inl (upd f j (vp_nar .boolean x))))) (hdg : decode cc pc = .ok (.bastore, 1))
    (kk : ∀ (H1 : Heap) (locs1 : List Loc), gX D cell ord adr S' s H1 locs1 → W p l e R s m args below meth c H1 locs1 cs sl Q (F0 m (pc + 1) ls rest)) : W p l e R s m args below meth c H locs cs sl Q (F0 m pc ls (.int x :: .int i :: .ref (adr k) :: rest)) := by
  subst hj
  exact va_zast C.1.1 C.1.2.1 C.2.1 X.1 (gw_D O S _) X.2 q t0 (gw_get hq hc) ht hin hdg (fun H1 locs1 hP hD hS1 => kk H1 locs1 ⟨by rw [gw_set O hq hc' hS] at hP; exact hP, hS1⟩)
/-- a row out of a row of rows -/
theorem g_aald (C : gC p s m args meth c cc nL own ret D tys ord adr Am) (X : gX D cell ord adr S s H locs) {q k t0 n : Nat} {cA : ClassId} {f : Nat → Option Nat} {ty : FieldType} (hq : ord[q]? = some k) (hc : cell S k = (adr k, .inl (cA, n, .inr (.inr (.inr (.inr f)))))) (ht : tys[t0]? = some (cA, .array ty)) {i : Int32} {a : Nat} (hin : vp_in i n) (hj : f i.toNatClampNeg = some a) (hdg : decode cc pc = .ok (.aaload, 1))
    (kk : W p l e R s m args below meth c H locs cs sl Q (F0 m (pc + 1) ls (.ref a :: rest))) : W p l e R s m args below meth c H locs cs sl Q (F0 m pc ls (.int i :: .ref (adr k) :: rest)) := by
  have hlt : i.toNatClampNeg < n := Nat.not_le.mp fun q => hin (Or.inr q)
  exact W.aald (v := .ref a) (ty := .array ty) C.1.1 C.1.2.1 (X.1 q _ (gw_get hq hc)) ((C.2.1.2 t0 _ ht).1 n (fun j => va_rf (f j))) rfl (fun q => by cases q) (by show ¬ (i < 0 ∨ (arrV _ _ _).slots.size ≤ _); rw [arrV_size]; exact hin) (by show (arrV _ _ _).slots[_]? = _; rw [arrV_read _ _ hlt, hj]; rfl) rfl rfl hdg kk
/-- the words of a static method of a nest mate -/
def gWN (own host : String) (index : Nat) (y : MethodName) (cy : ByteArray) (mL : Nat) (rt : Option FieldType) (n : Nat) : Prop :=
  Cond.static y ∈ gT ∧ Cond.initialized y.cls ∈ gT ∧ Cond.code y cy mL rt ∈ gT ∧ (y.cls ≠ "java/lang/invoke/MethodHandle" ∧ y.cls ≠ "java/lang/invoke/VarHandle" ∧ (parseMethodDescriptor y.desc).map (fun d => d.parameters.length) = some n)
theorem g_callSNi (C : gC p s m args meth c cc nL own ret D tys ord adr Am) (X : gX D cell ord adr S s H locs) (w : gWN own host index y cy mL rt n) (hl : va_Nw (.methodLinkNest own index y host) s) {x : Int32}
    (hM : gM l y cy mL rt d D tys cell ord adr Am As S (some (.int x)) S') (hR : d + 1 ≤ R.frames) (hR2 : 8 + (mL + 11) + (40 * d + 13) ≤ R.locals) (hcs : cs ≤ R.cells) (hsl : sl ≤ R.slots) (hn : As.length = n) (hls : ls.size = nL) {st : List Value} (hst : st = As.reverse ++ rest) (hrest : (rest.map fun v => v.category).sum ≤ 8) (hdg : decode cc pc = .ok (.invokestatic index, 3))
    (kk : ∀ (H1 : Heap) (locs1 : List Loc), gX D cell ord adr S' s H1 locs1 → W p l e R s m args below meth c H1 locs1 cs sl Q (F0 m (pc + 3) ls (.int x :: rest))) : W p l e R s m args below meth c H locs cs sl Q (F0 m pc ls st) := by
  subst hst
  refine g_back (va_runSN (host := host) C.1 (hM H.size) ⟨va_cnB n C.1.2.2.2.2 (gT_in (fun w' h => ?_)) rfl rfl rfl hl (C.1.2.2.2.2 _ w.2.1) w.2.2.2 ⟨hR, hR2⟩, C.1.2.2.2.2 _ w.1, trivial⟩ (g_pre C X) rfl hn hls rfl (lv_room hrest) hdg ⟨hcs, hsl⟩) X kk
  rcases List.mem_cons.mp h with rfl | h
  · exact w.2.2.1
  · exact h
/-- a static method of another class -/
def gWO (own : String) (index : Nat) (y : MethodName) (cy : ByteArray) (mL : Nat) (rt : Option FieldType) (n : Nat) : Prop :=
  Cond.methodLink own index y ∈ gT ∧ Cond.static y ∈ gT ∧ Cond.initialized y.cls ∈ gT ∧ Cond.code y cy mL rt ∈ gT ∧ (y.cls ≠ "java/lang/invoke/MethodHandle" ∧ y.cls ≠ "java/lang/invoke/VarHandle" ∧ (parseMethodDescriptor y.desc).map (fun d => d.parameters.length) = some n)
theorem g_callOi (C : gC p s m args meth c cc nL own ret D tys ord adr Am) (X : gX D cell ord adr S s H locs) (w : gWO own index y cy mL rt n) {x : Int32}
    (hM : gM l y cy mL rt d D tys cell ord adr Am As S (some (.int x)) S') (hR : d + 1 ≤ R.frames) (hR2 : 8 + (mL + 11) + (40 * d + 13) ≤ R.locals) (hcs : cs ≤ R.cells) (hsl : sl ≤ R.slots) (hn : As.length = n) (hls : ls.size = nL) {st : List Value} (hst : st = As.reverse ++ rest) (hrest : (rest.map fun v => v.category).sum ≤ 8) (hdg : decode cc pc = .ok (.invokestatic index, 3))
    (kk : ∀ (H1 : Heap) (locs1 : List Loc), gX D cell ord adr S' s H1 locs1 → W p l e R s m args below meth c H1 locs1 cs sl Q (F0 m (pc + 3) ls (.int x :: rest))) : W p l e R s m args below meth c H locs cs sl Q (F0 m pc ls st) := by
  subst hst
  refine g_back (va_runS C.1 (hM H.size) ⟨callB_of n C.1.2.2.2.2 (gT_in (fun w' h => ?_)) rfl rfl rfl (C.1.2.2.2.2 _ w.2.2.1) (C.1.2.2.2.2 _ w.1) w.2.2.2.2 ⟨hR, hR2⟩, C.1.2.2.2.2 _ w.2.1⟩ (g_pre C X) rfl hn hls rfl (lv_room hrest) hdg ⟨hcs, hsl⟩) X kk
  rcases List.mem_cons.mp h with rfl | h
  · exact w.2.2.2.1
  · exact h
/-- an instance method, what comes back told -/
theorem g_callVi (C : gC p s m args meth c cc nL own ret D tys ord adr Am) (X : gX D cell ord adr S s H locs) (w : gWV own index y cy mL rt n) {b q0 ci : Nat} {fs : List Value} {qc : vw_C} (hc : vwCl[ci]? = some qc) (hqc : qc.1 = y.cls) (he : (gw cell ord S)[q0]? = some (b, .inr (ci, fs))) {x : Int32}
    (hM : gM l y cy mL rt d D tys cell ord adr Am (.ref b :: As) S (some (.int x)) S') (hR : d + 1 ≤ R.frames) (hR2 : 8 + (mL + 11) + (40 * d + 13) ≤ R.locals) (hcs : cs ≤ R.cells) (hsl : sl ≤ R.slots) (hn : As.length = n) (hls : ls.size = nL) {st : List Value} (hst : st = As.reverse ++ .ref b :: rest) (hrest : (rest.map fun v => v.category).sum ≤ 8) (hdg : decode cc pc = .ok (.invokevirtual index, 3))
    (kk : ∀ (H1 : Heap) (locs1 : List Loc), gX D cell ord adr S' s H1 locs1 → W p l e R s m args below meth c H1 locs1 cs sl Q (F0 m (pc + 3) ls (.int x :: rest))) : W p l e R s m args below meth c H locs cs sl Q (F0 m pc ls st) :=
  g_callV C X w hc hqc he hM hR hR2 hcs hsl hn hls hst hrest hdg kk
end GEN2
end
